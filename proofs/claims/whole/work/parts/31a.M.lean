/-! BusBlocksModel, out of its code (written by gen/meth.py). -/
noncomputable section
def k_M_blocksAll (pc : Nat) : Ent := bif Nat.ble 86 pc then am_nop else bif Nat.ble 43 pc then (bif Nat.ble 63 pc then (bif Nat.ble 73 pc then (bif Nat.ble 78 pc then (bif Nat.ble 82 pc then (bif Nat.ble 85 pc then (bif Nat.beq pc 85 then (.ireturn, 0, 0, []) else am_nop) else (bif Nat.beq pc 82 then (.invokevirtual 93, 0, 0, []) else am_nop)) else (bif Nat.ble 81 pc then (bif Nat.beq pc 81 then (.aload_n 0, 0, 0, []) else am_nop) else (bif Nat.beq pc 78 then (.goto (-41), 0, 37, []) else am_nop))) else (bif Nat.ble 74 pc then (bif Nat.ble 77 pc then (bif Nat.beq pc 77 then (.istore_n 1, 0, 1, []) else am_nop) else (bif Nat.beq pc 74 then (.invokevirtual 86, 0, 0, []) else am_nop)) else (bif Nat.beq pc 73 then (.aload_n 0, 0, 0, []) else am_nop))) else (bif Nat.ble 68 pc then (bif Nat.ble 69 pc then (bif Nat.ble 70 pc then (bif Nat.beq pc 70 then (.putfield 76, 0, 0, []) else am_nop) else (bif Nat.beq pc 69 then (.ior, 0, 0, []) else am_nop)) else (bif Nat.beq pc 68 then (.ishl, 0, 0, []) else am_nop)) else (bif Nat.ble 66 pc then (bif Nat.ble 67 pc then (bif Nat.beq pc 67 then (.iload_n 1, 0, 1, []) else am_nop) else (bif Nat.beq pc 66 then (.iconst 1, 1, 0, []) else am_nop)) else (bif Nat.beq pc 63 then (.getfield 76, 0, 0, []) else am_nop)))) else (bif Nat.ble 53 pc then (bif Nat.ble 57 pc then (bif Nat.ble 61 pc then (bif Nat.ble 62 pc then (bif Nat.beq pc 62 then (.dup, 0, 0, []) else am_nop) else (bif Nat.beq pc 61 then (.aload_n 0, 0, 0, []) else am_nop)) else (bif Nat.ble 58 pc then (bif Nat.beq pc 58 then (.invokevirtual 82, 0, 0, []) else am_nop) else (bif Nat.beq pc 57 then (.iload_n 1, 0, 1, []) else am_nop))) else (bif Nat.ble 54 pc then (bif Nat.ble 55 pc then (bif Nat.beq pc 55 then (.bipush 6, 6, 0, []) else am_nop) else (bif Nat.beq pc 54 then (.iload_n 2, 0, 2, []) else am_nop)) else (bif Nat.beq pc 53 then (.aload_n 0, 0, 0, []) else am_nop))) else (bif Nat.ble 48 pc then (bif Nat.ble 49 pc then (bif Nat.ble 50 pc then (bif Nat.beq pc 50 then (.if_icmp .eq 11, 0, 61, []) else am_nop) else (bif Nat.beq pc 49 then (.iconst (-1), (-1 : Int32), 0, []) else am_nop)) else (bif Nat.beq pc 48 then (.iload_n 2, 0, 2, []) else am_nop)) else (bif Nat.ble 44 pc then (bif Nat.ble 47 pc then (bif Nat.beq pc 47 then (.istore_n 2, 0, 2, []) else am_nop) else (bif Nat.beq pc 44 then (.invokevirtual 90, 0, 0, []) else am_nop)) else (bif Nat.beq pc 43 then (.iload_n 1, 0, 1, []) else am_nop))))) else (bif Nat.ble 18 pc then (bif Nat.ble 32 pc then (bif Nat.ble 37 pc then (bif Nat.ble 39 pc then (bif Nat.ble 42 pc then (bif Nat.beq pc 42 then (.aload_n 0, 0, 0, []) else am_nop) else (bif Nat.beq pc 39 then (.if_icmp .eq 42, 0, 81, []) else am_nop)) else (bif Nat.ble 38 pc then (bif Nat.beq pc 38 then (.iconst (-1), (-1 : Int32), 0, []) else am_nop) else (bif Nat.beq pc 37 then (.iload_n 1, 0, 1, []) else am_nop))) else (bif Nat.ble 33 pc then (bif Nat.ble 36 pc then (bif Nat.beq pc 36 then (.istore_n 1, 0, 1, []) else am_nop) else (bif Nat.beq pc 33 then (.invokevirtual 86, 0, 0, []) else am_nop)) else (bif Nat.beq pc 32 then (.aload_n 0, 0, 0, []) else am_nop))) else (bif Nat.ble 27 pc then (bif Nat.ble 28 pc then (bif Nat.ble 29 pc then (bif Nat.beq pc 29 then (.putfield 76, 0, 0, []) else am_nop) else (bif Nat.beq pc 28 then (.iconst 0, 0, 0, []) else am_nop)) else (bif Nat.beq pc 27 then (.aload_n 0, 0, 0, []) else am_nop)) else (bif Nat.ble 21 pc then (bif Nat.ble 24 pc then (bif Nat.beq pc 24 then (.goto (-22), 0, 2, []) else am_nop) else (bif Nat.beq pc 21 then (.iinc 1 1, 1, 1, []) else am_nop)) else (bif Nat.beq pc 18 then (.invokevirtual 82, 0, 0, []) else am_nop)))) else (bif Nat.ble 9 pc then (bif Nat.ble 14 pc then (bif Nat.ble 15 pc then (bif Nat.ble 17 pc then (bif Nat.beq pc 17 then (.iconst (-1), (-1 : Int32), 0, []) else am_nop) else (bif Nat.beq pc 15 then (.bipush 6, 6, 0, []) else am_nop)) else (bif Nat.beq pc 14 then (.iload_n 1, 0, 1, []) else am_nop)) else (bif Nat.ble 10 pc then (bif Nat.ble 13 pc then (bif Nat.beq pc 13 then (.aload_n 0, 0, 0, []) else am_nop) else (bif Nat.beq pc 10 then (.if_icmp .ge 17, 0, 27, []) else am_nop)) else (bif Nat.beq pc 9 then (.iaload, 0, 0, []) else am_nop))) else (bif Nat.ble 3 pc then (bif Nat.ble 4 pc then (bif Nat.ble 7 pc then (bif Nat.beq pc 7 then (.bipush 15, 15, 0, []) else am_nop) else (bif Nat.beq pc 4 then (.getfield 7, 0, 0, []) else am_nop)) else (bif Nat.beq pc 3 then (.aload_n 0, 0, 0, []) else am_nop)) else (bif Nat.ble 1 pc then (bif Nat.ble 2 pc then (bif Nat.beq pc 2 then (.iload_n 1, 0, 1, []) else am_nop) else (bif Nat.beq pc 1 then (.istore_n 1, 0, 1, []) else am_nop)) else (bif Nat.beq pc 0 then (.iconst 0, 0, 0, []) else am_nop)))))
theorem lk_M_82 : am_lnk RX6 82 (d_M_becomes 16) := ⟨⟨by decide, by decide⟩, am_tb 8 (by decide +kernel) rfl, Or.inr ⟨by decide, rfl, am_tb 976 (by decide +kernel) rfl, am_tp 72 (by decide +kernel) rfl, ⟨TX6, 16, rfl⟩, Or.inl (am_tb 974 (by decide +kernel) rfl)⟩⟩
theorem lk_M_86 : am_lnk RX6 86 (d_M_earliest 16) := ⟨⟨by decide, by decide⟩, am_tb 8 (by decide +kernel) rfl, Or.inr ⟨by decide, rfl, am_tb 1043 (by decide +kernel) rfl, am_tp 83 (by decide +kernel) rfl, ⟨TX6, 16, rfl⟩, Or.inl (am_tb 1041 (by decide +kernel) rfl)⟩⟩
theorem lk_M_90 : am_lnk RX6 90 (d_M_ahead 16) := ⟨⟨by decide, by decide⟩, am_tb 8 (by decide +kernel) rfl, Or.inr ⟨by decide, rfl, am_tb 1047 (by decide +kernel) rfl, am_tp 84 (by decide +kernel) rfl, ⟨TX6, 16, rfl⟩, Or.inl (am_tb 1045 (by decide +kernel) rfl)⟩⟩
theorem lk_M_93 : am_lnk RX6 93 (d_M_blocks 16) := ⟨⟨by decide, by decide⟩, am_tb 8 (by decide +kernel) rfl, Or.inr ⟨by decide, rfl, am_tb 1051 (by decide +kernel) rfl, am_tp 85 (by decide +kernel) rfl, ⟨TX6, 16, rfl⟩, Or.inl (am_tb 1049 (by decide +kernel) rfl)⟩⟩
def m_M_blocksAll : MI := (k_M_blocksAll, [(7, 6, 0), (76, 6, 9)], [(82, d_M_becomes 16), (86, d_M_earliest 16), (90, d_M_ahead 16), (93, d_M_blocks 16)], [], [], [], [], 5, 112, some .int, fun _ => 0, 1)
def s_M_blocksAll_2 (h : HP) (v1 : Int32 × HP) : (Int32 × HP) ⊕ (Int32 × HP) := (if v1.1 < (v1.2.1 1 (am_ix 15)) then (bnd (v_M_becomes v1.2 v1.1 6 (-1 : Int32)) fun y2 => (.inl ((v1.1 + 1), y2))) else (.inr (v1.1, v1.2)))
def ps_M_blocksAll_2 (h : HP) (v1 : Int32 × HP) : Prop := ((v1.1 < (v1.2.1 1 (am_ix 15)) → (p_M_becomes v1.2 v1.1 6 (-1 : Int32))) ∧ (¬ v1.1 < (v1.2.1 1 (am_ix 15)) → True))
def s_M_blocksAll_37 (h : HP) (r1 : Int32 × HP) (v1 : Int32 × HP) : (Int32 × HP) ⊕ (Int32 × HP) := (if v1.1 = (-1 : Int32) then (.inr (v1.1, v1.2)) else (if (v_M_ahead v1.2 v1.1) = (-1 : Int32) then (.inl ((v_M_earliest (am_si v1.2 0 9 ((v1.2.1 0 9) ||| (1 <<< (v1.1 &&& 31))))), (am_si v1.2 0 9 ((v1.2.1 0 9) ||| (1 <<< (v1.1 &&& 31)))))) else (bnd (v_M_becomes v1.2 (v_M_ahead v1.2 v1.1) 6 v1.1) fun y4 => (.inl ((v_M_earliest (am_si y4 0 9 ((y4.1 0 9) ||| (1 <<< (v1.1 &&& 31))))), (am_si y4 0 9 ((y4.1 0 9) ||| (1 <<< (v1.1 &&& 31)))))))))
def ps_M_blocksAll_37 (h : HP) (r1 : Int32 × HP) (v1 : Int32 × HP) : Prop := ((v1.1 = (-1 : Int32) → True) ∧ (¬ v1.1 = (-1 : Int32) → ((p_M_ahead v1.2 v1.1) ∧ (((v_M_ahead v1.2 v1.1) = (-1 : Int32) → (p_M_earliest (am_si v1.2 0 9 ((v1.2.1 0 9) ||| (1 <<< (v1.1 &&& 31)))))) ∧ (¬ (v_M_ahead v1.2 v1.1) = (-1 : Int32) → ((p_M_becomes v1.2 (v_M_ahead v1.2 v1.1) 6 v1.1) ∧ (∀ y4, v_M_becomes v1.2 (v_M_ahead v1.2 v1.1) 6 v1.1 = y4 → (p_M_earliest (am_si y4 0 9 ((y4.1 0 9) ||| (1 <<< (v1.1 &&& 31))))))))))))
def v_M_blocksAll (h : HP) : Int32 × HP := (match itr (s_M_blocksAll_2 h) NF (0, h) with | some r1 => (match itr (s_M_blocksAll_37 h r1) NF ((v_M_earliest (am_si r1.2 0 9 0)), (am_si r1.2 0 9 0)) with | some r3 => ((v_M_blocks r3.2), r3.2) | none => (0, h)) | none => (0, h))
def p_M_blocksAll (h : HP) : Prop := (itrp (s_M_blocksAll_2 h) (ps_M_blocksAll_2 h) NF (0, h) ∧ ∀ r1, itr (s_M_blocksAll_2 h) NF (0, h) = some r1 → ((p_M_earliest (am_si r1.2 0 9 0)) ∧ (itrp (s_M_blocksAll_37 h r1) (ps_M_blocksAll_37 h r1) NF ((v_M_earliest (am_si r1.2 0 9 0)), (am_si r1.2 0 9 0)) ∧ ∀ r3, itr (s_M_blocksAll_37 h r1) NF ((v_M_earliest (am_si r1.2 0 9 0)), (am_si r1.2 0 9 0)) = some r3 → (p_M_blocks r3.2))))
def g_M_blocksAll (_ _ : List Sh) (as : List Value) (h : HP) : GR := match as with
  | [.ref o1] => (Nat.beq o1 0, p_M_blocksAll h, none, some (.int (v_M_blocksAll h).1), (v_M_blocksAll h).2)
  | _ => bad h
def d_M_blocksAll (k : Nat) : CD := (k, yX6_blocksAll, cX6_blocksAll, 3, some .int, 1, 5, 112, 0, false, true, g_M_blocksAll)
theorem chk_M_blocksAll : ∀ pc, am_chk cX6_blocksAll k_M_blocksAll pc = true := am_chkall 86 (by decide +kernel) (fun pc h => by unfold k_M_blocksAll; rw [Nat.ble_eq_true_of_le h]; rfl)
theorem pf_M_blocksAll : plainFor yX6_blocksAll = true := by decide +kernel
theorem cu_M_blocksAll : Cond.code yX6_blocksAll cX6_blocksAll 3 (some .int) ∈ am_U := am_tb 1040 (by decide +kernel) rfl
set_option maxHeartbeats 20000000 in
set_option maxRecDepth 100000 in
theorem ev_M_blocksAll {e1 ro : List Sh} {P : AR → HP → Prop} (h : HP) (hp : p_M_blocksAll h) (hP : ∀ q, v_M_blocksAll h = q → RIW P h q) : am_Ev m_M_blocksAll (WM ++ e1) ro P (0, [.ref 0, .retAddr 0, .retAddr 0], [], h) := by
  unfold p_M_blocksAll at hp
  refine am_Ev_G [2] 400 _ ?_
  show am_Ev m_M_blocksAll (WM ++ e1) ro P (2, [.ref 0, .int 0, .retAddr 0], [], h)
  obtain ⟨hpl, hp⟩ := hp
  refine am_itr (E := (fun (v1 : Int32 × HP) => am_Ev m_M_blocksAll (WM ++ e1) ro P (2, [.ref 0, .int v1.1, .retAddr 0], [], v1.2))) (E' := (fun (r1 : Int32 × HP) => am_Ev m_M_blocksAll (WM ++ e1) ro P (27, [.ref 0, .int r1.1, .retAddr 0], [], r1.2))) (s_M_blocksAll_2 h) (ps_M_blocksAll_2 h) ?_ NF (0, h) hpl ?_
  · intro v1 hp hc1 hx1
    show am_Ev m_M_blocksAll (WM ++ e1) ro P (2, [.ref 0, .int v1.1, .retAddr 0], [], v1.2)
    unfold ps_M_blocksAll_2 at hp
    refine am_Ev_G [21, 27] 400 _ ?_
    show ((am_in 15 163) ∧ ((¬ v1.1 < (v1.2.1 1 (am_ix 15)) → am_Ev m_M_blocksAll (WM ++ e1) ro P (27, [.ref 0, .int v1.1, .retAddr 0], [], v1.2)) ∧ (v1.1 < (v1.2.1 1 (am_ix 15)) → ((p_M_becomes v1.2 v1.1 6 (-1 : Int32)) ∧ am_Ev m_M_blocksAll (WM ++ e1) ro P (21, [.ref 0, .int v1.1, .retAddr 0], [], (v_M_becomes v1.2 v1.1 6 (-1 : Int32)))))))
    refine ⟨⟨by decide, by decide⟩, ?_⟩
    refine ⟨fun c1 => ?_, fun c1 => ?_⟩
    · skip
      exact hx1 (v1.1, v1.2) (by unfold s_M_blocksAll_2; simp only [if_neg c1])
    · have hp := hp.1 c1
      refine ⟨hp, ?_⟩
      obtain ⟨y2, c2⟩ : ∃ y, v_M_becomes v1.2 v1.1 6 (-1 : Int32) = y := ⟨_, rfl⟩
      rw [c2]
      show am_Ev m_M_blocksAll (WM ++ e1) ro P (21, [.ref 0, .int v1.1, .retAddr 0], [], y2)
      refine am_Ev_G [2] 400 _ ?_
      show am_Ev m_M_blocksAll (WM ++ e1) ro P (2, [.ref 0, .int (v1.1 + 1), .retAddr 0], [], y2)
      exact hc1 ((v1.1 + 1), y2) (by unfold s_M_blocksAll_2; simp only [if_pos c1, bnd, c2])
  · intro r1 hr3
    have hp := hp _ hr3
    show am_Ev m_M_blocksAll (WM ++ e1) ro P (27, [.ref 0, .int r1.1, .retAddr 0], [], r1.2)
    refine am_Ev_G [32] 400 _ ?_
    show am_Ev m_M_blocksAll (WM ++ e1) ro P (32, [.ref 0, .int r1.1, .retAddr 0], [], (am_si r1.2 0 9 0))
    refine am_Ev_G [37] 400 _ ?_
    show ((p_M_earliest (am_si r1.2 0 9 0)) ∧ am_Ev m_M_blocksAll (WM ++ e1) ro P (37, [.ref 0, .int (v_M_earliest (am_si r1.2 0 9 0)), .retAddr 0], [], (am_si r1.2 0 9 0)))
    obtain ⟨hob, hp⟩ := hp
    refine ⟨hob, ?_⟩
    obtain ⟨hpl, hp⟩ := hp
    refine am_itr (E := (fun (v1 : Int32 × HP) => am_Ev m_M_blocksAll (WM ++ e1) ro P (37, [.ref 0, .int v1.1, .retAddr 0], [], v1.2))) (E' := (fun (r3 : Int32 × HP) => am_Ev m_M_blocksAll (WM ++ e1) ro P (81, [.ref 0, .int r3.1, .retAddr 0], [], r3.2))) (s_M_blocksAll_37 h r1) (ps_M_blocksAll_37 h r1) ?_ NF ((v_M_earliest (am_si r1.2 0 9 0)), (am_si r1.2 0 9 0)) hpl ?_
    · intro v1 hp hc1 hx1
      show am_Ev m_M_blocksAll (WM ++ e1) ro P (37, [.ref 0, .int v1.1, .retAddr 0], [], v1.2)
      unfold ps_M_blocksAll_37 at hp
      refine am_Ev_G [47, 81] 400 _ ?_
      show ((v1.1 = (-1 : Int32) → am_Ev m_M_blocksAll (WM ++ e1) ro P (81, [.ref 0, .int v1.1, .retAddr 0], [], v1.2)) ∧ (¬ v1.1 = (-1 : Int32) → ((p_M_ahead v1.2 v1.1) ∧ am_Ev m_M_blocksAll (WM ++ e1) ro P (47, [.ref 0, .int v1.1, .retAddr 0], [.int (v_M_ahead v1.2 v1.1)], v1.2))))
      refine ⟨fun c4 => ?_, fun c4 => ?_⟩
      · skip
        exact hx1 (v1.1, v1.2) (by unfold s_M_blocksAll_37; simp only [if_pos c4])
      · have hp := hp.2 c4
        obtain ⟨hob, hp⟩ := hp
        refine ⟨hob, ?_⟩
        refine am_Ev_G [61] 400 _ ?_
        show (((v_M_ahead v1.2 v1.1) = (-1 : Int32) → am_Ev m_M_blocksAll (WM ++ e1) ro P (61, [.ref 0, .int v1.1, .int (v_M_ahead v1.2 v1.1)], [], v1.2)) ∧ (¬ (v_M_ahead v1.2 v1.1) = (-1 : Int32) → ((p_M_becomes v1.2 (v_M_ahead v1.2 v1.1) 6 v1.1) ∧ am_Ev m_M_blocksAll (WM ++ e1) ro P (61, [.ref 0, .int v1.1, .int (v_M_ahead v1.2 v1.1)], [], (v_M_becomes v1.2 (v_M_ahead v1.2 v1.1) 6 v1.1)))))
        refine ⟨fun c5 => ?_, fun c5 => ?_⟩
        · have hp := hp.1 c5
          refine am_Ev_G [73] 400 _ ?_
          show am_Ev m_M_blocksAll (WM ++ e1) ro P (73, [.ref 0, .int v1.1, .int (v_M_ahead v1.2 v1.1)], [], (am_si v1.2 0 9 ((v1.2.1 0 9) ||| (1 <<< (v1.1 &&& 31)))))
          refine am_Ev_G [77] 400 _ ?_
          show ((p_M_earliest (am_si v1.2 0 9 ((v1.2.1 0 9) ||| (1 <<< (v1.1 &&& 31))))) ∧ am_Ev m_M_blocksAll (WM ++ e1) ro P (77, [.ref 0, .int v1.1, .int (v_M_ahead v1.2 v1.1)], [.int (v_M_earliest (am_si v1.2 0 9 ((v1.2.1 0 9) ||| (1 <<< (v1.1 &&& 31)))))], (am_si v1.2 0 9 ((v1.2.1 0 9) ||| (1 <<< (v1.1 &&& 31))))))
          refine ⟨hp, ?_⟩
          refine am_Ev_G [37] 400 _ ?_
          show am_Ev m_M_blocksAll (WM ++ e1) ro P (37, [.ref 0, .int (v_M_earliest (am_si v1.2 0 9 ((v1.2.1 0 9) ||| (1 <<< (v1.1 &&& 31))))), .int (v_M_ahead v1.2 v1.1)], [], (am_si v1.2 0 9 ((v1.2.1 0 9) ||| (1 <<< (v1.1 &&& 31)))))
          refine am_fg 2 ?_
          exact hc1 ((v_M_earliest (am_si v1.2 0 9 ((v1.2.1 0 9) ||| (1 <<< (v1.1 &&& 31))))), (am_si v1.2 0 9 ((v1.2.1 0 9) ||| (1 <<< (v1.1 &&& 31))))) (by unfold s_M_blocksAll_37; simp only [if_neg c4, if_pos c5])
        · have hp := hp.2 c5
          obtain ⟨hob, hp⟩ := hp
          refine ⟨hob, ?_⟩
          obtain ⟨y4, c6⟩ : ∃ y, v_M_becomes v1.2 (v_M_ahead v1.2 v1.1) 6 v1.1 = y := ⟨_, rfl⟩
          rw [c6]
          have hp := hp _ c6
          show am_Ev m_M_blocksAll (WM ++ e1) ro P (61, [.ref 0, .int v1.1, .int (v_M_ahead v1.2 v1.1)], [], y4)
          refine am_Ev_G [73] 400 _ ?_
          show am_Ev m_M_blocksAll (WM ++ e1) ro P (73, [.ref 0, .int v1.1, .int (v_M_ahead v1.2 v1.1)], [], (am_si y4 0 9 ((y4.1 0 9) ||| (1 <<< (v1.1 &&& 31)))))
          refine am_Ev_G [77] 400 _ ?_
          show ((p_M_earliest (am_si y4 0 9 ((y4.1 0 9) ||| (1 <<< (v1.1 &&& 31))))) ∧ am_Ev m_M_blocksAll (WM ++ e1) ro P (77, [.ref 0, .int v1.1, .int (v_M_ahead v1.2 v1.1)], [.int (v_M_earliest (am_si y4 0 9 ((y4.1 0 9) ||| (1 <<< (v1.1 &&& 31)))))], (am_si y4 0 9 ((y4.1 0 9) ||| (1 <<< (v1.1 &&& 31))))))
          refine ⟨hp, ?_⟩
          refine am_Ev_G [37] 400 _ ?_
          show am_Ev m_M_blocksAll (WM ++ e1) ro P (37, [.ref 0, .int (v_M_earliest (am_si y4 0 9 ((y4.1 0 9) ||| (1 <<< (v1.1 &&& 31))))), .int (v_M_ahead v1.2 v1.1)], [], (am_si y4 0 9 ((y4.1 0 9) ||| (1 <<< (v1.1 &&& 31)))))
          refine am_fg 2 ?_
          exact hc1 ((v_M_earliest (am_si y4 0 9 ((y4.1 0 9) ||| (1 <<< (v1.1 &&& 31))))), (am_si y4 0 9 ((y4.1 0 9) ||| (1 <<< (v1.1 &&& 31))))) (by unfold s_M_blocksAll_37; simp only [if_neg c4, if_neg c5, bnd, c6])
    · intro r3 hr7
      have hp := hp _ hr7
      show am_Ev m_M_blocksAll (WM ++ e1) ro P (81, [.ref 0, .int r3.1, .retAddr 0], [], r3.2)
      refine am_Ev_G [] 400 _ ?_
      show ((p_M_blocks r3.2) ∧ P (.inl (some (.int (v_M_blocks r3.2)))) r3.2)
      refine ⟨hp, ?_⟩
      exact hP ((v_M_blocks r3.2), r3.2) (by unfold v_M_blocksAll; simp only [hr3, hr7])
theorem ok_M_blocksAll {l : Launch} (hl : l.stackTraces = false) (e1 ro : List Sh) (k : Nat) : am_Ok l (WM ++ e1) ro (d_M_blocksAll k) := by
  refine am_met hl (own := RX6) (M := m_M_blocksAll) rfl pf_M_blocksAll cu_M_blocksAll rfl rfl rfl rfl (fun _ => rfl) rfl ⟨chk_M_blocksAll, (am_c (fl_M_7) (am_c (fl_M_76) am_n)), (am_c (lk_M_82) (am_c (lk_M_86) (am_c (lk_M_90) (am_c (lk_M_93) am_n)))), (am_n), (am_n)⟩ (am_n) (am_c (ok_M_becomes hl e1 _ 16) (am_c (ok_M_earliest hl e1 _ 16) (am_c (ok_M_ahead hl e1 _ 16) (am_c (ok_M_blocks hl e1 _ 16) am_n)))) (fun z => nomatch z) ?_ ?_
  · intro _ as h hg
    show g_thr (g_M_blocksAll (WM ++ e1) ro as h) = none
    unfold g_M_blocksAll
    split <;> rfl
  · intro as h hg hp
    revert hg hp
    show g_ok (g_M_blocksAll (WM ++ e1) ro as h) = true → g_pre (g_M_blocksAll (WM ++ e1) ro as h) → _ ∧ am_Ev m_M_blocksAll (WM ++ e1) ro (am_eq (g_M_blocksAll (WM ++ e1) ro as h)) (0, am_ent as 3, [], h)
    unfold g_M_blocksAll
    split
    · rename_i o1
      intro hc hp
      change (Nat.beq o1 0) = true at hc
      obtain rfl := am_beq hc
      exact ⟨Nat.le_of_ble_eq_true rfl, ev_M_blocksAll h hp eqRIW⟩
    · exact fun z => nomatch z
def k_M_byBlocks (pc : Nat) : Ent := bif Nat.ble 33 pc then am_nop else bif Nat.ble 17 pc then (bif Nat.ble 24 pc then (bif Nat.ble 28 pc then (bif Nat.ble 31 pc then (bif Nat.ble 32 pc then (bif Nat.beq pc 32 then (.ireturn, 0, 0, []) else am_nop) else (bif Nat.beq pc 31 then (.iload_n 1, 0, 1, []) else am_nop)) else (bif Nat.beq pc 28 then (.invokestatic 45, 0, 0, []) else am_nop)) else (bif Nat.ble 27 pc then (bif Nat.beq pc 27 then (.iconst 0, 0, 0, []) else am_nop) else (bif Nat.beq pc 24 then (.getfield 7, 0, 0, []) else am_nop))) else (bif Nat.ble 19 pc then (bif Nat.ble 22 pc then (bif Nat.ble 23 pc then (bif Nat.beq pc 23 then (.aload_n 0, 0, 0, []) else am_nop) else (bif Nat.beq pc 22 then (.iconst 0, 0, 0, []) else am_nop)) else (bif Nat.beq pc 19 then (.getfield 13, 0, 0, []) else am_nop)) else (bif Nat.ble 18 pc then (bif Nat.beq pc 18 then (.aload_n 0, 0, 0, []) else am_nop) else (bif Nat.beq pc 17 then (.istore_n 1, 0, 1, []) else am_nop)))) else (bif Nat.ble 6 pc then (bif Nat.ble 10 pc then (bif Nat.ble 13 pc then (bif Nat.ble 14 pc then (bif Nat.beq pc 14 then (.invokevirtual 96, 0, 0, []) else am_nop) else (bif Nat.beq pc 13 then (.aload_n 0, 0, 0, []) else am_nop)) else (bif Nat.beq pc 10 then (.invokestatic 45, 0, 0, []) else am_nop)) else (bif Nat.ble 9 pc then (bif Nat.beq pc 9 then (.iconst 0, 0, 0, []) else am_nop) else (bif Nat.beq pc 6 then (.getfield 13, 0, 0, []) else am_nop))) else (bif Nat.ble 4 pc then (bif Nat.ble 5 pc then (bif Nat.beq pc 5 then (.aload_n 0, 0, 0, []) else am_nop) else (bif Nat.beq pc 4 then (.iconst 0, 0, 0, []) else am_nop)) else (bif Nat.ble 1 pc then (bif Nat.beq pc 1 then (.getfield 7, 0, 0, []) else am_nop) else (bif Nat.beq pc 0 then (.aload_n 0, 0, 0, []) else am_nop))))
theorem fl_M_13 : am_fok RX6 13 (6, 1) := ⟨RX6, TX6, 16, rfl, by decide, rfl, Or.inl (am_tb 885 (by decide +kernel) rfl)⟩
theorem lk_M_96 : am_lnk RX6 96 (d_M_blocksAll 16) := ⟨⟨by decide, by decide⟩, am_tb 8 (by decide +kernel) rfl, Or.inr ⟨by decide, rfl, am_tb 1039 (by decide +kernel) rfl, am_tp 82 (by decide +kernel) rfl, ⟨TX6, 16, rfl⟩, Or.inl (am_tb 1037 (by decide +kernel) rfl)⟩⟩
def m_M_byBlocks : MI := (k_M_byBlocks, [(7, 6, 0), (13, 6, 1)], [(45, d_M_lays 0), (96, d_M_blocksAll 16)], [], [], [], [], 6, 134, some .int, fun _ => 0, 1)
def v_M_byBlocks (h : HP) : Int32 × HP := (bnd (v_M_blocksAll (v_lays h 1 0 2 0)) fun y1 => (y1.1, (v_lays y1.2 2 0 1 0)))
def p_M_byBlocks (h : HP) : Prop := ((p_lays 0 0 163 163) ∧ ((p_M_blocksAll (v_lays h 1 0 2 0)) ∧ (∀ y1, v_M_blocksAll (v_lays h 1 0 2 0) = y1 → (p_lays 0 0 163 163))))
def g_M_byBlocks (_ _ : List Sh) (as : List Value) (h : HP) : GR := match as with
  | [.ref o1] => (Nat.beq o1 0, p_M_byBlocks h, none, some (.int (v_M_byBlocks h).1), (v_M_byBlocks h).2)
  | _ => bad h
def d_M_byBlocks (k : Nat) : CD := (k, yX6_byBlocks, cX6_byBlocks, 2, some .int, 1, 6, 134, 0, false, true, g_M_byBlocks)
theorem chk_M_byBlocks : ∀ pc, am_chk cX6_byBlocks k_M_byBlocks pc = true := am_chkall 33 (by decide +kernel) (fun pc h => by unfold k_M_byBlocks; rw [Nat.ble_eq_true_of_le h]; rfl)
theorem pf_M_byBlocks : plainFor yX6_byBlocks = true := by decide +kernel
theorem cu_M_byBlocks : Cond.code yX6_byBlocks cX6_byBlocks 2 (some .int) ∈ am_U := am_tb 1240 (by decide +kernel) rfl
set_option maxHeartbeats 20000000 in
set_option maxRecDepth 100000 in
theorem ev_M_byBlocks {e1 ro : List Sh} {P : AR → HP → Prop} (h : HP) (hp : p_M_byBlocks h) (hP : ∀ q, v_M_byBlocks h = q → RIW P h q) : am_Ev m_M_byBlocks (WM ++ e1) ro P (0, [.ref 0, .retAddr 0], [], h) := by
  unfold p_M_byBlocks at hp
  refine am_Ev_G [13] 400 _ ?_
  show ((p_lays 0 0 163 163) ∧ am_Ev m_M_byBlocks (WM ++ e1) ro P (13, [.ref 0, .retAddr 0], [], (v_lays h 1 0 2 0)))
  obtain ⟨hob, hp⟩ := hp
  refine ⟨hob, ?_⟩
  refine am_Ev_G [17] 400 _ ?_
  show ((p_M_blocksAll (v_lays h 1 0 2 0)) ∧ am_Ev m_M_byBlocks (WM ++ e1) ro P (17, [.ref 0, .retAddr 0], [.int ((v_M_blocksAll (v_lays h 1 0 2 0)).1)], ((v_M_blocksAll (v_lays h 1 0 2 0)).2)))
  obtain ⟨hob, hp⟩ := hp
  refine ⟨hob, ?_⟩
  obtain ⟨y1, c1⟩ : ∃ y, v_M_blocksAll (v_lays h 1 0 2 0) = y := ⟨_, rfl⟩
  rw [c1]
  have hp := hp _ c1
  show am_Ev m_M_byBlocks (WM ++ e1) ro P (17, [.ref 0, .retAddr 0], [.int y1.1], y1.2)
  refine am_Ev_G [31] 400 _ ?_
  show ((p_lays 0 0 163 163) ∧ am_Ev m_M_byBlocks (WM ++ e1) ro P (31, [.ref 0, .int y1.1], [], (v_lays y1.2 2 0 1 0)))
  refine ⟨hp, ?_⟩
  refine am_Ev_G [] 400 _ ?_
  show P (.inl (some (.int y1.1))) (v_lays y1.2 2 0 1 0)
  exact hP (y1.1, (v_lays y1.2 2 0 1 0)) (by unfold v_M_byBlocks; simp only [bnd, c1])
theorem ok_M_byBlocks {l : Launch} (hl : l.stackTraces = false) (e1 ro : List Sh) (k : Nat) : am_Ok l (WM ++ e1) ro (d_M_byBlocks k) := by
  refine am_met hl (own := RX6) (M := m_M_byBlocks) rfl pf_M_byBlocks cu_M_byBlocks rfl rfl rfl rfl (fun _ => rfl) rfl ⟨chk_M_byBlocks, (am_c (fl_M_7) (am_c (fl_M_13) am_n)), (am_c (lk_M_45) (am_c (lk_M_96) am_n)), (am_n), (am_n)⟩ (am_n) (am_c (ok_M_lays hl _ _ 0) (am_c (ok_M_blocksAll hl e1 _ 16) am_n)) (fun z => nomatch z) ?_ ?_
  · intro _ as h hg
    show g_thr (g_M_byBlocks (WM ++ e1) ro as h) = none
    unfold g_M_byBlocks
    split <;> rfl
  · intro as h hg hp
    revert hg hp
    show g_ok (g_M_byBlocks (WM ++ e1) ro as h) = true → g_pre (g_M_byBlocks (WM ++ e1) ro as h) → _ ∧ am_Ev m_M_byBlocks (WM ++ e1) ro (am_eq (g_M_byBlocks (WM ++ e1) ro as h)) (0, am_ent as 2, [], h)
    unfold g_M_byBlocks
    split
    · rename_i o1
      intro hc hp
      change (Nat.beq o1 0) = true at hc
      obtain rfl := am_beq hc
      exact ⟨Nat.le_of_ble_eq_true rfl, ev_M_byBlocks h hp eqRIW⟩
    · exact fun z => nomatch z
def k_M_isOf (pc : Nat) : Ent := bif Nat.ble 29 pc then am_nop else bif Nat.ble 14 pc then (bif Nat.ble 20 pc then (bif Nat.ble 24 pc then (bif Nat.ble 27 pc then (bif Nat.ble 28 pc then (bif Nat.beq pc 28 then (.ireturn, 0, 0, []) else am_nop) else (bif Nat.beq pc 27 then (.iconst 0, 0, 0, []) else am_nop)) else (bif Nat.beq pc 24 then (.goto 4, 0, 28, []) else am_nop)) else (bif Nat.ble 23 pc then (bif Nat.beq pc 23 then (.iconst 1, 1, 0, []) else am_nop) else (bif Nat.beq pc 20 then (.if_icmp .ne 7, 0, 27, []) else am_nop))) else (bif Nat.ble 16 pc then (bif Nat.ble 19 pc then (bif Nat.beq pc 19 then (.iload_n 2, 0, 2, []) else am_nop) else (bif Nat.beq pc 16 then (.invokevirtual 49, 0, 0, []) else am_nop)) else (bif Nat.ble 15 pc then (bif Nat.beq pc 15 then (.iconst 0, 0, 0, []) else am_nop) else (bif Nat.beq pc 14 then (.iload_n 1, 0, 1, []) else am_nop)))) else (bif Nat.ble 8 pc then (bif Nat.ble 10 pc then (bif Nat.ble 13 pc then (bif Nat.beq pc 13 then (.aload_n 0, 0, 0, []) else am_nop) else (bif Nat.beq pc 10 then (.if_icmp .eq 13, 0, 23, []) else am_nop)) else (bif Nat.ble 9 pc then (bif Nat.beq pc 9 then (.iconst (-1), (-1 : Int32), 0, []) else am_nop) else (bif Nat.beq pc 8 then (.iload_n 2, 0, 2, []) else am_nop))) else (bif Nat.ble 2 pc then (bif Nat.ble 5 pc then (bif Nat.beq pc 5 then (.ifCond .eq 22, 0, 27, []) else am_nop) else (bif Nat.beq pc 2 then (.invokevirtual 60, 0, 0, []) else am_nop)) else (bif Nat.ble 1 pc then (bif Nat.beq pc 1 then (.iload_n 1, 0, 1, []) else am_nop) else (bif Nat.beq pc 0 then (.aload_n 0, 0, 0, []) else am_nop))))
def m_M_isOf : MI := (k_M_isOf, [], [(49, d_M_of 16), (60, d_M_isRun 16)], [], [], [], [], 2, 43, some .boolean, fun _ => 0, 1)
def v_M_isOf (h : HP) (a1 : Int32) (a2 : Int32) : Int32 := (if (v_M_isRun h a1) = 0 then (0 : Int32) else (if a2 = (-1 : Int32) then (1 : Int32) else (if (v_M_of h a1 0) = a2 then (1 : Int32) else 0)))
def p_M_isOf (h : HP) (a1 : Int32) (a2 : Int32) : Prop := ((p_M_isRun h a1) ∧ (((v_M_isRun h a1) = 0 → True) ∧ (¬ (v_M_isRun h a1) = 0 → ((a2 = (-1 : Int32) → True) ∧ (¬ a2 = (-1 : Int32) → (p_M_of h a1 0))))))
def g_M_isOf (_ _ : List Sh) (as : List Value) (h : HP) : GR := match as with
  | [.ref o1, .int a1, .int a2] => (Nat.beq o1 0, p_M_isOf h a1 a2, none, some (.int (v_M_isOf h a1 a2)), h)
  | _ => bad h
def d_M_isOf (k : Nat) : CD := (k, yX6_isOf, cX6_isOf, 3, some .boolean, 3, 2, 43, 0, false, true, g_M_isOf)
theorem chk_M_isOf : ∀ pc, am_chk cX6_isOf k_M_isOf pc = true := am_chkall 29 (by decide +kernel) (fun pc h => by unfold k_M_isOf; rw [Nat.ble_eq_true_of_le h]; rfl)
theorem pf_M_isOf : plainFor yX6_isOf = true := by decide +kernel
theorem cu_M_isOf : Cond.code yX6_isOf cX6_isOf 3 (some .boolean) ∈ am_U := am_tb 1148 (by decide +kernel) rfl
set_option maxHeartbeats 20000000 in
set_option maxRecDepth 100000 in
theorem ev_M_isOf {e1 ro : List Sh} {P : AR → HP → Prop} (h : HP) (a1 : Int32) (a2 : Int32) (hp : p_M_isOf h a1 a2) (hP : ∀ q, v_M_isOf h a1 a2 = q → RI P h q) : am_Ev m_M_isOf (WM ++ e1) ro P (0, [.ref 0, .int a1, .int a2], [], h) := by
  unfold p_M_isOf at hp
  refine am_Ev_G [5] 400 _ ?_
  show ((p_M_isRun h a1) ∧ am_Ev m_M_isOf (WM ++ e1) ro P (5, [.ref 0, .int a1, .int a2], [.int (v_M_isRun h a1)], h))
  obtain ⟨hob, hp⟩ := hp
  refine ⟨hob, ?_⟩
  have hpa := hp
  have key1 : am_Ev m_M_isOf (WM ++ e1) ro P (28, [.ref 0, .int a1, .int a2], [.int (if (v_M_isRun h a1) = 0 then (0 : Int32) else (if a2 = (-1 : Int32) then (1 : Int32) else (if (v_M_of h a1 0) = a2 then (1 : Int32) else 0)))], h) := by
    refine am_Ev_G [] 400 _ ?_
    show (((((if (v_M_isRun h a1) = 0 then (0 : Int32) else (if a2 = (-1 : Int32) then (1 : Int32) else (if (v_M_of h a1 0) = a2 then (1 : Int32) else 0))) : Int32) = 0 ∨ ((if (v_M_isRun h a1) = 0 then (0 : Int32) else (if a2 = (-1 : Int32) then (1 : Int32) else (if (v_M_of h a1 0) = a2 then (1 : Int32) else 0))) : Int32) = 1)) ∧ P (.inl (some (.int (if (v_M_isRun h a1) = 0 then (0 : Int32) else (if a2 = (-1 : Int32) then (1 : Int32) else (if (v_M_of h a1 0) = a2 then (1 : Int32) else 0)))))) h)
    refine ⟨(by (repeat' split) <;> decide), ?_⟩
    exact hP (if (v_M_isRun h a1) = 0 then (0 : Int32) else (if a2 = (-1 : Int32) then (1 : Int32) else (if (v_M_of h a1 0) = a2 then (1 : Int32) else 0))) rfl
  have hp := hpa
  refine am_Ev_G [28] 400 _ ?_
  show (((v_M_isRun h a1) = 0 → am_Ev m_M_isOf (WM ++ e1) ro P (28, [.ref 0, .int a1, .int a2], [.int 0], h)) ∧ (¬ (v_M_isRun h a1) = 0 → ((a2 = (-1 : Int32) → am_Ev m_M_isOf (WM ++ e1) ro P (28, [.ref 0, .int a1, .int a2], [.int 1], h)) ∧ (¬ a2 = (-1 : Int32) → ((p_M_of h a1 0) ∧ ((¬ (v_M_of h a1 0) = a2 → am_Ev m_M_isOf (WM ++ e1) ro P (28, [.ref 0, .int a1, .int a2], [.int 0], h)) ∧ ((v_M_of h a1 0) = a2 → am_Ev m_M_isOf (WM ++ e1) ro P (28, [.ref 0, .int a1, .int a2], [.int 1], h))))))))
  refine ⟨fun c2 => ?_, fun c2 => ?_⟩
  · skip
    simpa only [if_pos c2] using key1
  · have hp := hp.2 c2
    refine ⟨fun c3 => ?_, fun c3 => ?_⟩
    · skip
      simpa only [if_neg c2, if_pos c3] using key1
    · have hp := hp.2 c3
      refine ⟨hp, ?_⟩
      refine ⟨fun c4 => ?_, fun c4 => ?_⟩
      · skip
        simpa only [if_neg c2, if_neg c3, if_neg c4] using key1
      · skip
        simpa only [if_neg c2, if_neg c3, if_pos c4] using key1
theorem ok_M_isOf {l : Launch} (hl : l.stackTraces = false) (e1 ro : List Sh) (k : Nat) : am_Ok l (WM ++ e1) ro (d_M_isOf k) := by
  refine am_met hl (own := RX6) (M := m_M_isOf) rfl pf_M_isOf cu_M_isOf rfl rfl rfl rfl (fun _ => rfl) rfl ⟨chk_M_isOf, (am_n), (am_c (lk_M_49) (am_c (lk_M_60) am_n)), (am_n), (am_n)⟩ (am_n) (am_c (ok_M_of hl e1 _ 16) (am_c (ok_M_isRun hl e1 _ 16) am_n)) (fun z => nomatch z) ?_ ?_
  · intro _ as h hg
    show g_thr (g_M_isOf (WM ++ e1) ro as h) = none
    unfold g_M_isOf
    split <;> rfl
  · intro as h hg hp
    revert hg hp
    show g_ok (g_M_isOf (WM ++ e1) ro as h) = true → g_pre (g_M_isOf (WM ++ e1) ro as h) → _ ∧ am_Ev m_M_isOf (WM ++ e1) ro (am_eq (g_M_isOf (WM ++ e1) ro as h)) (0, am_ent as 3, [], h)
    unfold g_M_isOf
    split
    · rename_i o1 a1 a2
      intro hc hp
      change (Nat.beq o1 0) = true at hc
      obtain rfl := am_beq hc
      exact ⟨Nat.le_of_ble_eq_true rfl, ev_M_isOf h a1 a2 hp eqRI⟩
    · exact fun z => nomatch z
def k_M_lacking (pc : Nat) : Ent := bif Nat.ble 105 pc then am_nop else bif Nat.ble 52 pc then (bif Nat.ble 78 pc then (bif Nat.ble 92 pc then (bif Nat.ble 96 pc then (bif Nat.ble 102 pc then (bif Nat.ble 104 pc then (bif Nat.beq pc 104 then (.ireturn, 0, 0, []) else am_nop) else (bif Nat.beq pc 102 then (.iload 5, 0, 5, []) else am_nop)) else (bif Nat.ble 99 pc then (bif Nat.beq pc 99 then (.goto (-93), 0, 6, []) else am_nop) else (bif Nat.beq pc 96 then (.iinc 6 1, 1, 6, []) else am_nop))) else (bif Nat.ble 93 pc then (bif Nat.ble 94 pc then (bif Nat.beq pc 94 then (.istore 5, 0, 5, []) else am_nop) else (bif Nat.beq pc 93 then (.isub, 0, 0, []) else am_nop)) else (bif Nat.beq pc 92 then (.iconst 0, 0, 0, []) else am_nop))) else (bif Nat.ble 84 pc then (bif Nat.ble 88 pc then (bif Nat.ble 89 pc then (bif Nat.beq pc 89 then (.goto 4, 0, 93, []) else am_nop) else (bif Nat.beq pc 88 then (.iconst 1, 1, 0, []) else am_nop)) else (bif Nat.ble 85 pc then (bif Nat.beq pc 85 then (.if_icmp .gt 7, 0, 92, []) else am_nop) else (bif Nat.beq pc 84 then (.iload_n 3, 0, 3, []) else am_nop))) else (bif Nat.ble 79 pc then (bif Nat.ble 81 pc then (bif Nat.beq pc 81 then (.invokevirtual 67, 0, 0, []) else am_nop) else (bif Nat.beq pc 79 then (.iload 6, 0, 6, []) else am_nop)) else (bif Nat.beq pc 78 then (.aload_n 0, 0, 0, []) else am_nop)))) else (bif Nat.ble 64 pc then (bif Nat.ble 70 pc then (bif Nat.ble 74 pc then (bif Nat.ble 75 pc then (bif Nat.beq pc 75 then (.if_icmp .ne 17, 0, 92, []) else am_nop) else (bif Nat.beq pc 74 then (.iload_n 1, 0, 1, []) else am_nop)) else (bif Nat.ble 71 pc then (bif Nat.beq pc 71 then (.invokevirtual 49, 0, 0, []) else am_nop) else (bif Nat.beq pc 70 then (.iconst 2, 2, 0, []) else am_nop))) else (bif Nat.ble 67 pc then (bif Nat.ble 68 pc then (bif Nat.beq pc 68 then (.iload 6, 0, 6, []) else am_nop) else (bif Nat.beq pc 67 then (.aload_n 0, 0, 0, []) else am_nop)) else (bif Nat.beq pc 64 then (.ifCond .eq 28, 0, 92, []) else am_nop))) else (bif Nat.ble 57 pc then (bif Nat.ble 60 pc then (bif Nat.ble 61 pc then (bif Nat.beq pc 61 then (.invokevirtual 99, 0, 0, []) else am_nop) else (bif Nat.beq pc 60 then (.iload_n 2, 0, 2, []) else am_nop)) else (bif Nat.ble 58 pc then (bif Nat.beq pc 58 then (.iload 6, 0, 6, []) else am_nop) else (bif Nat.beq pc 57 then (.aload_n 0, 0, 0, []) else am_nop))) else (bif Nat.ble 53 pc then (bif Nat.ble 55 pc then (bif Nat.beq pc 55 then (.iload 5, 0, 5, []) else am_nop) else (bif Nat.beq pc 53 then (.istore 5, 0, 5, []) else am_nop)) else (bif Nat.beq pc 52 then (.iadd, 0, 0, []) else am_nop))))) else (bif Nat.ble 26 pc then (bif Nat.ble 39 pc then (bif Nat.ble 44 pc then (bif Nat.ble 48 pc then (bif Nat.ble 51 pc then (bif Nat.beq pc 51 then (.iconst 0, 0, 0, []) else am_nop) else (bif Nat.beq pc 48 then (.goto 4, 0, 52, []) else am_nop)) else (bif Nat.ble 47 pc then (bif Nat.beq pc 47 then (.iconst 1, 1, 0, []) else am_nop) else (bif Nat.beq pc 44 then (.if_icmp .gt 7, 0, 51, []) else am_nop))) else (bif Nat.ble 40 pc then (bif Nat.ble 43 pc then (bif Nat.beq pc 43 then (.iload_n 3, 0, 3, []) else am_nop) else (bif Nat.beq pc 40 then (.invokevirtual 49, 0, 0, []) else am_nop)) else (bif Nat.beq pc 39 then (.iconst 3, 3, 0, []) else am_nop))) else (bif Nat.ble 32 pc then (bif Nat.ble 36 pc then (bif Nat.ble 37 pc then (bif Nat.beq pc 37 then (.iload 6, 0, 6, []) else am_nop) else (bif Nat.beq pc 36 then (.aload_n 0, 0, 0, []) else am_nop)) else (bif Nat.ble 33 pc then (bif Nat.beq pc 33 then (.if_icmp .ne 18, 0, 51, []) else am_nop) else (bif Nat.beq pc 32 then (.iload_n 1, 0, 1, []) else am_nop))) else (bif Nat.ble 28 pc then (bif Nat.ble 29 pc then (bif Nat.beq pc 29 then (.invokevirtual 49, 0, 0, []) else am_nop) else (bif Nat.beq pc 28 then (.iconst 1, 1, 0, []) else am_nop)) else (bif Nat.beq pc 26 then (.iload 6, 0, 6, []) else am_nop)))) else (bif Nat.ble 13 pc then (bif Nat.ble 18 pc then (bif Nat.ble 22 pc then (bif Nat.ble 25 pc then (bif Nat.beq pc 25 then (.aload_n 0, 0, 0, []) else am_nop) else (bif Nat.beq pc 22 then (.ifCond .eq 29, 0, 51, []) else am_nop)) else (bif Nat.ble 19 pc then (bif Nat.beq pc 19 then (.invokevirtual 99, 0, 0, []) else am_nop) else (bif Nat.beq pc 18 then (.iload_n 2, 0, 2, []) else am_nop))) else (bif Nat.ble 15 pc then (bif Nat.ble 16 pc then (bif Nat.beq pc 16 then (.iload 6, 0, 6, []) else am_nop) else (bif Nat.beq pc 15 then (.aload_n 0, 0, 0, []) else am_nop)) else (bif Nat.beq pc 13 then (.iload 5, 0, 5, []) else am_nop))) else (bif Nat.ble 4 pc then (bif Nat.ble 8 pc then (bif Nat.ble 10 pc then (bif Nat.beq pc 10 then (.if_icmp .ge 92, 0, 102, []) else am_nop) else (bif Nat.beq pc 8 then (.iload 4, 0, 4, []) else am_nop)) else (bif Nat.ble 6 pc then (bif Nat.beq pc 6 then (.iload 6, 0, 6, []) else am_nop) else (bif Nat.beq pc 4 then (.istore 6, 0, 6, []) else am_nop))) else (bif Nat.ble 1 pc then (bif Nat.ble 3 pc then (bif Nat.beq pc 3 then (.iconst 0, 0, 0, []) else am_nop) else (bif Nat.beq pc 1 then (.istore 5, 0, 5, []) else am_nop)) else (bif Nat.beq pc 0 then (.iconst 0, 0, 0, []) else am_nop)))))
theorem lk_M_99 : am_lnk RX6 99 (d_M_isOf 16) := ⟨⟨by decide, by decide⟩, am_tb 8 (by decide +kernel) rfl, Or.inr ⟨by decide, rfl, am_tb 1147 (by decide +kernel) rfl, am_tp 100 (by decide +kernel) rfl, ⟨TX6, 16, rfl⟩, Or.inl (am_tb 1145 (by decide +kernel) rfl)⟩⟩
def m_M_lacking : MI := (k_M_lacking, [], [(49, d_M_of 16), (67, d_M_ready 16), (99, d_M_isOf 16)], [], [], [], [], 3, 65, some .int, fun _ => 0, 1)
def s_M_lacking_6 (h : HP) (a1 : Int32) (a2 : Int32) (a3 : Int32) (a4 : Int32) (v1 : Int32 × Int32) : (Int32 × Int32) ⊕ (Int32 × Int32) := (if v1.2 < a4 then (.inl (((v1.1 + (if (v_M_isOf h v1.2 a2) = 0 then (0 : Int32) else (if (v_M_of h v1.2 1) = a1 then (if (v_M_of h v1.2 3) ≤ a3 then (1 : Int32) else 0) else 0))) - (if (v_M_isOf h v1.2 a2) = 0 then (0 : Int32) else (if (v_M_of h v1.2 2) = a1 then (if (v_M_ready h v1.2) ≤ a3 then (1 : Int32) else 0) else 0))), (v1.2 + 1))) else (.inr (v1.1, v1.2)))
def ps_M_lacking_6 (h : HP) (a1 : Int32) (a2 : Int32) (a3 : Int32) (a4 : Int32) (v1 : Int32 × Int32) : Prop := ((v1.2 < a4 → ((p_M_isOf h v1.2 a2) ∧ ((((v_M_isOf h v1.2 a2) = 0 → True) ∧ (¬ (v_M_isOf h v1.2 a2) = 0 → ((p_M_of h v1.2 1) ∧ (((v_M_of h v1.2 1) = a1 → (p_M_of h v1.2 3)) ∧ (¬ (v_M_of h v1.2 1) = a1 → True))))) ∧ ((p_M_isOf h v1.2 a2) ∧ (((v_M_isOf h v1.2 a2) = 0 → True) ∧ (¬ (v_M_isOf h v1.2 a2) = 0 → ((p_M_of h v1.2 2) ∧ (((v_M_of h v1.2 2) = a1 → (p_M_ready h v1.2)) ∧ (¬ (v_M_of h v1.2 2) = a1 → True))))))))) ∧ (¬ v1.2 < a4 → True))
def v_M_lacking (h : HP) (a1 : Int32) (a2 : Int32) (a3 : Int32) (a4 : Int32) : Int32 := (match itr (s_M_lacking_6 h a1 a2 a3 a4) NF (0, 0) with | some r1 => r1.1 | none => 0)
def p_M_lacking (h : HP) (a1 : Int32) (a2 : Int32) (a3 : Int32) (a4 : Int32) : Prop := (itrp (s_M_lacking_6 h a1 a2 a3 a4) (ps_M_lacking_6 h a1 a2 a3 a4) NF (0, 0))
def g_M_lacking (_ _ : List Sh) (as : List Value) (h : HP) : GR := match as with
  | [.ref o1, .int a1, .int a2, .int a3, .int a4] => (Nat.beq o1 0, p_M_lacking h a1 a2 a3 a4, none, some (.int (v_M_lacking h a1 a2 a3 a4)), h)
  | _ => bad h
def d_M_lacking (k : Nat) : CD := (k, yX6_lacking, cX6_lacking, 7, some .int, 5, 3, 65, 0, false, true, g_M_lacking)
theorem chk_M_lacking : ∀ pc, am_chk cX6_lacking k_M_lacking pc = true := am_chkall 105 (by decide +kernel) (fun pc h => by unfold k_M_lacking; rw [Nat.ble_eq_true_of_le h]; rfl)
theorem pf_M_lacking : plainFor yX6_lacking = true := by decide +kernel
theorem cu_M_lacking : Cond.code yX6_lacking cX6_lacking 7 (some .int) ∈ am_U := am_tb 1144 (by decide +kernel) rfl
set_option maxHeartbeats 20000000 in
set_option maxRecDepth 100000 in
theorem ev_M_lacking {e1 ro : List Sh} {P : AR → HP → Prop} (h : HP) (a1 : Int32) (a2 : Int32) (a3 : Int32) (a4 : Int32) (hp : p_M_lacking h a1 a2 a3 a4) (hP : ∀ q, v_M_lacking h a1 a2 a3 a4 = q → RI P h q) : am_Ev m_M_lacking (WM ++ e1) ro P (0, [.ref 0, .int a1, .int a2, .int a3, .int a4, .retAddr 0, .retAddr 0], [], h) := by
  unfold p_M_lacking at hp
  refine am_Ev_G [6] 400 _ ?_
  show am_Ev m_M_lacking (WM ++ e1) ro P (6, [.ref 0, .int a1, .int a2, .int a3, .int a4, .int 0, .int 0], [], h)
  have hpl := hp
  refine am_itr (E := (fun (v1 : Int32 × Int32) => am_Ev m_M_lacking (WM ++ e1) ro P (6, [.ref 0, .int a1, .int a2, .int a3, .int a4, .int v1.1, .int v1.2], [], h))) (E' := (fun (r1 : Int32 × Int32) => am_Ev m_M_lacking (WM ++ e1) ro P (102, [.ref 0, .int a1, .int a2, .int a3, .int a4, .int r1.1, .int r1.2], [], h))) (s_M_lacking_6 h a1 a2 a3 a4) (ps_M_lacking_6 h a1 a2 a3 a4) ?_ NF (0, 0) hpl ?_
  · intro v1 hp hc1 hx1
    show am_Ev m_M_lacking (WM ++ e1) ro P (6, [.ref 0, .int a1, .int a2, .int a3, .int a4, .int v1.1, .int v1.2], [], h)
    unfold ps_M_lacking_6 at hp
    refine am_Ev_G [22, 102] 400 _ ?_
    show ((¬ v1.2 < a4 → am_Ev m_M_lacking (WM ++ e1) ro P (102, [.ref 0, .int a1, .int a2, .int a3, .int a4, .int v1.1, .int v1.2], [], h)) ∧ (v1.2 < a4 → ((p_M_isOf h v1.2 a2) ∧ am_Ev m_M_lacking (WM ++ e1) ro P (22, [.ref 0, .int a1, .int a2, .int a3, .int a4, .int v1.1, .int v1.2], [.int (v_M_isOf h v1.2 a2), .int v1.1], h))))
    refine ⟨fun c1 => ?_, fun c1 => ?_⟩
    · skip
      exact hx1 (v1.1, v1.2) (by unfold s_M_lacking_6; simp only [if_neg c1])
    · have hp := hp.1 c1
      obtain ⟨hob, hp⟩ := hp
      refine ⟨hob, ?_⟩
      obtain ⟨hpa, hp⟩ := hp
      have key2 : am_Ev m_M_lacking (WM ++ e1) ro P (52, [.ref 0, .int a1, .int a2, .int a3, .int a4, .int v1.1, .int v1.2], [.int (if (v_M_isOf h v1.2 a2) = 0 then (0 : Int32) else (if (v_M_of h v1.2 1) = a1 then (if (v_M_of h v1.2 3) ≤ a3 then (1 : Int32) else 0) else 0)), .int v1.1], h) := by
        refine am_Ev_G [64] 400 _ ?_
        show ((p_M_isOf h v1.2 a2) ∧ am_Ev m_M_lacking (WM ++ e1) ro P (64, [.ref 0, .int a1, .int a2, .int a3, .int a4, .int (v1.1 + (if (v_M_isOf h v1.2 a2) = 0 then (0 : Int32) else (if (v_M_of h v1.2 1) = a1 then (if (v_M_of h v1.2 3) ≤ a3 then (1 : Int32) else 0) else 0))), .int v1.2], [.int (v_M_isOf h v1.2 a2), .int (v1.1 + (if (v_M_isOf h v1.2 a2) = 0 then (0 : Int32) else (if (v_M_of h v1.2 1) = a1 then (if (v_M_of h v1.2 3) ≤ a3 then (1 : Int32) else 0) else 0)))], h))
        obtain ⟨hob, hp⟩ := hp
        refine ⟨hob, ?_⟩
        have hpa := hp
        have key3 : am_Ev m_M_lacking (WM ++ e1) ro P (93, [.ref 0, .int a1, .int a2, .int a3, .int a4, .int (v1.1 + (if (v_M_isOf h v1.2 a2) = 0 then (0 : Int32) else (if (v_M_of h v1.2 1) = a1 then (if (v_M_of h v1.2 3) ≤ a3 then (1 : Int32) else 0) else 0))), .int v1.2], [.int (if (v_M_isOf h v1.2 a2) = 0 then (0 : Int32) else (if (v_M_of h v1.2 2) = a1 then (if (v_M_ready h v1.2) ≤ a3 then (1 : Int32) else 0) else 0)), .int (v1.1 + (if (v_M_isOf h v1.2 a2) = 0 then (0 : Int32) else (if (v_M_of h v1.2 1) = a1 then (if (v_M_of h v1.2 3) ≤ a3 then (1 : Int32) else 0) else 0)))], h) := by
          refine am_Ev_G [6] 400 _ ?_
          show am_Ev m_M_lacking (WM ++ e1) ro P (6, [.ref 0, .int a1, .int a2, .int a3, .int a4, .int ((v1.1 + (if (v_M_isOf h v1.2 a2) = 0 then (0 : Int32) else (if (v_M_of h v1.2 1) = a1 then (if (v_M_of h v1.2 3) ≤ a3 then (1 : Int32) else 0) else 0))) - (if (v_M_isOf h v1.2 a2) = 0 then (0 : Int32) else (if (v_M_of h v1.2 2) = a1 then (if (v_M_ready h v1.2) ≤ a3 then (1 : Int32) else 0) else 0))), .int (v1.2 + 1)], [], h)
          exact hc1 (((v1.1 + (if (v_M_isOf h v1.2 a2) = 0 then (0 : Int32) else (if (v_M_of h v1.2 1) = a1 then (if (v_M_of h v1.2 3) ≤ a3 then (1 : Int32) else 0) else 0))) - (if (v_M_isOf h v1.2 a2) = 0 then (0 : Int32) else (if (v_M_of h v1.2 2) = a1 then (if (v_M_ready h v1.2) ≤ a3 then (1 : Int32) else 0) else 0))), (v1.2 + 1)) (by unfold s_M_lacking_6; simp only [if_pos c1])
        have hp := hpa
        refine am_Ev_G [93] 400 _ ?_
        show (((v_M_isOf h v1.2 a2) = 0 → am_Ev m_M_lacking (WM ++ e1) ro P (93, [.ref 0, .int a1, .int a2, .int a3, .int a4, .int (v1.1 + (if (v_M_isOf h v1.2 a2) = 0 then (0 : Int32) else (if (v_M_of h v1.2 1) = a1 then (if (v_M_of h v1.2 3) ≤ a3 then (1 : Int32) else 0) else 0))), .int v1.2], [.int 0, .int (v1.1 + (if (v_M_isOf h v1.2 a2) = 0 then (0 : Int32) else (if (v_M_of h v1.2 1) = a1 then (if (v_M_of h v1.2 3) ≤ a3 then (1 : Int32) else 0) else 0)))], h)) ∧ (¬ (v_M_isOf h v1.2 a2) = 0 → ((p_M_of h v1.2 2) ∧ ((¬ (v_M_of h v1.2 2) = a1 → am_Ev m_M_lacking (WM ++ e1) ro P (93, [.ref 0, .int a1, .int a2, .int a3, .int a4, .int (v1.1 + (if (v_M_isOf h v1.2 a2) = 0 then (0 : Int32) else (if (v_M_of h v1.2 1) = a1 then (if (v_M_of h v1.2 3) ≤ a3 then (1 : Int32) else 0) else 0))), .int v1.2], [.int 0, .int (v1.1 + (if (v_M_isOf h v1.2 a2) = 0 then (0 : Int32) else (if (v_M_of h v1.2 1) = a1 then (if (v_M_of h v1.2 3) ≤ a3 then (1 : Int32) else 0) else 0)))], h)) ∧ ((v_M_of h v1.2 2) = a1 → ((p_M_ready h v1.2) ∧ ((¬ (v_M_ready h v1.2) ≤ a3 → am_Ev m_M_lacking (WM ++ e1) ro P (93, [.ref 0, .int a1, .int a2, .int a3, .int a4, .int (v1.1 + (if (v_M_isOf h v1.2 a2) = 0 then (0 : Int32) else (if (v_M_of h v1.2 1) = a1 then (if (v_M_of h v1.2 3) ≤ a3 then (1 : Int32) else 0) else 0))), .int v1.2], [.int 0, .int (v1.1 + (if (v_M_isOf h v1.2 a2) = 0 then (0 : Int32) else (if (v_M_of h v1.2 1) = a1 then (if (v_M_of h v1.2 3) ≤ a3 then (1 : Int32) else 0) else 0)))], h)) ∧ ((v_M_ready h v1.2) ≤ a3 → am_Ev m_M_lacking (WM ++ e1) ro P (93, [.ref 0, .int a1, .int a2, .int a3, .int a4, .int (v1.1 + (if (v_M_isOf h v1.2 a2) = 0 then (0 : Int32) else (if (v_M_of h v1.2 1) = a1 then (if (v_M_of h v1.2 3) ≤ a3 then (1 : Int32) else 0) else 0))), .int v1.2], [.int 1, .int (v1.1 + (if (v_M_isOf h v1.2 a2) = 0 then (0 : Int32) else (if (v_M_of h v1.2 1) = a1 then (if (v_M_of h v1.2 3) ≤ a3 then (1 : Int32) else 0) else 0)))], h)))))))))
        refine ⟨fun c4 => ?_, fun c4 => ?_⟩
        · skip
          simpa only [if_pos c4] using key3
        · have hp := hp.2 c4
          obtain ⟨hob, hp⟩ := hp
          refine ⟨hob, ?_⟩
          refine ⟨fun c5 => ?_, fun c5 => ?_⟩
          · skip
            simpa only [if_neg c4, if_neg c5] using key3
          · have hp := hp.1 c5
            refine ⟨hp, ?_⟩
            refine ⟨fun c6 => ?_, fun c6 => ?_⟩
            · skip
              simpa only [if_neg c4, if_pos c5, if_neg c6] using key3
            · skip
              simpa only [if_neg c4, if_pos c5, if_pos c6] using key3
      have hp := hpa
      refine am_Ev_G [52] 400 _ ?_
      show (((v_M_isOf h v1.2 a2) = 0 → am_Ev m_M_lacking (WM ++ e1) ro P (52, [.ref 0, .int a1, .int a2, .int a3, .int a4, .int v1.1, .int v1.2], [.int 0, .int v1.1], h)) ∧ (¬ (v_M_isOf h v1.2 a2) = 0 → ((p_M_of h v1.2 1) ∧ ((¬ (v_M_of h v1.2 1) = a1 → am_Ev m_M_lacking (WM ++ e1) ro P (52, [.ref 0, .int a1, .int a2, .int a3, .int a4, .int v1.1, .int v1.2], [.int 0, .int v1.1], h)) ∧ ((v_M_of h v1.2 1) = a1 → ((p_M_of h v1.2 3) ∧ ((¬ (v_M_of h v1.2 3) ≤ a3 → am_Ev m_M_lacking (WM ++ e1) ro P (52, [.ref 0, .int a1, .int a2, .int a3, .int a4, .int v1.1, .int v1.2], [.int 0, .int v1.1], h)) ∧ ((v_M_of h v1.2 3) ≤ a3 → am_Ev m_M_lacking (WM ++ e1) ro P (52, [.ref 0, .int a1, .int a2, .int a3, .int a4, .int v1.1, .int v1.2], [.int 1, .int v1.1], h)))))))))
      refine ⟨fun c7 => ?_, fun c7 => ?_⟩
      · skip
        simpa only [if_pos c7] using key2
      · have hp := hp.2 c7
        obtain ⟨hob, hp⟩ := hp
        refine ⟨hob, ?_⟩
        refine ⟨fun c8 => ?_, fun c8 => ?_⟩
        · skip
          simpa only [if_neg c7, if_neg c8] using key2
        · have hp := hp.1 c8
          refine ⟨hp, ?_⟩
          refine ⟨fun c9 => ?_, fun c9 => ?_⟩
          · skip
            simpa only [if_neg c7, if_pos c8, if_neg c9] using key2
          · skip
            simpa only [if_neg c7, if_pos c8, if_pos c9] using key2
  · intro r1 hr10
    show am_Ev m_M_lacking (WM ++ e1) ro P (102, [.ref 0, .int a1, .int a2, .int a3, .int a4, .int r1.1, .int r1.2], [], h)
    refine am_Ev_G [] 400 _ ?_
    show P (.inl (some (.int r1.1))) h
    exact hP r1.1 (by unfold v_M_lacking; simp only [hr10])
theorem ok_M_lacking {l : Launch} (hl : l.stackTraces = false) (e1 ro : List Sh) (k : Nat) : am_Ok l (WM ++ e1) ro (d_M_lacking k) := by
  refine am_met hl (own := RX6) (M := m_M_lacking) rfl pf_M_lacking cu_M_lacking rfl rfl rfl rfl (fun _ => rfl) rfl ⟨chk_M_lacking, (am_n), (am_c (lk_M_49) (am_c (lk_M_67) (am_c (lk_M_99) am_n))), (am_n), (am_n)⟩ (am_n) (am_c (ok_M_of hl e1 _ 16) (am_c (ok_M_ready hl e1 _ 16) (am_c (ok_M_isOf hl e1 _ 16) am_n))) (fun z => nomatch z) ?_ ?_
  · intro _ as h hg
    show g_thr (g_M_lacking (WM ++ e1) ro as h) = none
    unfold g_M_lacking
    split <;> rfl
  · intro as h hg hp
    revert hg hp
    show g_ok (g_M_lacking (WM ++ e1) ro as h) = true → g_pre (g_M_lacking (WM ++ e1) ro as h) → _ ∧ am_Ev m_M_lacking (WM ++ e1) ro (am_eq (g_M_lacking (WM ++ e1) ro as h)) (0, am_ent as 7, [], h)
    unfold g_M_lacking
    split
    · rename_i o1 a1 a2 a3 a4
      intro hc hp
      change (Nat.beq o1 0) = true at hc
      obtain rfl := am_beq hc
      exact ⟨Nat.le_of_ble_eq_true rfl, ev_M_lacking h a1 a2 a3 a4 hp eqRI⟩
    · exact fun z => nomatch z
def k_M_deficitOf (pc : Nat) : Ent := bif Nat.ble 66 pc then am_nop else bif Nat.ble 28 pc then (bif Nat.ble 45 pc then (bif Nat.ble 55 pc then (bif Nat.ble 60 pc then (bif Nat.ble 63 pc then (bif Nat.ble 65 pc then (bif Nat.beq pc 65 then (.ireturn, 0, 0, []) else am_nop) else (bif Nat.beq pc 63 then (.iload 4, 0, 4, []) else am_nop)) else (bif Nat.beq pc 60 then (.goto (-54), 0, 6, []) else am_nop)) else (bif Nat.ble 57 pc then (bif Nat.beq pc 57 then (.iinc 5 1, 1, 5, []) else am_nop) else (bif Nat.beq pc 55 then (.istore 4, 0, 4, []) else am_nop))) else (bif Nat.ble 50 pc then (bif Nat.ble 53 pc then (bif Nat.beq pc 53 then (.iload 4, 0, 4, []) else am_nop) else (bif Nat.beq pc 50 then (.goto 5, 0, 55, []) else am_nop)) else (bif Nat.ble 48 pc then (bif Nat.beq pc 48 then (.iload 6, 0, 6, []) else am_nop) else (bif Nat.beq pc 45 then (.if_icmp .le 8, 0, 53, []) else am_nop)))) else (bif Nat.ble 38 pc then (bif Nat.ble 41 pc then (bif Nat.ble 43 pc then (bif Nat.beq pc 43 then (.iload 4, 0, 4, []) else am_nop) else (bif Nat.beq pc 41 then (.iload 6, 0, 6, []) else am_nop)) else (bif Nat.ble 39 pc then (bif Nat.beq pc 39 then (.istore 6, 0, 6, []) else am_nop) else (bif Nat.beq pc 38 then (.iconst 0, 0, 0, []) else am_nop))) else (bif Nat.ble 32 pc then (bif Nat.ble 35 pc then (bif Nat.beq pc 35 then (.goto 4, 0, 39, []) else am_nop) else (bif Nat.beq pc 32 then (.invokevirtual 103, 0, 0, []) else am_nop)) else (bif Nat.ble 31 pc then (bif Nat.beq pc 31 then (.iload_n 3, 0, 3, []) else am_nop) else (bif Nat.beq pc 28 then (.invokevirtual 49, 0, 0, []) else am_nop))))) else (bif Nat.ble 13 pc then (bif Nat.ble 22 pc then (bif Nat.ble 24 pc then (bif Nat.ble 25 pc then (bif Nat.ble 27 pc then (bif Nat.beq pc 27 then (.iconst 3, 3, 0, []) else am_nop) else (bif Nat.beq pc 25 then (.iload 5, 0, 5, []) else am_nop)) else (bif Nat.beq pc 24 then (.aload_n 0, 0, 0, []) else am_nop)) else (bif Nat.ble 23 pc then (bif Nat.beq pc 23 then (.iload_n 2, 0, 2, []) else am_nop) else (bif Nat.beq pc 22 then (.iload_n 1, 0, 1, []) else am_nop))) else (bif Nat.ble 18 pc then (bif Nat.ble 21 pc then (bif Nat.beq pc 21 then (.aload_n 0, 0, 0, []) else am_nop) else (bif Nat.beq pc 18 then (.ifCond .eq 20, 0, 38, []) else am_nop)) else (bif Nat.ble 15 pc then (bif Nat.beq pc 15 then (.invokevirtual 60, 0, 0, []) else am_nop) else (bif Nat.beq pc 13 then (.iload 5, 0, 5, []) else am_nop)))) else (bif Nat.ble 6 pc then (bif Nat.ble 9 pc then (bif Nat.ble 12 pc then (bif Nat.beq pc 12 then (.aload_n 0, 0, 0, []) else am_nop) else (bif Nat.beq pc 9 then (.if_icmp .ge 54, 0, 63, []) else am_nop)) else (bif Nat.ble 8 pc then (bif Nat.beq pc 8 then (.iload_n 3, 0, 3, []) else am_nop) else (bif Nat.beq pc 6 then (.iload 5, 0, 5, []) else am_nop))) else (bif Nat.ble 3 pc then (bif Nat.ble 4 pc then (bif Nat.beq pc 4 then (.istore 5, 0, 5, []) else am_nop) else (bif Nat.beq pc 3 then (.iconst 0, 0, 0, []) else am_nop)) else (bif Nat.ble 1 pc then (bif Nat.beq pc 1 then (.istore 4, 0, 4, []) else am_nop) else (bif Nat.beq pc 0 then (.iconst 0, 0, 0, []) else am_nop)))))
theorem lk_M_103 : am_lnk RX6 103 (d_M_lacking 16) := ⟨⟨by decide, by decide⟩, am_tb 8 (by decide +kernel) rfl, Or.inr ⟨by decide, rfl, am_tb 1143 (by decide +kernel) rfl, am_tp 99 (by decide +kernel) rfl, ⟨TX6, 16, rfl⟩, Or.inl (am_tb 1141 (by decide +kernel) rfl)⟩⟩
def m_M_deficitOf : MI := (k_M_deficitOf, [], [(49, d_M_of 16), (60, d_M_isRun 16), (103, d_M_lacking 16)], [], [], [], [], 4, 91, some .int, fun _ => 0, 1)
def s_M_deficitOf_6 (h : HP) (a1 : Int32) (a2 : Int32) (a3 : Int32) (v1 : Int32 × Int32) : (Int32 × Int32) ⊕ (Int32 × Int32) := (if v1.2 < a3 then (.inl ((if ((if (v_M_isRun h v1.2) = 0 then (0 : Int32) else (v_M_lacking h a1 a2 (v_M_of h v1.2 3) a3)) : Int32) ≤ v1.1 then v1.1 else (if (v_M_isRun h v1.2) = 0 then (0 : Int32) else (v_M_lacking h a1 a2 (v_M_of h v1.2 3) a3))), (v1.2 + 1))) else (.inr (v1.1, v1.2)))
def ps_M_deficitOf_6 (h : HP) (a1 : Int32) (a2 : Int32) (a3 : Int32) (v1 : Int32 × Int32) : Prop := ((v1.2 < a3 → ((p_M_isRun h v1.2) ∧ (((v_M_isRun h v1.2) = 0 → True) ∧ (¬ (v_M_isRun h v1.2) = 0 → ((p_M_of h v1.2 3) ∧ (p_M_lacking h a1 a2 (v_M_of h v1.2 3) a3)))))) ∧ (¬ v1.2 < a3 → True))
def v_M_deficitOf (h : HP) (a1 : Int32) (a2 : Int32) (a3 : Int32) : Int32 := (match itr (s_M_deficitOf_6 h a1 a2 a3) NF (0, 0) with | some r1 => r1.1 | none => 0)
def p_M_deficitOf (h : HP) (a1 : Int32) (a2 : Int32) (a3 : Int32) : Prop := (itrp (s_M_deficitOf_6 h a1 a2 a3) (ps_M_deficitOf_6 h a1 a2 a3) NF (0, 0))
def g_M_deficitOf (_ _ : List Sh) (as : List Value) (h : HP) : GR := match as with
  | [.ref o1, .int a1, .int a2, .int a3] => (Nat.beq o1 0, p_M_deficitOf h a1 a2 a3, none, some (.int (v_M_deficitOf h a1 a2 a3)), h)
  | _ => bad h
def d_M_deficitOf (k : Nat) : CD := (k, yX6_deficitOf, cX6_deficitOf, 7, some .int, 4, 4, 91, 0, false, true, g_M_deficitOf)
theorem chk_M_deficitOf : ∀ pc, am_chk cX6_deficitOf k_M_deficitOf pc = true := am_chkall 66 (by decide +kernel) (fun pc h => by unfold k_M_deficitOf; rw [Nat.ble_eq_true_of_le h]; rfl)
theorem pf_M_deficitOf : plainFor yX6_deficitOf = true := by decide +kernel
theorem cu_M_deficitOf : Cond.code yX6_deficitOf cX6_deficitOf 7 (some .int) ∈ am_U := am_tb 1140 (by decide +kernel) rfl
set_option maxHeartbeats 20000000 in
set_option maxRecDepth 100000 in
theorem ev_M_deficitOf {e1 ro : List Sh} {P : AR → HP → Prop} (h : HP) (a1 : Int32) (a2 : Int32) (a3 : Int32) (hp : p_M_deficitOf h a1 a2 a3) (hP : ∀ q, v_M_deficitOf h a1 a2 a3 = q → RI P h q) : am_Ev m_M_deficitOf (WM ++ e1) ro P (0, [.ref 0, .int a1, .int a2, .int a3, .retAddr 0, .retAddr 0, .retAddr 0], [], h) := by
  unfold p_M_deficitOf at hp
  refine am_Ev_G [6] 400 _ ?_
  show am_Ev m_M_deficitOf (WM ++ e1) ro P (6, [.ref 0, .int a1, .int a2, .int a3, .int 0, .int 0, .retAddr 0], [], h)
  have hpl := hp
  refine am_itr (E := (fun (v1 : Int32 × Int32) => am_Ev m_M_deficitOf (WM ++ e1) ro P (6, [.ref 0, .int a1, .int a2, .int a3, .int v1.1, .int v1.2, .retAddr 0], [], h))) (E' := (fun (r1 : Int32 × Int32) => am_Ev m_M_deficitOf (WM ++ e1) ro P (63, [.ref 0, .int a1, .int a2, .int a3, .int r1.1, .int r1.2, .retAddr 0], [], h))) (s_M_deficitOf_6 h a1 a2 a3) (ps_M_deficitOf_6 h a1 a2 a3) ?_ NF (0, 0) hpl ?_
  · intro v1 hp hc1 hx1
    show am_Ev m_M_deficitOf (WM ++ e1) ro P (6, [.ref 0, .int a1, .int a2, .int a3, .int v1.1, .int v1.2, .retAddr 0], [], h)
    unfold ps_M_deficitOf_6 at hp
    refine am_Ev_G [18, 63] 400 _ ?_
    show ((¬ v1.2 < a3 → am_Ev m_M_deficitOf (WM ++ e1) ro P (63, [.ref 0, .int a1, .int a2, .int a3, .int v1.1, .int v1.2, .retAddr 0], [], h)) ∧ (v1.2 < a3 → ((p_M_isRun h v1.2) ∧ am_Ev m_M_deficitOf (WM ++ e1) ro P (18, [.ref 0, .int a1, .int a2, .int a3, .int v1.1, .int v1.2, .retAddr 0], [.int (v_M_isRun h v1.2)], h))))
    refine ⟨fun c1 => ?_, fun c1 => ?_⟩
    · skip
      exact hx1 (v1.1, v1.2) (by unfold s_M_deficitOf_6; simp only [if_neg c1])
    · have hp := hp.1 c1
      obtain ⟨hob, hp⟩ := hp
      refine ⟨hob, ?_⟩
      have hpa := hp
      have key2 : am_Ev m_M_deficitOf (WM ++ e1) ro P (39, [.ref 0, .int a1, .int a2, .int a3, .int v1.1, .int v1.2, .retAddr 0], [.int (if (v_M_isRun h v1.2) = 0 then (0 : Int32) else (v_M_lacking h a1 a2 (v_M_of h v1.2 3) a3))], h) := by
        refine am_Ev_G [45] 400 _ ?_
        show am_Ev m_M_deficitOf (WM ++ e1) ro P (45, [.ref 0, .int a1, .int a2, .int a3, .int v1.1, .int v1.2, .int (if (v_M_isRun h v1.2) = 0 then (0 : Int32) else (v_M_lacking h a1 a2 (v_M_of h v1.2 3) a3))], [.int v1.1, .int (if (v_M_isRun h v1.2) = 0 then (0 : Int32) else (v_M_lacking h a1 a2 (v_M_of h v1.2 3) a3))], h)
        have key3 : am_Ev m_M_deficitOf (WM ++ e1) ro P (55, [.ref 0, .int a1, .int a2, .int a3, .int v1.1, .int v1.2, .int (if (v_M_isRun h v1.2) = 0 then (0 : Int32) else (v_M_lacking h a1 a2 (v_M_of h v1.2 3) a3))], [.int (if ((if (v_M_isRun h v1.2) = 0 then (0 : Int32) else (v_M_lacking h a1 a2 (v_M_of h v1.2 3) a3)) : Int32) ≤ v1.1 then v1.1 else (if (v_M_isRun h v1.2) = 0 then (0 : Int32) else (v_M_lacking h a1 a2 (v_M_of h v1.2 3) a3)))], h) := by
          refine am_Ev_G [6] 400 _ ?_
          show am_Ev m_M_deficitOf (WM ++ e1) ro P (6, [.ref 0, .int a1, .int a2, .int a3, .int (if ((if (v_M_isRun h v1.2) = 0 then (0 : Int32) else (v_M_lacking h a1 a2 (v_M_of h v1.2 3) a3)) : Int32) ≤ v1.1 then v1.1 else (if (v_M_isRun h v1.2) = 0 then (0 : Int32) else (v_M_lacking h a1 a2 (v_M_of h v1.2 3) a3))), .int (v1.2 + 1), .int (if (v_M_isRun h v1.2) = 0 then (0 : Int32) else (v_M_lacking h a1 a2 (v_M_of h v1.2 3) a3))], [], h)
          refine am_fg 6 ?_
          exact hc1 ((if ((if (v_M_isRun h v1.2) = 0 then (0 : Int32) else (v_M_lacking h a1 a2 (v_M_of h v1.2 3) a3)) : Int32) ≤ v1.1 then v1.1 else (if (v_M_isRun h v1.2) = 0 then (0 : Int32) else (v_M_lacking h a1 a2 (v_M_of h v1.2 3) a3))), (v1.2 + 1)) (by unfold s_M_deficitOf_6; simp only [if_pos c1])
        refine am_Ev_G [55] 400 _ ?_
        show ((((if (v_M_isRun h v1.2) = 0 then (0 : Int32) else (v_M_lacking h a1 a2 (v_M_of h v1.2 3) a3)) : Int32) ≤ v1.1 → am_Ev m_M_deficitOf (WM ++ e1) ro P (55, [.ref 0, .int a1, .int a2, .int a3, .int v1.1, .int v1.2, .int (if (v_M_isRun h v1.2) = 0 then (0 : Int32) else (v_M_lacking h a1 a2 (v_M_of h v1.2 3) a3))], [.int v1.1], h)) ∧ (¬ ((if (v_M_isRun h v1.2) = 0 then (0 : Int32) else (v_M_lacking h a1 a2 (v_M_of h v1.2 3) a3)) : Int32) ≤ v1.1 → am_Ev m_M_deficitOf (WM ++ e1) ro P (55, [.ref 0, .int a1, .int a2, .int a3, .int v1.1, .int v1.2, .int (if (v_M_isRun h v1.2) = 0 then (0 : Int32) else (v_M_lacking h a1 a2 (v_M_of h v1.2 3) a3))], [.int (if (v_M_isRun h v1.2) = 0 then (0 : Int32) else (v_M_lacking h a1 a2 (v_M_of h v1.2 3) a3))], h)))
        refine ⟨fun c4 => ?_, fun c4 => ?_⟩
        · skip
          simpa only [if_pos c4] using key3
        · skip
          simpa only [if_neg c4] using key3
      have hp := hpa
      refine am_Ev_G [39] 400 _ ?_
      show (((v_M_isRun h v1.2) = 0 → am_Ev m_M_deficitOf (WM ++ e1) ro P (39, [.ref 0, .int a1, .int a2, .int a3, .int v1.1, .int v1.2, .retAddr 0], [.int 0], h)) ∧ (¬ (v_M_isRun h v1.2) = 0 → ((p_M_of h v1.2 3) ∧ ((p_M_lacking h a1 a2 (v_M_of h v1.2 3) a3) ∧ am_Ev m_M_deficitOf (WM ++ e1) ro P (39, [.ref 0, .int a1, .int a2, .int a3, .int v1.1, .int v1.2, .retAddr 0], [.int (v_M_lacking h a1 a2 (v_M_of h v1.2 3) a3)], h)))))
      refine ⟨fun c5 => ?_, fun c5 => ?_⟩
      · skip
        simpa only [if_pos c5] using key2
      · have hp := hp.2 c5
        obtain ⟨hob, hp⟩ := hp
        refine ⟨hob, ?_⟩
        refine ⟨hp, ?_⟩
        simpa only [if_neg c5] using key2
  · intro r1 hr6
    show am_Ev m_M_deficitOf (WM ++ e1) ro P (63, [.ref 0, .int a1, .int a2, .int a3, .int r1.1, .int r1.2, .retAddr 0], [], h)
    refine am_Ev_G [] 400 _ ?_
    show P (.inl (some (.int r1.1))) h
    exact hP r1.1 (by unfold v_M_deficitOf; simp only [hr6])
theorem ok_M_deficitOf {l : Launch} (hl : l.stackTraces = false) (e1 ro : List Sh) (k : Nat) : am_Ok l (WM ++ e1) ro (d_M_deficitOf k) := by
  refine am_met hl (own := RX6) (M := m_M_deficitOf) rfl pf_M_deficitOf cu_M_deficitOf rfl rfl rfl rfl (fun _ => rfl) rfl ⟨chk_M_deficitOf, (am_n), (am_c (lk_M_49) (am_c (lk_M_60) (am_c (lk_M_103) am_n))), (am_n), (am_n)⟩ (am_n) (am_c (ok_M_of hl e1 _ 16) (am_c (ok_M_isRun hl e1 _ 16) (am_c (ok_M_lacking hl e1 _ 16) am_n))) (fun z => nomatch z) ?_ ?_
  · intro _ as h hg
    show g_thr (g_M_deficitOf (WM ++ e1) ro as h) = none
    unfold g_M_deficitOf
    split <;> rfl
  · intro as h hg hp
    revert hg hp
    show g_ok (g_M_deficitOf (WM ++ e1) ro as h) = true → g_pre (g_M_deficitOf (WM ++ e1) ro as h) → _ ∧ am_Ev m_M_deficitOf (WM ++ e1) ro (am_eq (g_M_deficitOf (WM ++ e1) ro as h)) (0, am_ent as 7, [], h)
    unfold g_M_deficitOf
    split
    · rename_i o1 a1 a2 a3
      intro hc hp
      change (Nat.beq o1 0) = true at hc
      obtain rfl := am_beq hc
      exact ⟨Nat.le_of_ble_eq_true rfl, ev_M_deficitOf h a1 a2 a3 hp eqRI⟩
    · exact fun z => nomatch z
def k_M_deficit (pc : Nat) : Ent := bif Nat.ble 51 pc then am_nop else bif Nat.ble 27 pc then (bif Nat.ble 38 pc then (bif Nat.ble 44 pc then (bif Nat.ble 46 pc then (bif Nat.ble 49 pc then (bif Nat.ble 50 pc then (bif Nat.beq pc 50 then (.ireturn, 0, 0, []) else am_nop) else (bif Nat.beq pc 49 then (.iadd, 0, 0, []) else am_nop)) else (bif Nat.beq pc 46 then (.invokevirtual 107, 0, 0, []) else am_nop)) else (bif Nat.ble 45 pc then (bif Nat.beq pc 45 then (.iload_n 2, 0, 2, []) else am_nop) else (bif Nat.beq pc 44 then (.iconst 3, 3, 0, []) else am_nop))) else (bif Nat.ble 42 pc then (bif Nat.ble 43 pc then (bif Nat.beq pc 43 then (.iload_n 1, 0, 1, []) else am_nop) else (bif Nat.beq pc 42 then (.aload_n 0, 0, 0, []) else am_nop)) else (bif Nat.ble 41 pc then (bif Nat.beq pc 41 then (.iadd, 0, 0, []) else am_nop) else (bif Nat.beq pc 38 then (.invokevirtual 107, 0, 0, []) else am_nop)))) else (bif Nat.ble 33 pc then (bif Nat.ble 35 pc then (bif Nat.ble 36 pc then (bif Nat.ble 37 pc then (bif Nat.beq pc 37 then (.iload_n 2, 0, 2, []) else am_nop) else (bif Nat.beq pc 36 then (.iconst 2, 2, 0, []) else am_nop)) else (bif Nat.beq pc 35 then (.iload_n 1, 0, 1, []) else am_nop)) else (bif Nat.ble 34 pc then (bif Nat.beq pc 34 then (.aload_n 0, 0, 0, []) else am_nop) else (bif Nat.beq pc 33 then (.iadd, 0, 0, []) else am_nop))) else (bif Nat.ble 29 pc then (bif Nat.ble 30 pc then (bif Nat.beq pc 30 then (.invokevirtual 107, 0, 0, []) else am_nop) else (bif Nat.beq pc 29 then (.iload_n 2, 0, 2, []) else am_nop)) else (bif Nat.ble 28 pc then (bif Nat.beq pc 28 then (.iconst 1, 1, 0, []) else am_nop) else (bif Nat.beq pc 27 then (.iload_n 1, 0, 1, []) else am_nop))))) else (bif Nat.ble 14 pc then (bif Nat.ble 20 pc then (bif Nat.ble 22 pc then (bif Nat.ble 23 pc then (bif Nat.ble 26 pc then (bif Nat.beq pc 26 then (.aload_n 0, 0, 0, []) else am_nop) else (bif Nat.beq pc 23 then (.invokevirtual 107, 0, 0, []) else am_nop)) else (bif Nat.beq pc 22 then (.iload_n 2, 0, 2, []) else am_nop)) else (bif Nat.ble 21 pc then (bif Nat.beq pc 21 then (.iconst 0, 0, 0, []) else am_nop) else (bif Nat.beq pc 20 then (.iload_n 1, 0, 1, []) else am_nop))) else (bif Nat.ble 18 pc then (bif Nat.ble 19 pc then (bif Nat.beq pc 19 then (.aload_n 0, 0, 0, []) else am_nop) else (bif Nat.beq pc 18 then (.ireturn, 0, 0, []) else am_nop)) else (bif Nat.ble 15 pc then (bif Nat.beq pc 15 then (.invokevirtual 107, 0, 0, []) else am_nop) else (bif Nat.beq pc 14 then (.iload_n 2, 0, 2, []) else am_nop)))) else (bif Nat.ble 7 pc then (bif Nat.ble 11 pc then (bif Nat.ble 12 pc then (bif Nat.ble 13 pc then (bif Nat.beq pc 13 then (.iconst (-1), (-1 : Int32), 0, []) else am_nop) else (bif Nat.beq pc 12 then (.iload_n 1, 0, 1, []) else am_nop)) else (bif Nat.beq pc 11 then (.aload_n 0, 0, 0, []) else am_nop)) else (bif Nat.ble 8 pc then (bif Nat.beq pc 8 then (.if_icmp .ne 11, 0, 19, []) else am_nop) else (bif Nat.beq pc 7 then (.iconst 1, 1, 0, []) else am_nop))) else (bif Nat.ble 4 pc then (bif Nat.ble 6 pc then (bif Nat.beq pc 6 then (.iaload, 0, 0, []) else am_nop) else (bif Nat.beq pc 4 then (.bipush 8, 8, 0, []) else am_nop)) else (bif Nat.ble 1 pc then (bif Nat.beq pc 1 then (.getfield 7, 0, 0, []) else am_nop) else (bif Nat.beq pc 0 then (.aload_n 0, 0, 0, []) else am_nop)))))
theorem lk_M_107 : am_lnk RX6 107 (d_M_deficitOf 16) := ⟨⟨by decide, by decide⟩, am_tb 8 (by decide +kernel) rfl, Or.inr ⟨by decide, rfl, am_tb 1139 (by decide +kernel) rfl, am_tp 98 (by decide +kernel) rfl, ⟨TX6, 16, rfl⟩, Or.inl (am_tb 1137 (by decide +kernel) rfl)⟩⟩
def m_M_deficit : MI := (k_M_deficit, [(7, 6, 0)], [(107, d_M_deficitOf 16)], [], [], [], [], 5, 117, some .int, fun _ => 0, 1)
def v_M_deficit (h : HP) (a1 : Int32) (a2 : Int32) : Int32 := (if (h.1 1 (am_ix 8)) = 1 then (v_M_deficitOf h a1 (-1 : Int32) a2) else ((((v_M_deficitOf h a1 0 a2) + (v_M_deficitOf h a1 1 a2)) + (v_M_deficitOf h a1 2 a2)) + (v_M_deficitOf h a1 3 a2)))
def p_M_deficit (h : HP) (a1 : Int32) (a2 : Int32) : Prop := (((h.1 1 (am_ix 8)) = 1 → (p_M_deficitOf h a1 (-1 : Int32) a2)) ∧ (¬ (h.1 1 (am_ix 8)) = 1 → ((p_M_deficitOf h a1 0 a2) ∧ ((p_M_deficitOf h a1 1 a2) ∧ ((p_M_deficitOf h a1 2 a2) ∧ (p_M_deficitOf h a1 3 a2))))))
def g_M_deficit (_ _ : List Sh) (as : List Value) (h : HP) : GR := match as with
  | [.ref o1, .int a1, .int a2] => (Nat.beq o1 0, p_M_deficit h a1 a2, none, some (.int (v_M_deficit h a1 a2)), h)
  | _ => bad h
def d_M_deficit (k : Nat) : CD := (k, yX6_deficit, cX6_deficit, 3, some .int, 3, 5, 117, 0, false, true, g_M_deficit)
theorem chk_M_deficit : ∀ pc, am_chk cX6_deficit k_M_deficit pc = true := am_chkall 51 (by decide +kernel) (fun pc h => by unfold k_M_deficit; rw [Nat.ble_eq_true_of_le h]; rfl)
theorem pf_M_deficit : plainFor yX6_deficit = true := by decide +kernel
theorem cu_M_deficit : Cond.code yX6_deficit cX6_deficit 3 (some .int) ∈ am_U := am_tb 1136 (by decide +kernel) rfl
set_option maxHeartbeats 20000000 in
set_option maxRecDepth 100000 in
theorem ev_M_deficit {e1 ro : List Sh} {P : AR → HP → Prop} (h : HP) (a1 : Int32) (a2 : Int32) (hp : p_M_deficit h a1 a2) (hP : ∀ q, v_M_deficit h a1 a2 = q → RI P h q) : am_Ev m_M_deficit (WM ++ e1) ro P (0, [.ref 0, .int a1, .int a2], [], h) := by
  unfold p_M_deficit at hp
  refine am_Ev_G [18, 33] 400 _ ?_
  show ((am_in 8 163) ∧ ((¬ (h.1 1 (am_ix 8)) = 1 → ((p_M_deficitOf h a1 0 a2) ∧ ((p_M_deficitOf h a1 1 a2) ∧ am_Ev m_M_deficit (WM ++ e1) ro P (33, [.ref 0, .int a1, .int a2], [.int (v_M_deficitOf h a1 1 a2), .int (v_M_deficitOf h a1 0 a2)], h)))) ∧ ((h.1 1 (am_ix 8)) = 1 → ((p_M_deficitOf h a1 (-1 : Int32) a2) ∧ am_Ev m_M_deficit (WM ++ e1) ro P (18, [.ref 0, .int a1, .int a2], [.int (v_M_deficitOf h a1 (-1 : Int32) a2)], h)))))
  refine ⟨⟨by decide, by decide⟩, ?_⟩
  refine ⟨fun c1 => ?_, fun c1 => ?_⟩
  · have hp := hp.2 c1
    obtain ⟨hob, hp⟩ := hp
    refine ⟨hob, ?_⟩
    obtain ⟨hob, hp⟩ := hp
    refine ⟨hob, ?_⟩
    refine am_Ev_G [49] 400 _ ?_
    show ((p_M_deficitOf h a1 2 a2) ∧ ((p_M_deficitOf h a1 3 a2) ∧ am_Ev m_M_deficit (WM ++ e1) ro P (49, [.ref 0, .int a1, .int a2], [.int (v_M_deficitOf h a1 3 a2), .int (((v_M_deficitOf h a1 0 a2) + (v_M_deficitOf h a1 1 a2)) + (v_M_deficitOf h a1 2 a2))], h)))
    obtain ⟨hob, hp⟩ := hp
    refine ⟨hob, ?_⟩
    refine ⟨hp, ?_⟩
    refine am_Ev_G [] 400 _ ?_
    show P (.inl (some (.int ((((v_M_deficitOf h a1 0 a2) + (v_M_deficitOf h a1 1 a2)) + (v_M_deficitOf h a1 2 a2)) + (v_M_deficitOf h a1 3 a2))))) h
    exact hP ((((v_M_deficitOf h a1 0 a2) + (v_M_deficitOf h a1 1 a2)) + (v_M_deficitOf h a1 2 a2)) + (v_M_deficitOf h a1 3 a2)) (by unfold v_M_deficit; simp only [if_neg c1])
  · have hp := hp.1 c1
    refine ⟨hp, ?_⟩
    refine am_Ev_G [] 400 _ ?_
    show P (.inl (some (.int (v_M_deficitOf h a1 (-1 : Int32) a2)))) h
    exact hP (v_M_deficitOf h a1 (-1 : Int32) a2) (by unfold v_M_deficit; simp only [if_pos c1])
theorem ok_M_deficit {l : Launch} (hl : l.stackTraces = false) (e1 ro : List Sh) (k : Nat) : am_Ok l (WM ++ e1) ro (d_M_deficit k) := by
  refine am_met hl (own := RX6) (M := m_M_deficit) rfl pf_M_deficit cu_M_deficit rfl rfl rfl rfl (fun _ => rfl) rfl ⟨chk_M_deficit, (am_c (fl_M_7) am_n), (am_c (lk_M_107) am_n), (am_n), (am_n)⟩ (am_n) (am_c (ok_M_deficitOf hl e1 _ 16) am_n) (fun z => nomatch z) ?_ ?_
  · intro _ as h hg
    show g_thr (g_M_deficit (WM ++ e1) ro as h) = none
    unfold g_M_deficit
    split <;> rfl
  · intro as h hg hp
    revert hg hp
    show g_ok (g_M_deficit (WM ++ e1) ro as h) = true → g_pre (g_M_deficit (WM ++ e1) ro as h) → _ ∧ am_Ev m_M_deficit (WM ++ e1) ro (am_eq (g_M_deficit (WM ++ e1) ro as h)) (0, am_ent as 3, [], h)
    unfold g_M_deficit
    split
    · rename_i o1 a1 a2
      intro hc hp
      change (Nat.beq o1 0) = true at hc
      obtain rfl := am_beq hc
      exact ⟨Nat.le_of_ble_eq_true rfl, ev_M_deficit h a1 a2 hp eqRI⟩
    · exact fun z => nomatch z
end
