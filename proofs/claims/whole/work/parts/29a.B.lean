/-! BusBlocks, out of its code (written by gen/meth.py). -/
noncomputable section
def k_B_hashBlocks (pc : Nat) : Ent := bif Nat.ble 109 pc then am_nop else bif Nat.ble 53 pc then (bif Nat.ble 77 pc then (bif Nat.ble 89 pc then (bif Nat.ble 101 pc then (bif Nat.ble 107 pc then (bif Nat.ble 108 pc then (bif Nat.beq pc 108 then (.lreturn, 0, 0, []) else am_nop) else (bif Nat.beq pc 107 then (.lload_n 3, 0, 3, []) else am_nop)) else (bif Nat.ble 104 pc then (bif Nat.beq pc 104 then (.goto (-90), 0, 14, []) else am_nop) else (bif Nat.beq pc 101 then (.iinc 6 1, 1, 6, []) else am_nop))) else (bif Nat.ble 95 pc then (bif Nat.ble 98 pc then (bif Nat.beq pc 98 then (.goto (-42), 0, 56, []) else am_nop) else (bif Nat.beq pc 95 then (.iinc 7 1, 1, 7, []) else am_nop)) else (bif Nat.ble 92 pc then (bif Nat.beq pc 92 then (.goto (-27), 0, 65, []) else am_nop) else (bif Nat.beq pc 89 then (.iinc 8 1, 1, 8, []) else am_nop)))) else (bif Nat.ble 83 pc then (bif Nat.ble 87 pc then (bif Nat.ble 88 pc then (bif Nat.beq pc 88 then (.lstore_n 3, 0, 3, []) else am_nop) else (bif Nat.beq pc 87 then (.ladd, 0, 0, []) else am_nop)) else (bif Nat.ble 86 pc then (bif Nat.beq pc 86 then (.i2l, 0, 0, []) else am_nop) else (bif Nat.beq pc 83 then (.invokevirtual 344, 0, 0, []) else am_nop))) else (bif Nat.ble 79 pc then (bif Nat.ble 81 pc then (bif Nat.beq pc 81 then (.iload 8, 0, 8, []) else am_nop) else (bif Nat.beq pc 79 then (.iload 7, 0, 7, []) else am_nop)) else (bif Nat.beq pc 77 then (.iload 6, 0, 6, []) else am_nop)))) else (bif Nat.ble 65 pc then (bif Nat.ble 71 pc then (bif Nat.ble 75 pc then (bif Nat.ble 76 pc then (bif Nat.beq pc 76 then (.aload_n 0, 0, 0, []) else am_nop) else (bif Nat.beq pc 75 then (.lmul, 0, 0, []) else am_nop)) else (bif Nat.ble 74 pc then (bif Nat.beq pc 74 then (.lload_n 3, 0, 3, []) else am_nop) else (bif Nat.beq pc 71 then (.ldc2_w 303, 0, 0, []) else am_nop))) else (bif Nat.ble 67 pc then (bif Nat.ble 68 pc then (bif Nat.beq pc 68 then (.if_icmp .gt 27, 0, 95, []) else am_nop) else (bif Nat.beq pc 67 then (.iconst 2, 2, 0, []) else am_nop)) else (bif Nat.beq pc 65 then (.iload 8, 0, 8, []) else am_nop))) else (bif Nat.ble 58 pc then (bif Nat.ble 62 pc then (bif Nat.ble 63 pc then (bif Nat.beq pc 63 then (.istore 8, 0, 8, []) else am_nop) else (bif Nat.beq pc 62 then (.iconst 0, 0, 0, []) else am_nop)) else (bif Nat.ble 59 pc then (bif Nat.beq pc 59 then (.if_icmp .gt 42, 0, 101, []) else am_nop) else (bif Nat.beq pc 58 then (.iconst 2, 2, 0, []) else am_nop))) else (bif Nat.ble 54 pc then (bif Nat.ble 56 pc then (bif Nat.beq pc 56 then (.iload 7, 0, 7, []) else am_nop) else (bif Nat.beq pc 54 then (.istore 7, 0, 7, []) else am_nop)) else (bif Nat.beq pc 53 then (.iconst 0, 0, 0, []) else am_nop))))) else (bif Nat.ble 26 pc then (bif Nat.ble 39 pc then (bif Nat.ble 45 pc then (bif Nat.ble 47 pc then (bif Nat.ble 50 pc then (bif Nat.beq pc 50 then (.goto (-26), 0, 24, []) else am_nop) else (bif Nat.beq pc 47 then (.iinc 7 1, 1, 7, []) else am_nop)) else (bif Nat.ble 46 pc then (bif Nat.beq pc 46 then (.lstore_n 3, 0, 3, []) else am_nop) else (bif Nat.beq pc 45 then (.ladd, 0, 0, []) else am_nop))) else (bif Nat.ble 41 pc then (bif Nat.ble 44 pc then (bif Nat.beq pc 44 then (.i2l, 0, 0, []) else am_nop) else (bif Nat.beq pc 41 then (.invokevirtual 341, 0, 0, []) else am_nop)) else (bif Nat.beq pc 39 then (.iload 7, 0, 7, []) else am_nop))) else (bif Nat.ble 34 pc then (bif Nat.ble 36 pc then (bif Nat.ble 37 pc then (bif Nat.beq pc 37 then (.iload 6, 0, 6, []) else am_nop) else (bif Nat.beq pc 36 then (.aload_n 0, 0, 0, []) else am_nop)) else (bif Nat.ble 35 pc then (bif Nat.beq pc 35 then (.lmul, 0, 0, []) else am_nop) else (bif Nat.beq pc 34 then (.lload_n 3, 0, 3, []) else am_nop))) else (bif Nat.ble 28 pc then (bif Nat.ble 31 pc then (bif Nat.beq pc 31 then (.ldc2_w 303, 0, 0, []) else am_nop) else (bif Nat.beq pc 28 then (.if_icmp .gt 25, 0, 53, []) else am_nop)) else (bif Nat.beq pc 26 then (.bipush 6, 6, 0, []) else am_nop)))) else (bif Nat.ble 12 pc then (bif Nat.ble 18 pc then (bif Nat.ble 22 pc then (bif Nat.ble 24 pc then (bif Nat.beq pc 24 then (.iload 7, 0, 7, []) else am_nop) else (bif Nat.beq pc 22 then (.istore 7, 0, 7, []) else am_nop)) else (bif Nat.ble 21 pc then (bif Nat.beq pc 21 then (.iconst 0, 0, 0, []) else am_nop) else (bif Nat.beq pc 18 then (.if_icmp .ge 89, 0, 107, []) else am_nop))) else (bif Nat.ble 14 pc then (bif Nat.ble 16 pc then (bif Nat.beq pc 16 then (.iload 5, 0, 5, []) else am_nop) else (bif Nat.beq pc 14 then (.iload 6, 0, 6, []) else am_nop)) else (bif Nat.beq pc 12 then (.istore 6, 0, 6, []) else am_nop))) else (bif Nat.ble 3 pc then (bif Nat.ble 9 pc then (bif Nat.ble 11 pc then (bif Nat.beq pc 11 then (.iconst 0, 0, 0, []) else am_nop) else (bif Nat.beq pc 9 then (.istore 5, 0, 5, []) else am_nop)) else (bif Nat.ble 6 pc then (bif Nat.beq pc 6 then (.invokevirtual 153, 0, 0, []) else am_nop) else (bif Nat.beq pc 3 then (.getfield 10, 0, 0, []) else am_nop))) else (bif Nat.ble 1 pc then (bif Nat.ble 2 pc then (bif Nat.beq pc 2 then (.aload_n 0, 0, 0, []) else am_nop) else (bif Nat.beq pc 1 then (.lstore_n 3, 0, 3, []) else am_nop)) else (bif Nat.beq pc 0 then (.lload_n 1, 0, 1, []) else am_nop)))))
theorem lk_B_341 : am_lnk RX5 341 (d_B_blockOf 15) := ⟨⟨by decide, by decide⟩, am_tb 1 (by decide +kernel) rfl, Or.inr ⟨by decide, rfl, am_tb 616 (by decide +kernel) rfl, am_tb 617 (by decide +kernel) rfl, ⟨TX5, 10, rfl⟩, Or.inl (am_tb 615 (by decide +kernel) rfl)⟩⟩
theorem lk_B_344 : am_lnk RX5 344 (d_B_duty 15) := ⟨⟨by decide, by decide⟩, am_tb 1 (by decide +kernel) rfl, Or.inr ⟨by decide, rfl, am_tb 647 (by decide +kernel) rfl, am_tb 648 (by decide +kernel) rfl, ⟨TX5, 10, rfl⟩, Or.inl (am_tb 646 (by decide +kernel) rfl)⟩⟩
def m_B_hashBlocks : MI := (k_B_hashBlocks, [(10, 5, 0)], [(153, d_TB_blocks 24), (341, d_B_blockOf 15), (344, d_B_duty 15)], [(303, .long 31)], [], [], [], 8, 138, some .long, fun _ => 0, 1)
def s_B_hashBlocks_24 (h : HP) (a1 : Int64) (v1 : Int64 × Int32 × HP) (v2 : Int64 × Int32 × HP) : (Int64 × Int32 × HP) ⊕ (Int64 × Int32 × HP) := (if v2.2.1 ≤ 6 then (match v_B_blockOf v2.2.2 v1.2.1 v2.2.1 with | .inl _ => .inl v2 | .inr y3 => (.inl (((31 * v2.1) + ((y3.1).toInt64)), (v2.2.1 + 1), y3.2))) else (.inr (v2.1, v2.2.1, v2.2.2)))
def ps_B_hashBlocks_24 (h : HP) (a1 : Int64) (v1 : Int64 × Int32 × HP) (v2 : Int64 × Int32 × HP) : Prop := ((v2.2.1 ≤ 6 → ((p_B_blockOf v2.2.2 v1.2.1 v2.2.1) ∧ (∃ y, v_B_blockOf v2.2.2 v1.2.1 v2.2.1 = .inr y))) ∧ (¬ v2.2.1 ≤ 6 → True))
def s_B_hashBlocks_65 (h : HP) (a1 : Int64) (v1 : Int64 × Int32 × HP) (r2 : Int64 × Int32 × HP) (v2 : Int64 × Int32) (v3 : Int64 × Int32) : (Int64 × Int32) ⊕ (Int64 × Int32) := (if v3.2 ≤ 2 then (match v_B_duty r2.2.2 v1.2.1 v2.2 v3.2 with | .inl _ => .inl v3 | .inr y6 => (.inl (((31 * v3.1) + ((y6).toInt64)), (v3.2 + 1)))) else (.inr (v3.1, v3.2)))
def ps_B_hashBlocks_65 (h : HP) (a1 : Int64) (v1 : Int64 × Int32 × HP) (r2 : Int64 × Int32 × HP) (v2 : Int64 × Int32) (v3 : Int64 × Int32) : Prop := ((v3.2 ≤ 2 → ((p_B_duty r2.2.2 v1.2.1 v2.2 v3.2) ∧ (∃ y, v_B_duty r2.2.2 v1.2.1 v2.2 v3.2 = .inr y))) ∧ (¬ v3.2 ≤ 2 → True))
def s_B_hashBlocks_56 (h : HP) (a1 : Int64) (v1 : Int64 × Int32 × HP) (r2 : Int64 × Int32 × HP) (v2 : Int64 × Int32) : (Int64 × Int32) ⊕ (Int64 × Int32) := (if v2.2 ≤ 2 then (match itr (s_B_hashBlocks_65 h a1 v1 r2 v2) NF (v2.1, 0) with | some r5 => (.inl (r5.1, (v2.2 + 1))) | none => .inl v2) else (.inr (v2.1, v2.2)))
def ps_B_hashBlocks_56 (h : HP) (a1 : Int64) (v1 : Int64 × Int32 × HP) (r2 : Int64 × Int32 × HP) (v2 : Int64 × Int32) : Prop := ((v2.2 ≤ 2 → (itrp (s_B_hashBlocks_65 h a1 v1 r2 v2) (ps_B_hashBlocks_65 h a1 v1 r2 v2) NF (v2.1, 0))) ∧ (¬ v2.2 ≤ 2 → True))
def s_B_hashBlocks_14 (h : HP) (a1 : Int64) (v1 : Int64 × Int32 × HP) : (Int64 × Int32 × HP) ⊕ (Int64 × Int32 × HP) := (if v1.2.1 < (v_T_blocks h) then (match itr (s_B_hashBlocks_24 h a1 v1) NF (v1.1, 0, v1.2.2) with | some r2 => (match itr (s_B_hashBlocks_56 h a1 v1 r2) NF (r2.1, 0) with | some r4 => (.inl (r4.1, (v1.2.1 + 1), r2.2.2)) | none => .inl v1) | none => .inl v1) else (.inr (v1.1, v1.2.1, v1.2.2)))
def ps_B_hashBlocks_14 (h : HP) (a1 : Int64) (v1 : Int64 × Int32 × HP) : Prop := ((v1.2.1 < (v_T_blocks h) → (itrp (s_B_hashBlocks_24 h a1 v1) (ps_B_hashBlocks_24 h a1 v1) NF (v1.1, 0, v1.2.2) ∧ ∀ r2, itr (s_B_hashBlocks_24 h a1 v1) NF (v1.1, 0, v1.2.2) = some r2 → (itrp (s_B_hashBlocks_56 h a1 v1 r2) (ps_B_hashBlocks_56 h a1 v1 r2) NF (r2.1, 0)))) ∧ (¬ v1.2.1 < (v_T_blocks h) → True))
def v_B_hashBlocks (h : HP) (a1 : Int64) : Int64 × HP := (match itr (s_B_hashBlocks_14 h a1) NF (a1, 0, h) with | some r1 => (r1.1, r1.2.2) | none => (0, h))
def p_B_hashBlocks (h : HP) (a1 : Int64) : Prop := ((p_T_blocks h) ∧ (itrp (s_B_hashBlocks_14 h a1) (ps_B_hashBlocks_14 h a1) NF (a1, 0, h)))
def g_B_hashBlocks (_ _ : List Sh) (as : List Value) (h : HP) : GR := match as with
  | [.ref o1, .long a1] => (Nat.beq o1 38, p_B_hashBlocks h a1, none, some (.long (v_B_hashBlocks h a1).1), (v_B_hashBlocks h a1).2)
  | _ => bad h
def d_B_hashBlocks (k : Nat) : CD := (k, yX5_hashBlocks, cX5_hashBlocks, 9, some .long, 2, 8, 138, 0, false, true, g_B_hashBlocks)
theorem chk_B_hashBlocks : ∀ pc, am_chk cX5_hashBlocks k_B_hashBlocks pc = true := am_chkall 109 (by decide +kernel) (fun pc h => by unfold k_B_hashBlocks; rw [Nat.ble_eq_true_of_le h]; rfl)
theorem pf_B_hashBlocks : plainFor yX5_hashBlocks = true := by decide +kernel
theorem cu_B_hashBlocks : Cond.code yX5_hashBlocks cX5_hashBlocks 9 (some .long) ∈ am_U := am_tb 614 (by decide +kernel) rfl
set_option maxHeartbeats 20000000 in
set_option maxRecDepth 100000 in
theorem ev_B_hashBlocks {e1 e2 : List Sh} {P : AR → HP → Prop} (h : HP) (a1 : Int64) (hp : p_B_hashBlocks h a1) (hP : ∀ q, v_B_hashBlocks h a1 = q → RJW P h q) : am_Ev m_B_hashBlocks (WB ++ e1) (RO ++ e2) P (0, [.ref 38, .long a1, .retAddr 0, .retAddr 0, .retAddr 0, .retAddr 0, .retAddr 0, .retAddr 0, .retAddr 0], [], h) := by
  unfold p_B_hashBlocks at hp
  refine am_Ev_G [14] 400 _ ?_
  show ((p_T_blocks h) ∧ am_Ev m_B_hashBlocks (WB ++ e1) (RO ++ e2) P (14, [.ref 38, .long a1, .retAddr 0, .long a1, .retAddr 0, .int (v_T_blocks h), .int 0, .retAddr 0, .retAddr 0], [], h))
  obtain ⟨hob, hp⟩ := hp
  refine ⟨hob, ?_⟩
  refine am_fg 1 ?_
  have hpl := hp
  refine am_itr (E := (fun (v1 : Int64 × Int32 × HP) => am_Ev m_B_hashBlocks (WB ++ e1) (RO ++ e2) P (14, [.ref 38, .retAddr 0, .retAddr 0, .long v1.1, .retAddr 0, .int (v_T_blocks h), .int v1.2.1, .retAddr 0, .retAddr 0], [], v1.2.2))) (E' := (fun (r1 : Int64 × Int32 × HP) => am_Ev m_B_hashBlocks (WB ++ e1) (RO ++ e2) P (107, [.ref 38, .retAddr 0, .retAddr 0, .long r1.1, .retAddr 0, .int (v_T_blocks h), .int r1.2.1, .retAddr 0, .retAddr 0], [], r1.2.2))) (s_B_hashBlocks_14 h a1) (ps_B_hashBlocks_14 h a1) ?_ NF (a1, 0, h) hpl ?_
  · intro v1 hp hc1 hx1
    show am_Ev m_B_hashBlocks (WB ++ e1) (RO ++ e2) P (14, [.ref 38, .retAddr 0, .retAddr 0, .long v1.1, .retAddr 0, .int (v_T_blocks h), .int v1.2.1, .retAddr 0, .retAddr 0], [], v1.2.2)
    unfold ps_B_hashBlocks_14 at hp
    refine am_Ev_G [24, 107] 400 _ ?_
    show ((¬ v1.2.1 < (v_T_blocks h) → am_Ev m_B_hashBlocks (WB ++ e1) (RO ++ e2) P (107, [.ref 38, .retAddr 0, .retAddr 0, .long v1.1, .retAddr 0, .int (v_T_blocks h), .int v1.2.1, .retAddr 0, .retAddr 0], [], v1.2.2)) ∧ (v1.2.1 < (v_T_blocks h) → am_Ev m_B_hashBlocks (WB ++ e1) (RO ++ e2) P (24, [.ref 38, .retAddr 0, .retAddr 0, .long v1.1, .retAddr 0, .int (v_T_blocks h), .int v1.2.1, .int 0, .retAddr 0], [], v1.2.2)))
    refine ⟨fun c1 => ?_, fun c1 => ?_⟩
    · skip
      exact hx1 (v1.1, v1.2.1, v1.2.2) (by unfold s_B_hashBlocks_14; simp only [if_neg c1])
    · have hp := hp.1 c1
      obtain ⟨hpl, hp⟩ := hp
      refine am_itr (E := (fun (v2 : Int64 × Int32 × HP) => am_Ev m_B_hashBlocks (WB ++ e1) (RO ++ e2) P (24, [.ref 38, .retAddr 0, .retAddr 0, .long v2.1, .retAddr 0, .int (v_T_blocks h), .int v1.2.1, .int v2.2.1, .retAddr 0], [], v2.2.2))) (E' := (fun (r2 : Int64 × Int32 × HP) => am_Ev m_B_hashBlocks (WB ++ e1) (RO ++ e2) P (53, [.ref 38, .retAddr 0, .retAddr 0, .long r2.1, .retAddr 0, .int (v_T_blocks h), .int v1.2.1, .int r2.2.1, .retAddr 0], [], r2.2.2))) (s_B_hashBlocks_24 h a1 v1) (ps_B_hashBlocks_24 h a1 v1) ?_ NF (v1.1, 0, v1.2.2) hpl ?_
      · intro v2 hp hc2 hx2
        show am_Ev m_B_hashBlocks (WB ++ e1) (RO ++ e2) P (24, [.ref 38, .retAddr 0, .retAddr 0, .long v2.1, .retAddr 0, .int (v_T_blocks h), .int v1.2.1, .int v2.2.1, .retAddr 0], [], v2.2.2)
        unfold ps_B_hashBlocks_24 at hp
        refine am_Ev_G [28] 400 _ ?_
        show am_Ev m_B_hashBlocks (WB ++ e1) (RO ++ e2) P (28, [.ref 38, .retAddr 0, .retAddr 0, .long v2.1, .retAddr 0, .int (v_T_blocks h), .int v1.2.1, .int v2.2.1, .retAddr 0], [.int 6, .int v2.2.1], v2.2.2)
        refine am_Ev_G [44, 53] 400 _ ?_
        show ((¬ v2.2.1 ≤ 6 → am_Ev m_B_hashBlocks (WB ++ e1) (RO ++ e2) P (53, [.ref 38, .retAddr 0, .retAddr 0, .long v2.1, .retAddr 0, .int (v_T_blocks h), .int v1.2.1, .int v2.2.1, .retAddr 0], [], v2.2.2)) ∧ (v2.2.1 ≤ 6 → ((p_B_blockOf v2.2.2 v1.2.1 v2.2.1) ∧ ((∀ E, rthr (v_B_blockOf v2.2.2 v1.2.1 v2.2.1) = some E → P (.inr E) (rhpI v2.2.2 (v_B_blockOf v2.2.2 v1.2.1 v2.2.1))) ∧ (rthr (v_B_blockOf v2.2.2 v1.2.1 v2.2.1) = none → am_Ev m_B_hashBlocks (WB ++ e1) (RO ++ e2) P (44, [.ref 38, .retAddr 0, .retAddr 0, .long v2.1, .retAddr 0, .int (v_T_blocks h), .int v1.2.1, .int v2.2.1, .retAddr 0], (rvIW (v_B_blockOf v2.2.2 v1.2.1 v2.2.1)).toList ++ [.long (31 * v2.1)], (rhpI v2.2.2 (v_B_blockOf v2.2.2 v1.2.1 v2.2.1))))))))
        refine ⟨fun c2 => ?_, fun c2 => ?_⟩
        · skip
          exact hx2 (v2.1, v2.2.1, v2.2.2) (by unfold s_B_hashBlocks_24; simp only [if_neg c2])
        · have hp := hp.1 c2
          obtain ⟨hob, hp⟩ := hp
          refine ⟨hob, ?_⟩
          refine ⟨fun E2 h2 => ?_, fun h2 => ?_⟩
          · obtain ⟨y, hy⟩ := hp
            rw [hy] at h2
            cases h2
          · rcases c3 : v_B_blockOf v2.2.2 v1.2.1 v2.2.1 with E | y3
            · rw [c3] at h2
              cases h2
            · skip
              show am_Ev m_B_hashBlocks (WB ++ e1) (RO ++ e2) P (44, [.ref 38, .retAddr 0, .retAddr 0, .long v2.1, .retAddr 0, .int (v_T_blocks h), .int v1.2.1, .int v2.2.1, .retAddr 0], [.int y3.1, .long (31 * v2.1)], y3.2)
              refine am_Ev_G [24] 400 _ ?_
              show am_Ev m_B_hashBlocks (WB ++ e1) (RO ++ e2) P (24, [.ref 38, .retAddr 0, .retAddr 0, .long ((31 * v2.1) + ((y3.1).toInt64)), .retAddr 0, .int (v_T_blocks h), .int v1.2.1, .int (v2.2.1 + 1), .retAddr 0], [], y3.2)
              exact hc2 (((31 * v2.1) + ((y3.1).toInt64)), (v2.2.1 + 1), y3.2) (by unfold s_B_hashBlocks_24; simp only [if_pos c2, c3])
      · intro r2 hr4
        have hp := hp _ hr4
        show am_Ev m_B_hashBlocks (WB ++ e1) (RO ++ e2) P (53, [.ref 38, .retAddr 0, .retAddr 0, .long r2.1, .retAddr 0, .int (v_T_blocks h), .int v1.2.1, .int r2.2.1, .retAddr 0], [], r2.2.2)
        refine am_Ev_G [56] 400 _ ?_
        show am_Ev m_B_hashBlocks (WB ++ e1) (RO ++ e2) P (56, [.ref 38, .retAddr 0, .retAddr 0, .long r2.1, .retAddr 0, .int (v_T_blocks h), .int v1.2.1, .int 0, .retAddr 0], [], r2.2.2)
        have hpl := hp
        refine am_itr (E := (fun (v2 : Int64 × Int32) => am_Ev m_B_hashBlocks (WB ++ e1) (RO ++ e2) P (56, [.ref 38, .retAddr 0, .retAddr 0, .long v2.1, .retAddr 0, .int (v_T_blocks h), .int v1.2.1, .int v2.2, .retAddr 0], [], r2.2.2))) (E' := (fun (r4 : Int64 × Int32) => am_Ev m_B_hashBlocks (WB ++ e1) (RO ++ e2) P (101, [.ref 38, .retAddr 0, .retAddr 0, .long r4.1, .retAddr 0, .int (v_T_blocks h), .int v1.2.1, .int r4.2, .retAddr 0], [], r2.2.2))) (s_B_hashBlocks_56 h a1 v1 r2) (ps_B_hashBlocks_56 h a1 v1 r2) ?_ NF (r2.1, 0) hpl ?_
        · intro v2 hp hc2 hx2
          show am_Ev m_B_hashBlocks (WB ++ e1) (RO ++ e2) P (56, [.ref 38, .retAddr 0, .retAddr 0, .long v2.1, .retAddr 0, .int (v_T_blocks h), .int v1.2.1, .int v2.2, .retAddr 0], [], r2.2.2)
          unfold ps_B_hashBlocks_56 at hp
          refine am_Ev_G [65, 101] 400 _ ?_
          show ((¬ v2.2 ≤ 2 → am_Ev m_B_hashBlocks (WB ++ e1) (RO ++ e2) P (101, [.ref 38, .retAddr 0, .retAddr 0, .long v2.1, .retAddr 0, .int (v_T_blocks h), .int v1.2.1, .int v2.2, .retAddr 0], [], r2.2.2)) ∧ (v2.2 ≤ 2 → am_Ev m_B_hashBlocks (WB ++ e1) (RO ++ e2) P (65, [.ref 38, .retAddr 0, .retAddr 0, .long v2.1, .retAddr 0, .int (v_T_blocks h), .int v1.2.1, .int v2.2, .int 0], [], r2.2.2)))
          refine ⟨fun c5 => ?_, fun c5 => ?_⟩
          · skip
            exact hx2 (v2.1, v2.2) (by unfold s_B_hashBlocks_56; simp only [if_neg c5])
          · have hp := hp.1 c5
            have hpl := hp
            refine am_itr (E := (fun (v3 : Int64 × Int32) => am_Ev m_B_hashBlocks (WB ++ e1) (RO ++ e2) P (65, [.ref 38, .retAddr 0, .retAddr 0, .long v3.1, .retAddr 0, .int (v_T_blocks h), .int v1.2.1, .int v2.2, .int v3.2], [], r2.2.2))) (E' := (fun (r5 : Int64 × Int32) => am_Ev m_B_hashBlocks (WB ++ e1) (RO ++ e2) P (95, [.ref 38, .retAddr 0, .retAddr 0, .long r5.1, .retAddr 0, .int (v_T_blocks h), .int v1.2.1, .int v2.2, .int r5.2], [], r2.2.2))) (s_B_hashBlocks_65 h a1 v1 r2 v2) (ps_B_hashBlocks_65 h a1 v1 r2 v2) ?_ NF (v2.1, 0) hpl ?_
            · intro v3 hp hc3 hx3
              show am_Ev m_B_hashBlocks (WB ++ e1) (RO ++ e2) P (65, [.ref 38, .retAddr 0, .retAddr 0, .long v3.1, .retAddr 0, .int (v_T_blocks h), .int v1.2.1, .int v2.2, .int v3.2], [], r2.2.2)
              unfold ps_B_hashBlocks_65 at hp
              refine am_Ev_G [74, 95] 400 _ ?_
              show ((¬ v3.2 ≤ 2 → am_Ev m_B_hashBlocks (WB ++ e1) (RO ++ e2) P (95, [.ref 38, .retAddr 0, .retAddr 0, .long v3.1, .retAddr 0, .int (v_T_blocks h), .int v1.2.1, .int v2.2, .int v3.2], [], r2.2.2)) ∧ (v3.2 ≤ 2 → am_Ev m_B_hashBlocks (WB ++ e1) (RO ++ e2) P (74, [.ref 38, .retAddr 0, .retAddr 0, .long v3.1, .retAddr 0, .int (v_T_blocks h), .int v1.2.1, .int v2.2, .int v3.2], [.long 31], r2.2.2)))
              refine ⟨fun c6 => ?_, fun c6 => ?_⟩
              · skip
                exact hx3 (v3.1, v3.2) (by unfold s_B_hashBlocks_65; simp only [if_neg c6])
              · have hp := hp.1 c6
                refine am_Ev_G [86] 400 _ ?_
                show ((p_B_duty r2.2.2 v1.2.1 v2.2 v3.2) ∧ ((∀ E, rthr (v_B_duty r2.2.2 v1.2.1 v2.2 v3.2) = some E → P (.inr E) r2.2.2) ∧ (rthr (v_B_duty r2.2.2 v1.2.1 v2.2 v3.2) = none → am_Ev m_B_hashBlocks (WB ++ e1) (RO ++ e2) P (86, [.ref 38, .retAddr 0, .retAddr 0, .long v3.1, .retAddr 0, .int (v_T_blocks h), .int v1.2.1, .int v2.2, .int v3.2], (rvI (v_B_duty r2.2.2 v1.2.1 v2.2 v3.2)).toList ++ [.long (31 * v3.1)], r2.2.2))))
                obtain ⟨hob, hp⟩ := hp
                refine ⟨hob, ?_⟩
                refine ⟨fun E2 h2 => ?_, fun h2 => ?_⟩
                · obtain ⟨y, hy⟩ := hp
                  rw [hy] at h2
                  cases h2
                · rcases c7 : v_B_duty r2.2.2 v1.2.1 v2.2 v3.2 with E | y6
                  · rw [c7] at h2
                    cases h2
                  · skip
                    show am_Ev m_B_hashBlocks (WB ++ e1) (RO ++ e2) P (86, [.ref 38, .retAddr 0, .retAddr 0, .long v3.1, .retAddr 0, .int (v_T_blocks h), .int v1.2.1, .int v2.2, .int v3.2], [.int y6, .long (31 * v3.1)], r2.2.2)
                    refine am_Ev_G [65] 400 _ ?_
                    show am_Ev m_B_hashBlocks (WB ++ e1) (RO ++ e2) P (65, [.ref 38, .retAddr 0, .retAddr 0, .long ((31 * v3.1) + ((y6).toInt64)), .retAddr 0, .int (v_T_blocks h), .int v1.2.1, .int v2.2, .int (v3.2 + 1)], [], r2.2.2)
                    exact hc3 (((31 * v3.1) + ((y6).toInt64)), (v3.2 + 1)) (by unfold s_B_hashBlocks_65; simp only [if_pos c6, c7])
            · intro r5 hr8
              show am_Ev m_B_hashBlocks (WB ++ e1) (RO ++ e2) P (95, [.ref 38, .retAddr 0, .retAddr 0, .long r5.1, .retAddr 0, .int (v_T_blocks h), .int v1.2.1, .int v2.2, .int r5.2], [], r2.2.2)
              refine am_Ev_G [56] 400 _ ?_
              show am_Ev m_B_hashBlocks (WB ++ e1) (RO ++ e2) P (56, [.ref 38, .retAddr 0, .retAddr 0, .long r5.1, .retAddr 0, .int (v_T_blocks h), .int v1.2.1, .int (v2.2 + 1), .int r5.2], [], r2.2.2)
              refine am_fg 8 ?_
              exact hc2 (r5.1, (v2.2 + 1)) (by unfold s_B_hashBlocks_56; simp only [if_pos c5, hr8])
        · intro r4 hr9
          show am_Ev m_B_hashBlocks (WB ++ e1) (RO ++ e2) P (101, [.ref 38, .retAddr 0, .retAddr 0, .long r4.1, .retAddr 0, .int (v_T_blocks h), .int v1.2.1, .int r4.2, .retAddr 0], [], r2.2.2)
          refine am_Ev_G [14] 400 _ ?_
          show am_Ev m_B_hashBlocks (WB ++ e1) (RO ++ e2) P (14, [.ref 38, .retAddr 0, .retAddr 0, .long r4.1, .retAddr 0, .int (v_T_blocks h), .int (v1.2.1 + 1), .int r4.2, .retAddr 0], [], r2.2.2)
          refine am_fg 7 ?_
          exact hc1 (r4.1, (v1.2.1 + 1), r2.2.2) (by unfold s_B_hashBlocks_14; simp only [if_pos c1, hr4, hr9])
  · intro r1 hr10
    show am_Ev m_B_hashBlocks (WB ++ e1) (RO ++ e2) P (107, [.ref 38, .retAddr 0, .retAddr 0, .long r1.1, .retAddr 0, .int (v_T_blocks h), .int r1.2.1, .retAddr 0, .retAddr 0], [], r1.2.2)
    refine am_Ev_G [] 400 _ ?_
    show P (.inl (some (.long r1.1))) r1.2.2
    exact hP (r1.1, r1.2.2) (by unfold v_B_hashBlocks; simp only [hr10])
theorem ok_B_hashBlocks {l : Launch} (hl : l.stackTraces = false) (e1 e2 : List Sh) (k : Nat) : am_Ok l (WB ++ e1) (RO ++ e2) (d_B_hashBlocks k) := by
  refine am_met hl (own := RX5) (M := m_B_hashBlocks) rfl pf_B_hashBlocks cu_B_hashBlocks rfl rfl rfl rfl (fun _ => rfl) rfl ⟨chk_B_hashBlocks, (am_c (fl_B_10) am_n), (am_c (lk_B_153) (am_c (lk_B_341) (am_c (lk_B_344) am_n))), (am_c (ck_B_303) am_n), (am_n)⟩ (am_n) (am_c (ok_TB_blocks hl e1 _ 24 (by decide)) (am_c (ok_B_blockOf hl e1 _ 15) (am_c (ok_B_duty hl e1 _ 15) am_n))) (fun z => nomatch z) ?_ ?_
  · intro _ as h hg
    show g_thr (g_B_hashBlocks (WB ++ e1) (RO ++ e2) as h) = none
    unfold g_B_hashBlocks
    split <;> rfl
  · intro as h hg hp
    revert hg hp
    show g_ok (g_B_hashBlocks (WB ++ e1) (RO ++ e2) as h) = true → g_pre (g_B_hashBlocks (WB ++ e1) (RO ++ e2) as h) → _ ∧ am_Ev m_B_hashBlocks (WB ++ e1) (RO ++ e2) (am_eq (g_B_hashBlocks (WB ++ e1) (RO ++ e2) as h)) (0, am_ent as 9, [], h)
    unfold g_B_hashBlocks
    split
    · rename_i o1 a1
      intro hc hp
      change (Nat.beq o1 38) = true at hc
      obtain rfl := am_beq hc
      exact ⟨Nat.le_of_ble_eq_true rfl, ev_B_hashBlocks h a1 hp eqRJW⟩
    · exact fun z => nomatch z
def k_B_bitsOf (pc : Nat) : Ent := bif Nat.ble 51 pc then am_nop else bif Nat.ble 26 pc then (bif Nat.ble 41 pc then (bif Nat.ble 47 pc then (bif Nat.ble 49 pc then (bif Nat.ble 50 pc then (bif Nat.beq pc 50 then (.lreturn, 0, 0, []) else am_nop) else (bif Nat.beq pc 49 then (.ladd, 0, 0, []) else am_nop)) else (bif Nat.ble 48 pc then (bif Nat.beq pc 48 then (.d2l, 0, 0, []) else am_nop) else (bif Nat.beq pc 47 then (.dmul, 0, 0, []) else am_nop))) else (bif Nat.ble 43 pc then (bif Nat.ble 44 pc then (bif Nat.beq pc 44 then (.ldc2_w 357, 0, 0, []) else am_nop) else (bif Nat.beq pc 43 then (.dsub, 0, 0, []) else am_nop)) else (bif Nat.ble 42 pc then (bif Nat.beq pc 42 then (.dconst 1, 0, 0, []) else am_nop) else (bif Nat.beq pc 41 then (.dload_n 2, 0, 2, []) else am_nop)))) else (bif Nat.ble 32 pc then (bif Nat.ble 37 pc then (bif Nat.ble 40 pc then (bif Nat.beq pc 40 then (.lmul, 0, 0, []) else am_nop) else (bif Nat.beq pc 37 then (.ldc2_w 355, 0, 0, []) else am_nop)) else (bif Nat.ble 35 pc then (bif Nat.beq pc 35 then (.lload 4, 0, 4, []) else am_nop) else (bif Nat.beq pc 32 then (.goto (-25), 0, 7, []) else am_nop))) else (bif Nat.ble 29 pc then (bif Nat.ble 30 pc then (bif Nat.beq pc 30 then (.lstore 4, 0, 4, []) else am_nop) else (bif Nat.beq pc 29 then (.lsub, 0, 0, []) else am_nop)) else (bif Nat.ble 28 pc then (bif Nat.beq pc 28 then (.lconst 1, 0, 0, []) else am_nop) else (bif Nat.beq pc 26 then (.lload 4, 0, 4, []) else am_nop))))) else (bif Nat.ble 13 pc then (bif Nat.ble 20 pc then (bif Nat.ble 24 pc then (bif Nat.ble 25 pc then (bif Nat.beq pc 25 then (.dstore_n 2, 0, 2, []) else am_nop) else (bif Nat.beq pc 24 then (.dmul, 0, 0, []) else am_nop)) else (bif Nat.ble 21 pc then (bif Nat.beq pc 21 then (.ldc2_w 353, 0, 0, []) else am_nop) else (bif Nat.beq pc 20 then (.dload_n 2, 0, 2, []) else am_nop))) else (bif Nat.ble 16 pc then (bif Nat.ble 17 pc then (bif Nat.beq pc 17 then (.ifCond .le 18, 0, 35, []) else am_nop) else (bif Nat.beq pc 16 then (.lcmp, 0, 0, []) else am_nop)) else (bif Nat.ble 15 pc then (bif Nat.beq pc 15 then (.lconst 1, 0, 0, []) else am_nop) else (bif Nat.beq pc 13 then (.lload 4, 0, 4, []) else am_nop)))) else (bif Nat.ble 7 pc then (bif Nat.ble 9 pc then (bif Nat.ble 10 pc then (bif Nat.beq pc 10 then (.ifCond .ge 25, 0, 35, []) else am_nop) else (bif Nat.beq pc 9 then (.dcmp .g, 0, 0, []) else am_nop)) else (bif Nat.ble 8 pc then (bif Nat.beq pc 8 then (.dconst 1, 0, 0, []) else am_nop) else (bif Nat.beq pc 7 then (.dload_n 2, 0, 2, []) else am_nop))) else (bif Nat.ble 2 pc then (bif Nat.ble 5 pc then (bif Nat.beq pc 5 then (.lstore 4, 0, 4, []) else am_nop) else (bif Nat.beq pc 2 then (.ldc2_w 351, 0, 0, []) else am_nop)) else (bif Nat.ble 1 pc then (bif Nat.beq pc 1 then (.dstore_n 2, 0, 2, []) else am_nop) else (bif Nat.beq pc 0 then (.dload_n 0, 0, 0, []) else am_nop)))))
theorem ck_B_351 : am_cok RX5 351 (.long 1023) := am_tb 667 (by decide +kernel) rfl
theorem ck_B_353 : am_cok RX5 353 (.double 4611686018427387904) := am_tb 668 (by decide +kernel) rfl
theorem ck_B_355 : am_cok RX5 355 (.long 4503599627370496) := am_tb 669 (by decide +kernel) rfl
theorem ck_B_357 : am_cok RX5 357 (.double 4841369599423283200) := am_tb 670 (by decide +kernel) rfl
def m_B_bitsOf : MI := (k_B_bitsOf, [], [], [(351, .long 1023), (353, .double 4611686018427387904), (355, .long 4503599627370496), (357, .double 4841369599423283200)], [], [], [], 0, 0, some .long, fun _ => 0, 1)
def s_B_bitsOf_7 (h : HP) (a1 : UInt64) (v1 : UInt64 × Int64) : (UInt64 × Int64) ⊕ (UInt64 × Int64) := (if (Op.cmpValue (FP.dcmp v1.1 FP.dconst1) .g) < 0 then (if (lg_cmp v1.2 1) ≤ 0 then (.inr (v1.1, v1.2)) else (.inl ((FP.dmul v1.1 4611686018427387904), (v1.2 - 1)))) else (.inr (v1.1, v1.2)))
def ps_B_bitsOf_7 (h : HP) (a1 : UInt64) (v1 : UInt64 × Int64) : Prop := (((Op.cmpValue (FP.dcmp v1.1 FP.dconst1) .g) < 0 → (((lg_cmp v1.2 1) ≤ 0 → True) ∧ (¬ (lg_cmp v1.2 1) ≤ 0 → (vf_n64 (FP.dmul v1.1 4611686018427387904))))) ∧ (¬ (Op.cmpValue (FP.dcmp v1.1 FP.dconst1) .g) < 0 → True))
def v_B_bitsOf (h : HP) (a1 : UInt64) : Int64 := (match itr (s_B_bitsOf_7 h a1) NF (a1, 1023) with | some r1 => ((r1.2 * 4503599627370496) + (FP.d2l (FP.dmul (FP.dsub r1.1 FP.dconst1) 4841369599423283200))) | none => 0)
def p_B_bitsOf (h : HP) (a1 : UInt64) : Prop := (itrp (s_B_bitsOf_7 h a1) (ps_B_bitsOf_7 h a1) NF (a1, 1023) ∧ ∀ r1, itr (s_B_bitsOf_7 h a1) NF (a1, 1023) = some r1 → ((vf_n64 (FP.dsub r1.1 FP.dconst1)) ∧ (vf_n64 (FP.dmul (FP.dsub r1.1 FP.dconst1) 4841369599423283200))))
def g_B_bitsOf (_ _ : List Sh) (as : List Value) (h : HP) : GR := match as with
  | [.double a1] => (true, p_B_bitsOf h a1, none, some (.long (v_B_bitsOf h a1)), h)
  | _ => bad h
def d_B_bitsOf (k : Nat) : CD := (k, yX5_bitsOf, cX5_bitsOf, 6, some .long, 1, 0, 0, 0, false, true, g_B_bitsOf)
theorem chk_B_bitsOf : ∀ pc, am_chk cX5_bitsOf k_B_bitsOf pc = true := am_chkall 51 (by decide +kernel) (fun pc h => by unfold k_B_bitsOf; rw [Nat.ble_eq_true_of_le h]; rfl)
theorem pf_B_bitsOf : plainFor yX5_bitsOf = true := by decide +kernel
theorem cu_B_bitsOf : Cond.code yX5_bitsOf cX5_bitsOf 6 (some .long) ∈ am_U := am_tb 666 (by decide +kernel) rfl
set_option maxRecDepth 100000 in
theorem ev_B_bitsOf {e1 e2 : List Sh} {P : AR → HP → Prop} (h : HP) (a1 : UInt64) (hp : p_B_bitsOf h a1) (hP : ∀ q, v_B_bitsOf h a1 = q → RJ P h q) : am_Ev m_B_bitsOf (WB ++ e1) (RO ++ e2) P (0, [.double a1, .retAddr 0, .retAddr 0, .retAddr 0, .retAddr 0, .retAddr 0], [], h) := by
  unfold p_B_bitsOf at hp
  refine am_Ev_G [7] 400 _ ?_
  show am_Ev m_B_bitsOf (WB ++ e1) (RO ++ e2) P (7, [.double a1, .retAddr 0, .double a1, .retAddr 0, .long 1023, .retAddr 0], [], h)
  refine am_fg 0 ?_
  obtain ⟨hpl, hp⟩ := hp
  refine am_itr (E := (fun (v1 : UInt64 × Int64) => am_Ev m_B_bitsOf (WB ++ e1) (RO ++ e2) P (7, [.retAddr 0, .retAddr 0, .double v1.1, .retAddr 0, .long v1.2, .retAddr 0], [], h))) (E' := (fun (r1 : UInt64 × Int64) => am_Ev m_B_bitsOf (WB ++ e1) (RO ++ e2) P (35, [.retAddr 0, .retAddr 0, .double r1.1, .retAddr 0, .long r1.2, .retAddr 0], [], h))) (s_B_bitsOf_7 h a1) (ps_B_bitsOf_7 h a1) ?_ NF (a1, 1023) hpl ?_
  · intro v1 hp hc1 hx1
    show am_Ev m_B_bitsOf (WB ++ e1) (RO ++ e2) P (7, [.retAddr 0, .retAddr 0, .double v1.1, .retAddr 0, .long v1.2, .retAddr 0], [], h)
    unfold ps_B_bitsOf_7 at hp
    refine am_Ev_G [25, 35] 400 _ ?_
    show ((¬ (Op.cmpValue (FP.dcmp v1.1 FP.dconst1) .g) < 0 → am_Ev m_B_bitsOf (WB ++ e1) (RO ++ e2) P (35, [.retAddr 0, .retAddr 0, .double v1.1, .retAddr 0, .long v1.2, .retAddr 0], [], h)) ∧ ((Op.cmpValue (FP.dcmp v1.1 FP.dconst1) .g) < 0 → (((lg_cmp v1.2 1) ≤ 0 → am_Ev m_B_bitsOf (WB ++ e1) (RO ++ e2) P (35, [.retAddr 0, .retAddr 0, .double v1.1, .retAddr 0, .long v1.2, .retAddr 0], [], h)) ∧ (¬ (lg_cmp v1.2 1) ≤ 0 → ((vf_n64 (FP.dmul v1.1 4611686018427387904)) ∧ am_Ev m_B_bitsOf (WB ++ e1) (RO ++ e2) P (25, [.retAddr 0, .retAddr 0, .double v1.1, .retAddr 0, .long v1.2, .retAddr 0], [.double (FP.dmul v1.1 4611686018427387904)], h))))))
    refine ⟨fun c1 => ?_, fun c1 => ?_⟩
    · skip
      exact hx1 (v1.1, v1.2) (by unfold s_B_bitsOf_7; simp only [if_neg c1])
    · have hp := hp.1 c1
      refine ⟨fun c2 => ?_, fun c2 => ?_⟩
      · skip
        exact hx1 (v1.1, v1.2) (by unfold s_B_bitsOf_7; simp only [if_pos c1, if_pos c2])
      · have hp := hp.2 c2
        refine ⟨hp, ?_⟩
        refine am_Ev_G [7] 400 _ ?_
        show am_Ev m_B_bitsOf (WB ++ e1) (RO ++ e2) P (7, [.retAddr 0, .retAddr 0, .double (FP.dmul v1.1 4611686018427387904), .retAddr 0, .long (v1.2 - 1), .retAddr 0], [], h)
        exact hc1 ((FP.dmul v1.1 4611686018427387904), (v1.2 - 1)) (by unfold s_B_bitsOf_7; simp only [if_pos c1, if_neg c2])
  · intro r1 hr3
    have hp := hp _ hr3
    show am_Ev m_B_bitsOf (WB ++ e1) (RO ++ e2) P (35, [.retAddr 0, .retAddr 0, .double r1.1, .retAddr 0, .long r1.2, .retAddr 0], [], h)
    refine am_Ev_G [50] 400 _ ?_
    show ((vf_n64 (FP.dsub r1.1 FP.dconst1)) ∧ ((vf_n64 (FP.dmul (FP.dsub r1.1 FP.dconst1) 4841369599423283200)) ∧ am_Ev m_B_bitsOf (WB ++ e1) (RO ++ e2) P (50, [.retAddr 0, .retAddr 0, .double r1.1, .retAddr 0, .long r1.2, .retAddr 0], [.long ((r1.2 * 4503599627370496) + (FP.d2l (FP.dmul (FP.dsub r1.1 FP.dconst1) 4841369599423283200)))], h)))
    obtain ⟨hob, hp⟩ := hp
    refine ⟨hob, ?_⟩
    refine ⟨hp, ?_⟩
    refine am_Ev_G [] 400 _ ?_
    show P (.inl (some (.long ((r1.2 * 4503599627370496) + (FP.d2l (FP.dmul (FP.dsub r1.1 FP.dconst1) 4841369599423283200)))))) h
    exact hP ((r1.2 * 4503599627370496) + (FP.d2l (FP.dmul (FP.dsub r1.1 FP.dconst1) 4841369599423283200))) (by unfold v_B_bitsOf; simp only [hr3])
theorem ok_B_bitsOf {l : Launch} (hl : l.stackTraces = false) (e1 e2 : List Sh) (k : Nat) : am_Ok l (WB ++ e1) (RO ++ e2) (d_B_bitsOf k) := by
  refine am_met hl (own := RX5) (M := m_B_bitsOf) rfl pf_B_bitsOf cu_B_bitsOf rfl rfl rfl rfl (fun _ => rfl) rfl ⟨chk_B_bitsOf, (am_n), (am_n), (am_c (ck_B_351) (am_c (ck_B_353) (am_c (ck_B_355) (am_c (ck_B_357) am_n)))), (am_n)⟩ (am_n) (am_n) (fun z => nomatch z) ?_ ?_
  · intro _ as h hg
    show g_thr (g_B_bitsOf (WB ++ e1) (RO ++ e2) as h) = none
    unfold g_B_bitsOf
    split <;> rfl
  · intro as h hg hp
    revert hg hp
    show g_ok (g_B_bitsOf (WB ++ e1) (RO ++ e2) as h) = true → g_pre (g_B_bitsOf (WB ++ e1) (RO ++ e2) as h) → _ ∧ am_Ev m_B_bitsOf (WB ++ e1) (RO ++ e2) (am_eq (g_B_bitsOf (WB ++ e1) (RO ++ e2) as h)) (0, am_ent as 6, [], h)
    unfold g_B_bitsOf
    split
    · rename_i a1
      intro hc hp
      exact ⟨Nat.le_of_ble_eq_true rfl, ev_B_bitsOf h a1 hp eqRJ⟩
    · exact fun z => nomatch z
def k_B_hashBuffer (pc : Nat) : Ent := bif Nat.ble 58 pc then am_nop else bif Nat.ble 27 pc then (bif Nat.ble 44 pc then (bif Nat.ble 50 pc then (bif Nat.ble 56 pc then (bif Nat.ble 57 pc then (bif Nat.beq pc 57 then (.lreturn, 0, 0, []) else am_nop) else (bif Nat.beq pc 56 then (.lload_n 3, 0, 3, []) else am_nop)) else (bif Nat.ble 53 pc then (bif Nat.beq pc 53 then (.goto (-35), 0, 18, []) else am_nop) else (bif Nat.beq pc 50 then (.iinc 5 1, 1, 5, []) else am_nop))) else (bif Nat.ble 48 pc then (bif Nat.ble 49 pc then (bif Nat.beq pc 49 then (.lstore_n 3, 0, 3, []) else am_nop) else (bif Nat.beq pc 48 then (.ladd, 0, 0, []) else am_nop)) else (bif Nat.ble 47 pc then (bif Nat.beq pc 47 then (.i2l, 0, 0, []) else am_nop) else (bif Nat.beq pc 44 then (.invokestatic 78, 0, 0, []) else am_nop)))) else (bif Nat.ble 35 pc then (bif Nat.ble 39 pc then (bif Nat.ble 42 pc then (bif Nat.beq pc 42 then (.iload 5, 0, 5, []) else am_nop) else (bif Nat.beq pc 39 then (.getfield 348, 0, 0, []) else am_nop)) else (bif Nat.ble 36 pc then (bif Nat.beq pc 36 then (.getfield 38, 0, 0, []) else am_nop) else (bif Nat.beq pc 35 then (.aload_n 0, 0, 0, []) else am_nop))) else (bif Nat.ble 33 pc then (bif Nat.ble 34 pc then (bif Nat.beq pc 34 then (.lmul, 0, 0, []) else am_nop) else (bif Nat.beq pc 33 then (.lload_n 3, 0, 3, []) else am_nop)) else (bif Nat.ble 30 pc then (bif Nat.beq pc 30 then (.ldc2_w 303, 0, 0, []) else am_nop) else (bif Nat.beq pc 27 then (.if_icmp .ge 29, 0, 56, []) else am_nop))))) else (bif Nat.ble 13 pc then (bif Nat.ble 18 pc then (bif Nat.ble 21 pc then (bif Nat.ble 24 pc then (bif Nat.beq pc 24 then (.getfield 161, 0, 0, []) else am_nop) else (bif Nat.beq pc 21 then (.getfield 38, 0, 0, []) else am_nop)) else (bif Nat.ble 20 pc then (bif Nat.beq pc 20 then (.aload_n 0, 0, 0, []) else am_nop) else (bif Nat.beq pc 18 then (.iload 5, 0, 5, []) else am_nop))) else (bif Nat.ble 15 pc then (bif Nat.ble 16 pc then (bif Nat.beq pc 16 then (.istore 5, 0, 5, []) else am_nop) else (bif Nat.beq pc 15 then (.iconst 0, 0, 0, []) else am_nop)) else (bif Nat.ble 14 pc then (bif Nat.beq pc 14 then (.lstore_n 3, 0, 3, []) else am_nop) else (bif Nat.beq pc 13 then (.ladd, 0, 0, []) else am_nop)))) else (bif Nat.ble 5 pc then (bif Nat.ble 9 pc then (bif Nat.ble 12 pc then (bif Nat.beq pc 12 then (.i2l, 0, 0, []) else am_nop) else (bif Nat.beq pc 9 then (.getfield 161, 0, 0, []) else am_nop)) else (bif Nat.ble 6 pc then (bif Nat.beq pc 6 then (.getfield 38, 0, 0, []) else am_nop) else (bif Nat.beq pc 5 then (.aload_n 0, 0, 0, []) else am_nop))) else (bif Nat.ble 3 pc then (bif Nat.ble 4 pc then (bif Nat.beq pc 4 then (.lmul, 0, 0, []) else am_nop) else (bif Nat.beq pc 3 then (.lload_n 1, 0, 1, []) else am_nop)) else (bif Nat.beq pc 0 then (.ldc2_w 303, 0, 0, []) else am_nop))))
theorem fl_B_348 : am_fok RX5 348 (3, 0) := ⟨RX3, TX3, 4, rfl, by decide, rfl, Or.inr ⟨"BusBlocks", am_tb 165 (by decide +kernel) rfl⟩⟩
def m_B_hashBuffer : MI := (k_B_hashBuffer, [(38, 5, 4), (161, 3, 2), (348, 3, 0)], [(78, d_B_at 0)], [(303, .long 31)], [], [], [], 1, 21, some .long, fun _ => 0, 1)
def s_B_hashBuffer_18 (h : HP) (a1 : Int64) (v1 : Int64 × Int32) : (Int64 × Int32) ⊕ (Int64 × Int32) := (if v1.2 < (h.1 18 2) then (.inl (((31 * v1.1) + (((v_at 60 (h.1 19) v1.2)).toInt64)), (v1.2 + 1))) else (.inr (v1.1, v1.2)))
def ps_B_hashBuffer_18 (h : HP) (a1 : Int64) (v1 : Int64 × Int32) : Prop := True
def v_B_hashBuffer (h : HP) (a1 : Int64) : Int64 := (match itr (s_B_hashBuffer_18 h a1) NF (((31 * a1) + (((h.1 18 2)).toInt64)), 0) with | some r1 => r1.1 | none => 0)
def p_B_hashBuffer (h : HP) (a1 : Int64) : Prop := (itrp (s_B_hashBuffer_18 h a1) (ps_B_hashBuffer_18 h a1) NF (((31 * a1) + (((h.1 18 2)).toInt64)), 0))
def g_B_hashBuffer (_ _ : List Sh) (as : List Value) (h : HP) : GR := match as with
  | [.ref o1, .long a1] => (Nat.beq o1 38, p_B_hashBuffer h a1, none, some (.long (v_B_hashBuffer h a1)), h)
  | _ => bad h
def d_B_hashBuffer (k : Nat) : CD := (k, yX5_hashBuffer, cX5_hashBuffer, 6, some .long, 2, 1, 21, 0, false, true, g_B_hashBuffer)
theorem chk_B_hashBuffer : ∀ pc, am_chk cX5_hashBuffer k_B_hashBuffer pc = true := am_chkall 58 (by decide +kernel) (fun pc h => by unfold k_B_hashBuffer; rw [Nat.ble_eq_true_of_le h]; rfl)
theorem pf_B_hashBuffer : plainFor yX5_hashBuffer = true := by decide +kernel
theorem cu_B_hashBuffer : Cond.code yX5_hashBuffer cX5_hashBuffer 6 (some .long) ∈ am_U := am_tb 674 (by decide +kernel) rfl
set_option maxRecDepth 100000 in
theorem ev_B_hashBuffer {e1 e2 : List Sh} {P : AR → HP → Prop} (h : HP) (a1 : Int64) (hp : p_B_hashBuffer h a1) (hP : ∀ q, v_B_hashBuffer h a1 = q → RJ P h q) : am_Ev m_B_hashBuffer (WB ++ e1) (RO ++ e2) P (0, [.ref 38, .long a1, .retAddr 0, .retAddr 0, .retAddr 0, .retAddr 0], [], h) := by
  unfold p_B_hashBuffer at hp
  refine am_Ev_G [18] 400 _ ?_
  show am_Ev m_B_hashBuffer (WB ++ e1) (RO ++ e2) P (18, [.ref 38, .long a1, .retAddr 0, .long ((31 * a1) + (((h.1 18 2)).toInt64)), .retAddr 0, .int 0], [], h)
  refine am_fg 1 ?_
  have hpl := hp
  refine am_itr (E := (fun (v1 : Int64 × Int32) => am_Ev m_B_hashBuffer (WB ++ e1) (RO ++ e2) P (18, [.ref 38, .retAddr 0, .retAddr 0, .long v1.1, .retAddr 0, .int v1.2], [], h))) (E' := (fun (r1 : Int64 × Int32) => am_Ev m_B_hashBuffer (WB ++ e1) (RO ++ e2) P (56, [.ref 38, .retAddr 0, .retAddr 0, .long r1.1, .retAddr 0, .int r1.2], [], h))) (s_B_hashBuffer_18 h a1) (ps_B_hashBuffer_18 h a1) ?_ NF (((31 * a1) + (((h.1 18 2)).toInt64)), 0) hpl ?_
  · intro v1 hp hc1 hx1
    show am_Ev m_B_hashBuffer (WB ++ e1) (RO ++ e2) P (18, [.ref 38, .retAddr 0, .retAddr 0, .long v1.1, .retAddr 0, .int v1.2], [], h)
    refine am_Ev_G [27] 400 _ ?_
    show am_Ev m_B_hashBuffer (WB ++ e1) (RO ++ e2) P (27, [.ref 38, .retAddr 0, .retAddr 0, .long v1.1, .retAddr 0, .int v1.2], [.int (h.1 18 2), .int v1.2], h)
    refine am_Ev_G [47, 56] 400 _ ?_
    show ((¬ v1.2 < (h.1 18 2) → am_Ev m_B_hashBuffer (WB ++ e1) (RO ++ e2) P (56, [.ref 38, .retAddr 0, .retAddr 0, .long v1.1, .retAddr 0, .int v1.2], [], h)) ∧ (v1.2 < (h.1 18 2) → am_Ev m_B_hashBuffer (WB ++ e1) (RO ++ e2) P (47, [.ref 38, .retAddr 0, .retAddr 0, .long v1.1, .retAddr 0, .int v1.2], [.int (v_at 60 (h.1 19) v1.2), .long (31 * v1.1)], h)))
    refine ⟨fun c1 => ?_, fun c1 => ?_⟩
    · skip
      exact hx1 (v1.1, v1.2) (by unfold s_B_hashBuffer_18; simp only [if_neg c1])
    · skip
      refine am_Ev_G [18] 400 _ ?_
      show am_Ev m_B_hashBuffer (WB ++ e1) (RO ++ e2) P (18, [.ref 38, .retAddr 0, .retAddr 0, .long ((31 * v1.1) + (((v_at 60 (h.1 19) v1.2)).toInt64)), .retAddr 0, .int (v1.2 + 1)], [], h)
      exact hc1 (((31 * v1.1) + (((v_at 60 (h.1 19) v1.2)).toInt64)), (v1.2 + 1)) (by unfold s_B_hashBuffer_18; simp only [if_pos c1])
  · intro r1 hr2
    show am_Ev m_B_hashBuffer (WB ++ e1) (RO ++ e2) P (56, [.ref 38, .retAddr 0, .retAddr 0, .long r1.1, .retAddr 0, .int r1.2], [], h)
    refine am_Ev_G [] 400 _ ?_
    show P (.inl (some (.long r1.1))) h
    exact hP r1.1 (by unfold v_B_hashBuffer; simp only [hr2])
theorem ok_B_hashBuffer {l : Launch} (hl : l.stackTraces = false) (e1 e2 : List Sh) (k : Nat) : am_Ok l (WB ++ e1) (RO ++ e2) (d_B_hashBuffer k) := by
  refine am_met hl (own := RX5) (M := m_B_hashBuffer) rfl pf_B_hashBuffer cu_B_hashBuffer rfl rfl rfl rfl (fun _ => rfl) rfl ⟨chk_B_hashBuffer, (am_c (fl_B_38) (am_c (fl_B_161) (am_c (fl_B_348) am_n))), (am_c (lk_B_78) am_n), (am_c (ck_B_303) am_n), (am_n)⟩ (am_n) (am_c (ok_B_at hl _ _ 0) am_n) (fun z => nomatch z) ?_ ?_
  · intro _ as h hg
    show g_thr (g_B_hashBuffer (WB ++ e1) (RO ++ e2) as h) = none
    unfold g_B_hashBuffer
    split <;> rfl
  · intro as h hg hp
    revert hg hp
    show g_ok (g_B_hashBuffer (WB ++ e1) (RO ++ e2) as h) = true → g_pre (g_B_hashBuffer (WB ++ e1) (RO ++ e2) as h) → _ ∧ am_Ev m_B_hashBuffer (WB ++ e1) (RO ++ e2) (am_eq (g_B_hashBuffer (WB ++ e1) (RO ++ e2) as h)) (0, am_ent as 6, [], h)
    unfold g_B_hashBuffer
    split
    · rename_i o1 a1
      intro hc hp
      change (Nat.beq o1 38) = true at hc
      obtain rfl := am_beq hc
      exact ⟨Nat.le_of_ble_eq_true rfl, ev_B_hashBuffer h a1 hp eqRJ⟩
    · exact fun z => nomatch z
end
