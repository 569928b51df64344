/-! BusBlocksModel, out of its code (written by gen/meth.py). -/
noncomputable section
def k_M_share (pc : Nat) : Ent := bif Nat.ble 84 pc then am_nop else bif Nat.ble 39 pc then (bif Nat.ble 64 pc then (bif Nat.ble 72 pc then (bif Nat.ble 79 pc then (bif Nat.ble 82 pc then (bif Nat.ble 83 pc then (bif Nat.beq pc 83 then (.dreturn, 0, 0, []) else am_nop) else (bif Nat.beq pc 82 then (.ddiv, 0, 0, []) else am_nop)) else (bif Nat.ble 80 pc then (bif Nat.beq pc 80 then (.dload 5, 0, 5, []) else am_nop) else (bif Nat.beq pc 79 then (.dload_n 3, 0, 3, []) else am_nop))) else (bif Nat.ble 75 pc then (bif Nat.ble 76 pc then (bif Nat.beq pc 76 then (.goto 7, 0, 83, []) else am_nop) else (bif Nat.beq pc 75 then (.dconst 1, 0, 0, []) else am_nop)) else (bif Nat.beq pc 72 then (.ifCond .ne 7, 0, 79, []) else am_nop))) else (bif Nat.ble 67 pc then (bif Nat.ble 69 pc then (bif Nat.ble 71 pc then (bif Nat.beq pc 71 then (.iload_n 1, 0, 1, []) else am_nop) else (bif Nat.beq pc 69 then (.dstore 5, 0, 5, []) else am_nop)) else (bif Nat.ble 68 pc then (bif Nat.beq pc 68 then (.i2d, 0, 0, []) else am_nop) else (bif Nat.beq pc 67 then (.iload_n 1, 0, 1, []) else am_nop))) else (bif Nat.ble 65 pc then (bif Nat.ble 66 pc then (bif Nat.beq pc 66 then (.dstore_n 3, 0, 3, []) else am_nop) else (bif Nat.beq pc 65 then (.i2d, 0, 0, []) else am_nop)) else (bif Nat.beq pc 64 then (.iload_n 2, 0, 2, []) else am_nop)))) else (bif Nat.ble 49 pc then (bif Nat.ble 56 pc then (bif Nat.ble 58 pc then (bif Nat.ble 61 pc then (bif Nat.beq pc 61 then (.goto (-55), 0, 6, []) else am_nop) else (bif Nat.beq pc 58 then (.iinc 3 1, 1, 3, []) else am_nop)) else (bif Nat.ble 57 pc then (bif Nat.beq pc 57 then (.istore_n 2, 0, 2, []) else am_nop) else (bif Nat.beq pc 56 then (.iadd, 0, 0, []) else am_nop))) else (bif Nat.ble 52 pc then (bif Nat.ble 55 pc then (bif Nat.beq pc 55 then (.iconst 0, 0, 0, []) else am_nop) else (bif Nat.beq pc 52 then (.goto 4, 0, 56, []) else am_nop)) else (bif Nat.beq pc 49 then (.invokevirtual 49, 0, 0, []) else am_nop))) else (bif Nat.ble 46 pc then (bif Nat.ble 47 pc then (bif Nat.ble 48 pc then (bif Nat.beq pc 48 then (.iconst 4, 4, 0, []) else am_nop) else (bif Nat.beq pc 47 then (.iload_n 3, 0, 3, []) else am_nop)) else (bif Nat.beq pc 46 then (.aload_n 0, 0, 0, []) else am_nop)) else (bif Nat.ble 40 pc then (bif Nat.ble 43 pc then (bif Nat.beq pc 43 then (.ifCond .eq 12, 0, 55, []) else am_nop) else (bif Nat.beq pc 40 then (.invokevirtual 60, 0, 0, []) else am_nop)) else (bif Nat.beq pc 39 then (.iload_n 3, 0, 3, []) else am_nop))))) else (bif Nat.ble 18 pc then (bif Nat.ble 28 pc then (bif Nat.ble 35 pc then (bif Nat.ble 37 pc then (bif Nat.ble 38 pc then (bif Nat.beq pc 38 then (.aload_n 0, 0, 0, []) else am_nop) else (bif Nat.beq pc 37 then (.iload_n 2, 0, 2, []) else am_nop)) else (bif Nat.ble 36 pc then (bif Nat.beq pc 36 then (.istore_n 1, 0, 1, []) else am_nop) else (bif Nat.beq pc 35 then (.iadd, 0, 0, []) else am_nop))) else (bif Nat.ble 31 pc then (bif Nat.ble 34 pc then (bif Nat.beq pc 34 then (.iconst 0, 0, 0, []) else am_nop) else (bif Nat.beq pc 31 then (.goto 4, 0, 35, []) else am_nop)) else (bif Nat.beq pc 28 then (.invokevirtual 209, 0, 0, []) else am_nop))) else (bif Nat.ble 23 pc then (bif Nat.ble 26 pc then (bif Nat.ble 27 pc then (bif Nat.beq pc 27 then (.iload_n 3, 0, 3, []) else am_nop) else (bif Nat.beq pc 26 then (.aload_n 0, 0, 0, []) else am_nop)) else (bif Nat.beq pc 23 then (.ifCond .eq 11, 0, 34, []) else am_nop)) else (bif Nat.ble 19 pc then (bif Nat.ble 20 pc then (bif Nat.beq pc 20 then (.invokevirtual 70, 0, 0, []) else am_nop) else (bif Nat.beq pc 19 then (.iload_n 3, 0, 3, []) else am_nop)) else (bif Nat.beq pc 18 then (.aload_n 0, 0, 0, []) else am_nop)))) else (bif Nat.ble 6 pc then (bif Nat.ble 11 pc then (bif Nat.ble 14 pc then (bif Nat.ble 17 pc then (bif Nat.beq pc 17 then (.iload_n 1, 0, 1, []) else am_nop) else (bif Nat.beq pc 14 then (.if_icmp .ge 50, 0, 64, []) else am_nop)) else (bif Nat.ble 13 pc then (bif Nat.beq pc 13 then (.iaload, 0, 0, []) else am_nop) else (bif Nat.beq pc 11 then (.bipush 15, 15, 0, []) else am_nop))) else (bif Nat.ble 7 pc then (bif Nat.ble 8 pc then (bif Nat.beq pc 8 then (.getfield 7, 0, 0, []) else am_nop) else (bif Nat.beq pc 7 then (.aload_n 0, 0, 0, []) else am_nop)) else (bif Nat.beq pc 6 then (.iload_n 3, 0, 3, []) else am_nop))) else (bif Nat.ble 3 pc then (bif Nat.ble 4 pc then (bif Nat.ble 5 pc then (bif Nat.beq pc 5 then (.istore_n 3, 0, 3, []) else am_nop) else (bif Nat.beq pc 4 then (.iconst 0, 0, 0, []) else am_nop)) else (bif Nat.beq pc 3 then (.istore_n 2, 0, 2, []) else am_nop)) else (bif Nat.ble 1 pc then (bif Nat.ble 2 pc then (bif Nat.beq pc 2 then (.iconst 0, 0, 0, []) else am_nop) else (bif Nat.beq pc 1 then (.istore_n 1, 0, 1, []) else am_nop)) else (bif Nat.beq pc 0 then (.iconst 0, 0, 0, []) else am_nop)))))
def m_M_share : MI := (k_M_share, [(7, 6, 0)], [(49, d_M_of 16), (60, d_M_isRun 16), (70, d_M_isFirst 16), (209, d_M_span 16)], [], [], [], [], 4, 87, some .double, fun _ => 0, 1)
def s_M_share_6 (h : HP) (v1 : Int32 × Int32 × Int32) : (Int32 × Int32 × Int32) ⊕ (Int32 × Int32 × Int32) := (if v1.2.2 < (h.1 1 (am_ix 15)) then (.inl ((v1.1 + (if (v_M_isFirst h v1.2.2) = 0 then (0 : Int32) else (v_M_span h v1.2.2))), (v1.2.1 + (if (v_M_isRun h v1.2.2) = 0 then (0 : Int32) else (v_M_of h v1.2.2 4))), (v1.2.2 + 1))) else (.inr (v1.1, v1.2.1, v1.2.2)))
def ps_M_share_6 (h : HP) (v1 : Int32 × Int32 × Int32) : Prop := ((v1.2.2 < (h.1 1 (am_ix 15)) → ((p_M_isFirst h v1.2.2) ∧ ((((v_M_isFirst h v1.2.2) = 0 → True) ∧ (¬ (v_M_isFirst h v1.2.2) = 0 → (p_M_span h v1.2.2))) ∧ ((p_M_isRun h v1.2.2) ∧ (((v_M_isRun h v1.2.2) = 0 → True) ∧ (¬ (v_M_isRun h v1.2.2) = 0 → (p_M_of h v1.2.2 4))))))) ∧ (¬ v1.2.2 < (h.1 1 (am_ix 15)) → True))
def v_M_share (h : HP) : UInt64 := (match itr (s_M_share_6 h) NF (0, 0, 0) with | some r1 => (if r1.1 = 0 then FP.dconst1 else (FP.ddiv (FP.i2d r1.2.1) (FP.i2d r1.1))) | none => 0)
def p_M_share (h : HP) : Prop := (itrp (s_M_share_6 h) (ps_M_share_6 h) NF (0, 0, 0) ∧ ∀ r1, itr (s_M_share_6 h) NF (0, 0, 0) = some r1 → ((r1.1 = 0 → True) ∧ (¬ r1.1 = 0 → (vf_n64 (FP.ddiv (FP.i2d r1.2.1) (FP.i2d r1.1))))))
def g_M_share (_ _ : List Sh) (as : List Value) (h : HP) : GR := match as with
  | [.ref o1] => (Nat.beq o1 0, p_M_share h, none, some (.double (v_M_share h)), h)
  | _ => bad h
def d_M_share (k : Nat) : CD := (k, yX6_share, cX6_share, 7, some .double, 1, 4, 87, 0, false, true, g_M_share)
theorem chk_M_share : ∀ pc, am_chk cX6_share k_M_share pc = true := am_chkall 84 (by decide +kernel) (fun pc h => by unfold k_M_share; rw [Nat.ble_eq_true_of_le h]; rfl)
theorem pf_M_share : plainFor yX6_share = true := by decide +kernel
theorem cu_M_share : Cond.code yX6_share cX6_share 7 (some .double) ∈ am_U := am_tb 1292 (by decide +kernel) rfl
set_option maxHeartbeats 20000000 in
set_option maxRecDepth 100000 in
theorem ev_M_share {e1 ro : List Sh} {P : AR → HP → Prop} (h : HP) (hp : p_M_share h) (hP : ∀ q, v_M_share h = q → RD P h q) : am_Ev m_M_share (WM ++ e1) ro P (0, [.ref 0, .retAddr 0, .retAddr 0, .retAddr 0, .retAddr 0, .retAddr 0, .retAddr 0], [], h) := by
  unfold p_M_share at hp
  refine am_Ev_G [6] 400 _ ?_
  show am_Ev m_M_share (WM ++ e1) ro P (6, [.ref 0, .int 0, .int 0, .int 0, .retAddr 0, .retAddr 0, .retAddr 0], [], h)
  obtain ⟨hpl, hp⟩ := hp
  refine am_itr (E := (fun (v1 : Int32 × Int32 × Int32) => am_Ev m_M_share (WM ++ e1) ro P (6, [.ref 0, .int v1.1, .int v1.2.1, .int v1.2.2, .retAddr 0, .retAddr 0, .retAddr 0], [], h))) (E' := (fun (r1 : Int32 × Int32 × Int32) => am_Ev m_M_share (WM ++ e1) ro P (64, [.ref 0, .int r1.1, .int r1.2.1, .int r1.2.2, .retAddr 0, .retAddr 0, .retAddr 0], [], h))) (s_M_share_6 h) (ps_M_share_6 h) ?_ NF (0, 0, 0) hpl ?_
  · intro v1 hp hc1 hx1
    show am_Ev m_M_share (WM ++ e1) ro P (6, [.ref 0, .int v1.1, .int v1.2.1, .int v1.2.2, .retAddr 0, .retAddr 0, .retAddr 0], [], h)
    unfold ps_M_share_6 at hp
    refine am_Ev_G [20, 64] 400 _ ?_
    show ((am_in 15 163) ∧ ((¬ v1.2.2 < (h.1 1 (am_ix 15)) → am_Ev m_M_share (WM ++ e1) ro P (64, [.ref 0, .int v1.1, .int v1.2.1, .int v1.2.2, .retAddr 0, .retAddr 0, .retAddr 0], [], h)) ∧ (v1.2.2 < (h.1 1 (am_ix 15)) → am_Ev m_M_share (WM ++ e1) ro P (20, [.ref 0, .int v1.1, .int v1.2.1, .int v1.2.2, .retAddr 0, .retAddr 0, .retAddr 0], [.int v1.2.2, .ref 0, .int v1.1], h))))
    refine ⟨⟨by decide, by decide⟩, ?_⟩
    refine ⟨fun c1 => ?_, fun c1 => ?_⟩
    · skip
      exact hx1 (v1.1, v1.2.1, v1.2.2) (by unfold s_M_share_6; simp only [if_neg c1])
    · have hp := hp.1 c1
      refine am_Ev_G [23] 400 _ ?_
      show ((p_M_isFirst h v1.2.2) ∧ am_Ev m_M_share (WM ++ e1) ro P (23, [.ref 0, .int v1.1, .int v1.2.1, .int v1.2.2, .retAddr 0, .retAddr 0, .retAddr 0], [.int (v_M_isFirst h v1.2.2), .int v1.1], h))
      obtain ⟨hob, hp⟩ := hp
      refine ⟨hob, ?_⟩
      obtain ⟨hpa, hp⟩ := hp
      have key2 : am_Ev m_M_share (WM ++ e1) ro P (35, [.ref 0, .int v1.1, .int v1.2.1, .int v1.2.2, .retAddr 0, .retAddr 0, .retAddr 0], [.int (if (v_M_isFirst h v1.2.2) = 0 then (0 : Int32) else (v_M_span h v1.2.2)), .int v1.1], h) := by
        refine am_Ev_G [43] 400 _ ?_
        show ((p_M_isRun h v1.2.2) ∧ am_Ev m_M_share (WM ++ e1) ro P (43, [.ref 0, .int (v1.1 + (if (v_M_isFirst h v1.2.2) = 0 then (0 : Int32) else (v_M_span h v1.2.2))), .int v1.2.1, .int v1.2.2, .retAddr 0, .retAddr 0, .retAddr 0], [.int (v_M_isRun h v1.2.2), .int v1.2.1], h))
        obtain ⟨hob, hp⟩ := hp
        refine ⟨hob, ?_⟩
        have hpa := hp
        have key3 : am_Ev m_M_share (WM ++ e1) ro P (56, [.ref 0, .int (v1.1 + (if (v_M_isFirst h v1.2.2) = 0 then (0 : Int32) else (v_M_span h v1.2.2))), .int v1.2.1, .int v1.2.2, .retAddr 0, .retAddr 0, .retAddr 0], [.int (if (v_M_isRun h v1.2.2) = 0 then (0 : Int32) else (v_M_of h v1.2.2 4)), .int v1.2.1], h) := by
          refine am_Ev_G [6] 400 _ ?_
          show am_Ev m_M_share (WM ++ e1) ro P (6, [.ref 0, .int (v1.1 + (if (v_M_isFirst h v1.2.2) = 0 then (0 : Int32) else (v_M_span h v1.2.2))), .int (v1.2.1 + (if (v_M_isRun h v1.2.2) = 0 then (0 : Int32) else (v_M_of h v1.2.2 4))), .int (v1.2.2 + 1), .retAddr 0, .retAddr 0, .retAddr 0], [], h)
          exact hc1 ((v1.1 + (if (v_M_isFirst h v1.2.2) = 0 then (0 : Int32) else (v_M_span h v1.2.2))), (v1.2.1 + (if (v_M_isRun h v1.2.2) = 0 then (0 : Int32) else (v_M_of h v1.2.2 4))), (v1.2.2 + 1)) (by unfold s_M_share_6; simp only [if_pos c1])
        have hp := hpa
        refine am_Ev_G [56] 400 _ ?_
        show (((v_M_isRun h v1.2.2) = 0 → am_Ev m_M_share (WM ++ e1) ro P (56, [.ref 0, .int (v1.1 + (if (v_M_isFirst h v1.2.2) = 0 then (0 : Int32) else (v_M_span h v1.2.2))), .int v1.2.1, .int v1.2.2, .retAddr 0, .retAddr 0, .retAddr 0], [.int 0, .int v1.2.1], h)) ∧ (¬ (v_M_isRun h v1.2.2) = 0 → ((p_M_of h v1.2.2 4) ∧ am_Ev m_M_share (WM ++ e1) ro P (56, [.ref 0, .int (v1.1 + (if (v_M_isFirst h v1.2.2) = 0 then (0 : Int32) else (v_M_span h v1.2.2))), .int v1.2.1, .int v1.2.2, .retAddr 0, .retAddr 0, .retAddr 0], [.int (v_M_of h v1.2.2 4), .int v1.2.1], h))))
        refine ⟨fun c4 => ?_, fun c4 => ?_⟩
        · skip
          simpa only [if_pos c4] using key3
        · have hp := hp.2 c4
          refine ⟨hp, ?_⟩
          simpa only [if_neg c4] using key3
      have hp := hpa
      refine am_Ev_G [35] 400 _ ?_
      show (((v_M_isFirst h v1.2.2) = 0 → am_Ev m_M_share (WM ++ e1) ro P (35, [.ref 0, .int v1.1, .int v1.2.1, .int v1.2.2, .retAddr 0, .retAddr 0, .retAddr 0], [.int 0, .int v1.1], h)) ∧ (¬ (v_M_isFirst h v1.2.2) = 0 → ((p_M_span h v1.2.2) ∧ am_Ev m_M_share (WM ++ e1) ro P (35, [.ref 0, .int v1.1, .int v1.2.1, .int v1.2.2, .retAddr 0, .retAddr 0, .retAddr 0], [.int (v_M_span h v1.2.2), .int v1.1], h))))
      refine ⟨fun c5 => ?_, fun c5 => ?_⟩
      · skip
        simpa only [if_pos c5] using key2
      · have hp := hp.2 c5
        refine ⟨hp, ?_⟩
        simpa only [if_neg c5] using key2
  · intro r1 hr6
    have hp := hp _ hr6
    show am_Ev m_M_share (WM ++ e1) ro P (64, [.ref 0, .int r1.1, .int r1.2.1, .int r1.2.2, .retAddr 0, .retAddr 0, .retAddr 0], [], h)
    refine am_Ev_G [69] 400 _ ?_
    show am_Ev m_M_share (WM ++ e1) ro P (69, [.ref 0, .int r1.1, .int r1.2.1, .double (FP.i2d r1.2.1), .retAddr 0, .retAddr 0, .retAddr 0], [.double (FP.i2d r1.1)], h)
    refine am_Ev_G [72] 400 _ ?_
    show am_Ev m_M_share (WM ++ e1) ro P (72, [.ref 0, .int r1.1, .int r1.2.1, .double (FP.i2d r1.2.1), .retAddr 0, .double (FP.i2d r1.1), .retAddr 0], [.int r1.1], h)
    have hpa := hp
    have key7 : am_Ev m_M_share (WM ++ e1) ro P (83, [.ref 0, .int r1.1, .int r1.2.1, .double (FP.i2d r1.2.1), .retAddr 0, .double (FP.i2d r1.1), .retAddr 0], [.double (if r1.1 = 0 then FP.dconst1 else (FP.ddiv (FP.i2d r1.2.1) (FP.i2d r1.1)))], h) := by
      refine am_Ev_G [] 400 _ ?_
      show P (.inl (some (.double (if r1.1 = 0 then FP.dconst1 else (FP.ddiv (FP.i2d r1.2.1) (FP.i2d r1.1)))))) h
      exact hP (if r1.1 = 0 then FP.dconst1 else (FP.ddiv (FP.i2d r1.2.1) (FP.i2d r1.1))) (by unfold v_M_share; simp only [hr6])
    have hp := hpa
    refine am_Ev_G [83] 400 _ ?_
    show ((¬ r1.1 = 0 → ((vf_n64 (FP.ddiv (FP.i2d r1.2.1) (FP.i2d r1.1))) ∧ am_Ev m_M_share (WM ++ e1) ro P (83, [.ref 0, .int r1.1, .int r1.2.1, .double (FP.i2d r1.2.1), .retAddr 0, .double (FP.i2d r1.1), .retAddr 0], [.double (FP.ddiv (FP.i2d r1.2.1) (FP.i2d r1.1))], h))) ∧ (r1.1 = 0 → am_Ev m_M_share (WM ++ e1) ro P (83, [.ref 0, .int r1.1, .int r1.2.1, .double (FP.i2d r1.2.1), .retAddr 0, .double (FP.i2d r1.1), .retAddr 0], [.double FP.dconst1], h)))
    refine ⟨fun c8 => ?_, fun c8 => ?_⟩
    · have hp := hp.2 c8
      refine ⟨hp, ?_⟩
      simpa only [if_neg c8] using key7
    · skip
      simpa only [if_pos c8] using key7
theorem ok_M_share {l : Launch} (hl : l.stackTraces = false) (e1 ro : List Sh) (k : Nat) : am_Ok l (WM ++ e1) ro (d_M_share k) := by
  refine am_met hl (own := RX6) (M := m_M_share) rfl pf_M_share cu_M_share rfl rfl rfl rfl (fun _ => rfl) rfl ⟨chk_M_share, (am_c (fl_M_7) am_n), (am_c (lk_M_49) (am_c (lk_M_60) (am_c (lk_M_70) (am_c (lk_M_209) am_n)))), (am_n), (am_n)⟩ (am_n) (am_c (ok_M_of hl e1 _ 16) (am_c (ok_M_isRun hl e1 _ 16) (am_c (ok_M_isFirst hl e1 _ 16) (am_c (ok_M_span hl e1 _ 16) am_n)))) (fun z => nomatch z) ?_ ?_
  · intro _ as h hg
    show g_thr (g_M_share (WM ++ e1) ro as h) = none
    unfold g_M_share
    split <;> rfl
  · intro as h hg hp
    revert hg hp
    show g_ok (g_M_share (WM ++ e1) ro as h) = true → g_pre (g_M_share (WM ++ e1) ro as h) → _ ∧ am_Ev m_M_share (WM ++ e1) ro (am_eq (g_M_share (WM ++ e1) ro as h)) (0, am_ent as 7, [], h)
    unfold g_M_share
    split
    · rename_i o1
      intro hc hp
      change (Nat.beq o1 0) = true at hc
      obtain rfl := am_beq hc
      exact ⟨Nat.le_of_ble_eq_true rfl, ev_M_share h hp eqRD⟩
    · exact fun z => nomatch z
def k_M_drivenShare (pc : Nat) : Ent := bif Nat.ble 10 pc then am_nop else bif Nat.ble 5 pc then (bif Nat.ble 6 pc then (bif Nat.ble 9 pc then (bif Nat.beq pc 9 then (.dreturn, 0, 0, []) else am_nop) else (bif Nat.beq pc 6 then (.invokevirtual 258, 0, 0, []) else am_nop)) else (bif Nat.beq pc 5 then (.aload_n 0, 0, 0, []) else am_nop)) else (bif Nat.ble 1 pc then (bif Nat.ble 2 pc then (bif Nat.beq pc 2 then (.putfield 38, 0, 0, []) else am_nop) else (bif Nat.beq pc 1 then (.iconst 0, 0, 0, []) else am_nop)) else (bif Nat.beq pc 0 then (.aload_n 0, 0, 0, []) else am_nop))
theorem lk_M_258 : am_lnk RX6 258 (d_M_share 16) := ⟨⟨by decide, by decide⟩, am_tb 8 (by decide +kernel) rfl, Or.inr ⟨by decide, rfl, am_tb 1291 (by decide +kernel) rfl, am_tp 126 (by decide +kernel) rfl, ⟨TX6, 16, rfl⟩, Or.inl (am_tb 1289 (by decide +kernel) rfl)⟩⟩
def m_M_drivenShare : MI := (k_M_drivenShare, [(38, 6, 8)], [(258, d_M_share 16)], [], [], [], [], 5, 113, some .double, fun _ => 0, 1)
def v_M_drivenShare (h : HP) : UInt64 × HP := ((v_M_share (am_si h 0 8 0)), (am_si h 0 8 0))
def p_M_drivenShare (h : HP) : Prop := (p_M_share (am_si h 0 8 0))
def g_M_drivenShare (_ _ : List Sh) (as : List Value) (h : HP) : GR := match as with
  | [.ref o1] => (Nat.beq o1 0, p_M_drivenShare h, none, some (.double (v_M_drivenShare h).1), (v_M_drivenShare h).2)
  | _ => bad h
def d_M_drivenShare (k : Nat) : CD := (k, yX6_drivenShare, cX6_drivenShare, 1, some .double, 1, 5, 113, 0, false, true, g_M_drivenShare)
theorem chk_M_drivenShare : ∀ pc, am_chk cX6_drivenShare k_M_drivenShare pc = true := am_chkall 10 (by decide +kernel) (fun pc h => by unfold k_M_drivenShare; rw [Nat.ble_eq_true_of_le h]; rfl)
theorem pf_M_drivenShare : plainFor yX6_drivenShare = true := by decide +kernel
theorem cu_M_drivenShare : Cond.code yX6_drivenShare cX6_drivenShare 1 (some .double) ∈ am_U := am_tb 1288 (by decide +kernel) rfl
set_option maxHeartbeats 20000000 in
set_option maxRecDepth 100000 in
theorem ev_M_drivenShare {e1 ro : List Sh} {P : AR → HP → Prop} (h : HP) (hp : p_M_drivenShare h) (hP : ∀ q, v_M_drivenShare h = q → RDW P h q) : am_Ev m_M_drivenShare (WM ++ e1) ro P (0, [.ref 0], [], h) := by
  unfold p_M_drivenShare at hp
  refine am_Ev_G [5] 400 _ ?_
  show am_Ev m_M_drivenShare (WM ++ e1) ro P (5, [.ref 0], [], (am_si h 0 8 0))
  refine am_Ev_G [] 400 _ ?_
  show ((p_M_share (am_si h 0 8 0)) ∧ P (.inl (some (.double (v_M_share (am_si h 0 8 0))))) (am_si h 0 8 0))
  refine ⟨hp, ?_⟩
  exact hP ((v_M_share (am_si h 0 8 0)), (am_si h 0 8 0)) rfl
theorem ok_M_drivenShare {l : Launch} (hl : l.stackTraces = false) (e1 ro : List Sh) (k : Nat) : am_Ok l (WM ++ e1) ro (d_M_drivenShare k) := by
  refine am_met hl (own := RX6) (M := m_M_drivenShare) rfl pf_M_drivenShare cu_M_drivenShare rfl rfl rfl rfl (fun _ => rfl) rfl ⟨chk_M_drivenShare, (am_c (fl_M_38) am_n), (am_c (lk_M_258) am_n), (am_n), (am_n)⟩ (am_n) (am_c (ok_M_share hl e1 _ 16) am_n) (fun z => nomatch z) ?_ ?_
  · intro _ as h hg
    show g_thr (g_M_drivenShare (WM ++ e1) ro as h) = none
    unfold g_M_drivenShare
    split <;> rfl
  · intro as h hg hp
    revert hg hp
    show g_ok (g_M_drivenShare (WM ++ e1) ro as h) = true → g_pre (g_M_drivenShare (WM ++ e1) ro as h) → _ ∧ am_Ev m_M_drivenShare (WM ++ e1) ro (am_eq (g_M_drivenShare (WM ++ e1) ro as h)) (0, am_ent as 1, [], h)
    unfold g_M_drivenShare
    split
    · rename_i o1
      intro hc hp
      change (Nat.beq o1 0) = true at hc
      obtain rfl := am_beq hc
      exact ⟨Nat.le_of_ble_eq_true rfl, ev_M_drivenShare h hp eqRDW⟩
    · exact fun z => nomatch z
def k_M_mixes (pc : Nat) : Ent := bif Nat.ble 15 pc then am_nop else bif Nat.ble 8 pc then (bif Nat.ble 10 pc then (bif Nat.ble 11 pc then (bif Nat.ble 14 pc then (bif Nat.beq pc 14 then (.return_, 0, 0, []) else am_nop) else (bif Nat.beq pc 11 then (.putfield 264, 0, 0, []) else am_nop)) else (bif Nat.beq pc 10 then (.ladd, 0, 0, []) else am_nop)) else (bif Nat.ble 9 pc then (bif Nat.beq pc 9 then (.lload_n 1, 0, 1, []) else am_nop) else (bif Nat.beq pc 8 then (.lmul, 0, 0, []) else am_nop))) else (bif Nat.ble 4 pc then (bif Nat.ble 5 pc then (bif Nat.beq pc 5 then (.getfield 264, 0, 0, []) else am_nop) else (bif Nat.beq pc 4 then (.aload_n 0, 0, 0, []) else am_nop)) else (bif Nat.ble 1 pc then (bif Nat.beq pc 1 then (.ldc2_w 262, 0, 0, []) else am_nop) else (bif Nat.beq pc 0 then (.aload_n 0, 0, 0, []) else am_nop)))
theorem fl_M_264 : am_fok RX6 264 (6, 15) := ⟨RX6, TX6, 16, rfl, by decide, rfl, Or.inl (am_tb 899 (by decide +kernel) rfl)⟩
theorem ck_M_262 : am_cok RX6 262 (.long 31) := am_tb 1306 (by decide +kernel) rfl
def m_M_mixes : MI := (k_M_mixes, [(264, 6, 15)], [], [(262, .long 31)], [], [], [], 0, 0, none, fun _ => 0, 1)
def v_M_mixes (h : HP) (a1 : Int64) : HP := (am_sl h 0 15 ((31 * (h.2 0 15)) + a1))
def g_M_mixes (_ _ : List Sh) (as : List Value) (h : HP) : GR := match as with
  | [.ref o1, .long a1] => (Nat.beq o1 0, True, none, none, v_M_mixes h a1)
  | _ => bad h
def d_M_mixes (k : Nat) : CD := (k, yX6_mixes, cX6_mixes, 3, none, 2, 0, 0, 0, false, false, g_M_mixes)
theorem chk_M_mixes : ∀ pc, am_chk cX6_mixes k_M_mixes pc = true := am_chkall 15 (by decide +kernel) (fun pc h => by unfold k_M_mixes; rw [Nat.ble_eq_true_of_le h]; rfl)
theorem pf_M_mixes : plainFor yX6_mixes = true := by decide +kernel
theorem cu_M_mixes : Cond.code yX6_mixes cX6_mixes 3 (none) ∈ am_U := am_tb 1305 (by decide +kernel) rfl
set_option maxHeartbeats 20000000 in
set_option maxRecDepth 100000 in
theorem ev_M_mixes {e1 ro : List Sh} {P : AR → HP → Prop} (h : HP) (a1 : Int64) (hP : ∀ q, v_M_mixes h a1 = q → RVW P h q) : am_Ev m_M_mixes (WM ++ e1) ro P (0, [.ref 0, .long a1, .retAddr 0], [], h) := by
  refine am_Ev_G [14] 400 _ ?_
  show am_Ev m_M_mixes (WM ++ e1) ro P (14, [.ref 0, .long a1, .retAddr 0], [], (am_sl h 0 15 ((31 * (h.2 0 15)) + a1)))
  refine am_Ev_G [] 400 _ ?_
  show P (.inl none) (am_sl h 0 15 ((31 * (h.2 0 15)) + a1))
  exact hP (am_sl h 0 15 ((31 * (h.2 0 15)) + a1)) rfl
theorem ok_M_mixes {l : Launch} (hl : l.stackTraces = false) (e1 ro : List Sh) (k : Nat) : am_Ok l (WM ++ e1) ro (d_M_mixes k) := by
  refine am_met hl (own := RX6) (M := m_M_mixes) rfl pf_M_mixes cu_M_mixes rfl rfl rfl rfl (fun _ => rfl) rfl ⟨chk_M_mixes, (am_c (fl_M_264) am_n), (am_n), (am_c (ck_M_262) am_n), (am_n)⟩ (am_n) (am_n) ?_ ?_ ?_
  · intro _ as h hg
    show g_pre (g_M_mixes (WM ++ e1) ro as h)
    unfold g_M_mixes
    split <;> exact trivial
  · intro _ as h hg
    show g_thr (g_M_mixes (WM ++ e1) ro as h) = none
    unfold g_M_mixes
    split <;> rfl
  · intro as h hg hp
    revert hg hp
    show g_ok (g_M_mixes (WM ++ e1) ro as h) = true → g_pre (g_M_mixes (WM ++ e1) ro as h) → _ ∧ am_Ev m_M_mixes (WM ++ e1) ro (am_eq (g_M_mixes (WM ++ e1) ro as h)) (0, am_ent as 3, [], h)
    unfold g_M_mixes
    split
    · rename_i o1 a1
      intro hc hp
      change (Nat.beq o1 0) = true at hc
      obtain rfl := am_beq hc
      exact ⟨Nat.le_of_ble_eq_true rfl, ev_M_mixes h a1 eqRVW⟩
    · exact fun z => nomatch z
end
