/-! BusBlocks, out of its code (written by gen/meth.py). -/
def k_B_bitsOf (pc : Nat) : Ent := bif Nat.ble 51 pc then am_nop else bif Nat.ble 26 pc then (bif Nat.ble 41 pc then (bif Nat.ble 47 pc then (bif Nat.ble 49 pc then (bif Nat.ble 50 pc then (bif Nat.beq pc 50 then (.lreturn, 0, 0, []) else am_nop) else (bif Nat.beq pc 49 then (.ladd, 0, 0, []) else am_nop)) else (bif Nat.ble 48 pc then (bif Nat.beq pc 48 then (.d2l, 0, 0, []) else am_nop) else (bif Nat.beq pc 47 then (.dmul, 0, 0, []) else am_nop))) else (bif Nat.ble 43 pc then (bif Nat.ble 44 pc then (bif Nat.beq pc 44 then (.ldc2_w 357, 0, 0, []) else am_nop) else (bif Nat.beq pc 43 then (.dsub, 0, 0, []) else am_nop)) else (bif Nat.ble 42 pc then (bif Nat.beq pc 42 then (.dconst 1, 0, 0, []) else am_nop) else (bif Nat.beq pc 41 then (.dload_n 2, 0, 2, []) else am_nop)))) else (bif Nat.ble 32 pc then (bif Nat.ble 37 pc then (bif Nat.ble 40 pc then (bif Nat.beq pc 40 then (.lmul, 0, 0, []) else am_nop) else (bif Nat.beq pc 37 then (.ldc2_w 355, 0, 0, []) else am_nop)) else (bif Nat.ble 35 pc then (bif Nat.beq pc 35 then (.lload 4, 0, 4, []) else am_nop) else (bif Nat.beq pc 32 then (.goto (-25), 0, 7, []) else am_nop))) else (bif Nat.ble 29 pc then (bif Nat.ble 30 pc then (bif Nat.beq pc 30 then (.lstore 4, 0, 4, []) else am_nop) else (bif Nat.beq pc 29 then (.lsub, 0, 0, []) else am_nop)) else (bif Nat.ble 28 pc then (bif Nat.beq pc 28 then (.lconst 1, 0, 0, []) else am_nop) else (bif Nat.beq pc 26 then (.lload 4, 0, 4, []) else am_nop))))) else (bif Nat.ble 13 pc then (bif Nat.ble 20 pc then (bif Nat.ble 24 pc then (bif Nat.ble 25 pc then (bif Nat.beq pc 25 then (.dstore_n 2, 0, 2, []) else am_nop) else (bif Nat.beq pc 24 then (.dmul, 0, 0, []) else am_nop)) else (bif Nat.ble 21 pc then (bif Nat.beq pc 21 then (.ldc2_w 353, 0, 0, []) else am_nop) else (bif Nat.beq pc 20 then (.dload_n 2, 0, 2, []) else am_nop))) else (bif Nat.ble 16 pc then (bif Nat.ble 17 pc then (bif Nat.beq pc 17 then (.ifCond .le 18, 0, 35, []) else am_nop) else (bif Nat.beq pc 16 then (.lcmp, 0, 0, []) else am_nop)) else (bif Nat.ble 15 pc then (bif Nat.beq pc 15 then (.lconst 1, 0, 0, []) else am_nop) else (bif Nat.beq pc 13 then (.lload 4, 0, 4, []) else am_nop)))) else (bif Nat.ble 7 pc then (bif Nat.ble 9 pc then (bif Nat.ble 10 pc then (bif Nat.beq pc 10 then (.ifCond .ge 25, 0, 35, []) else am_nop) else (bif Nat.beq pc 9 then (.dcmp .g, 0, 0, []) else am_nop)) else (bif Nat.ble 8 pc then (bif Nat.beq pc 8 then (.dconst 1, 0, 0, []) else am_nop) else (bif Nat.beq pc 7 then (.dload_n 2, 0, 2, []) else am_nop))) else (bif Nat.ble 2 pc then (bif Nat.ble 5 pc then (bif Nat.beq pc 5 then (.lstore 4, 0, 4, []) else am_nop) else (bif Nat.beq pc 2 then (.ldc2_w 351, 0, 0, []) else am_nop)) else (bif Nat.ble 1 pc then (bif Nat.beq pc 1 then (.dstore_n 2, 0, 2, []) else am_nop) else (bif Nat.beq pc 0 then (.dload_n 0, 0, 0, []) else am_nop)))))
theorem ck_B_351 : am_cok RX5 351 (.long 1023) := am_tb 667 (by decide +kernel) rfl
theorem ck_B_353 : am_cok RX5 353 (.double 4611686018427387904) := am_tb 668 (by decide +kernel) rfl
theorem ck_B_355 : am_cok RX5 355 (.long 4503599627370496) := am_tb 669 (by decide +kernel) rfl
theorem ck_B_357 : am_cok RX5 357 (.double 4841369599423283200) := am_tb 670 (by decide +kernel) rfl
def m_B_bitsOf : MI := (k_B_bitsOf, [], [], [(351, .long 1023), (353, .double 4611686018427387904), (355, .long 4503599627370496), (357, .double 4841369599423283200)], [], [], [], 0, 0, some .long, fun _ => 0, 1)
def s_B_bitsOf_7 (h : HP) (a1 : UInt64) (v1 : UInt64 × Int64) : (UInt64 × Int64) ⊕ (UInt64 × Int64) := (if (Op.cmpValue (FP.dcmp v1.1 FP.dconst1) .g) < 0 then (if (lg_cmp v1.2 1) ≤ 0 then (.inr (v1.1, v1.2)) else (.inl ((FP.dmul v1.1 4611686018427387904), (v1.2 - 1)))) else (.inr (v1.1, v1.2)))
def ps_B_bitsOf_7 (h : HP) (a1 : UInt64) (v1 : UInt64 × Int64) : Prop := (((Op.cmpValue (FP.dcmp v1.1 FP.dconst1) .g) < 0 → (((lg_cmp v1.2 1) ≤ 0 → True) ∧ (¬ (lg_cmp v1.2 1) ≤ 0 → (vf_n64 (FP.dmul v1.1 4611686018427387904))))) ∧ (¬ (Op.cmpValue (FP.dcmp v1.1 FP.dconst1) .g) < 0 → True))
def v_B_bitsOf (h : HP) (a1 : UInt64) : Int64 := (match itr (s_B_bitsOf_7 h a1) NF (a1, 1023) with | some r1 => ((r1.2 * 4503599627370496) + (FP.d2l (FP.dmul (FP.dsub r1.1 FP.dconst1) 4841369599423283200))) | none => 0)
def p_B_bitsOf (h : HP) (a1 : UInt64) : Prop := (itrp (s_B_bitsOf_7 h a1) (ps_B_bitsOf_7 h a1) NF (a1, 1023) ∧ ∀ r1, itr (s_B_bitsOf_7 h a1) NF (a1, 1023) = some r1 → ((vf_n64 (FP.dsub r1.1 FP.dconst1)) ∧ (vf_n64 (FP.dmul (FP.dsub r1.1 FP.dconst1) 4841369599423283200))))
def g_B_bitsOf (_ _ : List Sh) (as : List Value) (h : HP) : GR := match as with
  | [.double a1] => (true, p_B_bitsOf h a1, none, some (.long (v_B_bitsOf h a1)), h)
  | _ => bad h
def d_B_bitsOf (k : Nat) : CD := (k, yX5_bitsOf, cX5_bitsOf, 6, some .long, 1, 0, 0, 0, false, true, g_B_bitsOf)
theorem chk_B_bitsOf : ∀ pc, am_chk cX5_bitsOf k_B_bitsOf pc = true := am_chkall 51 (by decide +kernel) (fun pc h => by unfold k_B_bitsOf; rw [Nat.ble_eq_true_of_le h]; rfl)
theorem pf_B_bitsOf : plainFor yX5_bitsOf = true := by decide +kernel
theorem cu_B_bitsOf : Cond.code yX5_bitsOf cX5_bitsOf 6 (some .long) ∈ am_U := am_tb 666 (by decide +kernel) rfl
set_option maxRecDepth 100000 in
theorem ev_B_bitsOf {e1 e2 : List Sh} {P : AR → HP → Prop} (h : HP) (a1 : UInt64) (hp : p_B_bitsOf h a1) (hP : ∀ q, v_B_bitsOf h a1 = q → RJ P h q) : am_Ev m_B_bitsOf (WB ++ e1) (RO ++ e2) P (0, [.double a1, .retAddr 0, .retAddr 0, .retAddr 0, .retAddr 0, .retAddr 0], [], h) := by
  unfold p_B_bitsOf at hp
  refine am_Ev_G [7] 400 _ ?_
  show am_Ev m_B_bitsOf (WB ++ e1) (RO ++ e2) P (7, [.double a1, .retAddr 0, .double a1, .retAddr 0, .long 1023, .retAddr 0], [], h)
  refine am_fg 0 ?_
  obtain ⟨hpl, hp⟩ := hp
  refine am_itr (E := (fun (v1 : UInt64 × Int64) => am_Ev m_B_bitsOf (WB ++ e1) (RO ++ e2) P (7, [.retAddr 0, .retAddr 0, .double v1.1, .retAddr 0, .long v1.2, .retAddr 0], [], h))) (E' := (fun (r1 : UInt64 × Int64) => am_Ev m_B_bitsOf (WB ++ e1) (RO ++ e2) P (35, [.retAddr 0, .retAddr 0, .double r1.1, .retAddr 0, .long r1.2, .retAddr 0], [], h))) (s_B_bitsOf_7 h a1) (ps_B_bitsOf_7 h a1) ?_ NF (a1, 1023) hpl ?_
  · intro v1 hp hc1 hx1
    show am_Ev m_B_bitsOf (WB ++ e1) (RO ++ e2) P (7, [.retAddr 0, .retAddr 0, .double v1.1, .retAddr 0, .long v1.2, .retAddr 0], [], h)
    unfold ps_B_bitsOf_7 at hp
    refine am_Ev_G [25, 35] 400 _ ?_
    show ((¬ (Op.cmpValue (FP.dcmp v1.1 FP.dconst1) .g) < 0 → am_Ev m_B_bitsOf (WB ++ e1) (RO ++ e2) P (35, [.retAddr 0, .retAddr 0, .double v1.1, .retAddr 0, .long v1.2, .retAddr 0], [], h)) ∧ ((Op.cmpValue (FP.dcmp v1.1 FP.dconst1) .g) < 0 → (((lg_cmp v1.2 1) ≤ 0 → am_Ev m_B_bitsOf (WB ++ e1) (RO ++ e2) P (35, [.retAddr 0, .retAddr 0, .double v1.1, .retAddr 0, .long v1.2, .retAddr 0], [], h)) ∧ (¬ (lg_cmp v1.2 1) ≤ 0 → ((vf_n64 (FP.dmul v1.1 4611686018427387904)) ∧ am_Ev m_B_bitsOf (WB ++ e1) (RO ++ e2) P (25, [.retAddr 0, .retAddr 0, .double v1.1, .retAddr 0, .long v1.2, .retAddr 0], [.double (FP.dmul v1.1 4611686018427387904)], h))))))
    refine ⟨fun c1 => ?_, fun c1 => ?_⟩
    · skip
      exact hx1 (v1.1, v1.2) (by unfold s_B_bitsOf_7; simp only [if_neg c1])
    · have hp := hp.1 c1
      refine ⟨fun c2 => ?_, fun c2 => ?_⟩
      · skip
        exact hx1 (v1.1, v1.2) (by unfold s_B_bitsOf_7; simp only [if_pos c1, if_pos c2])
      · have hp := hp.2 c2
        refine ⟨hp, ?_⟩
        refine am_Ev_G [7] 400 _ ?_
        show am_Ev m_B_bitsOf (WB ++ e1) (RO ++ e2) P (7, [.retAddr 0, .retAddr 0, .double (FP.dmul v1.1 4611686018427387904), .retAddr 0, .long (v1.2 - 1), .retAddr 0], [], h)
        exact hc1 ((FP.dmul v1.1 4611686018427387904), (v1.2 - 1)) (by unfold s_B_bitsOf_7; simp only [if_pos c1, if_neg c2])
  · intro r1 hr3
    have hp := hp _ hr3
    show am_Ev m_B_bitsOf (WB ++ e1) (RO ++ e2) P (35, [.retAddr 0, .retAddr 0, .double r1.1, .retAddr 0, .long r1.2, .retAddr 0], [], h)
    refine am_Ev_G [50] 400 _ ?_
    show ((vf_n64 (FP.dsub r1.1 FP.dconst1)) ∧ ((vf_n64 (FP.dmul (FP.dsub r1.1 FP.dconst1) 4841369599423283200)) ∧ am_Ev m_B_bitsOf (WB ++ e1) (RO ++ e2) P (50, [.retAddr 0, .retAddr 0, .double r1.1, .retAddr 0, .long r1.2, .retAddr 0], [.long ((r1.2 * 4503599627370496) + (FP.d2l (FP.dmul (FP.dsub r1.1 FP.dconst1) 4841369599423283200)))], h)))
    obtain ⟨hob, hp⟩ := hp
    refine ⟨hob, ?_⟩
    refine ⟨hp, ?_⟩
    refine am_Ev_G [] 400 _ ?_
    show P (.inl (some (.long ((r1.2 * 4503599627370496) + (FP.d2l (FP.dmul (FP.dsub r1.1 FP.dconst1) 4841369599423283200)))))) h
    exact hP ((r1.2 * 4503599627370496) + (FP.d2l (FP.dmul (FP.dsub r1.1 FP.dconst1) 4841369599423283200))) (by unfold v_B_bitsOf; simp only [hr3])
theorem ok_B_bitsOf {l : Launch} (hl : l.stackTraces = false) (e1 e2 : List Sh) (k : Nat) : am_Ok l (WB ++ e1) (RO ++ e2) (d_B_bitsOf k) := by
  refine am_met hl (own := RX5) (M := m_B_bitsOf) rfl pf_B_bitsOf cu_B_bitsOf rfl rfl rfl rfl (fun _ => rfl) rfl ⟨chk_B_bitsOf, (am_n), (am_n), (am_c (ck_B_351) (am_c (ck_B_353) (am_c (ck_B_355) (am_c (ck_B_357) am_n)))), (am_n)⟩ (am_n) (am_n) (fun z => nomatch z) ?_ ?_
  · intro _ as h hg
    show g_thr (g_B_bitsOf (WB ++ e1) (RO ++ e2) as h) = none
    unfold g_B_bitsOf
    split <;> rfl
  · intro as h hg hp
    revert hg hp
    show g_ok (g_B_bitsOf (WB ++ e1) (RO ++ e2) as h) = true → g_pre (g_B_bitsOf (WB ++ e1) (RO ++ e2) as h) → _ ∧ am_Ev m_B_bitsOf (WB ++ e1) (RO ++ e2) (am_eq (g_B_bitsOf (WB ++ e1) (RO ++ e2) as h)) (0, am_ent as 6, [], h)
    unfold g_B_bitsOf
    split
    · rename_i a1
      intro hc hp
      exact ⟨Nat.le_of_ble_eq_true rfl, ev_B_bitsOf h a1 hp eqRJ⟩
    · exact fun z => nomatch z
