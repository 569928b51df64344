/-! BusBlocksModel, out of its code (written by gen/meth.py). -/
noncomputable section
def k_M_isWhole (pc : Nat) : Ent := bif Nat.ble 62 pc then am_nop else bif Nat.ble 27 pc then (bif Nat.ble 45 pc then (bif Nat.ble 53 pc then (bif Nat.ble 57 pc then (bif Nat.ble 60 pc then (bif Nat.ble 61 pc then (bif Nat.beq pc 61 then (.ireturn, 0, 0, []) else am_nop) else (bif Nat.beq pc 60 then (.iconst 0, 0, 0, []) else am_nop)) else (bif Nat.beq pc 57 then (.goto 4, 0, 61, []) else am_nop)) else (bif Nat.ble 56 pc then (bif Nat.beq pc 56 then (.iconst 1, 1, 0, []) else am_nop) else (bif Nat.beq pc 53 then (.if_icmp .ne 7, 0, 60, []) else am_nop))) else (bif Nat.ble 49 pc then (bif Nat.ble 50 pc then (bif Nat.beq pc 50 then (.getfield 163, 0, 0, []) else am_nop) else (bif Nat.beq pc 49 then (.aload_n 0, 0, 0, []) else am_nop)) else (bif Nat.ble 46 pc then (bif Nat.beq pc 46 then (.getfield 166, 0, 0, []) else am_nop) else (bif Nat.beq pc 45 then (.aload_n 0, 0, 0, []) else am_nop)))) else (bif Nat.ble 35 pc then (bif Nat.ble 38 pc then (bif Nat.ble 41 pc then (bif Nat.ble 42 pc then (bif Nat.beq pc 42 then (.goto (-30), 0, 12, []) else am_nop) else (bif Nat.beq pc 41 then (.istore_n 1, 0, 1, []) else am_nop)) else (bif Nat.beq pc 38 then (.invokevirtual 178, 0, 0, []) else am_nop)) else (bif Nat.ble 36 pc then (bif Nat.beq pc 36 then (.bipush 59, 59, 0, []) else am_nop) else (bif Nat.beq pc 35 then (.aload_n 0, 0, 0, []) else am_nop))) else (bif Nat.ble 31 pc then (bif Nat.ble 32 pc then (bif Nat.beq pc 32 then (.putfield 172, 0, 0, []) else am_nop) else (bif Nat.beq pc 31 then (.iadd, 0, 0, []) else am_nop)) else (bif Nat.ble 30 pc then (bif Nat.beq pc 30 then (.iconst 1, 1, 0, []) else am_nop) else (bif Nat.beq pc 27 then (.getfield 172, 0, 0, []) else am_nop))))) else (bif Nat.ble 12 pc then (bif Nat.ble 20 pc then (bif Nat.ble 24 pc then (bif Nat.ble 25 pc then (bif Nat.ble 26 pc then (bif Nat.beq pc 26 then (.dup, 0, 0, []) else am_nop) else (bif Nat.beq pc 25 then (.aload_n 0, 0, 0, []) else am_nop)) else (bif Nat.beq pc 24 then (.ireturn, 0, 0, []) else am_nop)) else (bif Nat.ble 23 pc then (bif Nat.beq pc 23 then (.iconst 0, 0, 0, []) else am_nop) else (bif Nat.beq pc 20 then (.ifCond .ne 5, 0, 25, []) else am_nop))) else (bif Nat.ble 16 pc then (bif Nat.ble 17 pc then (bif Nat.beq pc 17 then (.invokevirtual 184, 0, 0, []) else am_nop) else (bif Nat.beq pc 16 then (.aload_n 0, 0, 0, []) else am_nop)) else (bif Nat.ble 13 pc then (bif Nat.beq pc 13 then (.ifCond .eq 32, 0, 45, []) else am_nop) else (bif Nat.beq pc 12 then (.iload_n 1, 0, 1, []) else am_nop)))) else (bif Nat.ble 6 pc then (bif Nat.ble 10 pc then (bif Nat.ble 11 pc then (bif Nat.beq pc 11 then (.istore_n 1, 0, 1, []) else am_nop) else (bif Nat.beq pc 10 then (.iconst 1, 1, 0, []) else am_nop)) else (bif Nat.ble 7 pc then (bif Nat.beq pc 7 then (.putfield 172, 0, 0, []) else am_nop) else (bif Nat.beq pc 6 then (.iconst 0, 0, 0, []) else am_nop))) else (bif Nat.ble 2 pc then (bif Nat.ble 5 pc then (bif Nat.beq pc 5 then (.aload_n 0, 0, 0, []) else am_nop) else (bif Nat.beq pc 2 then (.putfield 166, 0, 0, []) else am_nop)) else (bif Nat.ble 1 pc then (bif Nat.beq pc 1 then (.iconst 0, 0, 0, []) else am_nop) else (bif Nat.beq pc 0 then (.aload_n 0, 0, 0, []) else am_nop)))))
theorem lk_M_184 : am_lnk RX6 184 (d_M_isPart 16) := ⟨⟨by decide, by decide⟩, am_tb 8 (by decide +kernel) rfl, Or.inr ⟨by decide, rfl, am_tb 1087 (by decide +kernel) rfl, am_tp 90 (by decide +kernel) rfl, ⟨TX6, 16, rfl⟩, Or.inl (am_tb 1085 (by decide +kernel) rfl)⟩⟩
def m_M_isWhole : MI := (k_M_isWhole, [(163, 6, 7), (166, 6, 12), (172, 6, 14)], [(178, d_M_takes 16), (184, d_M_isPart 16)], [], [], [], [], 4, 88, some .boolean, fun _ => 0, 1)
def s_M_isWhole_12 (h : HP) (v1 : Int32 × HP) : (Int32 × HP) ⊕ ((Int32 × HP) ⊕ (Int32 × HP)) := (if v1.1 = 0 then (.inr (.inl (v1.1, v1.2))) else (bnd (v_M_isPart v1.2) fun y2 => (if y2.1 = 0 then (.inr (.inr (0, y2.2))) else (bnd (v_M_takes (am_si y2.2 0 14 ((y2.2.1 0 14) + 1)) 59) fun y3 => (.inl (y3.1, y3.2))))))
def ps_M_isWhole_12 (h : HP) (v1 : Int32 × HP) : Prop := ((v1.1 = 0 → True) ∧ (¬ v1.1 = 0 → ((p_M_isPart v1.2) ∧ (∀ y2, v_M_isPart v1.2 = y2 → ((y2.1 = 0 → True) ∧ (¬ y2.1 = 0 → (p_M_takes (am_si y2.2 0 14 ((y2.2.1 0 14) + 1)) 59)))))))
def v_M_isWhole (h : HP) : Int32 × HP := (match itr (s_M_isWhole_12 h) NF (1, (am_si (am_si h 0 12 0) 0 14 0)) with | some (.inl r1) => ((if (r1.2.1 0 12) = (r1.2.1 0 7) then (1 : Int32) else 0), r1.2) | some (.inr q) => q | none => (0, h))
def p_M_isWhole (h : HP) : Prop := (itrp (s_M_isWhole_12 h) (ps_M_isWhole_12 h) NF (1, (am_si (am_si h 0 12 0) 0 14 0)))
def g_M_isWhole (_ _ : List Sh) (as : List Value) (h : HP) : GR := match as with
  | [.ref o1] => (Nat.beq o1 0, p_M_isWhole h, none, some (.int (v_M_isWhole h).1), (v_M_isWhole h).2)
  | _ => bad h
def d_M_isWhole (k : Nat) : CD := (k, yX6_isWhole, cX6_isWhole, 2, some .boolean, 1, 4, 88, 0, false, true, g_M_isWhole)
theorem chk_M_isWhole : ∀ pc, am_chk cX6_isWhole k_M_isWhole pc = true := am_chkall 62 (by decide +kernel) (fun pc h => by unfold k_M_isWhole; rw [Nat.ble_eq_true_of_le h]; rfl)
theorem pf_M_isWhole : plainFor yX6_isWhole = true := by decide +kernel
theorem cu_M_isWhole : Cond.code yX6_isWhole cX6_isWhole 2 (some .boolean) ∈ am_U := am_tb 1084 (by decide +kernel) rfl
set_option maxHeartbeats 20000000 in
set_option maxRecDepth 100000 in
theorem ev_M_isWhole {e1 ro : List Sh} {P : AR → HP → Prop} (h : HP) (hp : p_M_isWhole h) (hP : ∀ q, v_M_isWhole h = q → RIW P h q) : am_Ev m_M_isWhole (WM ++ e1) ro P (0, [.ref 0, .retAddr 0], [], h) := by
  unfold p_M_isWhole at hp
  refine am_Ev_G [5] 400 _ ?_
  show am_Ev m_M_isWhole (WM ++ e1) ro P (5, [.ref 0, .retAddr 0], [], (am_si h 0 12 0))
  refine am_Ev_G [10] 400 _ ?_
  show am_Ev m_M_isWhole (WM ++ e1) ro P (10, [.ref 0, .retAddr 0], [], (am_si (am_si h 0 12 0) 0 14 0))
  refine am_Ev_G [12] 400 _ ?_
  show am_Ev m_M_isWhole (WM ++ e1) ro P (12, [.ref 0, .int 1], [], (am_si (am_si h 0 12 0) 0 14 0))
  have hpl := hp
  refine am_itr (E := (fun (v1 : Int32 × HP) => am_Ev m_M_isWhole (WM ++ e1) ro P (12, [.ref 0, .int v1.1], [], v1.2))) (E' := (fun (x : (Int32 × HP) ⊕ (Int32 × HP)) => match x with | .inl r1 => am_Ev m_M_isWhole (WM ++ e1) ro P (45, [.ref 0, .int r1.1], [], r1.2) | .inr q => RIW P h q)) (s_M_isWhole_12 h) (ps_M_isWhole_12 h) ?_ NF (1, (am_si (am_si h 0 12 0) 0 14 0)) hpl ?_
  · intro v1 hp hc1 hx1
    show am_Ev m_M_isWhole (WM ++ e1) ro P (12, [.ref 0, .int v1.1], [], v1.2)
    unfold ps_M_isWhole_12 at hp
    refine am_Ev_G [20, 45] 400 _ ?_
    show ((v1.1 = 0 → am_Ev m_M_isWhole (WM ++ e1) ro P (45, [.ref 0, .int v1.1], [], v1.2)) ∧ (¬ v1.1 = 0 → ((p_M_isPart v1.2) ∧ am_Ev m_M_isWhole (WM ++ e1) ro P (20, [.ref 0, .int v1.1], [.int ((v_M_isPart v1.2).1)], ((v_M_isPart v1.2).2)))))
    refine ⟨fun c1 => ?_, fun c1 => ?_⟩
    · skip
      exact hx1 (.inl (v1.1, v1.2)) (by unfold s_M_isWhole_12; simp only [if_pos c1])
    · have hp := hp.2 c1
      obtain ⟨hob, hp⟩ := hp
      refine ⟨hob, ?_⟩
      obtain ⟨y2, c2⟩ : ∃ y, v_M_isPart v1.2 = y := ⟨_, rfl⟩
      rw [c2]
      have hp := hp _ c2
      show am_Ev m_M_isWhole (WM ++ e1) ro P (20, [.ref 0, .int v1.1], [.int y2.1], y2.2)
      refine am_Ev_G [35] 400 _ ?_
      show ((¬ y2.1 = 0 → am_Ev m_M_isWhole (WM ++ e1) ro P (35, [.ref 0, .int v1.1], [], (am_si y2.2 0 14 ((y2.2.1 0 14) + 1)))) ∧ (y2.1 = 0 → ((((0 : Int32) = 0 ∨ (0 : Int32) = 1)) ∧ P (.inl (some (.int 0))) y2.2)))
      refine ⟨fun c3 => ?_, fun c3 => ?_⟩
      · have hp := hp.2 c3
        refine am_Ev_G [41] 400 _ ?_
        show ((p_M_takes (am_si y2.2 0 14 ((y2.2.1 0 14) + 1)) 59) ∧ am_Ev m_M_isWhole (WM ++ e1) ro P (41, [.ref 0, .int v1.1], [.int ((v_M_takes (am_si y2.2 0 14 ((y2.2.1 0 14) + 1)) 59).1)], ((v_M_takes (am_si y2.2 0 14 ((y2.2.1 0 14) + 1)) 59).2)))
        refine ⟨hp, ?_⟩
        obtain ⟨y3, c4⟩ : ∃ y, v_M_takes (am_si y2.2 0 14 ((y2.2.1 0 14) + 1)) 59 = y := ⟨_, rfl⟩
        rw [c4]
        show am_Ev m_M_isWhole (WM ++ e1) ro P (41, [.ref 0, .int v1.1], [.int y3.1], y3.2)
        refine am_Ev_G [12] 400 _ ?_
        show am_Ev m_M_isWhole (WM ++ e1) ro P (12, [.ref 0, .int y3.1], [], y3.2)
        exact hc1 (y3.1, y3.2) (by unfold s_M_isWhole_12; simp only [if_neg c1, bnd, c2, if_neg c3, bnd, c4])
      · skip
        refine ⟨(by decide), ?_⟩
        exact hx1 (.inr (0, y2.2)) (by unfold s_M_isWhole_12; simp only [if_neg c1, bnd, c2, if_pos c3])
  · intro x hr5
    rcases x with r1 | q
    · skip
      show am_Ev m_M_isWhole (WM ++ e1) ro P (45, [.ref 0, .int r1.1], [], r1.2)
      refine am_Ev_G [53] 400 _ ?_
      show am_Ev m_M_isWhole (WM ++ e1) ro P (53, [.ref 0, .int r1.1], [.int (r1.2.1 0 7), .int (r1.2.1 0 12)], r1.2)
      have key6 : am_Ev m_M_isWhole (WM ++ e1) ro P (61, [.ref 0, .int r1.1], [.int (if (r1.2.1 0 12) = (r1.2.1 0 7) then (1 : Int32) else 0)], r1.2) := by
        refine am_Ev_G [] 400 _ ?_
        show (((((if (r1.2.1 0 12) = (r1.2.1 0 7) then (1 : Int32) else 0) : Int32) = 0 ∨ ((if (r1.2.1 0 12) = (r1.2.1 0 7) then (1 : Int32) else 0) : Int32) = 1)) ∧ P (.inl (some (.int (if (r1.2.1 0 12) = (r1.2.1 0 7) then (1 : Int32) else 0)))) r1.2)
        refine ⟨(by (repeat' split) <;> decide), ?_⟩
        exact hP ((if (r1.2.1 0 12) = (r1.2.1 0 7) then (1 : Int32) else 0), r1.2) (by unfold v_M_isWhole; simp only [hr5])
      refine am_Ev_G [61] 400 _ ?_
      show ((¬ (r1.2.1 0 12) = (r1.2.1 0 7) → am_Ev m_M_isWhole (WM ++ e1) ro P (61, [.ref 0, .int r1.1], [.int 0], r1.2)) ∧ ((r1.2.1 0 12) = (r1.2.1 0 7) → am_Ev m_M_isWhole (WM ++ e1) ro P (61, [.ref 0, .int r1.1], [.int 1], r1.2)))
      refine ⟨fun c7 => ?_, fun c7 => ?_⟩
      · skip
        simpa only [if_neg c7] using key6
      · skip
        simpa only [if_pos c7] using key6
    · show RIW P h q
      exact hP q (by unfold v_M_isWhole; simp only [hr5])
theorem ok_M_isWhole {l : Launch} (hl : l.stackTraces = false) (e1 ro : List Sh) (k : Nat) : am_Ok l (WM ++ e1) ro (d_M_isWhole k) := by
  refine am_met hl (own := RX6) (M := m_M_isWhole) rfl pf_M_isWhole cu_M_isWhole rfl rfl rfl rfl (fun _ => rfl) rfl ⟨chk_M_isWhole, (am_c (fl_M_163) (am_c (fl_M_166) (am_c (fl_M_172) am_n))), (am_c (lk_M_178) (am_c (lk_M_184) am_n)), (am_n), (am_n)⟩ (am_n) (am_c (ok_M_takes hl e1 _ 16) (am_c (ok_M_isPart hl e1 _ 16) am_n)) (fun z => nomatch z) ?_ ?_
  · intro _ as h hg
    show g_thr (g_M_isWhole (WM ++ e1) ro as h) = none
    unfold g_M_isWhole
    split <;> rfl
  · intro as h hg hp
    revert hg hp
    show g_ok (g_M_isWhole (WM ++ e1) ro as h) = true → g_pre (g_M_isWhole (WM ++ e1) ro as h) → _ ∧ am_Ev m_M_isWhole (WM ++ e1) ro (am_eq (g_M_isWhole (WM ++ e1) ro as h)) (0, am_ent as 2, [], h)
    unfold g_M_isWhole
    split
    · rename_i o1
      intro hc hp
      change (Nat.beq o1 0) = true at hc
      obtain rfl := am_beq hc
      exact ⟨Nat.le_of_ble_eq_true rfl, ev_M_isWhole h hp eqRIW⟩
    · exact fun z => nomatch z
def k_M_firstError (pc : Nat) : Ent := bif Nat.ble 24 pc then am_nop else bif Nat.ble 12 pc then (bif Nat.ble 19 pc then (bif Nat.ble 20 pc then (bif Nat.ble 23 pc then (bif Nat.beq pc 23 then (.ireturn, 0, 0, []) else am_nop) else (bif Nat.beq pc 20 then (.getfield 166, 0, 0, []) else am_nop)) else (bif Nat.beq pc 19 then (.aload_n 0, 0, 0, []) else am_nop)) else (bif Nat.ble 13 pc then (bif Nat.ble 16 pc then (bif Nat.beq pc 16 then (.goto 7, 0, 23, []) else am_nop) else (bif Nat.beq pc 13 then (.getfield 163, 0, 0, []) else am_nop)) else (bif Nat.beq pc 12 then (.aload_n 0, 0, 0, []) else am_nop))) else (bif Nat.ble 5 pc then (bif Nat.ble 6 pc then (bif Nat.ble 9 pc then (bif Nat.beq pc 9 then (.ifCond .eq 10, 0, 19, []) else am_nop) else (bif Nat.beq pc 6 then (.invokevirtual 188, 0, 0, []) else am_nop)) else (bif Nat.beq pc 5 then (.aload_n 0, 0, 0, []) else am_nop)) else (bif Nat.ble 1 pc then (bif Nat.ble 2 pc then (bif Nat.beq pc 2 then (.putfield 38, 0, 0, []) else am_nop) else (bif Nat.beq pc 1 then (.iconst 0, 0, 0, []) else am_nop)) else (bif Nat.beq pc 0 then (.aload_n 0, 0, 0, []) else am_nop)))
theorem lk_M_188 : am_lnk RX6 188 (d_M_isWhole 16) := ⟨⟨by decide, by decide⟩, am_tb 8 (by decide +kernel) rfl, Or.inr ⟨by decide, rfl, am_tb 1083 (by decide +kernel) rfl, am_tp 89 (by decide +kernel) rfl, ⟨TX6, 16, rfl⟩, Or.inl (am_tb 1081 (by decide +kernel) rfl)⟩⟩
def m_M_firstError : MI := (k_M_firstError, [(38, 6, 8), (163, 6, 7), (166, 6, 12)], [(188, d_M_isWhole 16)], [], [], [], [], 5, 109, some .int, fun _ => 0, 1)
def v_M_firstError (h : HP) : Int32 × HP := (bnd (v_M_isWhole (am_si h 0 8 0)) fun y1 => ((if y1.1 = 0 then y1.2.1 0 12 else y1.2.1 0 7), y1.2))
def p_M_firstError (h : HP) : Prop := (p_M_isWhole (am_si h 0 8 0))
def g_M_firstError (_ _ : List Sh) (as : List Value) (h : HP) : GR := match as with
  | [.ref o1] => (Nat.beq o1 0, p_M_firstError h, none, some (.int (v_M_firstError h).1), (v_M_firstError h).2)
  | _ => bad h
def d_M_firstError (k : Nat) : CD := (k, yX6_firstError, cX6_firstError, 1, some .int, 1, 5, 109, 0, false, true, g_M_firstError)
theorem chk_M_firstError : ∀ pc, am_chk cX6_firstError k_M_firstError pc = true := am_chkall 24 (by decide +kernel) (fun pc h => by unfold k_M_firstError; rw [Nat.ble_eq_true_of_le h]; rfl)
theorem pf_M_firstError : plainFor yX6_firstError = true := by decide +kernel
theorem cu_M_firstError : Cond.code yX6_firstError cX6_firstError 1 (some .int) ∈ am_U := am_tb 1080 (by decide +kernel) rfl
set_option maxHeartbeats 20000000 in
set_option maxRecDepth 100000 in
theorem ev_M_firstError {e1 ro : List Sh} {P : AR → HP → Prop} (h : HP) (hp : p_M_firstError h) (hP : ∀ q, v_M_firstError h = q → RIW P h q) : am_Ev m_M_firstError (WM ++ e1) ro P (0, [.ref 0], [], h) := by
  unfold p_M_firstError at hp
  refine am_Ev_G [5] 400 _ ?_
  show am_Ev m_M_firstError (WM ++ e1) ro P (5, [.ref 0], [], (am_si h 0 8 0))
  refine am_Ev_G [9] 400 _ ?_
  show ((p_M_isWhole (am_si h 0 8 0)) ∧ am_Ev m_M_firstError (WM ++ e1) ro P (9, [.ref 0], [.int ((v_M_isWhole (am_si h 0 8 0)).1)], ((v_M_isWhole (am_si h 0 8 0)).2)))
  refine ⟨hp, ?_⟩
  obtain ⟨y1, c1⟩ : ∃ y, v_M_isWhole (am_si h 0 8 0) = y := ⟨_, rfl⟩
  rw [c1]
  show am_Ev m_M_firstError (WM ++ e1) ro P (9, [.ref 0], [.int y1.1], y1.2)
  have key2 : am_Ev m_M_firstError (WM ++ e1) ro P (23, [.ref 0], [.int (if y1.1 = 0 then y1.2.1 0 12 else y1.2.1 0 7)], y1.2) := by
    refine am_Ev_G [] 400 _ ?_
    show P (.inl (some (.int (if y1.1 = 0 then y1.2.1 0 12 else y1.2.1 0 7)))) y1.2
    exact hP ((if y1.1 = 0 then y1.2.1 0 12 else y1.2.1 0 7), y1.2) (by unfold v_M_firstError; simp only [bnd, c1])
  refine am_Ev_G [23] 400 _ ?_
  show ((y1.1 = 0 → am_Ev m_M_firstError (WM ++ e1) ro P (23, [.ref 0], [.int (y1.2.1 0 12)], y1.2)) ∧ (¬ y1.1 = 0 → am_Ev m_M_firstError (WM ++ e1) ro P (23, [.ref 0], [.int (y1.2.1 0 7)], y1.2)))
  refine ⟨fun c3 => ?_, fun c3 => ?_⟩
  · skip
    simpa only [if_pos c3] using key2
  · skip
    simpa only [if_neg c3] using key2
theorem ok_M_firstError {l : Launch} (hl : l.stackTraces = false) (e1 ro : List Sh) (k : Nat) : am_Ok l (WM ++ e1) ro (d_M_firstError k) := by
  refine am_met hl (own := RX6) (M := m_M_firstError) rfl pf_M_firstError cu_M_firstError rfl rfl rfl rfl (fun _ => rfl) rfl ⟨chk_M_firstError, (am_c (fl_M_38) (am_c (fl_M_163) (am_c (fl_M_166) am_n))), (am_c (lk_M_188) am_n), (am_n), (am_n)⟩ (am_n) (am_c (ok_M_isWhole hl e1 _ 16) am_n) (fun z => nomatch z) ?_ ?_
  · intro _ as h hg
    show g_thr (g_M_firstError (WM ++ e1) ro as h) = none
    unfold g_M_firstError
    split <;> rfl
  · intro as h hg hp
    revert hg hp
    show g_ok (g_M_firstError (WM ++ e1) ro as h) = true → g_pre (g_M_firstError (WM ++ e1) ro as h) → _ ∧ am_Ev m_M_firstError (WM ++ e1) ro (am_eq (g_M_firstError (WM ++ e1) ro as h)) (0, am_ent as 1, [], h)
    unfold g_M_firstError
    split
    · rename_i o1
      intro hc hp
      change (Nat.beq o1 0) = true at hc
      obtain rfl := am_beq hc
      exact ⟨Nat.le_of_ble_eq_true rfl, ev_M_firstError h hp eqRIW⟩
    · exact fun z => nomatch z
end
