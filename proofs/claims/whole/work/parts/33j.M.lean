/-! BusBlocksModel, out of its code (written by gen/meth.py). -/
noncomputable section
def k_M_mixesTrip (pc : Nat) : Ent := bif Nat.ble 56 pc then am_nop else bif Nat.ble 27 pc then (bif Nat.ble 42 pc then (bif Nat.ble 48 pc then (bif Nat.ble 52 pc then (bif Nat.ble 55 pc then (bif Nat.beq pc 55 then (.return_, 0, 0, []) else am_nop) else (bif Nat.beq pc 52 then (.invokevirtual 268, 0, 0, []) else am_nop)) else (bif Nat.ble 51 pc then (bif Nat.beq pc 51 then (.i2l, 0, 0, []) else am_nop) else (bif Nat.beq pc 48 then (.invokevirtual 255, 0, 0, []) else am_nop))) else (bif Nat.ble 46 pc then (bif Nat.ble 47 pc then (bif Nat.beq pc 47 then (.iload_n 1, 0, 1, []) else am_nop) else (bif Nat.beq pc 46 then (.aload_n 0, 0, 0, []) else am_nop)) else (bif Nat.ble 45 pc then (bif Nat.beq pc 45 then (.aload_n 0, 0, 0, []) else am_nop) else (bif Nat.beq pc 42 then (.invokevirtual 268, 0, 0, []) else am_nop)))) else (bif Nat.ble 35 pc then (bif Nat.ble 38 pc then (bif Nat.ble 41 pc then (bif Nat.beq pc 41 then (.i2l, 0, 0, []) else am_nop) else (bif Nat.beq pc 38 then (.invokevirtual 252, 0, 0, []) else am_nop)) else (bif Nat.ble 36 pc then (bif Nat.beq pc 36 then (.bipush 10, 10, 0, []) else am_nop) else (bif Nat.beq pc 35 then (.iload_n 1, 0, 1, []) else am_nop))) else (bif Nat.ble 33 pc then (bif Nat.ble 34 pc then (bif Nat.beq pc 34 then (.aload_n 0, 0, 0, []) else am_nop) else (bif Nat.beq pc 33 then (.aload_n 0, 0, 0, []) else am_nop)) else (bif Nat.ble 30 pc then (bif Nat.beq pc 30 then (.ifCond .eq 25, 0, 55, []) else am_nop) else (bif Nat.beq pc 27 then (.invokevirtual 60, 0, 0, []) else am_nop))))) else (bif Nat.ble 11 pc then (bif Nat.ble 19 pc then (bif Nat.ble 25 pc then (bif Nat.ble 26 pc then (bif Nat.beq pc 26 then (.iload_n 1, 0, 1, []) else am_nop) else (bif Nat.beq pc 25 then (.aload_n 0, 0, 0, []) else am_nop)) else (bif Nat.ble 22 pc then (bif Nat.beq pc 22 then (.goto (-20), 0, 2, []) else am_nop) else (bif Nat.beq pc 19 then (.iinc 2 1, 1, 2, []) else am_nop))) else (bif Nat.ble 15 pc then (bif Nat.ble 16 pc then (bif Nat.beq pc 16 then (.invokevirtual 268, 0, 0, []) else am_nop) else (bif Nat.beq pc 15 then (.i2l, 0, 0, []) else am_nop)) else (bif Nat.ble 12 pc then (bif Nat.beq pc 12 then (.invokevirtual 200, 0, 0, []) else am_nop) else (bif Nat.beq pc 11 then (.iload_n 2, 0, 2, []) else am_nop)))) else (bif Nat.ble 5 pc then (bif Nat.ble 9 pc then (bif Nat.ble 10 pc then (bif Nat.beq pc 10 then (.iload_n 1, 0, 1, []) else am_nop) else (bif Nat.beq pc 9 then (.aload_n 0, 0, 0, []) else am_nop)) else (bif Nat.ble 8 pc then (bif Nat.beq pc 8 then (.aload_n 0, 0, 0, []) else am_nop) else (bif Nat.beq pc 5 then (.if_icmp .ge 20, 0, 25, []) else am_nop))) else (bif Nat.ble 2 pc then (bif Nat.ble 3 pc then (bif Nat.beq pc 3 then (.bipush 9, 9, 0, []) else am_nop) else (bif Nat.beq pc 2 then (.iload_n 2, 0, 2, []) else am_nop)) else (bif Nat.ble 1 pc then (bif Nat.beq pc 1 then (.istore_n 2, 0, 2, []) else am_nop) else (bif Nat.beq pc 0 then (.iconst 0, 0, 0, []) else am_nop)))))
theorem lk_M_268 : am_lnk RX6 268 (d_M_mixes 16) := ⟨⟨by decide, by decide⟩, am_tb 8 (by decide +kernel) rfl, Or.inr ⟨by decide, rfl, am_tb 1304 (by decide +kernel) rfl, am_tp 128 (by decide +kernel) rfl, ⟨TX6, 16, rfl⟩, Or.inl (am_tb 1302 (by decide +kernel) rfl)⟩⟩
def m_M_mixesTrip : MI := (k_M_mixesTrip, [], [(60, d_M_isRun 16), (200, d_M_aboutTrip 16), (252, d_M_best 16), (255, d_M_failed 16), (268, d_M_mixes 16)], [], [], [], [], 8, 188, none, fun _ => 0, 1)
def s_M_mixesTrip_2 (h : HP) (a1 : Int32) (v1 : Int32 × HP) : (Int32 × HP) ⊕ (Int32 × HP) := (if v1.1 < 9 then (bnd (v_M_mixes v1.2 (((v_M_aboutTrip v1.2 a1 v1.1)).toInt64)) fun y2 => (.inl ((v1.1 + 1), y2))) else (.inr (v1.1, v1.2)))
def ps_M_mixesTrip_2 (h : HP) (a1 : Int32) (v1 : Int32 × HP) : Prop := ((v1.1 < 9 → (p_M_aboutTrip v1.2 a1 v1.1)) ∧ (¬ v1.1 < 9 → True))
def v_M_mixesTrip (h : HP) (a1 : Int32) : HP := (match itr (s_M_mixesTrip_2 h a1) NF (0, h) with | some r1 => (if (v_M_isRun r1.2 a1) = 0 then r1.2 else (bnd (v_M_best r1.2 a1 10) fun y3 => (bnd (v_M_mixes y3.2 ((y3.1).toInt64)) fun y4 => (bnd (v_M_failed y4 a1) fun y5 => (bnd (v_M_mixes y5.2 ((y5.1).toInt64)) fun y6 => y6))))) | none => h)
def p_M_mixesTrip (h : HP) (a1 : Int32) : Prop := (itrp (s_M_mixesTrip_2 h a1) (ps_M_mixesTrip_2 h a1) NF (0, h) ∧ ∀ r1, itr (s_M_mixesTrip_2 h a1) NF (0, h) = some r1 → ((p_M_isRun r1.2 a1) ∧ (((v_M_isRun r1.2 a1) = 0 → True) ∧ (¬ (v_M_isRun r1.2 a1) = 0 → ((p_M_best r1.2 a1 10) ∧ (∀ y3, v_M_best r1.2 a1 10 = y3 → (∀ y4, v_M_mixes y3.2 ((y3.1).toInt64) = y4 → (p_M_failed y4 a1))))))))
def g_M_mixesTrip (_ _ : List Sh) (as : List Value) (h : HP) : GR := match as with
  | [.ref o1, .int a1] => (Nat.beq o1 0, p_M_mixesTrip h a1, none, none, v_M_mixesTrip h a1)
  | _ => bad h
def d_M_mixesTrip (k : Nat) : CD := (k, yX6_mixesTrip, cX6_mixesTrip, 3, none, 2, 8, 188, 0, false, true, g_M_mixesTrip)
theorem chk_M_mixesTrip : ∀ pc, am_chk cX6_mixesTrip k_M_mixesTrip pc = true := am_chkall 56 (by decide +kernel) (fun pc h => by unfold k_M_mixesTrip; rw [Nat.ble_eq_true_of_le h]; rfl)
theorem pf_M_mixesTrip : plainFor yX6_mixesTrip = true := by decide +kernel
theorem cu_M_mixesTrip : Cond.code yX6_mixesTrip cX6_mixesTrip 3 (none) ∈ am_U := am_tb 1310 (by decide +kernel) rfl
set_option maxHeartbeats 20000000 in
set_option maxRecDepth 100000 in
theorem ev_M_mixesTrip {e1 ro : List Sh} {P : AR → HP → Prop} (h : HP) (a1 : Int32) (hp : p_M_mixesTrip h a1) (hP : ∀ q, v_M_mixesTrip h a1 = q → RVW P h q) : am_Ev m_M_mixesTrip (WM ++ e1) ro P (0, [.ref 0, .int a1, .retAddr 0], [], h) := by
  unfold p_M_mixesTrip at hp
  refine am_Ev_G [2] 400 _ ?_
  show am_Ev m_M_mixesTrip (WM ++ e1) ro P (2, [.ref 0, .int a1, .int 0], [], h)
  obtain ⟨hpl, hp⟩ := hp
  refine am_itr (E := (fun (v1 : Int32 × HP) => am_Ev m_M_mixesTrip (WM ++ e1) ro P (2, [.ref 0, .int a1, .int v1.1], [], v1.2))) (E' := (fun (r1 : Int32 × HP) => am_Ev m_M_mixesTrip (WM ++ e1) ro P (25, [.ref 0, .int a1, .int r1.1], [], r1.2))) (s_M_mixesTrip_2 h a1) (ps_M_mixesTrip_2 h a1) ?_ NF (0, h) hpl ?_
  · intro v1 hp hc1 hx1
    show am_Ev m_M_mixesTrip (WM ++ e1) ro P (2, [.ref 0, .int a1, .int v1.1], [], v1.2)
    unfold ps_M_mixesTrip_2 at hp
    refine am_Ev_G [15, 25] 400 _ ?_
    show ((¬ v1.1 < 9 → am_Ev m_M_mixesTrip (WM ++ e1) ro P (25, [.ref 0, .int a1, .int v1.1], [], v1.2)) ∧ (v1.1 < 9 → ((p_M_aboutTrip v1.2 a1 v1.1) ∧ am_Ev m_M_mixesTrip (WM ++ e1) ro P (15, [.ref 0, .int a1, .int v1.1], [.int (v_M_aboutTrip v1.2 a1 v1.1), .ref 0], v1.2))))
    refine ⟨fun c1 => ?_, fun c1 => ?_⟩
    · skip
      exact hx1 (v1.1, v1.2) (by unfold s_M_mixesTrip_2; simp only [if_neg c1])
    · have hp := hp.1 c1
      refine ⟨hp, ?_⟩
      refine am_Ev_G [19] 400 _ ?_
      show am_Ev m_M_mixesTrip (WM ++ e1) ro P (19, [.ref 0, .int a1, .int v1.1], [], (v_M_mixes v1.2 (((v_M_aboutTrip v1.2 a1 v1.1)).toInt64)))
      obtain ⟨y2, c2⟩ : ∃ y, v_M_mixes v1.2 (((v_M_aboutTrip v1.2 a1 v1.1)).toInt64) = y := ⟨_, rfl⟩
      rw [c2]
      show am_Ev m_M_mixesTrip (WM ++ e1) ro P (19, [.ref 0, .int a1, .int v1.1], [], y2)
      refine am_Ev_G [2] 400 _ ?_
      show am_Ev m_M_mixesTrip (WM ++ e1) ro P (2, [.ref 0, .int a1, .int (v1.1 + 1)], [], y2)
      exact hc1 ((v1.1 + 1), y2) (by unfold s_M_mixesTrip_2; simp only [if_pos c1, bnd, c2])
  · intro r1 hr3
    have hp := hp _ hr3
    show am_Ev m_M_mixesTrip (WM ++ e1) ro P (25, [.ref 0, .int a1, .int r1.1], [], r1.2)
    refine am_Ev_G [41, 55] 400 _ ?_
    show ((p_M_isRun r1.2 a1) ∧ (((v_M_isRun r1.2 a1) = 0 → am_Ev m_M_mixesTrip (WM ++ e1) ro P (55, [.ref 0, .int a1, .int r1.1], [], r1.2)) ∧ (¬ (v_M_isRun r1.2 a1) = 0 → ((p_M_best r1.2 a1 10) ∧ am_Ev m_M_mixesTrip (WM ++ e1) ro P (41, [.ref 0, .int a1, .int r1.1], [.int ((v_M_best r1.2 a1 10).1), .ref 0], ((v_M_best r1.2 a1 10).2))))))
    obtain ⟨hob, hp⟩ := hp
    refine ⟨hob, ?_⟩
    refine ⟨fun c4 => ?_, fun c4 => ?_⟩
    · skip
      refine am_Ev_G [] 400 _ ?_
      show P (.inl none) r1.2
      exact hP r1.2 (by unfold v_M_mixesTrip; simp only [hr3, if_pos c4])
    · have hp := hp.2 c4
      obtain ⟨hob, hp⟩ := hp
      refine ⟨hob, ?_⟩
      obtain ⟨y3, c5⟩ : ∃ y, v_M_best r1.2 a1 10 = y := ⟨_, rfl⟩
      rw [c5]
      have hp := hp _ c5
      show am_Ev m_M_mixesTrip (WM ++ e1) ro P (41, [.ref 0, .int a1, .int r1.1], [.int y3.1, .ref 0], y3.2)
      refine am_Ev_G [45] 400 _ ?_
      show am_Ev m_M_mixesTrip (WM ++ e1) ro P (45, [.ref 0, .int a1, .int r1.1], [], (v_M_mixes y3.2 ((y3.1).toInt64)))
      obtain ⟨y4, c6⟩ : ∃ y, v_M_mixes y3.2 ((y3.1).toInt64) = y := ⟨_, rfl⟩
      rw [c6]
      have hp := hp _ c6
      show am_Ev m_M_mixesTrip (WM ++ e1) ro P (45, [.ref 0, .int a1, .int r1.1], [], y4)
      refine am_Ev_G [51] 400 _ ?_
      show ((p_M_failed y4 a1) ∧ am_Ev m_M_mixesTrip (WM ++ e1) ro P (51, [.ref 0, .int a1, .int r1.1], [.int ((v_M_failed y4 a1).1), .ref 0], ((v_M_failed y4 a1).2)))
      refine ⟨hp, ?_⟩
      obtain ⟨y5, c7⟩ : ∃ y, v_M_failed y4 a1 = y := ⟨_, rfl⟩
      rw [c7]
      show am_Ev m_M_mixesTrip (WM ++ e1) ro P (51, [.ref 0, .int a1, .int r1.1], [.int y5.1, .ref 0], y5.2)
      refine am_Ev_G [55] 400 _ ?_
      show am_Ev m_M_mixesTrip (WM ++ e1) ro P (55, [.ref 0, .int a1, .int r1.1], [], (v_M_mixes y5.2 ((y5.1).toInt64)))
      obtain ⟨y6, c8⟩ : ∃ y, v_M_mixes y5.2 ((y5.1).toInt64) = y := ⟨_, rfl⟩
      rw [c8]
      show am_Ev m_M_mixesTrip (WM ++ e1) ro P (55, [.ref 0, .int a1, .int r1.1], [], y6)
      refine am_Ev_G [] 400 _ ?_
      show P (.inl none) y6
      exact hP y6 (by unfold v_M_mixesTrip; simp only [hr3, if_neg c4, bnd, c5, bnd, c6, bnd, c7, bnd, c8])
theorem ok_M_mixesTrip {l : Launch} (hl : l.stackTraces = false) (e1 ro : List Sh) (k : Nat) : am_Ok l (WM ++ e1) ro (d_M_mixesTrip k) := by
  refine am_met hl (own := RX6) (M := m_M_mixesTrip) rfl pf_M_mixesTrip cu_M_mixesTrip rfl rfl rfl rfl (fun _ => rfl) rfl ⟨chk_M_mixesTrip, (am_n), (am_c (lk_M_60) (am_c (lk_M_200) (am_c (lk_M_252) (am_c (lk_M_255) (am_c (lk_M_268) am_n))))), (am_n), (am_n)⟩ (am_n) (am_c (ok_M_isRun hl e1 _ 16) (am_c (ok_M_aboutTrip hl e1 _ 16) (am_c (ok_M_best hl e1 _ 16) (am_c (ok_M_failed hl e1 _ 16) (am_c (ok_M_mixes hl e1 _ 16) am_n))))) (fun z => nomatch z) ?_ ?_
  · intro _ as h hg
    show g_thr (g_M_mixesTrip (WM ++ e1) ro as h) = none
    unfold g_M_mixesTrip
    split <;> rfl
  · intro as h hg hp
    revert hg hp
    show g_ok (g_M_mixesTrip (WM ++ e1) ro as h) = true → g_pre (g_M_mixesTrip (WM ++ e1) ro as h) → _ ∧ am_Ev m_M_mixesTrip (WM ++ e1) ro (am_eq (g_M_mixesTrip (WM ++ e1) ro as h)) (0, am_ent as 3, [], h)
    unfold g_M_mixesTrip
    split
    · rename_i o1 a1
      intro hc hp
      change (Nat.beq o1 0) = true at hc
      obtain rfl := am_beq hc
      exact ⟨Nat.le_of_ble_eq_true rfl, ev_M_mixesTrip h a1 hp eqRVW⟩
    · exact fun z => nomatch z
def k_M_mixesBlock (pc : Nat) : Ent := bif Nat.ble 56 pc then am_nop else bif Nat.ble 28 pc then (bif Nat.ble 39 pc then (bif Nat.ble 45 pc then (bif Nat.ble 49 pc then (bif Nat.ble 52 pc then (bif Nat.ble 55 pc then (bif Nat.beq pc 55 then (.return_, 0, 0, []) else am_nop) else (bif Nat.beq pc 52 then (.goto (-25), 0, 27, []) else am_nop)) else (bif Nat.beq pc 49 then (.iinc 2 1, 1, 2, []) else am_nop)) else (bif Nat.ble 46 pc then (bif Nat.beq pc 46 then (.invokevirtual 268, 0, 0, []) else am_nop) else (bif Nat.beq pc 45 then (.i2l, 0, 0, []) else am_nop))) else (bif Nat.ble 41 pc then (bif Nat.ble 42 pc then (bif Nat.beq pc 42 then (.invokevirtual 227, 0, 0, []) else am_nop) else (bif Nat.beq pc 41 then (.irem, 0, 0, []) else am_nop)) else (bif Nat.ble 40 pc then (bif Nat.beq pc 40 then (.iconst 3, 3, 0, []) else am_nop) else (bif Nat.beq pc 39 then (.iload_n 2, 0, 2, []) else am_nop)))) else (bif Nat.ble 35 pc then (bif Nat.ble 37 pc then (bif Nat.ble 38 pc then (bif Nat.beq pc 38 then (.idiv, 0, 0, []) else am_nop) else (bif Nat.beq pc 37 then (.iconst 3, 3, 0, []) else am_nop)) else (bif Nat.ble 36 pc then (bif Nat.beq pc 36 then (.iload_n 2, 0, 2, []) else am_nop) else (bif Nat.beq pc 35 then (.iload_n 1, 0, 1, []) else am_nop))) else (bif Nat.ble 33 pc then (bif Nat.ble 34 pc then (bif Nat.beq pc 34 then (.aload_n 0, 0, 0, []) else am_nop) else (bif Nat.beq pc 33 then (.aload_n 0, 0, 0, []) else am_nop)) else (bif Nat.ble 30 pc then (bif Nat.beq pc 30 then (.if_icmp .ge 25, 0, 55, []) else am_nop) else (bif Nat.beq pc 28 then (.bipush 9, 9, 0, []) else am_nop))))) else (bif Nat.ble 11 pc then (bif Nat.ble 19 pc then (bif Nat.ble 25 pc then (bif Nat.ble 26 pc then (bif Nat.ble 27 pc then (bif Nat.beq pc 27 then (.iload_n 2, 0, 2, []) else am_nop) else (bif Nat.beq pc 26 then (.istore_n 2, 0, 2, []) else am_nop)) else (bif Nat.beq pc 25 then (.iconst 0, 0, 0, []) else am_nop)) else (bif Nat.ble 22 pc then (bif Nat.beq pc 22 then (.goto (-20), 0, 2, []) else am_nop) else (bif Nat.beq pc 19 then (.iinc 2 1, 1, 2, []) else am_nop))) else (bif Nat.ble 15 pc then (bif Nat.ble 16 pc then (bif Nat.beq pc 16 then (.invokevirtual 268, 0, 0, []) else am_nop) else (bif Nat.beq pc 15 then (.i2l, 0, 0, []) else am_nop)) else (bif Nat.ble 12 pc then (bif Nat.beq pc 12 then (.invokevirtual 224, 0, 0, []) else am_nop) else (bif Nat.beq pc 11 then (.iload_n 2, 0, 2, []) else am_nop)))) else (bif Nat.ble 5 pc then (bif Nat.ble 9 pc then (bif Nat.ble 10 pc then (bif Nat.beq pc 10 then (.iload_n 1, 0, 1, []) else am_nop) else (bif Nat.beq pc 9 then (.aload_n 0, 0, 0, []) else am_nop)) else (bif Nat.ble 8 pc then (bif Nat.beq pc 8 then (.aload_n 0, 0, 0, []) else am_nop) else (bif Nat.beq pc 5 then (.if_icmp .ge 20, 0, 25, []) else am_nop))) else (bif Nat.ble 2 pc then (bif Nat.ble 3 pc then (bif Nat.beq pc 3 then (.bipush 7, 7, 0, []) else am_nop) else (bif Nat.beq pc 2 then (.iload_n 2, 0, 2, []) else am_nop)) else (bif Nat.ble 1 pc then (bif Nat.beq pc 1 then (.istore_n 2, 0, 2, []) else am_nop) else (bif Nat.beq pc 0 then (.iconst 0, 0, 0, []) else am_nop)))))
def m_M_mixesBlock : MI := (k_M_mixesBlock, [], [(224, d_M_aboutBlock 16), (227, d_M_dutyTold 16), (268, d_M_mixes 16)], [], [], [], [], 6, 136, none, fun _ => 0, 1)
def s_M_mixesBlock_2 (h : HP) (a1 : Int32) (v1 : Int32 × HP) : (Int32 × HP) ⊕ (Int32 × HP) := (if v1.1 < 7 then (bnd (v_M_aboutBlock v1.2 a1 v1.1) fun y2 => (bnd (v_M_mixes y2.2 ((y2.1).toInt64)) fun y3 => (.inl ((v1.1 + 1), y3)))) else (.inr (v1.1, v1.2)))
def ps_M_mixesBlock_2 (h : HP) (a1 : Int32) (v1 : Int32 × HP) : Prop := ((v1.1 < 7 → (p_M_aboutBlock v1.2 a1 v1.1)) ∧ (¬ v1.1 < 7 → True))
def s_M_mixesBlock_27 (h : HP) (a1 : Int32) (r1 : Int32 × HP) (v1 : Int32 × HP) : (Int32 × HP) ⊕ (Int32 × HP) := (if v1.1 < 9 then (bnd (v_M_dutyTold v1.2 a1 (v1.1 / 3) (v1.1 - v1.1 / 3 * 3)) fun y5 => (bnd (v_M_mixes y5.2 ((y5.1).toInt64)) fun y6 => (.inl ((v1.1 + 1), y6)))) else (.inr (v1.1, v1.2)))
def ps_M_mixesBlock_27 (h : HP) (a1 : Int32) (r1 : Int32 × HP) (v1 : Int32 × HP) : Prop := ((v1.1 < 9 → (p_M_dutyTold v1.2 a1 (v1.1 / 3) (v1.1 - v1.1 / 3 * 3))) ∧ (¬ v1.1 < 9 → True))
def v_M_mixesBlock (h : HP) (a1 : Int32) : HP := (match itr (s_M_mixesBlock_2 h a1) NF (0, h) with | some r1 => (match itr (s_M_mixesBlock_27 h a1 r1) NF (0, r1.2) with | some r4 => r4.2 | none => h) | none => h)
def p_M_mixesBlock (h : HP) (a1 : Int32) : Prop := (itrp (s_M_mixesBlock_2 h a1) (ps_M_mixesBlock_2 h a1) NF (0, h) ∧ ∀ r1, itr (s_M_mixesBlock_2 h a1) NF (0, h) = some r1 → (itrp (s_M_mixesBlock_27 h a1 r1) (ps_M_mixesBlock_27 h a1 r1) NF (0, r1.2)))
def g_M_mixesBlock (_ _ : List Sh) (as : List Value) (h : HP) : GR := match as with
  | [.ref o1, .int a1] => (Nat.beq o1 0, p_M_mixesBlock h a1, none, none, v_M_mixesBlock h a1)
  | _ => bad h
def d_M_mixesBlock (k : Nat) : CD := (k, yX6_mixesBlock, cX6_mixesBlock, 3, none, 2, 6, 136, 0, false, true, g_M_mixesBlock)
theorem chk_M_mixesBlock : ∀ pc, am_chk cX6_mixesBlock k_M_mixesBlock pc = true := am_chkall 56 (by decide +kernel) (fun pc h => by unfold k_M_mixesBlock; rw [Nat.ble_eq_true_of_le h]; rfl)
theorem pf_M_mixesBlock : plainFor yX6_mixesBlock = true := by decide +kernel
theorem cu_M_mixesBlock : Cond.code yX6_mixesBlock cX6_mixesBlock 3 (none) ∈ am_U := am_tb 1314 (by decide +kernel) rfl
set_option maxHeartbeats 20000000 in
set_option maxRecDepth 100000 in
theorem ev_M_mixesBlock {e1 ro : List Sh} {P : AR → HP → Prop} (h : HP) (a1 : Int32) (hp : p_M_mixesBlock h a1) (hP : ∀ q, v_M_mixesBlock h a1 = q → RVW P h q) : am_Ev m_M_mixesBlock (WM ++ e1) ro P (0, [.ref 0, .int a1, .retAddr 0], [], h) := by
  unfold p_M_mixesBlock at hp
  refine am_Ev_G [2] 400 _ ?_
  show am_Ev m_M_mixesBlock (WM ++ e1) ro P (2, [.ref 0, .int a1, .int 0], [], h)
  obtain ⟨hpl, hp⟩ := hp
  refine am_itr (E := (fun (v1 : Int32 × HP) => am_Ev m_M_mixesBlock (WM ++ e1) ro P (2, [.ref 0, .int a1, .int v1.1], [], v1.2))) (E' := (fun (r1 : Int32 × HP) => am_Ev m_M_mixesBlock (WM ++ e1) ro P (25, [.ref 0, .int a1, .int r1.1], [], r1.2))) (s_M_mixesBlock_2 h a1) (ps_M_mixesBlock_2 h a1) ?_ NF (0, h) hpl ?_
  · intro v1 hp hc1 hx1
    show am_Ev m_M_mixesBlock (WM ++ e1) ro P (2, [.ref 0, .int a1, .int v1.1], [], v1.2)
    unfold ps_M_mixesBlock_2 at hp
    refine am_Ev_G [15, 25] 400 _ ?_
    show ((¬ v1.1 < 7 → am_Ev m_M_mixesBlock (WM ++ e1) ro P (25, [.ref 0, .int a1, .int v1.1], [], v1.2)) ∧ (v1.1 < 7 → ((p_M_aboutBlock v1.2 a1 v1.1) ∧ am_Ev m_M_mixesBlock (WM ++ e1) ro P (15, [.ref 0, .int a1, .int v1.1], [.int ((v_M_aboutBlock v1.2 a1 v1.1).1), .ref 0], ((v_M_aboutBlock v1.2 a1 v1.1).2)))))
    refine ⟨fun c1 => ?_, fun c1 => ?_⟩
    · skip
      exact hx1 (v1.1, v1.2) (by unfold s_M_mixesBlock_2; simp only [if_neg c1])
    · have hp := hp.1 c1
      refine ⟨hp, ?_⟩
      obtain ⟨y2, c2⟩ : ∃ y, v_M_aboutBlock v1.2 a1 v1.1 = y := ⟨_, rfl⟩
      rw [c2]
      show am_Ev m_M_mixesBlock (WM ++ e1) ro P (15, [.ref 0, .int a1, .int v1.1], [.int y2.1, .ref 0], y2.2)
      refine am_Ev_G [19] 400 _ ?_
      show am_Ev m_M_mixesBlock (WM ++ e1) ro P (19, [.ref 0, .int a1, .int v1.1], [], (v_M_mixes y2.2 ((y2.1).toInt64)))
      obtain ⟨y3, c3⟩ : ∃ y, v_M_mixes y2.2 ((y2.1).toInt64) = y := ⟨_, rfl⟩
      rw [c3]
      show am_Ev m_M_mixesBlock (WM ++ e1) ro P (19, [.ref 0, .int a1, .int v1.1], [], y3)
      refine am_Ev_G [2] 400 _ ?_
      show am_Ev m_M_mixesBlock (WM ++ e1) ro P (2, [.ref 0, .int a1, .int (v1.1 + 1)], [], y3)
      exact hc1 ((v1.1 + 1), y3) (by unfold s_M_mixesBlock_2; simp only [if_pos c1, bnd, c2, bnd, c3])
  · intro r1 hr4
    have hp := hp _ hr4
    show am_Ev m_M_mixesBlock (WM ++ e1) ro P (25, [.ref 0, .int a1, .int r1.1], [], r1.2)
    refine am_Ev_G [27] 400 _ ?_
    show am_Ev m_M_mixesBlock (WM ++ e1) ro P (27, [.ref 0, .int a1, .int 0], [], r1.2)
    have hpl := hp
    refine am_itr (E := (fun (v1 : Int32 × HP) => am_Ev m_M_mixesBlock (WM ++ e1) ro P (27, [.ref 0, .int a1, .int v1.1], [], v1.2))) (E' := (fun (r4 : Int32 × HP) => am_Ev m_M_mixesBlock (WM ++ e1) ro P (55, [.ref 0, .int a1, .int r4.1], [], r4.2))) (s_M_mixesBlock_27 h a1 r1) (ps_M_mixesBlock_27 h a1 r1) ?_ NF (0, r1.2) hpl ?_
    · intro v1 hp hc1 hx1
      show am_Ev m_M_mixesBlock (WM ++ e1) ro P (27, [.ref 0, .int a1, .int v1.1], [], v1.2)
      unfold ps_M_mixesBlock_27 at hp
      refine am_Ev_G [40, 55] 400 _ ?_
      show ((¬ v1.1 < 9 → am_Ev m_M_mixesBlock (WM ++ e1) ro P (55, [.ref 0, .int a1, .int v1.1], [], v1.2)) ∧ (v1.1 < 9 → ((¬ 3 = 0) ∧ am_Ev m_M_mixesBlock (WM ++ e1) ro P (40, [.ref 0, .int a1, .int v1.1], [.int v1.1, .int (v1.1 / 3), .int a1, .ref 0, .ref 0], v1.2))))
      refine ⟨fun c5 => ?_, fun c5 => ?_⟩
      · skip
        exact hx1 (v1.1, v1.2) (by unfold s_M_mixesBlock_27; simp only [if_neg c5])
      · have hp := hp.1 c5
        refine ⟨(by decide), ?_⟩
        refine am_Ev_G [45] 400 _ ?_
        show ((¬ 3 = 0) ∧ ((p_M_dutyTold v1.2 a1 (v1.1 / 3) (v1.1 - v1.1 / 3 * 3)) ∧ am_Ev m_M_mixesBlock (WM ++ e1) ro P (45, [.ref 0, .int a1, .int v1.1], [.int ((v_M_dutyTold v1.2 a1 (v1.1 / 3) (v1.1 - v1.1 / 3 * 3)).1), .ref 0], ((v_M_dutyTold v1.2 a1 (v1.1 / 3) (v1.1 - v1.1 / 3 * 3)).2))))
        refine ⟨(by decide), ?_⟩
        refine ⟨hp, ?_⟩
        obtain ⟨y5, c6⟩ : ∃ y, v_M_dutyTold v1.2 a1 (v1.1 / 3) (v1.1 - v1.1 / 3 * 3) = y := ⟨_, rfl⟩
        rw [c6]
        show am_Ev m_M_mixesBlock (WM ++ e1) ro P (45, [.ref 0, .int a1, .int v1.1], [.int y5.1, .ref 0], y5.2)
        refine am_Ev_G [49] 400 _ ?_
        show am_Ev m_M_mixesBlock (WM ++ e1) ro P (49, [.ref 0, .int a1, .int v1.1], [], (v_M_mixes y5.2 ((y5.1).toInt64)))
        obtain ⟨y6, c7⟩ : ∃ y, v_M_mixes y5.2 ((y5.1).toInt64) = y := ⟨_, rfl⟩
        rw [c7]
        show am_Ev m_M_mixesBlock (WM ++ e1) ro P (49, [.ref 0, .int a1, .int v1.1], [], y6)
        refine am_Ev_G [27] 400 _ ?_
        show am_Ev m_M_mixesBlock (WM ++ e1) ro P (27, [.ref 0, .int a1, .int (v1.1 + 1)], [], y6)
        exact hc1 ((v1.1 + 1), y6) (by unfold s_M_mixesBlock_27; simp only [if_pos c5, bnd, c6, bnd, c7])
    · intro r4 hr8
      show am_Ev m_M_mixesBlock (WM ++ e1) ro P (55, [.ref 0, .int a1, .int r4.1], [], r4.2)
      refine am_Ev_G [] 400 _ ?_
      show P (.inl none) r4.2
      exact hP r4.2 (by unfold v_M_mixesBlock; simp only [hr4, hr8])
theorem ok_M_mixesBlock {l : Launch} (hl : l.stackTraces = false) (e1 ro : List Sh) (k : Nat) : am_Ok l (WM ++ e1) ro (d_M_mixesBlock k) := by
  refine am_met hl (own := RX6) (M := m_M_mixesBlock) rfl pf_M_mixesBlock cu_M_mixesBlock rfl rfl rfl rfl (fun _ => rfl) rfl ⟨chk_M_mixesBlock, (am_n), (am_c (lk_M_224) (am_c (lk_M_227) (am_c (lk_M_268) am_n))), (am_n), (am_n)⟩ (am_n) (am_c (ok_M_aboutBlock hl e1 _ 16) (am_c (ok_M_dutyTold hl e1 _ 16) (am_c (ok_M_mixes hl e1 _ 16) am_n))) (fun z => nomatch z) ?_ ?_
  · intro _ as h hg
    show g_thr (g_M_mixesBlock (WM ++ e1) ro as h) = none
    unfold g_M_mixesBlock
    split <;> rfl
  · intro as h hg hp
    revert hg hp
    show g_ok (g_M_mixesBlock (WM ++ e1) ro as h) = true → g_pre (g_M_mixesBlock (WM ++ e1) ro as h) → _ ∧ am_Ev m_M_mixesBlock (WM ++ e1) ro (am_eq (g_M_mixesBlock (WM ++ e1) ro as h)) (0, am_ent as 3, [], h)
    unfold g_M_mixesBlock
    split
    · rename_i o1 a1
      intro hc hp
      change (Nat.beq o1 0) = true at hc
      obtain rfl := am_beq hc
      exact ⟨Nat.le_of_ble_eq_true rfl, ev_M_mixesBlock h a1 hp eqRVW⟩
    · exact fun z => nomatch z
end
