/-! THE LAW'S small methods, out of their code (written by gen/law31.py). -/
noncomputable section
def k_L_types (pc : Nat) : Ent := bif Nat.ble 54 pc then am_nop else bif Nat.ble 23 pc then (bif Nat.ble 40 pc then (bif Nat.ble 46 pc then (bif Nat.ble 52 pc then (bif Nat.ble 53 pc then (bif Nat.beq pc 53 then (.ireturn, 0, 0, []) else am_nop) else (bif Nat.beq pc 52 then (.iload_n 3, 0, 3, []) else am_nop)) else (bif Nat.ble 49 pc then (bif Nat.beq pc 49 then (.goto (-43), 0, 6, []) else am_nop) else (bif Nat.beq pc 46 then (.iinc 4 (-8), (-8 : Int32), 4, []) else am_nop))) else (bif Nat.ble 44 pc then (bif Nat.ble 45 pc then (bif Nat.beq pc 45 then (.istore_n 3, 0, 3, []) else am_nop) else (bif Nat.beq pc 44 then (.iconst 0, 0, 0, []) else am_nop)) else (bif Nat.ble 41 pc then (bif Nat.beq pc 41 then (.goto 4, 0, 45, []) else am_nop) else (bif Nat.beq pc 40 then (.iconst 1, 1, 0, []) else am_nop)))) else (bif Nat.ble 31 pc then (bif Nat.ble 34 pc then (bif Nat.ble 37 pc then (bif Nat.beq pc 37 then (.ifCond .le 7, 0, 44, []) else am_nop) else (bif Nat.beq pc 34 then (.invokevirtual 50, 0, 0, []) else am_nop)) else (bif Nat.ble 32 pc then (bif Nat.beq pc 32 then (.iload 5, 0, 5, []) else am_nop) else (bif Nat.beq pc 31 then (.aload_n 0, 0, 0, []) else am_nop))) else (bif Nat.ble 26 pc then (bif Nat.ble 28 pc then (bif Nat.beq pc 28 then (.ifCond .eq 12, 0, 40, []) else am_nop) else (bif Nat.beq pc 26 then (.iload 5, 0, 5, []) else am_nop)) else (bif Nat.beq pc 23 then (.ifCond .eq 21, 0, 44, []) else am_nop)))) else (bif Nat.ble 12 pc then (bif Nat.ble 18 pc then (bif Nat.ble 20 pc then (bif Nat.ble 22 pc then (bif Nat.beq pc 22 then (.iload_n 3, 0, 3, []) else am_nop) else (bif Nat.beq pc 20 then (.istore 5, 0, 5, []) else am_nop)) else (bif Nat.ble 19 pc then (bif Nat.beq pc 19 then (.l2i, 0, 0, []) else am_nop) else (bif Nat.beq pc 18 then (.land, 0, 0, []) else am_nop))) else (bif Nat.ble 14 pc then (bif Nat.ble 15 pc then (bif Nat.beq pc 15 then (.ldc2_w 147, 0, 0, []) else am_nop) else (bif Nat.beq pc 14 then (.lshr, 0, 0, []) else am_nop)) else (bif Nat.beq pc 12 then (.iload 4, 0, 4, []) else am_nop))) else (bif Nat.ble 4 pc then (bif Nat.ble 8 pc then (bif Nat.ble 11 pc then (bif Nat.beq pc 11 then (.lload_n 1, 0, 1, []) else am_nop) else (bif Nat.beq pc 8 then (.ifCond .lt 44, 0, 52, []) else am_nop)) else (bif Nat.ble 6 pc then (bif Nat.beq pc 6 then (.iload 4, 0, 4, []) else am_nop) else (bif Nat.beq pc 4 then (.istore 4, 0, 4, []) else am_nop))) else (bif Nat.ble 1 pc then (bif Nat.ble 2 pc then (bif Nat.beq pc 2 then (.bipush 56, 56, 0, []) else am_nop) else (bif Nat.beq pc 1 then (.istore_n 3, 0, 3, []) else am_nop)) else (bif Nat.beq pc 0 then (.iconst 1, 1, 0, []) else am_nop))))
theorem lk_L_50 : am_lnk RL 50 (d_B_append 15) := ⟨⟨by decide, by decide⟩, am_tb 1 (by decide +kernel) rfl, Or.inr ⟨by decide, rfl, am_tb 615 (by decide +kernel) rfl, am_tb 616 (by decide +kernel) rfl, ⟨TX5, 10, rfl⟩, Or.inl (am_tb 614 (by decide +kernel) rfl)⟩⟩
theorem ck_L_147 : am_cok RL 147 (.long 255) := am_tb 819 (by decide +kernel) rfl
def m_L_types : MI := (k_L_types, [], [(50, d_B_append 15)], [(147, .long 255)], [], [], [], 8, 137, some .boolean, fun _ => 0, 1)
def s_L_types_38_6 (h : HP) (a2 : Int64) (v1 : Int32 × Int32 × HP) : (Int32 × Int32 × HP) ⊕ (Int32 × Int32 × HP) := (if v1.2.1 < 0 then (.inr (v1.1, v1.2.1, v1.2.2)) else (if v1.1 = 0 then (.inl (0, (v1.2.1 + (-8 : Int32)), v1.2.2)) else (if (bcode a2 v1.2.1) = 0 then (.inl (1, (v1.2.1 + (-8 : Int32)), v1.2.2)) else (match v_B_append v1.2.2 (bcode a2 v1.2.1) with | .inl _ => .inl v1 | .inr y2 => (.inl ((if y2.1 ≤ 0 then (0 : Int32) else 1), (v1.2.1 + (-8 : Int32)), y2.2))))))
def ps_L_types_38_6 (h : HP) (a2 : Int64) (v1 : Int32 × Int32 × HP) : Prop := ((v1.2.1 < 0 → True) ∧ (¬ v1.2.1 < 0 → ((v1.1 = 0 → True) ∧ (¬ v1.1 = 0 → (((bcode a2 v1.2.1) = 0 → True) ∧ (¬ (bcode a2 v1.2.1) = 0 → (∃ y, v_B_append v1.2.2 (bcode a2 v1.2.1) = .inr y)))))))
def v_L_types_38 (h : HP) (a2 : Int64) : Int32 × HP := (match itr (s_L_types_38_6 h a2) NF (1, 56, h) with | some r1 => (r1.1, r1.2.2) | none => (0, h))
def p_L_types_38 (h : HP) (a2 : Int64) : Prop := (itrp (s_L_types_38_6 h a2) (ps_L_types_38_6 h a2) NF (1, 56, h) ∧ ∀ r1, itr (s_L_types_38_6 h a2) NF (1, 56, h) = some r1 → (((r1.1 : Int32) = 0 ∨ (r1.1 : Int32) = 1)))
def g_L_types (_ _ : List Sh) (as : List Value) (h : HP) : GR := match as with
  | [.ref o1, .long a2] => (Nat.beq o1 38, p_L_types_38 h a2, none, some (.int (v_L_types_38 h a2).1), (v_L_types_38 h a2).2)
  | _ => bad h
def d_L_types (k : Nat) : CD := (k, yL_types, cL_types, 6, some .boolean, 2, 8, 137, 0, false, true, g_L_types)
theorem chk_L_types : ∀ pc, am_chk cL_types k_L_types pc = true := am_chkall 54 (by decide +kernel) (fun pc h => by unfold k_L_types; rw [Nat.ble_eq_true_of_le h]; rfl)
theorem pf_L_types : plainFor yL_types = true := by decide +kernel
theorem cu_L_types : Cond.code yL_types cL_types 6 (some .boolean) ∈ am_U := am_tb 818 (by decide +kernel) rfl
set_option maxRecDepth 100000 in
theorem ev_L_types_38 {e1 e2 : List Sh} {P : AR → HP → Prop} (h : HP) (a2 : Int64) (hp : p_L_types_38 h a2) (hP : ∀ q, v_L_types_38 h a2 = q → RIW P h q) : am_Ev m_L_types (WB ++ e1) (RO ++ e2) P (0, [.ref 38, .long a2, .retAddr 0, .retAddr 0, .retAddr 0, .retAddr 0], [], h) := by
  unfold p_L_types_38 at hp
  refine am_Ev_G [6] 400 _ ?_
  show am_Ev m_L_types (WB ++ e1) (RO ++ e2) P (6, [.ref 38, .long a2, .retAddr 0, .int 1, .int 56, .retAddr 0], [], h)
  obtain ⟨hpl, hp⟩ := hp
  refine am_itr (E := (fun (v1 : Int32 × Int32 × HP) => am_Ev m_L_types (WB ++ e1) (RO ++ e2) P (6, [.ref 38, .long a2, .retAddr 0, .int v1.1, .int v1.2.1, .retAddr 0], [], v1.2.2))) (E' := (fun (r1 : Int32 × Int32 × HP) => am_Ev m_L_types (WB ++ e1) (RO ++ e2) P (52, [.ref 38, .long a2, .retAddr 0, .int r1.1, .int r1.2.1, .retAddr 0], [], r1.2.2))) (s_L_types_38_6 h a2) (ps_L_types_38_6 h a2) ?_ NF (1, 56, h) hpl ?_
  · intro v1 hp hc1 hx1
    have hcv : ∀ (x y : Int32) (z : HP), s_L_types_38_6 h a2 v1 = .inl (x, y, z) → am_Ev m_L_types (WB ++ e1) (RO ++ e2) P (6, [.ref 38, .long a2, .retAddr 0, .int x, .int y, .retAddr 0], [], z) := fun x y z e => hc1 (x, y, z) e
    show am_Ev m_L_types (WB ++ e1) (RO ++ e2) P (6, [.ref 38, .long a2, .retAddr 0, .int v1.1, .int v1.2.1, .retAddr 0], [], v1.2.2)
    unfold ps_L_types_38_6 at hp
    refine am_Ev_G [6, 26, 52] 400 _ ?_
    show ((v1.2.1 < 0 → am_Ev m_L_types (WB ++ e1) (RO ++ e2) P (52, [.ref 38, .long a2, .retAddr 0, .int v1.1, .int v1.2.1, .retAddr 0], [], v1.2.2)) ∧ (¬ v1.2.1 < 0 → ((v1.1 = 0 → am_Ev m_L_types (WB ++ e1) (RO ++ e2) P (6, [.ref 38, .long a2, .retAddr 0, .int 0, .int (v1.2.1 + (-8 : Int32)), .int (bcode a2 v1.2.1)], [], v1.2.2)) ∧ (¬ v1.1 = 0 → am_Ev m_L_types (WB ++ e1) (RO ++ e2) P (26, [.ref 38, .long a2, .retAddr 0, .int v1.1, .int v1.2.1, .int (bcode a2 v1.2.1)], [], v1.2.2)))))
    refine ⟨fun c1 => ?_, fun c1 => ?_⟩
    · skip
      exact hx1 (v1.1, v1.2.1, v1.2.2) (by unfold s_L_types_38_6; simp only [if_pos c1])
    · have hp := hp.2 c1
      refine ⟨fun c2 => ?_, fun c2 => ?_⟩
      · skip
        refine am_fg 5 ?_
        exact hcv (0) (v1.2.1 + (-8 : Int32)) v1.2.2 (by unfold s_L_types_38_6; simp only [if_neg c1, if_pos c2])
      · have hp := hp.2 c2
        refine am_Ev_G [6, 37] 400 _ ?_
        show (((bcode a2 v1.2.1) = 0 → am_Ev m_L_types (WB ++ e1) (RO ++ e2) P (6, [.ref 38, .long a2, .retAddr 0, .int 1, .int (v1.2.1 + (-8 : Int32)), .int (bcode a2 v1.2.1)], [], v1.2.2)) ∧ (¬ (bcode a2 v1.2.1) = 0 → ((∀ E, rthr (v_B_append v1.2.2 (bcode a2 v1.2.1)) = some E → P (.inr E) (rhpI v1.2.2 (v_B_append v1.2.2 (bcode a2 v1.2.1)))) ∧ (rthr (v_B_append v1.2.2 (bcode a2 v1.2.1)) = none → am_Ev m_L_types (WB ++ e1) (RO ++ e2) P (37, [.ref 38, .long a2, .retAddr 0, .int v1.1, .int v1.2.1, .int (bcode a2 v1.2.1)], (rvIW (v_B_append v1.2.2 (bcode a2 v1.2.1))).toList ++ [], (rhpI v1.2.2 (v_B_append v1.2.2 (bcode a2 v1.2.1))))))))
        refine ⟨fun c3 => ?_, fun c3 => ?_⟩
        · skip
          refine am_fg 5 ?_
          exact hcv (1) (v1.2.1 + (-8 : Int32)) v1.2.2 (by unfold s_L_types_38_6; simp only [if_neg c1, if_neg c2, if_pos c3])
        · have hp := hp.2 c3
          refine ⟨fun E2 h2 => ?_, fun h2 => ?_⟩
          · obtain ⟨y, hy⟩ := hp
            rw [hy] at h2
            cases h2
          · rcases c4 : v_B_append v1.2.2 (bcode a2 v1.2.1) with E | y2
            · rw [c4] at h2
              cases h2
            · skip
              show am_Ev m_L_types (WB ++ e1) (RO ++ e2) P (37, [.ref 38, .long a2, .retAddr 0, .int v1.1, .int v1.2.1, .int (bcode a2 v1.2.1)], [.int y2.1], y2.2)
              have key5 : am_Ev m_L_types (WB ++ e1) (RO ++ e2) P (45, [.ref 38, .long a2, .retAddr 0, .int v1.1, .int v1.2.1, .int (bcode a2 v1.2.1)], [.int (if y2.1 ≤ 0 then (0 : Int32) else 1)], y2.2) := by
                refine am_Ev_G [6] 400 _ ?_
                show am_Ev m_L_types (WB ++ e1) (RO ++ e2) P (6, [.ref 38, .long a2, .retAddr 0, .int (if y2.1 ≤ 0 then (0 : Int32) else 1), .int (v1.2.1 + (-8 : Int32)), .int (bcode a2 v1.2.1)], [], y2.2)
                refine am_fg 5 ?_
                exact hcv ((if y2.1 ≤ 0 then (0 : Int32) else 1)) (v1.2.1 + (-8 : Int32)) y2.2 (by unfold s_L_types_38_6; simp only [if_neg c1, if_neg c2, if_neg c3, c4])
              refine am_Ev_G [45] 400 _ ?_
              show ((y2.1 ≤ 0 → am_Ev m_L_types (WB ++ e1) (RO ++ e2) P (45, [.ref 38, .long a2, .retAddr 0, .int v1.1, .int v1.2.1, .int (bcode a2 v1.2.1)], [.int 0], y2.2)) ∧ (¬ y2.1 ≤ 0 → am_Ev m_L_types (WB ++ e1) (RO ++ e2) P (45, [.ref 38, .long a2, .retAddr 0, .int v1.1, .int v1.2.1, .int (bcode a2 v1.2.1)], [.int 1], y2.2)))
              refine ⟨fun c6 => ?_, fun c6 => ?_⟩
              · skip
                simpa only [if_pos c6] using key5
              · skip
                simpa only [if_neg c6] using key5
  · intro r1 hr7
    have hp := hp _ hr7
    show am_Ev m_L_types (WB ++ e1) (RO ++ e2) P (52, [.ref 38, .long a2, .retAddr 0, .int r1.1, .int r1.2.1, .retAddr 0], [], r1.2.2)
    refine am_Ev_G [] 400 _ ?_
    show ((((r1.1 : Int32) = 0 ∨ (r1.1 : Int32) = 1)) ∧ P (.inl (some (.int r1.1))) r1.2.2)
    refine ⟨hp, ?_⟩
    exact hP (r1.1, r1.2.2) (by unfold v_L_types_38; simp only [hr7])
theorem ok_L_types {l : Launch} (hl : l.stackTraces = false) (e1 e2 : List Sh) (k : Nat) : am_Ok l (WB ++ e1) (RO ++ e2) (d_L_types k) := by
  refine am_met hl (own := RL) (M := m_L_types) rfl pf_L_types cu_L_types rfl rfl rfl rfl (fun _ => rfl) rfl ⟨chk_L_types, (am_n), (am_c (lk_L_50) am_n), (am_c (ck_L_147) am_n), (am_n)⟩ (am_n) (am_c (ok_B_append hl e1 _ 15) am_n) (fun z => nomatch z) ?_ ?_
  · intro _ as h hg
    show g_thr (g_L_types (WB ++ e1) (RO ++ e2) as h) = none
    unfold g_L_types
    split <;> rfl
  · intro as h hg hp
    revert hg hp
    show g_ok (g_L_types (WB ++ e1) (RO ++ e2) as h) = true → g_pre (g_L_types (WB ++ e1) (RO ++ e2) as h) → _ ∧ am_Ev m_L_types (WB ++ e1) (RO ++ e2) (am_eq (g_L_types (WB ++ e1) (RO ++ e2) as h)) (0, am_ent as 6, [], h)
    unfold g_L_types
    split
    · rename_i o1 a2
      intro hc hp
      change (Nat.beq o1 38) = true at hc
      obtain rfl := am_beq hc
      exact ⟨Nat.le_of_ble_eq_true rfl, ev_L_types_38 h a2 hp eqRIW⟩
    · exact fun z => nomatch z
def k_L_isError (pc : Nat) : Ent := bif Nat.ble 38 pc then am_nop else bif Nat.ble 17 pc then (bif Nat.ble 29 pc then (bif Nat.ble 33 pc then (bif Nat.ble 36 pc then (bif Nat.ble 37 pc then (bif Nat.beq pc 37 then (.ireturn, 0, 0, []) else am_nop) else (bif Nat.beq pc 36 then (.iconst 0, 0, 0, []) else am_nop)) else (bif Nat.beq pc 33 then (.goto 4, 0, 37, []) else am_nop)) else (bif Nat.ble 32 pc then (bif Nat.beq pc 32 then (.iconst 1, 1, 0, []) else am_nop) else (bif Nat.beq pc 29 then (.if_icmp .ne 7, 0, 36, []) else am_nop))) else (bif Nat.ble 23 pc then (bif Nat.ble 24 pc then (bif Nat.ble 27 pc then (bif Nat.beq pc 27 then (.iload 5, 0, 5, []) else am_nop) else (bif Nat.beq pc 24 then (.invokevirtual 156, 0, 0, []) else am_nop)) else (bif Nat.beq pc 23 then (.aload_n 0, 0, 0, []) else am_nop)) else (bif Nat.ble 20 pc then (bif Nat.beq pc 20 then (.ifCond .eq 16, 0, 36, []) else am_nop) else (bif Nat.beq pc 17 then (.invokestatic 152, 0, 0, []) else am_nop)))) else (bif Nat.ble 8 pc then (bif Nat.ble 12 pc then (bif Nat.ble 15 pc then (bif Nat.ble 16 pc then (bif Nat.beq pc 16 then (.lload_n 3, 0, 3, []) else am_nop) else (bif Nat.beq pc 15 then (.aload_n 0, 0, 0, []) else am_nop)) else (bif Nat.beq pc 12 then (.ifCond .eq 24, 0, 36, []) else am_nop)) else (bif Nat.ble 9 pc then (bif Nat.beq pc 9 then (.invokestatic 152, 0, 0, []) else am_nop) else (bif Nat.beq pc 8 then (.lload_n 1, 0, 1, []) else am_nop))) else (bif Nat.ble 4 pc then (bif Nat.ble 7 pc then (bif Nat.beq pc 7 then (.aload_n 0, 0, 0, []) else am_nop) else (bif Nat.beq pc 4 then (.ifCond .lt 32, 0, 36, []) else am_nop)) else (bif Nat.ble 1 pc then (bif Nat.beq pc 1 then (.invokevirtual 149, 0, 0, []) else am_nop) else (bif Nat.beq pc 0 then (.aload_n 0, 0, 0, []) else am_nop))))
theorem lk_L_149 : am_lnk RL 149 (d_B_clearBuffer 15) := ⟨⟨by decide, by decide⟩, am_tb 1 (by decide +kernel) rfl, Or.inr ⟨by decide, rfl, am_tb 813 (by decide +kernel) rfl, am_tb 814 (by decide +kernel) rfl, ⟨TX5, 10, rfl⟩, Or.inl (am_tb 812 (by decide +kernel) rfl)⟩⟩
theorem lk_L_152 : am_lnk RL 152 (d_L_types 0) := ⟨⟨by decide, by decide⟩, am_tb 0 (by decide +kernel) rfl, Or.inl ⟨by decide, rfl, am_tb 817 (by decide +kernel) rfl, Or.inl ⟨by decide, am_tb 816 (by decide +kernel) rfl⟩⟩⟩
theorem lk_L_156 : am_lnk RL 156 (d_B_firstError 15) := ⟨⟨by decide, by decide⟩, am_tb 1 (by decide +kernel) rfl, Or.inr ⟨by decide, rfl, am_tb 821 (by decide +kernel) rfl, am_tb 822 (by decide +kernel) rfl, ⟨TX5, 10, rfl⟩, Or.inl (am_tb 820 (by decide +kernel) rfl)⟩⟩
def m_L_isError : MI := (k_L_isError, [], [(149, d_B_clearBuffer 15), (152, d_L_types 0), (156, d_B_firstError 15)], [], [], [], [], 9, 164, some .boolean, fun _ => 0, 1)
def v_L_isError_38 (h : HP) (a2 : Int64) (a3 : Int64) (a4 : Int32) : Int32 × HP := (bnd (v_B_clearBuffer h) fun y1 => (if y1.1 < 0 then (0, y1.2) else (bnd (v_L_types_38 y1.2 a2) fun y2 => (if y2.1 = 0 then (0, y2.2) else (bnd (v_L_types_38 y2.2 a3) fun y3 => (if y3.1 = 0 then (0, y3.2) else (bnd (v_B_firstError y3.2) fun y4 => ((if y4.1 = a4 then (1 : Int32) else 0), y4.2))))))))
def p_L_isError_38 (h : HP) (a2 : Int64) (a3 : Int64) (a4 : Int32) : Prop := (∀ y1, v_B_clearBuffer h = y1 → ((y1.1 < 0 → True) ∧ (¬ y1.1 < 0 → ((p_L_types_38 y1.2 a2) ∧ (∀ y2, v_L_types_38 y1.2 a2 = y2 → ((y2.1 = 0 → True) ∧ (¬ y2.1 = 0 → ((p_L_types_38 y2.2 a3) ∧ (∀ y3, v_L_types_38 y2.2 a3 = y3 → ((y3.1 = 0 → True) ∧ (¬ y3.1 = 0 → (p_B_firstError y3.2))))))))))))
def g_L_isError (_ _ : List Sh) (as : List Value) (h : HP) : GR := match as with
  | [.ref o1, .long a2, .long a3, .int a4] => (Nat.beq o1 38, p_L_isError_38 h a2 a3 a4, none, some (.int (v_L_isError_38 h a2 a3 a4).1), (v_L_isError_38 h a2 a3 a4).2)
  | _ => bad h
def d_L_isError (k : Nat) : CD := (k, yL_isError, cL_isError, 6, some .boolean, 4, 9, 164, 0, false, true, g_L_isError)
theorem chk_L_isError : ∀ pc, am_chk cL_isError k_L_isError pc = true := am_chkall 38 (by decide +kernel) (fun pc h => by unfold k_L_isError; rw [Nat.ble_eq_true_of_le h]; rfl)
theorem pf_L_isError : plainFor yL_isError = true := by decide +kernel
theorem cu_L_isError : Cond.code yL_isError cL_isError 6 (some .boolean) ∈ am_U := am_tb 811 (by decide +kernel) rfl
set_option maxRecDepth 100000 in
theorem ev_L_isError_38 {e1 e2 : List Sh} {P : AR → HP → Prop} (h : HP) (a2 : Int64) (a3 : Int64) (a4 : Int32) (hp : p_L_isError_38 h a2 a3 a4) (hP : ∀ q, v_L_isError_38 h a2 a3 a4 = q → RIW P h q) : am_Ev m_L_isError (WB ++ e1) (RO ++ e2) P (0, [.ref 38, .long a2, .retAddr 0, .long a3, .retAddr 0, .int a4], [], h) := by
  unfold p_L_isError_38 at hp
  refine am_Ev_G [4] 400 _ ?_
  show am_Ev m_L_isError (WB ++ e1) (RO ++ e2) P (4, [.ref 38, .long a2, .retAddr 0, .long a3, .retAddr 0, .int a4], [.int ((v_B_clearBuffer h).1)], ((v_B_clearBuffer h).2))
  obtain ⟨y1, c1⟩ : ∃ y, v_B_clearBuffer h = y := ⟨_, rfl⟩
  rw [c1]
  have hp := hp _ c1
  show am_Ev m_L_isError (WB ++ e1) (RO ++ e2) P (4, [.ref 38, .long a2, .retAddr 0, .long a3, .retAddr 0, .int a4], [.int y1.1], y1.2)
  refine am_Ev_G [12] 400 _ ?_
  show ((y1.1 < 0 → ((((0 : Int32) = 0 ∨ (0 : Int32) = 1)) ∧ P (.inl (some (.int 0))) y1.2)) ∧ (¬ y1.1 < 0 → ((p_L_types_38 y1.2 a2) ∧ am_Ev m_L_isError (WB ++ e1) (RO ++ e2) P (12, [.ref 38, .long a2, .retAddr 0, .long a3, .retAddr 0, .int a4], [.int ((v_L_types_38 y1.2 a2).1)], ((v_L_types_38 y1.2 a2).2)))))
  refine ⟨fun c2 => ?_, fun c2 => ?_⟩
  · skip
    refine ⟨(by decide), ?_⟩
    exact hP (0, y1.2) (by unfold v_L_isError_38; simp only [bnd, c1, if_pos c2])
  · have hp := hp.2 c2
    obtain ⟨hob, hp⟩ := hp
    refine ⟨hob, ?_⟩
    obtain ⟨y2, c3⟩ : ∃ y, v_L_types_38 y1.2 a2 = y := ⟨_, rfl⟩
    rw [c3]
    have hp := hp _ c3
    show am_Ev m_L_isError (WB ++ e1) (RO ++ e2) P (12, [.ref 38, .long a2, .retAddr 0, .long a3, .retAddr 0, .int a4], [.int y2.1], y2.2)
    refine am_Ev_G [20] 400 _ ?_
    show ((y2.1 = 0 → ((((0 : Int32) = 0 ∨ (0 : Int32) = 1)) ∧ P (.inl (some (.int 0))) y2.2)) ∧ (¬ y2.1 = 0 → ((p_L_types_38 y2.2 a3) ∧ am_Ev m_L_isError (WB ++ e1) (RO ++ e2) P (20, [.ref 38, .long a2, .retAddr 0, .long a3, .retAddr 0, .int a4], [.int ((v_L_types_38 y2.2 a3).1)], ((v_L_types_38 y2.2 a3).2)))))
    refine ⟨fun c4 => ?_, fun c4 => ?_⟩
    · skip
      refine ⟨(by decide), ?_⟩
      exact hP (0, y2.2) (by unfold v_L_isError_38; simp only [bnd, c1, if_neg c2, bnd, c3, if_pos c4])
    · have hp := hp.2 c4
      obtain ⟨hob, hp⟩ := hp
      refine ⟨hob, ?_⟩
      obtain ⟨y3, c5⟩ : ∃ y, v_L_types_38 y2.2 a3 = y := ⟨_, rfl⟩
      rw [c5]
      have hp := hp _ c5
      show am_Ev m_L_isError (WB ++ e1) (RO ++ e2) P (20, [.ref 38, .long a2, .retAddr 0, .long a3, .retAddr 0, .int a4], [.int y3.1], y3.2)
      refine am_Ev_G [27] 400 _ ?_
      show ((y3.1 = 0 → ((((0 : Int32) = 0 ∨ (0 : Int32) = 1)) ∧ P (.inl (some (.int 0))) y3.2)) ∧ (¬ y3.1 = 0 → ((p_B_firstError y3.2) ∧ am_Ev m_L_isError (WB ++ e1) (RO ++ e2) P (27, [.ref 38, .long a2, .retAddr 0, .long a3, .retAddr 0, .int a4], [.int ((v_B_firstError y3.2).1)], ((v_B_firstError y3.2).2)))))
      refine ⟨fun c6 => ?_, fun c6 => ?_⟩
      · skip
        refine ⟨(by decide), ?_⟩
        exact hP (0, y3.2) (by unfold v_L_isError_38; simp only [bnd, c1, if_neg c2, bnd, c3, if_neg c4, bnd, c5, if_pos c6])
      · have hp := hp.2 c6
        refine ⟨hp, ?_⟩
        obtain ⟨y4, c7⟩ : ∃ y, v_B_firstError y3.2 = y := ⟨_, rfl⟩
        rw [c7]
        show am_Ev m_L_isError (WB ++ e1) (RO ++ e2) P (27, [.ref 38, .long a2, .retAddr 0, .long a3, .retAddr 0, .int a4], [.int y4.1], y4.2)
        refine am_Ev_G [29] 400 _ ?_
        show am_Ev m_L_isError (WB ++ e1) (RO ++ e2) P (29, [.ref 38, .long a2, .retAddr 0, .long a3, .retAddr 0, .int a4], [.int a4, .int y4.1], y4.2)
        have key8 : am_Ev m_L_isError (WB ++ e1) (RO ++ e2) P (37, [.ref 38, .long a2, .retAddr 0, .long a3, .retAddr 0, .int a4], [.int (if y4.1 = a4 then (1 : Int32) else 0)], y4.2) := by
          refine am_Ev_G [] 400 _ ?_
          show (((((if y4.1 = a4 then (1 : Int32) else 0) : Int32) = 0 ∨ ((if y4.1 = a4 then (1 : Int32) else 0) : Int32) = 1)) ∧ P (.inl (some (.int (if y4.1 = a4 then (1 : Int32) else 0)))) y4.2)
          refine ⟨(by (repeat' split) <;> decide), ?_⟩
          exact hP ((if y4.1 = a4 then (1 : Int32) else 0), y4.2) (by unfold v_L_isError_38; simp only [bnd, c1, if_neg c2, bnd, c3, if_neg c4, bnd, c5, if_neg c6, bnd, c7])
        refine am_Ev_G [37] 400 _ ?_
        show ((¬ y4.1 = a4 → am_Ev m_L_isError (WB ++ e1) (RO ++ e2) P (37, [.ref 38, .long a2, .retAddr 0, .long a3, .retAddr 0, .int a4], [.int 0], y4.2)) ∧ (y4.1 = a4 → am_Ev m_L_isError (WB ++ e1) (RO ++ e2) P (37, [.ref 38, .long a2, .retAddr 0, .long a3, .retAddr 0, .int a4], [.int 1], y4.2)))
        refine ⟨fun c9 => ?_, fun c9 => ?_⟩
        · skip
          simpa only [if_neg c9] using key8
        · skip
          simpa only [if_pos c9] using key8
theorem ok_L_isError {l : Launch} (hl : l.stackTraces = false) (e1 e2 : List Sh) (k : Nat) : am_Ok l (WB ++ e1) (RO ++ e2) (d_L_isError k) := by
  refine am_met hl (own := RL) (M := m_L_isError) rfl pf_L_isError cu_L_isError rfl rfl rfl rfl (fun _ => rfl) rfl ⟨chk_L_isError, (am_n), (am_c (lk_L_149) (am_c (lk_L_152) (am_c (lk_L_156) am_n))), (am_n), (am_n)⟩ (am_n) (am_c (ok_B_clearBuffer hl e1 _ 15) (am_c (ok_L_types hl e1 _ 0) (am_c (ok_B_firstError hl e1 _ 15) am_n))) (fun z => nomatch z) ?_ ?_
  · intro _ as h hg
    show g_thr (g_L_isError (WB ++ e1) (RO ++ e2) as h) = none
    unfold g_L_isError
    split <;> rfl
  · intro as h hg hp
    revert hg hp
    show g_ok (g_L_isError (WB ++ e1) (RO ++ e2) as h) = true → g_pre (g_L_isError (WB ++ e1) (RO ++ e2) as h) → _ ∧ am_Ev m_L_isError (WB ++ e1) (RO ++ e2) (am_eq (g_L_isError (WB ++ e1) (RO ++ e2) as h)) (0, am_ent as 6, [], h)
    unfold g_L_isError
    split
    · rename_i o1 a2 a3 a4
      intro hc hp
      change (Nat.beq o1 38) = true at hc
      obtain rfl := am_beq hc
      exact ⟨Nat.le_of_ble_eq_true rfl, ev_L_isError_38 h a2 a3 a4 hp eqRIW⟩
    · exact fun z => nomatch z
end
