/-! BusBlocksModel, out of its code (written by gen/meth.py). -/
noncomputable section
def k_M_load (pc : Nat) : Ent := bif Nat.ble 136 pc then am_nop else bif Nat.ble 71 pc then (bif Nat.ble 100 pc then (bif Nat.ble 116 pc then (bif Nat.ble 125 pc then (bif Nat.ble 132 pc then (bif Nat.ble 134 pc then (bif Nat.ble 135 pc then (bif Nat.beq pc 135 then (.ireturn, 0, 0, []) else am_nop) else (bif Nat.beq pc 134 then (.iaload, 0, 0, []) else am_nop)) else (bif Nat.beq pc 132 then (.bipush 15, 15, 0, []) else am_nop)) else (bif Nat.ble 128 pc then (bif Nat.ble 129 pc then (bif Nat.beq pc 129 then (.getfield 7, 0, 0, []) else am_nop) else (bif Nat.beq pc 128 then (.aload_n 0, 0, 0, []) else am_nop)) else (bif Nat.beq pc 125 then (.putfield 163, 0, 0, []) else am_nop))) else (bif Nat.ble 120 pc then (bif Nat.ble 123 pc then (bif Nat.ble 124 pc then (bif Nat.beq pc 124 then (.iconst 0, 0, 0, []) else am_nop) else (bif Nat.beq pc 123 then (.aload_n 0, 0, 0, []) else am_nop)) else (bif Nat.beq pc 120 then (.goto (-73), 0, 47, []) else am_nop)) else (bif Nat.ble 117 pc then (bif Nat.beq pc 117 then (.iinc 1 5, 5, 1, []) else am_nop) else (bif Nat.beq pc 116 then (.iastore, 0, 0, []) else am_nop)))) else (bif Nat.ble 107 pc then (bif Nat.ble 113 pc then (bif Nat.ble 114 pc then (bif Nat.ble 115 pc then (bif Nat.beq pc 115 then (.iadd, 0, 0, []) else am_nop) else (bif Nat.beq pc 114 then (.iconst 1, 1, 0, []) else am_nop)) else (bif Nat.beq pc 113 then (.iaload, 0, 0, []) else am_nop)) else (bif Nat.ble 110 pc then (bif Nat.ble 112 pc then (bif Nat.beq pc 112 then (.dup2, 0, 0, []) else am_nop) else (bif Nat.beq pc 110 then (.bipush 15, 15, 0, []) else am_nop)) else (bif Nat.beq pc 107 then (.getfield 7, 0, 0, []) else am_nop))) else (bif Nat.ble 102 pc then (bif Nat.ble 103 pc then (bif Nat.ble 106 pc then (bif Nat.beq pc 106 then (.aload_n 0, 0, 0, []) else am_nop) else (bif Nat.beq pc 103 then (.invokevirtual 144, 0, 0, []) else am_nop)) else (bif Nat.beq pc 102 then (.iaload, 0, 0, []) else am_nop)) else (bif Nat.ble 101 pc then (bif Nat.beq pc 101 then (.iadd, 0, 0, []) else am_nop) else (bif Nat.beq pc 100 then (.iconst 4, 4, 0, []) else am_nop))))) else (bif Nat.ble 85 pc then (bif Nat.ble 92 pc then (bif Nat.ble 95 pc then (bif Nat.ble 96 pc then (bif Nat.ble 99 pc then (bif Nat.beq pc 99 then (.iload_n 1, 0, 1, []) else am_nop) else (bif Nat.beq pc 96 then (.getfield 35, 0, 0, []) else am_nop)) else (bif Nat.beq pc 95 then (.aload_n 0, 0, 0, []) else am_nop)) else (bif Nat.ble 93 pc then (bif Nat.ble 94 pc then (bif Nat.beq pc 94 then (.iaload, 0, 0, []) else am_nop) else (bif Nat.beq pc 93 then (.iadd, 0, 0, []) else am_nop)) else (bif Nat.beq pc 92 then (.iconst 3, 3, 0, []) else am_nop))) else (bif Nat.ble 87 pc then (bif Nat.ble 88 pc then (bif Nat.ble 91 pc then (bif Nat.beq pc 91 then (.iload_n 1, 0, 1, []) else am_nop) else (bif Nat.beq pc 88 then (.getfield 35, 0, 0, []) else am_nop)) else (bif Nat.beq pc 87 then (.aload_n 0, 0, 0, []) else am_nop)) else (bif Nat.ble 86 pc then (bif Nat.beq pc 86 then (.iaload, 0, 0, []) else am_nop) else (bif Nat.beq pc 85 then (.iadd, 0, 0, []) else am_nop)))) else (bif Nat.ble 78 pc then (bif Nat.ble 80 pc then (bif Nat.ble 83 pc then (bif Nat.ble 84 pc then (bif Nat.beq pc 84 then (.iconst 2, 2, 0, []) else am_nop) else (bif Nat.beq pc 83 then (.iload_n 1, 0, 1, []) else am_nop)) else (bif Nat.beq pc 80 then (.getfield 35, 0, 0, []) else am_nop)) else (bif Nat.ble 79 pc then (bif Nat.beq pc 79 then (.aload_n 0, 0, 0, []) else am_nop) else (bif Nat.beq pc 78 then (.iaload, 0, 0, []) else am_nop))) else (bif Nat.ble 75 pc then (bif Nat.ble 76 pc then (bif Nat.ble 77 pc then (bif Nat.beq pc 77 then (.iadd, 0, 0, []) else am_nop) else (bif Nat.beq pc 76 then (.iconst 1, 1, 0, []) else am_nop)) else (bif Nat.beq pc 75 then (.iload_n 1, 0, 1, []) else am_nop)) else (bif Nat.ble 72 pc then (bif Nat.beq pc 72 then (.getfield 35, 0, 0, []) else am_nop) else (bif Nat.beq pc 71 then (.aload_n 0, 0, 0, []) else am_nop)))))) else (bif Nat.ble 37 pc then (bif Nat.ble 53 pc then (bif Nat.ble 62 pc then (bif Nat.ble 66 pc then (bif Nat.ble 69 pc then (bif Nat.ble 70 pc then (bif Nat.beq pc 70 then (.iaload, 0, 0, []) else am_nop) else (bif Nat.beq pc 69 then (.iload_n 1, 0, 1, []) else am_nop)) else (bif Nat.beq pc 66 then (.getfield 35, 0, 0, []) else am_nop)) else (bif Nat.ble 64 pc then (bif Nat.ble 65 pc then (bif Nat.beq pc 65 then (.aload_n 0, 0, 0, []) else am_nop) else (bif Nat.beq pc 64 then (.iaload, 0, 0, []) else am_nop)) else (bif Nat.beq pc 62 then (.bipush 15, 15, 0, []) else am_nop))) else (bif Nat.ble 57 pc then (bif Nat.ble 58 pc then (bif Nat.ble 59 pc then (bif Nat.beq pc 59 then (.getfield 7, 0, 0, []) else am_nop) else (bif Nat.beq pc 58 then (.aload_n 0, 0, 0, []) else am_nop)) else (bif Nat.beq pc 57 then (.aload_n 0, 0, 0, []) else am_nop)) else (bif Nat.ble 54 pc then (bif Nat.beq pc 54 then (.if_icmp .ge 69, 0, 123, []) else am_nop) else (bif Nat.beq pc 53 then (.imul, 0, 0, []) else am_nop)))) else (bif Nat.ble 46 pc then (bif Nat.ble 48 pc then (bif Nat.ble 49 pc then (bif Nat.ble 50 pc then (bif Nat.beq pc 50 then (.getfield 172, 0, 0, []) else am_nop) else (bif Nat.beq pc 49 then (.aload_n 0, 0, 0, []) else am_nop)) else (bif Nat.beq pc 48 then (.iconst 5, 5, 0, []) else am_nop)) else (bif Nat.ble 47 pc then (bif Nat.beq pc 47 then (.iload_n 1, 0, 1, []) else am_nop) else (bif Nat.beq pc 46 then (.istore_n 1, 0, 1, []) else am_nop))) else (bif Nat.ble 41 pc then (bif Nat.ble 42 pc then (bif Nat.ble 45 pc then (bif Nat.beq pc 45 then (.iconst 0, 0, 0, []) else am_nop) else (bif Nat.beq pc 42 then (.invokevirtual 137, 0, 0, []) else am_nop)) else (bif Nat.beq pc 41 then (.aload_n 0, 0, 0, []) else am_nop)) else (bif Nat.ble 40 pc then (bif Nat.beq pc 40 then (.ireturn, 0, 0, []) else am_nop) else (bif Nat.beq pc 37 then (.invokevirtual 134, 0, 0, []) else am_nop))))) else (bif Nat.ble 18 pc then (bif Nat.ble 26 pc then (bif Nat.ble 32 pc then (bif Nat.ble 35 pc then (bif Nat.ble 36 pc then (bif Nat.beq pc 36 then (.iconst 2, 2, 0, []) else am_nop) else (bif Nat.beq pc 35 then (.aload_n 0, 0, 0, []) else am_nop)) else (bif Nat.beq pc 32 then (.if_icmp .le 9, 0, 41, []) else am_nop)) else (bif Nat.ble 29 pc then (bif Nat.ble 30 pc then (bif Nat.beq pc 30 then (.bipush 20, 20, 0, []) else am_nop) else (bif Nat.beq pc 29 then (.iadd, 0, 0, []) else am_nop)) else (bif Nat.beq pc 26 then (.getfield 172, 0, 0, []) else am_nop))) else (bif Nat.ble 22 pc then (bif Nat.ble 24 pc then (bif Nat.ble 25 pc then (bif Nat.beq pc 25 then (.aload_n 0, 0, 0, []) else am_nop) else (bif Nat.beq pc 24 then (.iaload, 0, 0, []) else am_nop)) else (bif Nat.beq pc 22 then (.bipush 15, 15, 0, []) else am_nop)) else (bif Nat.ble 19 pc then (bif Nat.beq pc 19 then (.getfield 7, 0, 0, []) else am_nop) else (bif Nat.beq pc 18 then (.aload_n 0, 0, 0, []) else am_nop)))) else (bif Nat.ble 9 pc then (bif Nat.ble 13 pc then (bif Nat.ble 14 pc then (bif Nat.ble 17 pc then (bif Nat.beq pc 17 then (.ireturn, 0, 0, []) else am_nop) else (bif Nat.beq pc 14 then (.invokevirtual 134, 0, 0, []) else am_nop)) else (bif Nat.beq pc 13 then (.iconst 1, 1, 0, []) else am_nop)) else (bif Nat.ble 12 pc then (bif Nat.beq pc 12 then (.aload_n 0, 0, 0, []) else am_nop) else (bif Nat.beq pc 9 then (.ifCond .ne 9, 0, 18, []) else am_nop))) else (bif Nat.ble 2 pc then (bif Nat.ble 5 pc then (bif Nat.ble 6 pc then (bif Nat.beq pc 6 then (.invokevirtual 188, 0, 0, []) else am_nop) else (bif Nat.beq pc 5 then (.aload_n 0, 0, 0, []) else am_nop)) else (bif Nat.beq pc 2 then (.putfield 38, 0, 0, []) else am_nop)) else (bif Nat.ble 1 pc then (bif Nat.beq pc 1 then (.iconst 0, 0, 0, []) else am_nop) else (bif Nat.beq pc 0 then (.aload_n 0, 0, 0, []) else am_nop))))))
def m_M_load : MI := (k_M_load, [(7, 6, 0), (35, 6, 13), (38, 6, 8), (163, 6, 7), (172, 6, 14)], [(134, d_M_refuses 16), (137, d_M_saves 16), (144, d_M_puts 16), (188, d_M_isWhole 16)], [], [], [], [], 5, 109, some .int, fun _ => 0, 1)
def s_M_load_47 (h : HP) (y1 : Int32 × HP) (y2 : HP) (v1 : Int32 × HP) : (Int32 × HP) ⊕ (Int32 × HP) := (if v1.1 < (5 * (v1.2.1 0 14)) then (bnd (v_M_puts v1.2 (v1.2.1 1 (am_ix 15)) (v1.2.1 9 (am_ix v1.1)) (v1.2.1 9 (am_ix (v1.1 + 1))) (v1.2.1 9 (am_ix (v1.1 + 2))) (v1.2.1 9 (am_ix (v1.1 + 3))) (v1.2.1 9 (am_ix (v1.1 + 4)))) fun y4 => (.inl ((v1.1 + 5), (am_si y4 1 (am_ix 15) ((y4.1 1 (am_ix 15)) + 1))))) else (.inr (v1.1, v1.2)))
def ps_M_load_47 (h : HP) (y1 : Int32 × HP) (y2 : HP) (v1 : Int32 × HP) : Prop := ((v1.1 < (5 * (v1.2.1 0 14)) → ((am_in v1.1 40) ∧ ((am_in (v1.1 + 1) 40) ∧ ((am_in (v1.1 + 2) 40) ∧ ((am_in (v1.1 + 3) 40) ∧ ((am_in (v1.1 + 4) 40) ∧ (p_M_puts v1.2 (v1.2.1 1 (am_ix 15)) (v1.2.1 9 (am_ix v1.1)) (v1.2.1 9 (am_ix (v1.1 + 1))) (v1.2.1 9 (am_ix (v1.1 + 2))) (v1.2.1 9 (am_ix (v1.1 + 3))) (v1.2.1 9 (am_ix (v1.1 + 4)))))))))) ∧ (¬ v1.1 < (5 * (v1.2.1 0 14)) → True))
def v_M_load (h : HP) : Int32 × HP := (bnd (v_M_isWhole (am_si h 0 8 0)) fun y1 => (if y1.1 = 0 then (bnd (v_M_refuses y1.2 1) fun y6 => (y6.1, y6.2)) else (if ((y1.2.1 1 (am_ix 15)) + (y1.2.1 0 14)) ≤ 20 then (bnd (v_M_saves y1.2) fun y2 => (match itr (s_M_load_47 h y1 y2) NF (0, y2) with | some r3 => ((am_si r3.2 0 7 0).1 1 (am_ix 15), (am_si r3.2 0 7 0)) | none => (0, h))) else (bnd (v_M_refuses y1.2 2) fun y5 => (y5.1, y5.2)))))
def p_M_load (h : HP) : Prop := ((p_M_isWhole (am_si h 0 8 0)) ∧ (∀ y1, v_M_isWhole (am_si h 0 8 0) = y1 → ((y1.1 = 0 → True) ∧ (¬ y1.1 = 0 → ((((y1.2.1 1 (am_ix 15)) + (y1.2.1 0 14)) ≤ 20 → ((p_M_saves y1.2) ∧ (∀ y2, v_M_saves y1.2 = y2 → (itrp (s_M_load_47 h y1 y2) (ps_M_load_47 h y1 y2) NF (0, y2))))) ∧ (¬ ((y1.2.1 1 (am_ix 15)) + (y1.2.1 0 14)) ≤ 20 → True))))))
def g_M_load (_ _ : List Sh) (as : List Value) (h : HP) : GR := match as with
  | [.ref o1] => (Nat.beq o1 0, p_M_load h, none, some (.int (v_M_load h).1), (v_M_load h).2)
  | _ => bad h
def d_M_load (k : Nat) : CD := (k, yX6_load, cX6_load, 2, some .int, 1, 5, 109, 0, false, true, g_M_load)
theorem chk_M_load : ∀ pc, am_chk cX6_load k_M_load pc = true := am_chkall 136 (by decide +kernel) (fun pc h => by unfold k_M_load; rw [Nat.ble_eq_true_of_le h]; rfl)
theorem pf_M_load : plainFor yX6_load = true := by decide +kernel
theorem cu_M_load : Cond.code yX6_load cX6_load 2 (some .int) ∈ am_U := am_tb 1108 (by decide +kernel) rfl
set_option maxHeartbeats 20000000 in
set_option maxRecDepth 100000 in
theorem ev_M_load {e1 ro : List Sh} {P : AR → HP → Prop} (h : HP) (hp : p_M_load h) (hP : ∀ q, v_M_load h = q → RIW P h q) : am_Ev m_M_load (WM ++ e1) ro P (0, [.ref 0, .retAddr 0], [], h) := by
  unfold p_M_load at hp
  refine am_Ev_G [5] 400 _ ?_
  show am_Ev m_M_load (WM ++ e1) ro P (5, [.ref 0, .retAddr 0], [], (am_si h 0 8 0))
  refine am_Ev_G [9] 400 _ ?_
  show ((p_M_isWhole (am_si h 0 8 0)) ∧ am_Ev m_M_load (WM ++ e1) ro P (9, [.ref 0, .retAddr 0], [.int ((v_M_isWhole (am_si h 0 8 0)).1)], ((v_M_isWhole (am_si h 0 8 0)).2)))
  obtain ⟨hob, hp⟩ := hp
  refine ⟨hob, ?_⟩
  obtain ⟨y1, c1⟩ : ∃ y, v_M_isWhole (am_si h 0 8 0) = y := ⟨_, rfl⟩
  rw [c1]
  have hp := hp _ c1
  show am_Ev m_M_load (WM ++ e1) ro P (9, [.ref 0, .retAddr 0], [.int y1.1], y1.2)
  refine am_Ev_G [17, 40, 45] 400 _ ?_
  show ((¬ y1.1 = 0 → ((am_in 15 163) ∧ ((((y1.2.1 1 (am_ix 15)) + (y1.2.1 0 14)) ≤ 20 → ((g_pre (g_M_saves (WM ++ e1) ro [.ref 0] y1.2)) ∧ am_Ev m_M_load (WM ++ e1) ro P (45, [.ref 0, .retAddr 0], [], (g_hp (g_M_saves (WM ++ e1) ro [.ref 0] y1.2))))) ∧ (¬ ((y1.2.1 1 (am_ix 15)) + (y1.2.1 0 14)) ≤ 20 → am_Ev m_M_load (WM ++ e1) ro P (40, [.ref 0, .retAddr 0], [.int ((v_M_refuses y1.2 2).1)], ((v_M_refuses y1.2 2).2)))))) ∧ (y1.1 = 0 → am_Ev m_M_load (WM ++ e1) ro P (17, [.ref 0, .retAddr 0], [.int ((v_M_refuses y1.2 1).1)], ((v_M_refuses y1.2 1).2))))
  show ((¬ y1.1 = 0 → ((am_in 15 163) ∧ ((((y1.2.1 1 (am_ix 15)) + (y1.2.1 0 14)) ≤ 20 → ((p_M_saves y1.2) ∧ am_Ev m_M_load (WM ++ e1) ro P (45, [.ref 0, .retAddr 0], [], (v_M_saves y1.2)))) ∧ (¬ ((y1.2.1 1 (am_ix 15)) + (y1.2.1 0 14)) ≤ 20 → am_Ev m_M_load (WM ++ e1) ro P (40, [.ref 0, .retAddr 0], [.int ((v_M_refuses y1.2 2).1)], ((v_M_refuses y1.2 2).2)))))) ∧ (y1.1 = 0 → am_Ev m_M_load (WM ++ e1) ro P (17, [.ref 0, .retAddr 0], [.int ((v_M_refuses y1.2 1).1)], ((v_M_refuses y1.2 1).2))))
  refine ⟨fun c2 => ?_, fun c2 => ?_⟩
  · have hp := hp.2 c2
    refine ⟨⟨by decide, by decide⟩, ?_⟩
    refine ⟨fun c3 => ?_, fun c3 => ?_⟩
    · have hp := hp.1 c3
      obtain ⟨hob, hp⟩ := hp
      refine ⟨hob, ?_⟩
      obtain ⟨y2, c4⟩ : ∃ y, v_M_saves y1.2 = y := ⟨_, rfl⟩
      rw [c4]
      have hp := hp _ c4
      show am_Ev m_M_load (WM ++ e1) ro P (45, [.ref 0, .retAddr 0], [], y2)
      refine am_Ev_G [47] 400 _ ?_
      show am_Ev m_M_load (WM ++ e1) ro P (47, [.ref 0, .int 0], [], y2)
      have hpl := hp
      refine am_itr (E := (fun (v1 : Int32 × HP) => am_Ev m_M_load (WM ++ e1) ro P (47, [.ref 0, .int v1.1], [], v1.2))) (E' := (fun (r3 : Int32 × HP) => am_Ev m_M_load (WM ++ e1) ro P (123, [.ref 0, .int r3.1], [], r3.2))) (s_M_load_47 h y1 y2) (ps_M_load_47 h y1 y2) ?_ NF (0, y2) hpl ?_
      · intro v1 hp hc1 hx1
        show am_Ev m_M_load (WM ++ e1) ro P (47, [.ref 0, .int v1.1], [], v1.2)
        unfold ps_M_load_47 at hp
        refine am_Ev_G [65, 123] 400 _ ?_
        show ((¬ v1.1 < (5 * (v1.2.1 0 14)) → am_Ev m_M_load (WM ++ e1) ro P (123, [.ref 0, .int v1.1], [], v1.2)) ∧ (v1.1 < (5 * (v1.2.1 0 14)) → ((am_in 15 163) ∧ am_Ev m_M_load (WM ++ e1) ro P (65, [.ref 0, .int v1.1], [.int (v1.2.1 1 (am_ix 15)), .ref 0], v1.2))))
        refine ⟨fun c5 => ?_, fun c5 => ?_⟩
        · skip
          exact hx1 (v1.1, v1.2) (by unfold s_M_load_47; simp only [if_neg c5])
        · have hp := hp.1 c5
          refine ⟨⟨by decide, by decide⟩, ?_⟩
          refine am_Ev_G [87] 400 _ ?_
          show ((am_in v1.1 40) ∧ ((am_in (v1.1 + 1) 40) ∧ ((am_in (v1.1 + 2) 40) ∧ am_Ev m_M_load (WM ++ e1) ro P (87, [.ref 0, .int v1.1], [.int (v1.2.1 9 (am_ix (v1.1 + 2))), .int (v1.2.1 9 (am_ix (v1.1 + 1))), .int (v1.2.1 9 (am_ix v1.1)), .int (v1.2.1 1 (am_ix 15)), .ref 0], v1.2))))
          obtain ⟨hob, hp⟩ := hp
          refine ⟨hob, ?_⟩
          obtain ⟨hob, hp⟩ := hp
          refine ⟨hob, ?_⟩
          obtain ⟨hob, hp⟩ := hp
          refine ⟨hob, ?_⟩
          refine am_Ev_G [106] 400 _ ?_
          show ((am_in (v1.1 + 3) 40) ∧ ((am_in (v1.1 + 4) 40) ∧ ((p_M_puts v1.2 (v1.2.1 1 (am_ix 15)) (v1.2.1 9 (am_ix v1.1)) (v1.2.1 9 (am_ix (v1.1 + 1))) (v1.2.1 9 (am_ix (v1.1 + 2))) (v1.2.1 9 (am_ix (v1.1 + 3))) (v1.2.1 9 (am_ix (v1.1 + 4)))) ∧ am_Ev m_M_load (WM ++ e1) ro P (106, [.ref 0, .int v1.1], [], (v_M_puts v1.2 (v1.2.1 1 (am_ix 15)) (v1.2.1 9 (am_ix v1.1)) (v1.2.1 9 (am_ix (v1.1 + 1))) (v1.2.1 9 (am_ix (v1.1 + 2))) (v1.2.1 9 (am_ix (v1.1 + 3))) (v1.2.1 9 (am_ix (v1.1 + 4))))))))
          obtain ⟨hob, hp⟩ := hp
          refine ⟨hob, ?_⟩
          obtain ⟨hob, hp⟩ := hp
          refine ⟨hob, ?_⟩
          refine ⟨hp, ?_⟩
          obtain ⟨y4, c6⟩ : ∃ y, v_M_puts v1.2 (v1.2.1 1 (am_ix 15)) (v1.2.1 9 (am_ix v1.1)) (v1.2.1 9 (am_ix (v1.1 + 1))) (v1.2.1 9 (am_ix (v1.1 + 2))) (v1.2.1 9 (am_ix (v1.1 + 3))) (v1.2.1 9 (am_ix (v1.1 + 4))) = y := ⟨_, rfl⟩
          rw [c6]
          show am_Ev m_M_load (WM ++ e1) ro P (106, [.ref 0, .int v1.1], [], y4)
          refine am_Ev_G [117] 400 _ ?_
          show ((am_in 15 163) ∧ ((am_in 15 163) ∧ am_Ev m_M_load (WM ++ e1) ro P (117, [.ref 0, .int v1.1], [], (am_si y4 1 (am_ix 15) ((y4.1 1 (am_ix 15)) + 1)))))
          refine ⟨⟨by decide, by decide⟩, ?_⟩
          refine ⟨⟨by decide, by decide⟩, ?_⟩
          refine am_Ev_G [47] 400 _ ?_
          show am_Ev m_M_load (WM ++ e1) ro P (47, [.ref 0, .int (v1.1 + 5)], [], (am_si y4 1 (am_ix 15) ((y4.1 1 (am_ix 15)) + 1)))
          exact hc1 ((v1.1 + 5), (am_si y4 1 (am_ix 15) ((y4.1 1 (am_ix 15)) + 1))) (by unfold s_M_load_47; simp only [if_pos c5, bnd, c6])
      · intro r3 hr7
        show am_Ev m_M_load (WM ++ e1) ro P (123, [.ref 0, .int r3.1], [], r3.2)
        refine am_Ev_G [128] 400 _ ?_
        show am_Ev m_M_load (WM ++ e1) ro P (128, [.ref 0, .int r3.1], [], (am_si r3.2 0 7 0))
        refine am_Ev_G [134] 400 _ ?_
        show am_Ev m_M_load (WM ++ e1) ro P (134, [.ref 0, .int r3.1], [.int 15, .ref 1], (am_si r3.2 0 7 0))
        refine am_Ev_G [] 400 _ ?_
        show ((am_in 15 163) ∧ P (.inl (some (.int ((am_si r3.2 0 7 0).1 1 (am_ix 15))))) (am_si r3.2 0 7 0))
        refine ⟨⟨by decide, by decide⟩, ?_⟩
        exact hP ((am_si r3.2 0 7 0).1 1 (am_ix 15), (am_si r3.2 0 7 0)) (by unfold v_M_load; simp only [bnd, c1, if_neg c2, if_pos c3, bnd, c4, hr7])
    · skip
      obtain ⟨y5, c8⟩ : ∃ y, v_M_refuses y1.2 2 = y := ⟨_, rfl⟩
      rw [c8]
      show am_Ev m_M_load (WM ++ e1) ro P (40, [.ref 0, .retAddr 0], [.int y5.1], y5.2)
      refine am_Ev_G [] 400 _ ?_
      show P (.inl (some (.int y5.1))) y5.2
      exact hP (y5.1, y5.2) (by unfold v_M_load; simp only [bnd, c1, if_neg c2, if_neg c3, bnd, c8])
  · skip
    obtain ⟨y6, c9⟩ : ∃ y, v_M_refuses y1.2 1 = y := ⟨_, rfl⟩
    rw [c9]
    show am_Ev m_M_load (WM ++ e1) ro P (17, [.ref 0, .retAddr 0], [.int y6.1], y6.2)
    refine am_Ev_G [] 400 _ ?_
    show P (.inl (some (.int y6.1))) y6.2
    exact hP (y6.1, y6.2) (by unfold v_M_load; simp only [bnd, c1, if_pos c2, bnd, c9])
theorem ok_M_load {l : Launch} (hl : l.stackTraces = false) (e1 ro : List Sh) (k : Nat) : am_Ok l (WM ++ e1) ro (d_M_load k) := by
  refine am_met hl (own := RX6) (M := m_M_load) rfl pf_M_load cu_M_load rfl rfl rfl rfl (fun _ => rfl) rfl ⟨chk_M_load, (am_c (fl_M_7) (am_c (fl_M_35) (am_c (fl_M_38) (am_c (fl_M_163) (am_c (fl_M_172) am_n))))), (am_c (lk_M_134) (am_c (lk_M_137) (am_c (lk_M_144) (am_c (lk_M_188) am_n)))), (am_n), (am_n)⟩ (am_n) (am_c (ok_M_refuses hl e1 _ 16) (am_c (ok_M_saves hl e1 _ 16) (am_c (ok_M_puts hl e1 _ 16) (am_c (ok_M_isWhole hl e1 _ 16) am_n)))) (fun z => nomatch z) ?_ ?_
  · intro _ as h hg
    show g_thr (g_M_load (WM ++ e1) ro as h) = none
    unfold g_M_load
    split <;> rfl
  · intro as h hg hp
    revert hg hp
    show g_ok (g_M_load (WM ++ e1) ro as h) = true → g_pre (g_M_load (WM ++ e1) ro as h) → _ ∧ am_Ev m_M_load (WM ++ e1) ro (am_eq (g_M_load (WM ++ e1) ro as h)) (0, am_ent as 2, [], h)
    unfold g_M_load
    split
    · rename_i o1
      intro hc hp
      change (Nat.beq o1 0) = true at hc
      obtain rfl := am_beq hc
      exact ⟨Nat.le_of_ble_eq_true rfl, ev_M_load h hp eqRIW⟩
    · exact fun z => nomatch z
def k_M_keep (pc : Nat) : Ent := bif Nat.ble 52 pc then am_nop else bif Nat.ble 25 pc then (bif Nat.ble 41 pc then (bif Nat.ble 45 pc then (bif Nat.ble 50 pc then (bif Nat.ble 51 pc then (bif Nat.beq pc 51 then (.ireturn, 0, 0, []) else am_nop) else (bif Nat.beq pc 50 then (.iaload, 0, 0, []) else am_nop)) else (bif Nat.ble 48 pc then (bif Nat.beq pc 48 then (.bipush 15, 15, 0, []) else am_nop) else (bif Nat.beq pc 45 then (.getfield 7, 0, 0, []) else am_nop))) else (bif Nat.ble 43 pc then (bif Nat.ble 44 pc then (bif Nat.beq pc 44 then (.aload_n 0, 0, 0, []) else am_nop) else (bif Nat.beq pc 43 then (.bastore, 0, 0, []) else am_nop)) else (bif Nat.ble 42 pc then (bif Nat.beq pc 42 then (.iconst 1, 1, 0, []) else am_nop) else (bif Nat.beq pc 41 then (.iload_n 1, 0, 1, []) else am_nop)))) else (bif Nat.ble 33 pc then (bif Nat.ble 37 pc then (bif Nat.ble 38 pc then (bif Nat.beq pc 38 then (.getfield 22, 0, 0, []) else am_nop) else (bif Nat.beq pc 37 then (.aload_n 0, 0, 0, []) else am_nop)) else (bif Nat.ble 34 pc then (bif Nat.beq pc 34 then (.invokestatic 45, 0, 0, []) else am_nop) else (bif Nat.beq pc 33 then (.imul, 0, 0, []) else am_nop))) else (bif Nat.ble 29 pc then (bif Nat.ble 32 pc then (bif Nat.beq pc 32 then (.iload_n 1, 0, 1, []) else am_nop) else (bif Nat.beq pc 29 then (.sipush 163, 163, 0, []) else am_nop)) else (bif Nat.ble 26 pc then (bif Nat.beq pc 26 then (.getfield 19, 0, 0, []) else am_nop) else (bif Nat.beq pc 25 then (.aload_n 0, 0, 0, []) else am_nop))))) else (bif Nat.ble 11 pc then (bif Nat.ble 19 pc then (bif Nat.ble 21 pc then (bif Nat.ble 24 pc then (bif Nat.beq pc 24 then (.iconst 0, 0, 0, []) else am_nop) else (bif Nat.beq pc 21 then (.getfield 7, 0, 0, []) else am_nop)) else (bif Nat.ble 20 pc then (bif Nat.beq pc 20 then (.aload_n 0, 0, 0, []) else am_nop) else (bif Nat.beq pc 19 then (.ireturn, 0, 0, []) else am_nop))) else (bif Nat.ble 15 pc then (bif Nat.ble 16 pc then (bif Nat.beq pc 16 then (.invokevirtual 134, 0, 0, []) else am_nop) else (bif Nat.beq pc 15 then (.iconst 1, 1, 0, []) else am_nop)) else (bif Nat.ble 14 pc then (bif Nat.beq pc 14 then (.aload_n 0, 0, 0, []) else am_nop) else (bif Nat.beq pc 11 then (.ifCond .ne 9, 0, 20, []) else am_nop)))) else (bif Nat.ble 5 pc then (bif Nat.ble 7 pc then (bif Nat.ble 8 pc then (bif Nat.beq pc 8 then (.invokestatic 127, 0, 0, []) else am_nop) else (bif Nat.beq pc 7 then (.iconst 1, 1, 0, []) else am_nop)) else (bif Nat.ble 6 pc then (bif Nat.beq pc 6 then (.iconst 0, 0, 0, []) else am_nop) else (bif Nat.beq pc 5 then (.iload_n 1, 0, 1, []) else am_nop))) else (bif Nat.ble 1 pc then (bif Nat.ble 2 pc then (bif Nat.beq pc 2 then (.putfield 38, 0, 0, []) else am_nop) else (bif Nat.beq pc 1 then (.iconst 0, 0, 0, []) else am_nop)) else (bif Nat.beq pc 0 then (.aload_n 0, 0, 0, []) else am_nop))))
theorem fl_M_19 : am_fok RX6 19 (6, 4) := ⟨RX6, TX6, 16, rfl, by decide, rfl, Or.inl (am_tb 888 (by decide +kernel) rfl)⟩
theorem fl_M_22 : am_fok RX6 22 (6, 5) := ⟨RX6, TX6, 16, rfl, by decide, rfl, Or.inl (am_tb 889 (by decide +kernel) rfl)⟩
def m_M_keep : MI := (k_M_keep, [(7, 6, 0), (19, 6, 4), (22, 6, 5), (38, 6, 8)], [(45, d_M_lays 0), (127, d_M_in 0), (134, d_M_refuses 16)], [], [], [], [], 1, 24, some .int, fun _ => 0, 1)
def v_M_keep (h : HP) (a1 : Int32) : Int32 × HP := (if (v_M_in (am_si h 0 8 0) a1 0 1) = 0 then (bnd (v_M_refuses (am_si h 0 8 0) 1) fun y1 => (y1.1, y1.2)) else ((am_si (v_lays (am_si h 0 8 0) 1 0 4 (163 * a1)) 5 (am_ix a1) 1).1 1 (am_ix 15), (am_si (v_lays (am_si h 0 8 0) 1 0 4 (163 * a1)) 5 (am_ix a1) 1)))
def p_M_keep (h : HP) (a1 : Int32) : Prop := (((v_M_in (am_si h 0 8 0) a1 0 1) = 0 → True) ∧ (¬ (v_M_in (am_si h 0 8 0) a1 0 1) = 0 → ((p_lays 0 (163 * a1) 163 326) ∧ (am_in a1 2))))
def g_M_keep (_ _ : List Sh) (as : List Value) (h : HP) : GR := match as with
  | [.ref o1, .int a1] => (Nat.beq o1 0, p_M_keep h a1, none, some (.int (v_M_keep h a1).1), (v_M_keep h a1).2)
  | _ => bad h
def d_M_keep (k : Nat) : CD := (k, yX6_keep, cX6_keep, 2, some .int, 2, 1, 24, 0, false, true, g_M_keep)
theorem chk_M_keep : ∀ pc, am_chk cX6_keep k_M_keep pc = true := am_chkall 52 (by decide +kernel) (fun pc h => by unfold k_M_keep; rw [Nat.ble_eq_true_of_le h]; rfl)
theorem pf_M_keep : plainFor yX6_keep = true := by decide +kernel
theorem cu_M_keep : Cond.code yX6_keep cX6_keep 2 (some .int) ∈ am_U := am_tb 1112 (by decide +kernel) rfl
set_option maxHeartbeats 20000000 in
set_option maxRecDepth 100000 in
theorem ev_M_keep {e1 ro : List Sh} {P : AR → HP → Prop} (h : HP) (a1 : Int32) (hp : p_M_keep h a1) (hP : ∀ q, v_M_keep h a1 = q → RIW P h q) : am_Ev m_M_keep (WM ++ e1) ro P (0, [.ref 0, .int a1], [], h) := by
  unfold p_M_keep at hp
  refine am_Ev_G [5] 400 _ ?_
  show am_Ev m_M_keep (WM ++ e1) ro P (5, [.ref 0, .int a1], [], (am_si h 0 8 0))
  refine am_Ev_G [11] 400 _ ?_
  show am_Ev m_M_keep (WM ++ e1) ro P (11, [.ref 0, .int a1], [.int (v_M_in (am_si h 0 8 0) a1 0 1)], (am_si h 0 8 0))
  refine am_Ev_G [19, 37] 400 _ ?_
  show ((¬ (v_M_in (am_si h 0 8 0) a1 0 1) = 0 → ((p_lays 0 (163 * a1) 163 326) ∧ am_Ev m_M_keep (WM ++ e1) ro P (37, [.ref 0, .int a1], [], (v_lays (am_si h 0 8 0) 1 0 4 (163 * a1))))) ∧ ((v_M_in (am_si h 0 8 0) a1 0 1) = 0 → am_Ev m_M_keep (WM ++ e1) ro P (19, [.ref 0, .int a1], [.int ((v_M_refuses (am_si h 0 8 0) 1).1)], ((v_M_refuses (am_si h 0 8 0) 1).2))))
  refine ⟨fun c1 => ?_, fun c1 => ?_⟩
  · have hp := hp.2 c1
    obtain ⟨hob, hp⟩ := hp
    refine ⟨hob, ?_⟩
    refine am_Ev_G [44] 400 _ ?_
    show ((((1 : Int32) = 0 ∨ (1 : Int32) = 1)) ∧ ((am_in a1 2) ∧ am_Ev m_M_keep (WM ++ e1) ro P (44, [.ref 0, .int a1], [], (am_si (v_lays (am_si h 0 8 0) 1 0 4 (163 * a1)) 5 (am_ix a1) 1))))
    refine ⟨(by decide), ?_⟩
    refine ⟨hp, ?_⟩
    refine am_Ev_G [] 400 _ ?_
    show ((am_in 15 163) ∧ P (.inl (some (.int ((am_si (v_lays (am_si h 0 8 0) 1 0 4 (163 * a1)) 5 (am_ix a1) 1).1 1 (am_ix 15))))) (am_si (v_lays (am_si h 0 8 0) 1 0 4 (163 * a1)) 5 (am_ix a1) 1))
    refine ⟨⟨by decide, by decide⟩, ?_⟩
    exact hP ((am_si (v_lays (am_si h 0 8 0) 1 0 4 (163 * a1)) 5 (am_ix a1) 1).1 1 (am_ix 15), (am_si (v_lays (am_si h 0 8 0) 1 0 4 (163 * a1)) 5 (am_ix a1) 1)) (by unfold v_M_keep; simp only [if_neg c1])
  · skip
    obtain ⟨y1, c2⟩ : ∃ y, v_M_refuses (am_si h 0 8 0) 1 = y := ⟨_, rfl⟩
    rw [c2]
    show am_Ev m_M_keep (WM ++ e1) ro P (19, [.ref 0, .int a1], [.int y1.1], y1.2)
    refine am_Ev_G [] 400 _ ?_
    show P (.inl (some (.int y1.1))) y1.2
    exact hP (y1.1, y1.2) (by unfold v_M_keep; simp only [if_pos c1, bnd, c2])
theorem ok_M_keep {l : Launch} (hl : l.stackTraces = false) (e1 ro : List Sh) (k : Nat) : am_Ok l (WM ++ e1) ro (d_M_keep k) := by
  refine am_met hl (own := RX6) (M := m_M_keep) rfl pf_M_keep cu_M_keep rfl rfl rfl rfl (fun _ => rfl) rfl ⟨chk_M_keep, (am_c (fl_M_7) (am_c (fl_M_19) (am_c (fl_M_22) (am_c (fl_M_38) am_n)))), (am_c (lk_M_45) (am_c (lk_M_127) (am_c (lk_M_134) am_n))), (am_n), (am_n)⟩ (am_n) (am_c (ok_M_lays hl _ _ 0) (am_c (ok_M_in hl e1 _ 0) (am_c (ok_M_refuses hl e1 _ 16) am_n))) (fun z => nomatch z) ?_ ?_
  · intro _ as h hg
    show g_thr (g_M_keep (WM ++ e1) ro as h) = none
    unfold g_M_keep
    split <;> rfl
  · intro as h hg hp
    revert hg hp
    show g_ok (g_M_keep (WM ++ e1) ro as h) = true → g_pre (g_M_keep (WM ++ e1) ro as h) → _ ∧ am_Ev m_M_keep (WM ++ e1) ro (am_eq (g_M_keep (WM ++ e1) ro as h)) (0, am_ent as 2, [], h)
    unfold g_M_keep
    split
    · rename_i o1 a1
      intro hc hp
      change (Nat.beq o1 0) = true at hc
      obtain rfl := am_beq hc
      exact ⟨Nat.le_of_ble_eq_true rfl, ev_M_keep h a1 hp eqRIW⟩
    · exact fun z => nomatch z

end
