/-! BusBlocksModel, out of its code (written by gen/meth.py). -/
noncomputable section
def k_M_underWay (pc : Nat) : Ent := bif Nat.ble 115 pc then am_nop else bif Nat.ble 51 pc then (bif Nat.ble 84 pc then (bif Nat.ble 100 pc then (bif Nat.ble 107 pc then (bif Nat.ble 113 pc then (bif Nat.ble 114 pc then (bif Nat.beq pc 114 then (.ireturn, 0, 0, []) else am_nop) else (bif Nat.beq pc 113 then (.iload_n 1, 0, 1, []) else am_nop)) else (bif Nat.ble 110 pc then (bif Nat.beq pc 110 then (.goto (-106), 0, 4, []) else am_nop) else (bif Nat.beq pc 107 then (.iinc 2 1, 1, 2, []) else am_nop))) else (bif Nat.ble 105 pc then (bif Nat.ble 106 pc then (bif Nat.beq pc 106 then (.istore_n 1, 0, 1, []) else am_nop) else (bif Nat.beq pc 105 then (.iload_n 1, 0, 1, []) else am_nop)) else (bif Nat.ble 102 pc then (bif Nat.beq pc 102 then (.goto 4, 0, 106, []) else am_nop) else (bif Nat.beq pc 100 then (.iload 4, 0, 4, []) else am_nop)))) else (bif Nat.ble 91 pc then (bif Nat.ble 96 pc then (bif Nat.ble 97 pc then (bif Nat.beq pc 97 then (.if_icmp .le 8, 0, 105, []) else am_nop) else (bif Nat.beq pc 96 then (.iload_n 1, 0, 1, []) else am_nop)) else (bif Nat.ble 94 pc then (bif Nat.beq pc 94 then (.iload 4, 0, 4, []) else am_nop) else (bif Nat.beq pc 91 then (.goto (-63), 0, 28, []) else am_nop))) else (bif Nat.ble 86 pc then (bif Nat.ble 88 pc then (bif Nat.beq pc 88 then (.iinc 5 1, 1, 5, []) else am_nop) else (bif Nat.beq pc 86 then (.istore 4, 0, 4, []) else am_nop)) else (bif Nat.ble 85 pc then (bif Nat.beq pc 85 then (.iadd, 0, 0, []) else am_nop) else (bif Nat.beq pc 84 then (.iconst 0, 0, 0, []) else am_nop))))) else (bif Nat.ble 67 pc then (bif Nat.ble 74 pc then (bif Nat.ble 80 pc then (bif Nat.ble 81 pc then (bif Nat.beq pc 81 then (.goto 4, 0, 85, []) else am_nop) else (bif Nat.beq pc 80 then (.iconst 1, 1, 0, []) else am_nop)) else (bif Nat.ble 77 pc then (bif Nat.beq pc 77 then (.if_icmp .ge 7, 0, 84, []) else am_nop) else (bif Nat.beq pc 74 then (.invokevirtual 53, 0, 0, []) else am_nop))) else (bif Nat.ble 71 pc then (bif Nat.ble 72 pc then (bif Nat.beq pc 72 then (.iload 5, 0, 5, []) else am_nop) else (bif Nat.beq pc 71 then (.aload_n 0, 0, 0, []) else am_nop)) else (bif Nat.ble 70 pc then (bif Nat.beq pc 70 then (.iload_n 3, 0, 3, []) else am_nop) else (bif Nat.beq pc 67 then (.if_icmp .gt 17, 0, 84, []) else am_nop)))) else (bif Nat.ble 60 pc then (bif Nat.ble 63 pc then (bif Nat.ble 66 pc then (bif Nat.beq pc 66 then (.iload_n 3, 0, 3, []) else am_nop) else (bif Nat.beq pc 63 then (.invokevirtual 49, 0, 0, []) else am_nop)) else (bif Nat.ble 62 pc then (bif Nat.beq pc 62 then (.iconst 3, 3, 0, []) else am_nop) else (bif Nat.beq pc 60 then (.iload 5, 0, 5, []) else am_nop))) else (bif Nat.ble 56 pc then (bif Nat.ble 59 pc then (bif Nat.beq pc 59 then (.aload_n 0, 0, 0, []) else am_nop) else (bif Nat.beq pc 56 then (.ifCond .eq 28, 0, 84, []) else am_nop)) else (bif Nat.ble 53 pc then (bif Nat.beq pc 53 then (.invokevirtual 60, 0, 0, []) else am_nop) else (bif Nat.beq pc 51 then (.iload 5, 0, 5, []) else am_nop)))))) else (bif Nat.ble 22 pc then (bif Nat.ble 36 pc then (bif Nat.ble 43 pc then (bif Nat.ble 47 pc then (bif Nat.ble 50 pc then (bif Nat.beq pc 50 then (.aload_n 0, 0, 0, []) else am_nop) else (bif Nat.beq pc 47 then (.ifCond .eq 37, 0, 84, []) else am_nop)) else (bif Nat.ble 44 pc then (bif Nat.beq pc 44 then (.invokevirtual 60, 0, 0, []) else am_nop) else (bif Nat.beq pc 43 then (.iload_n 2, 0, 2, []) else am_nop))) else (bif Nat.ble 40 pc then (bif Nat.ble 42 pc then (bif Nat.beq pc 42 then (.aload_n 0, 0, 0, []) else am_nop) else (bif Nat.beq pc 40 then (.iload 4, 0, 4, []) else am_nop)) else (bif Nat.ble 37 pc then (bif Nat.beq pc 37 then (.if_icmp .ge 57, 0, 94, []) else am_nop) else (bif Nat.beq pc 36 then (.iaload, 0, 0, []) else am_nop)))) else (bif Nat.ble 28 pc then (bif Nat.ble 31 pc then (bif Nat.ble 34 pc then (bif Nat.beq pc 34 then (.bipush 15, 15, 0, []) else am_nop) else (bif Nat.beq pc 31 then (.getfield 7, 0, 0, []) else am_nop)) else (bif Nat.ble 30 pc then (bif Nat.beq pc 30 then (.aload_n 0, 0, 0, []) else am_nop) else (bif Nat.beq pc 28 then (.iload 5, 0, 5, []) else am_nop))) else (bif Nat.ble 25 pc then (bif Nat.ble 26 pc then (bif Nat.beq pc 26 then (.istore 5, 0, 5, []) else am_nop) else (bif Nat.beq pc 25 then (.iconst 0, 0, 0, []) else am_nop)) else (bif Nat.ble 23 pc then (bif Nat.beq pc 23 then (.istore 4, 0, 4, []) else am_nop) else (bif Nat.beq pc 22 then (.iconst 0, 0, 0, []) else am_nop))))) else (bif Nat.ble 9 pc then (bif Nat.ble 16 pc then (bif Nat.ble 18 pc then (bif Nat.ble 21 pc then (bif Nat.beq pc 21 then (.istore_n 3, 0, 3, []) else am_nop) else (bif Nat.beq pc 18 then (.invokevirtual 49, 0, 0, []) else am_nop)) else (bif Nat.ble 17 pc then (bif Nat.beq pc 17 then (.iconst 3, 3, 0, []) else am_nop) else (bif Nat.beq pc 16 then (.iload_n 2, 0, 2, []) else am_nop))) else (bif Nat.ble 12 pc then (bif Nat.ble 15 pc then (bif Nat.beq pc 15 then (.aload_n 0, 0, 0, []) else am_nop) else (bif Nat.beq pc 12 then (.if_icmp .ge 101, 0, 113, []) else am_nop)) else (bif Nat.ble 11 pc then (bif Nat.beq pc 11 then (.iaload, 0, 0, []) else am_nop) else (bif Nat.beq pc 9 then (.bipush 15, 15, 0, []) else am_nop)))) else (bif Nat.ble 3 pc then (bif Nat.ble 5 pc then (bif Nat.ble 6 pc then (bif Nat.beq pc 6 then (.getfield 7, 0, 0, []) else am_nop) else (bif Nat.beq pc 5 then (.aload_n 0, 0, 0, []) else am_nop)) else (bif Nat.ble 4 pc then (bif Nat.beq pc 4 then (.iload_n 2, 0, 2, []) else am_nop) else (bif Nat.beq pc 3 then (.istore_n 2, 0, 2, []) else am_nop))) else (bif Nat.ble 1 pc then (bif Nat.ble 2 pc then (bif Nat.beq pc 2 then (.iconst 0, 0, 0, []) else am_nop) else (bif Nat.beq pc 1 then (.istore_n 1, 0, 1, []) else am_nop)) else (bif Nat.beq pc 0 then (.iconst 0, 0, 0, []) else am_nop)))))
def m_M_underWay : MI := (k_M_underWay, [(7, 6, 0)], [(49, d_M_of 16), (53, d_M_arrival 16), (60, d_M_isRun 16)], [], [], [], [], 2, 43, some .int, fun _ => 0, 1)
def s_M_underWay_28 (h : HP) (v1 : Int32 × Int32) (v2 : Int32 × Int32) : (Int32 × Int32) ⊕ (Int32 × Int32) := (if v2.2 < (h.1 1 (am_ix 15)) then (.inl ((v2.1 + (if (v_M_isRun h v1.2) = 0 then (0 : Int32) else (if (v_M_isRun h v2.2) = 0 then (0 : Int32) else (if (v_M_of h v2.2 3) ≤ (v_M_of h v1.2 3) then (if (v_M_of h v1.2 3) < (v_M_arrival h v2.2) then (1 : Int32) else 0) else 0)))), (v2.2 + 1))) else (.inr (v2.1, v2.2)))
def ps_M_underWay_28 (h : HP) (v1 : Int32 × Int32) (v2 : Int32 × Int32) : Prop := ((v2.2 < (h.1 1 (am_ix 15)) → ((p_M_isRun h v1.2) ∧ (((v_M_isRun h v1.2) = 0 → True) ∧ (¬ (v_M_isRun h v1.2) = 0 → ((p_M_isRun h v2.2) ∧ (((v_M_isRun h v2.2) = 0 → True) ∧ (¬ (v_M_isRun h v2.2) = 0 → ((p_M_of h v2.2 3) ∧ (((v_M_of h v2.2 3) ≤ (v_M_of h v1.2 3) → (p_M_arrival h v2.2)) ∧ (¬ (v_M_of h v2.2 3) ≤ (v_M_of h v1.2 3) → True)))))))))) ∧ (¬ v2.2 < (h.1 1 (am_ix 15)) → True))
def s_M_underWay_4 (h : HP) (v1 : Int32 × Int32) : (Int32 × Int32) ⊕ (Int32 × Int32) := (if v1.2 < (h.1 1 (am_ix 15)) then (match itr (s_M_underWay_28 h v1) NF (0, 0) with | some r2 => (.inl ((if r2.1 ≤ v1.1 then v1.1 else r2.1), (v1.2 + 1))) | none => .inl v1) else (.inr (v1.1, v1.2)))
def ps_M_underWay_4 (h : HP) (v1 : Int32 × Int32) : Prop := ((v1.2 < (h.1 1 (am_ix 15)) → ((p_M_of h v1.2 3) ∧ (itrp (s_M_underWay_28 h v1) (ps_M_underWay_28 h v1) NF (0, 0)))) ∧ (¬ v1.2 < (h.1 1 (am_ix 15)) → True))
def v_M_underWay (h : HP) : Int32 := (match itr (s_M_underWay_4 h) NF (0, 0) with | some r1 => r1.1 | none => 0)
def p_M_underWay (h : HP) : Prop := (itrp (s_M_underWay_4 h) (ps_M_underWay_4 h) NF (0, 0))
def g_M_underWay (_ _ : List Sh) (as : List Value) (h : HP) : GR := match as with
  | [.ref o1] => (Nat.beq o1 0, p_M_underWay h, none, some (.int (v_M_underWay h)), h)
  | _ => bad h
def d_M_underWay (k : Nat) : CD := (k, yX6_underWay, cX6_underWay, 6, some .int, 1, 2, 43, 0, false, true, g_M_underWay)
theorem chk_M_underWay : ∀ pc, am_chk cX6_underWay k_M_underWay pc = true := am_chkall 115 (by decide +kernel) (fun pc h => by unfold k_M_underWay; rw [Nat.ble_eq_true_of_le h]; rfl)
theorem pf_M_underWay : plainFor yX6_underWay = true := by decide +kernel
theorem cu_M_underWay : Cond.code yX6_underWay cX6_underWay 6 (some .int) ∈ am_U := am_tb 1248 (by decide +kernel) rfl
set_option maxHeartbeats 20000000 in
set_option maxRecDepth 100000 in
theorem ev_M_underWay {e1 ro : List Sh} {P : AR → HP → Prop} (h : HP) (hp : p_M_underWay h) (hP : ∀ q, v_M_underWay h = q → RI P h q) : am_Ev m_M_underWay (WM ++ e1) ro P (0, [.ref 0, .retAddr 0, .retAddr 0, .retAddr 0, .retAddr 0, .retAddr 0], [], h) := by
  unfold p_M_underWay at hp
  refine am_Ev_G [4] 400 _ ?_
  show am_Ev m_M_underWay (WM ++ e1) ro P (4, [.ref 0, .int 0, .int 0, .retAddr 0, .retAddr 0, .retAddr 0], [], h)
  have hpl := hp
  refine am_itr (E := (fun (v1 : Int32 × Int32) => am_Ev m_M_underWay (WM ++ e1) ro P (4, [.ref 0, .int v1.1, .int v1.2, .retAddr 0, .retAddr 0, .retAddr 0], [], h))) (E' := (fun (r1 : Int32 × Int32) => am_Ev m_M_underWay (WM ++ e1) ro P (113, [.ref 0, .int r1.1, .int r1.2, .retAddr 0, .retAddr 0, .retAddr 0], [], h))) (s_M_underWay_4 h) (ps_M_underWay_4 h) ?_ NF (0, 0) hpl ?_
  · intro v1 hp hc1 hx1
    show am_Ev m_M_underWay (WM ++ e1) ro P (4, [.ref 0, .int v1.1, .int v1.2, .retAddr 0, .retAddr 0, .retAddr 0], [], h)
    unfold ps_M_underWay_4 at hp
    refine am_Ev_G [21, 113] 400 _ ?_
    show ((am_in 15 163) ∧ ((¬ v1.2 < (h.1 1 (am_ix 15)) → am_Ev m_M_underWay (WM ++ e1) ro P (113, [.ref 0, .int v1.1, .int v1.2, .retAddr 0, .retAddr 0, .retAddr 0], [], h)) ∧ (v1.2 < (h.1 1 (am_ix 15)) → ((p_M_of h v1.2 3) ∧ am_Ev m_M_underWay (WM ++ e1) ro P (21, [.ref 0, .int v1.1, .int v1.2, .retAddr 0, .retAddr 0, .retAddr 0], [.int (v_M_of h v1.2 3)], h)))))
    refine ⟨⟨by decide, by decide⟩, ?_⟩
    refine ⟨fun c1 => ?_, fun c1 => ?_⟩
    · skip
      exact hx1 (v1.1, v1.2) (by unfold s_M_underWay_4; simp only [if_neg c1])
    · have hp := hp.1 c1
      obtain ⟨hob, hp⟩ := hp
      refine ⟨hob, ?_⟩
      refine am_Ev_G [28] 400 _ ?_
      show am_Ev m_M_underWay (WM ++ e1) ro P (28, [.ref 0, .int v1.1, .int v1.2, .int (v_M_of h v1.2 3), .int 0, .int 0], [], h)
      have hpl := hp
      refine am_itr (E := (fun (v2 : Int32 × Int32) => am_Ev m_M_underWay (WM ++ e1) ro P (28, [.ref 0, .int v1.1, .int v1.2, .int (v_M_of h v1.2 3), .int v2.1, .int v2.2], [], h))) (E' := (fun (r2 : Int32 × Int32) => am_Ev m_M_underWay (WM ++ e1) ro P (94, [.ref 0, .int v1.1, .int v1.2, .int (v_M_of h v1.2 3), .int r2.1, .int r2.2], [], h))) (s_M_underWay_28 h v1) (ps_M_underWay_28 h v1) ?_ NF (0, 0) hpl ?_
      · intro v2 hp hc2 hx2
        show am_Ev m_M_underWay (WM ++ e1) ro P (28, [.ref 0, .int v1.1, .int v1.2, .int (v_M_of h v1.2 3), .int v2.1, .int v2.2], [], h)
        unfold ps_M_underWay_28 at hp
        refine am_Ev_G [47, 94] 400 _ ?_
        show ((am_in 15 163) ∧ ((¬ v2.2 < (h.1 1 (am_ix 15)) → am_Ev m_M_underWay (WM ++ e1) ro P (94, [.ref 0, .int v1.1, .int v1.2, .int (v_M_of h v1.2 3), .int v2.1, .int v2.2], [], h)) ∧ (v2.2 < (h.1 1 (am_ix 15)) → ((p_M_isRun h v1.2) ∧ am_Ev m_M_underWay (WM ++ e1) ro P (47, [.ref 0, .int v1.1, .int v1.2, .int (v_M_of h v1.2 3), .int v2.1, .int v2.2], [.int (v_M_isRun h v1.2), .int v2.1], h)))))
        refine ⟨⟨by decide, by decide⟩, ?_⟩
        refine ⟨fun c2 => ?_, fun c2 => ?_⟩
        · skip
          exact hx2 (v2.1, v2.2) (by unfold s_M_underWay_28; simp only [if_neg c2])
        · have hp := hp.1 c2
          obtain ⟨hob, hp⟩ := hp
          refine ⟨hob, ?_⟩
          have hpa := hp
          have key3 : am_Ev m_M_underWay (WM ++ e1) ro P (85, [.ref 0, .int v1.1, .int v1.2, .int (v_M_of h v1.2 3), .int v2.1, .int v2.2], [.int (if (v_M_isRun h v1.2) = 0 then (0 : Int32) else (if (v_M_isRun h v2.2) = 0 then (0 : Int32) else (if (v_M_of h v2.2 3) ≤ (v_M_of h v1.2 3) then (if (v_M_of h v1.2 3) < (v_M_arrival h v2.2) then (1 : Int32) else 0) else 0))), .int v2.1], h) := by
            refine am_Ev_G [28] 400 _ ?_
            show am_Ev m_M_underWay (WM ++ e1) ro P (28, [.ref 0, .int v1.1, .int v1.2, .int (v_M_of h v1.2 3), .int (v2.1 + (if (v_M_isRun h v1.2) = 0 then (0 : Int32) else (if (v_M_isRun h v2.2) = 0 then (0 : Int32) else (if (v_M_of h v2.2 3) ≤ (v_M_of h v1.2 3) then (if (v_M_of h v1.2 3) < (v_M_arrival h v2.2) then (1 : Int32) else 0) else 0)))), .int (v2.2 + 1)], [], h)
            exact hc2 ((v2.1 + (if (v_M_isRun h v1.2) = 0 then (0 : Int32) else (if (v_M_isRun h v2.2) = 0 then (0 : Int32) else (if (v_M_of h v2.2 3) ≤ (v_M_of h v1.2 3) then (if (v_M_of h v1.2 3) < (v_M_arrival h v2.2) then (1 : Int32) else 0) else 0)))), (v2.2 + 1)) (by unfold s_M_underWay_28; simp only [if_pos c2])
          have hp := hpa
          refine am_Ev_G [85] 400 _ ?_
          show (((v_M_isRun h v1.2) = 0 → am_Ev m_M_underWay (WM ++ e1) ro P (85, [.ref 0, .int v1.1, .int v1.2, .int (v_M_of h v1.2 3), .int v2.1, .int v2.2], [.int 0, .int v2.1], h)) ∧ (¬ (v_M_isRun h v1.2) = 0 → ((p_M_isRun h v2.2) ∧ (((v_M_isRun h v2.2) = 0 → am_Ev m_M_underWay (WM ++ e1) ro P (85, [.ref 0, .int v1.1, .int v1.2, .int (v_M_of h v1.2 3), .int v2.1, .int v2.2], [.int 0, .int v2.1], h)) ∧ (¬ (v_M_isRun h v2.2) = 0 → ((p_M_of h v2.2 3) ∧ ((¬ (v_M_of h v2.2 3) ≤ (v_M_of h v1.2 3) → am_Ev m_M_underWay (WM ++ e1) ro P (85, [.ref 0, .int v1.1, .int v1.2, .int (v_M_of h v1.2 3), .int v2.1, .int v2.2], [.int 0, .int v2.1], h)) ∧ ((v_M_of h v2.2 3) ≤ (v_M_of h v1.2 3) → ((p_M_arrival h v2.2) ∧ ((¬ (v_M_of h v1.2 3) < (v_M_arrival h v2.2) → am_Ev m_M_underWay (WM ++ e1) ro P (85, [.ref 0, .int v1.1, .int v1.2, .int (v_M_of h v1.2 3), .int v2.1, .int v2.2], [.int 0, .int v2.1], h)) ∧ ((v_M_of h v1.2 3) < (v_M_arrival h v2.2) → am_Ev m_M_underWay (WM ++ e1) ro P (85, [.ref 0, .int v1.1, .int v1.2, .int (v_M_of h v1.2 3), .int v2.1, .int v2.2], [.int 1, .int v2.1], h))))))))))))
          refine ⟨fun c4 => ?_, fun c4 => ?_⟩
          · skip
            simpa only [if_pos c4] using key3
          · have hp := hp.2 c4
            obtain ⟨hob, hp⟩ := hp
            refine ⟨hob, ?_⟩
            refine ⟨fun c5 => ?_, fun c5 => ?_⟩
            · skip
              simpa only [if_neg c4, if_pos c5] using key3
            · have hp := hp.2 c5
              obtain ⟨hob, hp⟩ := hp
              refine ⟨hob, ?_⟩
              refine ⟨fun c6 => ?_, fun c6 => ?_⟩
              · skip
                simpa only [if_neg c4, if_neg c5, if_neg c6] using key3
              · have hp := hp.1 c6
                refine ⟨hp, ?_⟩
                refine ⟨fun c7 => ?_, fun c7 => ?_⟩
                · skip
                  simpa only [if_neg c4, if_neg c5, if_pos c6, if_neg c7] using key3
                · skip
                  simpa only [if_neg c4, if_neg c5, if_pos c6, if_pos c7] using key3
      · intro r2 hr8
        show am_Ev m_M_underWay (WM ++ e1) ro P (94, [.ref 0, .int v1.1, .int v1.2, .int (v_M_of h v1.2 3), .int r2.1, .int r2.2], [], h)
        refine am_Ev_G [97] 400 _ ?_
        show am_Ev m_M_underWay (WM ++ e1) ro P (97, [.ref 0, .int v1.1, .int v1.2, .int (v_M_of h v1.2 3), .int r2.1, .int r2.2], [.int v1.1, .int r2.1], h)
        have key9 : am_Ev m_M_underWay (WM ++ e1) ro P (106, [.ref 0, .int v1.1, .int v1.2, .int (v_M_of h v1.2 3), .int r2.1, .int r2.2], [.int (if r2.1 ≤ v1.1 then v1.1 else r2.1)], h) := by
          refine am_Ev_G [4] 400 _ ?_
          show am_Ev m_M_underWay (WM ++ e1) ro P (4, [.ref 0, .int (if r2.1 ≤ v1.1 then v1.1 else r2.1), .int (v1.2 + 1), .int (v_M_of h v1.2 3), .int r2.1, .int r2.2], [], h)
          refine am_fg 3 ?_
          refine am_fg 4 ?_
          refine am_fg 5 ?_
          exact hc1 ((if r2.1 ≤ v1.1 then v1.1 else r2.1), (v1.2 + 1)) (by unfold s_M_underWay_4; simp only [if_pos c1, hr8])
        refine am_Ev_G [106] 400 _ ?_
        show ((r2.1 ≤ v1.1 → am_Ev m_M_underWay (WM ++ e1) ro P (106, [.ref 0, .int v1.1, .int v1.2, .int (v_M_of h v1.2 3), .int r2.1, .int r2.2], [.int v1.1], h)) ∧ (¬ r2.1 ≤ v1.1 → am_Ev m_M_underWay (WM ++ e1) ro P (106, [.ref 0, .int v1.1, .int v1.2, .int (v_M_of h v1.2 3), .int r2.1, .int r2.2], [.int r2.1], h)))
        refine ⟨fun c10 => ?_, fun c10 => ?_⟩
        · skip
          simpa only [if_pos c10] using key9
        · skip
          simpa only [if_neg c10] using key9
  · intro r1 hr11
    show am_Ev m_M_underWay (WM ++ e1) ro P (113, [.ref 0, .int r1.1, .int r1.2, .retAddr 0, .retAddr 0, .retAddr 0], [], h)
    refine am_Ev_G [] 400 _ ?_
    show P (.inl (some (.int r1.1))) h
    exact hP r1.1 (by unfold v_M_underWay; simp only [hr11])
theorem ok_M_underWay {l : Launch} (hl : l.stackTraces = false) (e1 ro : List Sh) (k : Nat) : am_Ok l (WM ++ e1) ro (d_M_underWay k) := by
  refine am_met hl (own := RX6) (M := m_M_underWay) rfl pf_M_underWay cu_M_underWay rfl rfl rfl rfl (fun _ => rfl) rfl ⟨chk_M_underWay, (am_c (fl_M_7) am_n), (am_c (lk_M_49) (am_c (lk_M_53) (am_c (lk_M_60) am_n))), (am_n), (am_n)⟩ (am_n) (am_c (ok_M_of hl e1 _ 16) (am_c (ok_M_arrival hl e1 _ 16) (am_c (ok_M_isRun hl e1 _ 16) am_n))) (fun z => nomatch z) ?_ ?_
  · intro _ as h hg
    show g_thr (g_M_underWay (WM ++ e1) ro as h) = none
    unfold g_M_underWay
    split <;> rfl
  · intro as h hg hp
    revert hg hp
    show g_ok (g_M_underWay (WM ++ e1) ro as h) = true → g_pre (g_M_underWay (WM ++ e1) ro as h) → _ ∧ am_Ev m_M_underWay (WM ++ e1) ro (am_eq (g_M_underWay (WM ++ e1) ro as h)) (0, am_ent as 6, [], h)
    unfold g_M_underWay
    split
    · rename_i o1
      intro hc hp
      change (Nat.beq o1 0) = true at hc
      obtain rfl := am_beq hc
      exact ⟨Nat.le_of_ble_eq_true rfl, ev_M_underWay h hp eqRI⟩
    · exact fun z => nomatch z
def k_M_running (pc : Nat) : Ent := bif Nat.ble 39 pc then am_nop else bif Nat.ble 17 pc then (bif Nat.ble 29 pc then (bif Nat.ble 34 pc then (bif Nat.ble 37 pc then (bif Nat.ble 38 pc then (bif Nat.beq pc 38 then (.ireturn, 0, 0, []) else am_nop) else (bif Nat.beq pc 37 then (.iload_n 1, 0, 1, []) else am_nop)) else (bif Nat.beq pc 34 then (.goto (-30), 0, 4, []) else am_nop)) else (bif Nat.ble 30 pc then (bif Nat.ble 31 pc then (bif Nat.beq pc 31 then (.iinc 2 1, 1, 2, []) else am_nop) else (bif Nat.beq pc 30 then (.istore_n 1, 0, 1, []) else am_nop)) else (bif Nat.beq pc 29 then (.iadd, 0, 0, []) else am_nop))) else (bif Nat.ble 24 pc then (bif Nat.ble 25 pc then (bif Nat.ble 28 pc then (bif Nat.beq pc 28 then (.iconst 0, 0, 0, []) else am_nop) else (bif Nat.beq pc 25 then (.goto 4, 0, 29, []) else am_nop)) else (bif Nat.beq pc 24 then (.iconst 1, 1, 0, []) else am_nop)) else (bif Nat.ble 18 pc then (bif Nat.ble 21 pc then (bif Nat.beq pc 21 then (.ifCond .eq 7, 0, 28, []) else am_nop) else (bif Nat.beq pc 18 then (.invokevirtual 60, 0, 0, []) else am_nop)) else (bif Nat.beq pc 17 then (.iload_n 2, 0, 2, []) else am_nop)))) else (bif Nat.ble 6 pc then (bif Nat.ble 12 pc then (bif Nat.ble 15 pc then (bif Nat.ble 16 pc then (bif Nat.beq pc 16 then (.aload_n 0, 0, 0, []) else am_nop) else (bif Nat.beq pc 15 then (.iload_n 1, 0, 1, []) else am_nop)) else (bif Nat.beq pc 12 then (.if_icmp .ge 25, 0, 37, []) else am_nop)) else (bif Nat.ble 9 pc then (bif Nat.ble 11 pc then (bif Nat.beq pc 11 then (.iaload, 0, 0, []) else am_nop) else (bif Nat.beq pc 9 then (.bipush 15, 15, 0, []) else am_nop)) else (bif Nat.beq pc 6 then (.getfield 7, 0, 0, []) else am_nop))) else (bif Nat.ble 3 pc then (bif Nat.ble 4 pc then (bif Nat.ble 5 pc then (bif Nat.beq pc 5 then (.aload_n 0, 0, 0, []) else am_nop) else (bif Nat.beq pc 4 then (.iload_n 2, 0, 2, []) else am_nop)) else (bif Nat.beq pc 3 then (.istore_n 2, 0, 2, []) else am_nop)) else (bif Nat.ble 1 pc then (bif Nat.ble 2 pc then (bif Nat.beq pc 2 then (.iconst 0, 0, 0, []) else am_nop) else (bif Nat.beq pc 1 then (.istore_n 1, 0, 1, []) else am_nop)) else (bif Nat.beq pc 0 then (.iconst 0, 0, 0, []) else am_nop))))
def m_M_running : MI := (k_M_running, [(7, 6, 0)], [(60, d_M_isRun 16)], [], [], [], [], 2, 43, some .int, fun _ => 0, 1)
def s_M_running_4 (h : HP) (v1 : Int32 × Int32) : (Int32 × Int32) ⊕ (Int32 × Int32) := (if v1.2 < (h.1 1 (am_ix 15)) then (.inl ((v1.1 + (if (v_M_isRun h v1.2) = 0 then (0 : Int32) else 1)), (v1.2 + 1))) else (.inr (v1.1, v1.2)))
def ps_M_running_4 (h : HP) (v1 : Int32 × Int32) : Prop := ((v1.2 < (h.1 1 (am_ix 15)) → (p_M_isRun h v1.2)) ∧ (¬ v1.2 < (h.1 1 (am_ix 15)) → True))
def v_M_running (h : HP) : Int32 := (match itr (s_M_running_4 h) NF (0, 0) with | some r1 => r1.1 | none => 0)
def p_M_running (h : HP) : Prop := (itrp (s_M_running_4 h) (ps_M_running_4 h) NF (0, 0))
def g_M_running (_ _ : List Sh) (as : List Value) (h : HP) : GR := match as with
  | [.ref o1] => (Nat.beq o1 0, p_M_running h, none, some (.int (v_M_running h)), h)
  | _ => bad h
def d_M_running (k : Nat) : CD := (k, yX6_running, cX6_running, 3, some .int, 1, 2, 43, 0, false, true, g_M_running)
theorem chk_M_running : ∀ pc, am_chk cX6_running k_M_running pc = true := am_chkall 39 (by decide +kernel) (fun pc h => by unfold k_M_running; rw [Nat.ble_eq_true_of_le h]; rfl)
theorem pf_M_running : plainFor yX6_running = true := by decide +kernel
theorem cu_M_running : Cond.code yX6_running cX6_running 3 (some .int) ∈ am_U := am_tb 1236 (by decide +kernel) rfl
set_option maxHeartbeats 20000000 in
set_option maxRecDepth 100000 in
theorem ev_M_running {e1 ro : List Sh} {P : AR → HP → Prop} (h : HP) (hp : p_M_running h) (hP : ∀ q, v_M_running h = q → RI P h q) : am_Ev m_M_running (WM ++ e1) ro P (0, [.ref 0, .retAddr 0, .retAddr 0], [], h) := by
  unfold p_M_running at hp
  refine am_Ev_G [4] 400 _ ?_
  show am_Ev m_M_running (WM ++ e1) ro P (4, [.ref 0, .int 0, .int 0], [], h)
  have hpl := hp
  refine am_itr (E := (fun (v1 : Int32 × Int32) => am_Ev m_M_running (WM ++ e1) ro P (4, [.ref 0, .int v1.1, .int v1.2], [], h))) (E' := (fun (r1 : Int32 × Int32) => am_Ev m_M_running (WM ++ e1) ro P (37, [.ref 0, .int r1.1, .int r1.2], [], h))) (s_M_running_4 h) (ps_M_running_4 h) ?_ NF (0, 0) hpl ?_
  · intro v1 hp hc1 hx1
    show am_Ev m_M_running (WM ++ e1) ro P (4, [.ref 0, .int v1.1, .int v1.2], [], h)
    unfold ps_M_running_4 at hp
    refine am_Ev_G [21, 37] 400 _ ?_
    show ((am_in 15 163) ∧ ((¬ v1.2 < (h.1 1 (am_ix 15)) → am_Ev m_M_running (WM ++ e1) ro P (37, [.ref 0, .int v1.1, .int v1.2], [], h)) ∧ (v1.2 < (h.1 1 (am_ix 15)) → ((p_M_isRun h v1.2) ∧ am_Ev m_M_running (WM ++ e1) ro P (21, [.ref 0, .int v1.1, .int v1.2], [.int (v_M_isRun h v1.2), .int v1.1], h)))))
    refine ⟨⟨by decide, by decide⟩, ?_⟩
    refine ⟨fun c1 => ?_, fun c1 => ?_⟩
    · skip
      exact hx1 (v1.1, v1.2) (by unfold s_M_running_4; simp only [if_neg c1])
    · have hp := hp.1 c1
      refine ⟨hp, ?_⟩
      have key2 : am_Ev m_M_running (WM ++ e1) ro P (29, [.ref 0, .int v1.1, .int v1.2], [.int (if (v_M_isRun h v1.2) = 0 then (0 : Int32) else 1), .int v1.1], h) := by
        refine am_Ev_G [4] 400 _ ?_
        show am_Ev m_M_running (WM ++ e1) ro P (4, [.ref 0, .int (v1.1 + (if (v_M_isRun h v1.2) = 0 then (0 : Int32) else 1)), .int (v1.2 + 1)], [], h)
        exact hc1 ((v1.1 + (if (v_M_isRun h v1.2) = 0 then (0 : Int32) else 1)), (v1.2 + 1)) (by unfold s_M_running_4; simp only [if_pos c1])
      refine am_Ev_G [29] 400 _ ?_
      show (((v_M_isRun h v1.2) = 0 → am_Ev m_M_running (WM ++ e1) ro P (29, [.ref 0, .int v1.1, .int v1.2], [.int 0, .int v1.1], h)) ∧ (¬ (v_M_isRun h v1.2) = 0 → am_Ev m_M_running (WM ++ e1) ro P (29, [.ref 0, .int v1.1, .int v1.2], [.int 1, .int v1.1], h)))
      refine ⟨fun c3 => ?_, fun c3 => ?_⟩
      · skip
        simpa only [if_pos c3] using key2
      · skip
        simpa only [if_neg c3] using key2
  · intro r1 hr4
    show am_Ev m_M_running (WM ++ e1) ro P (37, [.ref 0, .int r1.1, .int r1.2], [], h)
    refine am_Ev_G [] 400 _ ?_
    show P (.inl (some (.int r1.1))) h
    exact hP r1.1 (by unfold v_M_running; simp only [hr4])
theorem ok_M_running {l : Launch} (hl : l.stackTraces = false) (e1 ro : List Sh) (k : Nat) : am_Ok l (WM ++ e1) ro (d_M_running k) := by
  refine am_met hl (own := RX6) (M := m_M_running) rfl pf_M_running cu_M_running rfl rfl rfl rfl (fun _ => rfl) rfl ⟨chk_M_running, (am_c (fl_M_7) am_n), (am_c (lk_M_60) am_n), (am_n), (am_n)⟩ (am_n) (am_c (ok_M_isRun hl e1 _ 16) am_n) (fun z => nomatch z) ?_ ?_
  · intro _ as h hg
    show g_thr (g_M_running (WM ++ e1) ro as h) = none
    unfold g_M_running
    split <;> rfl
  · intro as h hg hp
    revert hg hp
    show g_ok (g_M_running (WM ++ e1) ro as h) = true → g_pre (g_M_running (WM ++ e1) ro as h) → _ ∧ am_Ev m_M_running (WM ++ e1) ro (am_eq (g_M_running (WM ++ e1) ro as h)) (0, am_ent as 3, [], h)
    unfold g_M_running
    split
    · rename_i o1
      intro hc hp
      change (Nat.beq o1 0) = true at hc
      obtain rfl := am_beq hc
      exact ⟨Nat.le_of_ble_eq_true rfl, ev_M_running h hp eqRI⟩
    · exact fun z => nomatch z
def k_M_counted (pc : Nat) : Ent := bif Nat.ble 124 pc then am_nop else bif Nat.ble 90 pc then (bif Nat.ble 107 pc then (bif Nat.ble 114 pc then (bif Nat.ble 119 pc then (bif Nat.ble 120 pc then (bif Nat.ble 123 pc then (bif Nat.beq pc 123 then (.ireturn, 0, 0, []) else am_nop) else (bif Nat.beq pc 120 then (.getfield 42, 0, 0, []) else am_nop)) else (bif Nat.beq pc 119 then (.aload_n 0, 0, 0, []) else am_nop)) else (bif Nat.ble 115 pc then (bif Nat.ble 118 pc then (bif Nat.beq pc 118 then (.ireturn, 0, 0, []) else am_nop) else (bif Nat.beq pc 115 then (.invokevirtual 242, 0, 0, []) else am_nop)) else (bif Nat.beq pc 114 then (.aload_n 0, 0, 0, []) else am_nop))) else (bif Nat.ble 109 pc then (bif Nat.ble 110 pc then (bif Nat.ble 113 pc then (bif Nat.beq pc 113 then (.ireturn, 0, 0, []) else am_nop) else (bif Nat.beq pc 110 then (.invokevirtual 239, 0, 0, []) else am_nop)) else (bif Nat.beq pc 109 then (.aload_n 0, 0, 0, []) else am_nop)) else (bif Nat.ble 108 pc then (bif Nat.beq pc 108 then (.ireturn, 0, 0, []) else am_nop) else (bif Nat.beq pc 107 then (.iaload, 0, 0, []) else am_nop)))) else (bif Nat.ble 97 pc then (bif Nat.ble 103 pc then (bif Nat.ble 104 pc then (bif Nat.ble 106 pc then (bif Nat.beq pc 106 then (.isub, 0, 0, []) else am_nop) else (bif Nat.beq pc 104 then (.bipush 6, 6, 0, []) else am_nop)) else (bif Nat.beq pc 103 then (.iadd, 0, 0, []) else am_nop)) else (bif Nat.ble 100 pc then (bif Nat.ble 102 pc then (bif Nat.beq pc 102 then (.iload_n 1, 0, 1, []) else am_nop) else (bif Nat.beq pc 100 then (.bipush 13, 13, 0, []) else am_nop)) else (bif Nat.beq pc 97 then (.getfield 7, 0, 0, []) else am_nop))) else (bif Nat.ble 92 pc then (bif Nat.ble 95 pc then (bif Nat.ble 96 pc then (bif Nat.beq pc 96 then (.aload_n 0, 0, 0, []) else am_nop) else (bif Nat.beq pc 95 then (.ireturn, 0, 0, []) else am_nop)) else (bif Nat.beq pc 92 then (.invokevirtual 157, 0, 0, []) else am_nop)) else (bif Nat.ble 91 pc then (bif Nat.beq pc 91 then (.aload_n 0, 0, 0, []) else am_nop) else (bif Nat.beq pc 90 then (.ireturn, 0, 0, []) else am_nop))))) else (bif Nat.ble 70 pc then (bif Nat.ble 79 pc then (bif Nat.ble 84 pc then (bif Nat.ble 86 pc then (bif Nat.ble 87 pc then (bif Nat.beq pc 87 then (.invokevirtual 236, 0, 0, []) else am_nop) else (bif Nat.beq pc 86 then (.iaload, 0, 0, []) else am_nop)) else (bif Nat.beq pc 84 then (.bipush 15, 15, 0, []) else am_nop)) else (bif Nat.ble 80 pc then (bif Nat.ble 81 pc then (bif Nat.beq pc 81 then (.getfield 7, 0, 0, []) else am_nop) else (bif Nat.beq pc 80 then (.aload_n 0, 0, 0, []) else am_nop)) else (bif Nat.beq pc 79 then (.aload_n 0, 0, 0, []) else am_nop))) else (bif Nat.ble 74 pc then (bif Nat.ble 75 pc then (bif Nat.ble 78 pc then (bif Nat.beq pc 78 then (.ireturn, 0, 0, []) else am_nop) else (bif Nat.beq pc 75 then (.invokevirtual 233, 0, 0, []) else am_nop)) else (bif Nat.beq pc 74 then (.aload_n 0, 0, 0, []) else am_nop)) else (bif Nat.ble 73 pc then (bif Nat.beq pc 73 then (.ireturn, 0, 0, []) else am_nop) else (bif Nat.beq pc 70 then (.invokevirtual 93, 0, 0, []) else am_nop)))) else (bif Nat.ble 62 pc then (bif Nat.ble 65 pc then (bif Nat.ble 68 pc then (bif Nat.ble 69 pc then (bif Nat.beq pc 69 then (.aload_n 0, 0, 0, []) else am_nop) else (bif Nat.beq pc 68 then (.ireturn, 0, 0, []) else am_nop)) else (bif Nat.beq pc 65 then (.invokevirtual 230, 0, 0, []) else am_nop)) else (bif Nat.ble 63 pc then (bif Nat.ble 64 pc then (bif Nat.beq pc 64 then (.aload_n 0, 0, 0, []) else am_nop) else (bif Nat.beq pc 63 then (.ireturn, 0, 0, []) else am_nop)) else (bif Nat.beq pc 62 then (.iaload, 0, 0, []) else am_nop))) else (bif Nat.ble 56 pc then (bif Nat.ble 57 pc then (bif Nat.ble 60 pc then (bif Nat.beq pc 60 then (.bipush 15, 15, 0, []) else am_nop) else (bif Nat.beq pc 57 then (.getfield 7, 0, 0, []) else am_nop)) else (bif Nat.beq pc 56 then (.aload_n 0, 0, 0, []) else am_nop)) else (bif Nat.ble 1 pc then (bif Nat.beq pc 1 then (.tableswitch 118 0 9 #[55, 63, 68, 73, 78, 90, 95, 95, 108, 113], 0, 119, [(0, 56), (1, 64), (2, 69), (3, 74), (4, 79), (5, 91), (6, 96), (7, 96), (8, 109), (9, 114)]) else am_nop) else (bif Nat.beq pc 0 then (.iload_n 1, 0, 1, []) else am_nop)))))
theorem lk_M_230 : am_lnk RX6 230 (d_M_running 16) := ⟨⟨by decide, by decide⟩, am_tb 8 (by decide +kernel) rfl, Or.inr ⟨by decide, rfl, am_tb 1235 (by decide +kernel) rfl, am_tp 118 (by decide +kernel) rfl, ⟨TX6, 16, rfl⟩, Or.inl (am_tb 1233 (by decide +kernel) rfl)⟩⟩
theorem lk_M_233 : am_lnk RX6 233 (d_M_byBlocks 16) := ⟨⟨by decide, by decide⟩, am_tb 8 (by decide +kernel) rfl, Or.inr ⟨by decide, rfl, am_tb 1239 (by decide +kernel) rfl, am_tp 119 (by decide +kernel) rfl, ⟨TX6, 16, rfl⟩, Or.inl (am_tb 1237 (by decide +kernel) rfl)⟩⟩
theorem lk_M_236 : am_lnk RX6 236 (d_M_byDeficits 16) := ⟨⟨by decide, by decide⟩, am_tb 8 (by decide +kernel) rfl, Or.inr ⟨by decide, rfl, am_tb 1243 (by decide +kernel) rfl, am_tp 120 (by decide +kernel) rfl, ⟨TX6, 16, rfl⟩, Or.inl (am_tb 1241 (by decide +kernel) rfl)⟩⟩
theorem lk_M_239 : am_lnk RX6 239 (d_M_underWay 16) := ⟨⟨by decide, by decide⟩, am_tb 8 (by decide +kernel) rfl, Or.inr ⟨by decide, rfl, am_tb 1247 (by decide +kernel) rfl, am_tp 121 (by decide +kernel) rfl, ⟨TX6, 16, rfl⟩, Or.inl (am_tb 1245 (by decide +kernel) rfl)⟩⟩
theorem lk_M_242 : am_lnk RX6 242 (d_M_duties 16) := ⟨⟨by decide, by decide⟩, am_tb 8 (by decide +kernel) rfl, Or.inr ⟨by decide, rfl, am_tb 1251 (by decide +kernel) rfl, am_tp 122 (by decide +kernel) rfl, ⟨TX6, 16, rfl⟩, Or.inl (am_tb 1249 (by decide +kernel) rfl)⟩⟩
def m_M_counted : MI := (k_M_counted, [(7, 6, 0), (42, 6, 3)], [(93, d_M_blocks 16), (157, d_M_spares 16), (230, d_M_running 16), (233, d_M_byBlocks 16), (236, d_M_byDeficits 16), (239, d_M_underWay 16), (242, d_M_duties 16)], [], [], [], [], 7, 160, some .int, fun _ => 0, 1)
def v_M_counted (h : HP) (a1 : Int32) : Int32 × HP := (if a1 = 0 then (h.1 1 (am_ix 15), h) else (if a1 = 1 then ((v_M_running h), h) else (if a1 = 2 then ((v_M_blocks h), h) else (if a1 = 3 then (bnd (v_M_byBlocks h) fun y1 => (y1.1, y1.2)) else (if a1 = 4 then ((v_M_byDeficits h (h.1 1 (am_ix 15))), h) else (if a1 = 5 then ((v_M_spares h), h) else (if a1 = 6 then (h.1 1 (am_ix ((13 + a1) - 6)), h) else (if a1 = 7 then (h.1 1 (am_ix ((13 + a1) - 6)), h) else (if a1 = 8 then ((v_M_underWay h), h) else (if a1 = 9 then (bnd (v_M_duties h) fun y2 => (y2.1, y2.2)) else (h.1 0 3, h)))))))))))
def p_M_counted (h : HP) (a1 : Int32) : Prop := ((a1 = 0 → True) ∧ (¬ a1 = 0 → ((a1 = 1 → (p_M_running h)) ∧ (¬ a1 = 1 → ((a1 = 2 → (p_M_blocks h)) ∧ (¬ a1 = 2 → ((a1 = 3 → (p_M_byBlocks h)) ∧ (¬ a1 = 3 → ((a1 = 4 → (p_M_byDeficits h (h.1 1 (am_ix 15)))) ∧ (¬ a1 = 4 → ((a1 = 5 → True) ∧ (¬ a1 = 5 → ((a1 = 6 → (am_in ((13 + a1) - 6) 163)) ∧ (¬ a1 = 6 → ((a1 = 7 → (am_in ((13 + a1) - 6) 163)) ∧ (¬ a1 = 7 → ((a1 = 8 → (p_M_underWay h)) ∧ (¬ a1 = 8 → ((a1 = 9 → (p_M_duties h)) ∧ (¬ a1 = 9 → True))))))))))))))))))))
def g_M_counted (_ _ : List Sh) (as : List Value) (h : HP) : GR := match as with
  | [.ref o1, .int a1] => (Nat.beq o1 0, p_M_counted h a1, none, some (.int (v_M_counted h a1).1), (v_M_counted h a1).2)
  | _ => bad h
def d_M_counted (k : Nat) : CD := (k, yX6_counted, cX6_counted, 2, some .int, 2, 7, 160, 0, false, true, g_M_counted)
theorem chk_M_counted : ∀ pc, am_chk cX6_counted k_M_counted pc = true := am_chkall 124 (by decide +kernel) (fun pc h => by unfold k_M_counted; rw [Nat.ble_eq_true_of_le h]; rfl)
theorem pf_M_counted : plainFor yX6_counted = true := by decide +kernel
theorem cu_M_counted : Cond.code yX6_counted cX6_counted 2 (some .int) ∈ am_U := am_tb 1232 (by decide +kernel) rfl
set_option maxHeartbeats 20000000 in
set_option maxRecDepth 100000 in
theorem ev_M_counted {e1 ro : List Sh} {P : AR → HP → Prop} (h : HP) (a1 : Int32) (hp : p_M_counted h a1) (hP : ∀ q, v_M_counted h a1 = q → RIW P h q) : am_Ev m_M_counted (WM ++ e1) ro P (0, [.ref 0, .int a1], [], h) := by
  unfold p_M_counted at hp
  refine am_Ev_G [68, 78, 90, 113, 118] 400 _ ?_
  show ((a1 = 0 → ((am_in 15 163) ∧ P (.inl (some (.int (h.1 1 (am_ix 15))))) h)) ∧ (¬ a1 = 0 → ((a1 = 1 → ((p_M_running h) ∧ am_Ev m_M_counted (WM ++ e1) ro P (68, [.ref 0, .int a1], [.int (v_M_running h)], h))) ∧ (¬ a1 = 1 → ((a1 = 2 → ((p_M_blocks h) ∧ P (.inl (some (.int (v_M_blocks h)))) h)) ∧ (¬ a1 = 2 → ((a1 = 3 → ((p_M_byBlocks h) ∧ am_Ev m_M_counted (WM ++ e1) ro P (78, [.ref 0, .int a1], [.int ((v_M_byBlocks h).1)], ((v_M_byBlocks h).2)))) ∧ (¬ a1 = 3 → ((a1 = 4 → ((am_in 15 163) ∧ ((p_M_byDeficits h (h.1 1 (am_ix 15))) ∧ am_Ev m_M_counted (WM ++ e1) ro P (90, [.ref 0, .int a1], [.int (v_M_byDeficits h (h.1 1 (am_ix 15)))], h)))) ∧ (¬ a1 = 4 → ((a1 = 5 → P (.inl (some (.int (v_M_spares h)))) h) ∧ (¬ a1 = 5 → ((a1 = 6 → ((am_in ((13 + a1) - 6) 163) ∧ P (.inl (some (.int (h.1 1 (am_ix ((13 + a1) - 6)))))) h)) ∧ (¬ a1 = 6 → ((a1 = 7 → ((am_in ((13 + a1) - 6) 163) ∧ P (.inl (some (.int (h.1 1 (am_ix ((13 + a1) - 6)))))) h)) ∧ (¬ a1 = 7 → ((a1 = 8 → ((p_M_underWay h) ∧ am_Ev m_M_counted (WM ++ e1) ro P (113, [.ref 0, .int a1], [.int (v_M_underWay h)], h))) ∧ (¬ a1 = 8 → ((a1 = 9 → ((p_M_duties h) ∧ am_Ev m_M_counted (WM ++ e1) ro P (118, [.ref 0, .int a1], [.int ((v_M_duties h).1)], ((v_M_duties h).2)))) ∧ (¬ a1 = 9 → P (.inl (some (.int (h.1 0 3)))) h))))))))))))))))))))
  refine ⟨fun c1 => ?_, fun c1 => ?_⟩
  · skip
    refine ⟨⟨by decide, by decide⟩, ?_⟩
    exact hP (h.1 1 (am_ix 15), h) (by unfold v_M_counted; simp only [if_pos c1])
  · have hp := hp.2 c1
    refine ⟨fun c2 => ?_, fun c2 => ?_⟩
    · have hp := hp.1 c2
      refine ⟨hp, ?_⟩
      refine am_Ev_G [] 400 _ ?_
      show P (.inl (some (.int (v_M_running h)))) h
      exact hP ((v_M_running h), h) (by unfold v_M_counted; simp only [if_neg c1, if_pos c2])
    · have hp := hp.2 c2
      refine ⟨fun c3 => ?_, fun c3 => ?_⟩
      · have hp := hp.1 c3
        refine ⟨hp, ?_⟩
        exact hP ((v_M_blocks h), h) (by unfold v_M_counted; simp only [if_neg c1, if_neg c2, if_pos c3])
      · have hp := hp.2 c3
        refine ⟨fun c4 => ?_, fun c4 => ?_⟩
        · have hp := hp.1 c4
          refine ⟨hp, ?_⟩
          obtain ⟨y1, c5⟩ : ∃ y, v_M_byBlocks h = y := ⟨_, rfl⟩
          rw [c5]
          show am_Ev m_M_counted (WM ++ e1) ro P (78, [.ref 0, .int a1], [.int y1.1], y1.2)
          refine am_Ev_G [] 400 _ ?_
          show P (.inl (some (.int y1.1))) y1.2
          exact hP (y1.1, y1.2) (by unfold v_M_counted; simp only [if_neg c1, if_neg c2, if_neg c3, if_pos c4, bnd, c5])
        · have hp := hp.2 c4
          refine ⟨fun c6 => ?_, fun c6 => ?_⟩
          · have hp := hp.1 c6
            refine ⟨⟨by decide, by decide⟩, ?_⟩
            refine ⟨hp, ?_⟩
            refine am_Ev_G [] 400 _ ?_
            show P (.inl (some (.int (v_M_byDeficits h (h.1 1 (am_ix 15)))))) h
            exact hP ((v_M_byDeficits h (h.1 1 (am_ix 15))), h) (by unfold v_M_counted; simp only [if_neg c1, if_neg c2, if_neg c3, if_neg c4, if_pos c6])
          · have hp := hp.2 c6
            refine ⟨fun c7 => ?_, fun c7 => ?_⟩
            · skip
              exact hP ((v_M_spares h), h) (by unfold v_M_counted; simp only [if_neg c1, if_neg c2, if_neg c3, if_neg c4, if_neg c6, if_pos c7])
            · have hp := hp.2 c7
              refine ⟨fun c8 => ?_, fun c8 => ?_⟩
              · have hp := hp.1 c8
                refine ⟨hp, ?_⟩
                exact hP (h.1 1 (am_ix ((13 + a1) - 6)), h) (by unfold v_M_counted; simp only [if_neg c1, if_neg c2, if_neg c3, if_neg c4, if_neg c6, if_neg c7, if_pos c8])
              · have hp := hp.2 c8
                refine ⟨fun c9 => ?_, fun c9 => ?_⟩
                · have hp := hp.1 c9
                  refine ⟨hp, ?_⟩
                  exact hP (h.1 1 (am_ix ((13 + a1) - 6)), h) (by unfold v_M_counted; simp only [if_neg c1, if_neg c2, if_neg c3, if_neg c4, if_neg c6, if_neg c7, if_neg c8, if_pos c9])
                · have hp := hp.2 c9
                  refine ⟨fun c10 => ?_, fun c10 => ?_⟩
                  · have hp := hp.1 c10
                    refine ⟨hp, ?_⟩
                    refine am_Ev_G [] 400 _ ?_
                    show P (.inl (some (.int (v_M_underWay h)))) h
                    exact hP ((v_M_underWay h), h) (by unfold v_M_counted; simp only [if_neg c1, if_neg c2, if_neg c3, if_neg c4, if_neg c6, if_neg c7, if_neg c8, if_neg c9, if_pos c10])
                  · have hp := hp.2 c10
                    refine ⟨fun c11 => ?_, fun c11 => ?_⟩
                    · have hp := hp.1 c11
                      refine ⟨hp, ?_⟩
                      obtain ⟨y2, c12⟩ : ∃ y, v_M_duties h = y := ⟨_, rfl⟩
                      rw [c12]
                      show am_Ev m_M_counted (WM ++ e1) ro P (118, [.ref 0, .int a1], [.int y2.1], y2.2)
                      refine am_Ev_G [] 400 _ ?_
                      show P (.inl (some (.int y2.1))) y2.2
                      exact hP (y2.1, y2.2) (by unfold v_M_counted; simp only [if_neg c1, if_neg c2, if_neg c3, if_neg c4, if_neg c6, if_neg c7, if_neg c8, if_neg c9, if_neg c10, if_pos c11, bnd, c12])
                    · skip
                      exact hP (h.1 0 3, h) (by unfold v_M_counted; simp only [if_neg c1, if_neg c2, if_neg c3, if_neg c4, if_neg c6, if_neg c7, if_neg c8, if_neg c9, if_neg c10, if_neg c11])
theorem ok_M_counted {l : Launch} (hl : l.stackTraces = false) (e1 ro : List Sh) (k : Nat) : am_Ok l (WM ++ e1) ro (d_M_counted k) := by
  refine am_met hl (own := RX6) (M := m_M_counted) rfl pf_M_counted cu_M_counted rfl rfl rfl rfl (fun _ => rfl) rfl ⟨chk_M_counted, (am_c (fl_M_7) (am_c (fl_M_42) am_n)), (am_c (lk_M_93) (am_c (lk_M_157) (am_c (lk_M_230) (am_c (lk_M_233) (am_c (lk_M_236) (am_c (lk_M_239) (am_c (lk_M_242) am_n))))))), (am_n), (am_n)⟩ (am_n) (am_c (ok_M_blocks hl e1 _ 16) (am_c (ok_M_spares hl e1 _ 16) (am_c (ok_M_running hl e1 _ 16) (am_c (ok_M_byBlocks hl e1 _ 16) (am_c (ok_M_byDeficits hl e1 _ 16) (am_c (ok_M_underWay hl e1 _ 16) (am_c (ok_M_duties hl e1 _ 16) am_n))))))) (fun z => nomatch z) ?_ ?_
  · intro _ as h hg
    show g_thr (g_M_counted (WM ++ e1) ro as h) = none
    unfold g_M_counted
    split <;> rfl
  · intro as h hg hp
    revert hg hp
    show g_ok (g_M_counted (WM ++ e1) ro as h) = true → g_pre (g_M_counted (WM ++ e1) ro as h) → _ ∧ am_Ev m_M_counted (WM ++ e1) ro (am_eq (g_M_counted (WM ++ e1) ro as h)) (0, am_ent as 2, [], h)
    unfold g_M_counted
    split
    · rename_i o1 a1
      intro hc hp
      change (Nat.beq o1 0) = true at hc
      obtain rfl := am_beq hc
      exact ⟨Nat.le_of_ble_eq_true rfl, ev_M_counted h a1 hp eqRIW⟩
    · exact fun z => nomatch z
def k_M_count (pc : Nat) : Ent := bif Nat.ble 29 pc then am_nop else bif Nat.ble 15 pc then (bif Nat.ble 23 pc then (bif Nat.ble 25 pc then (bif Nat.ble 28 pc then (bif Nat.beq pc 28 then (.ireturn, 0, 0, []) else am_nop) else (bif Nat.beq pc 25 then (.invokevirtual 134, 0, 0, []) else am_nop)) else (bif Nat.ble 24 pc then (bif Nat.beq pc 24 then (.iconst 1, 1, 0, []) else am_nop) else (bif Nat.beq pc 23 then (.aload_n 0, 0, 0, []) else am_nop))) else (bif Nat.ble 17 pc then (bif Nat.ble 20 pc then (bif Nat.beq pc 20 then (.goto 8, 0, 28, []) else am_nop) else (bif Nat.beq pc 17 then (.invokevirtual 245, 0, 0, []) else am_nop)) else (bif Nat.ble 16 pc then (bif Nat.beq pc 16 then (.iload_n 1, 0, 1, []) else am_nop) else (bif Nat.beq pc 15 then (.aload_n 0, 0, 0, []) else am_nop)))) else (bif Nat.ble 6 pc then (bif Nat.ble 9 pc then (bif Nat.ble 12 pc then (bif Nat.beq pc 12 then (.ifCond .eq 11, 0, 23, []) else am_nop) else (bif Nat.beq pc 9 then (.invokestatic 127, 0, 0, []) else am_nop)) else (bif Nat.ble 7 pc then (bif Nat.beq pc 7 then (.bipush 10, 10, 0, []) else am_nop) else (bif Nat.beq pc 6 then (.iconst 0, 0, 0, []) else am_nop))) else (bif Nat.ble 2 pc then (bif Nat.ble 5 pc then (bif Nat.beq pc 5 then (.iload_n 1, 0, 1, []) else am_nop) else (bif Nat.beq pc 2 then (.putfield 38, 0, 0, []) else am_nop)) else (bif Nat.ble 1 pc then (bif Nat.beq pc 1 then (.iconst 0, 0, 0, []) else am_nop) else (bif Nat.beq pc 0 then (.aload_n 0, 0, 0, []) else am_nop))))
theorem lk_M_245 : am_lnk RX6 245 (d_M_counted 16) := ⟨⟨by decide, by decide⟩, am_tb 8 (by decide +kernel) rfl, Or.inr ⟨by decide, rfl, am_tb 1231 (by decide +kernel) rfl, am_tp 117 (by decide +kernel) rfl, ⟨TX6, 16, rfl⟩, Or.inl (am_tb 1229 (by decide +kernel) rfl)⟩⟩
def m_M_count : MI := (k_M_count, [(38, 6, 8)], [(127, d_M_in 0), (134, d_M_refuses 16), (245, d_M_counted 16)], [], [], [], [], 8, 181, some .int, fun _ => 0, 1)
def v_M_count (h : HP) (a1 : Int32) : Int32 × HP := (if (v_M_in (am_si h 0 8 0) a1 0 10) = 0 then (bnd (v_M_refuses (am_si h 0 8 0) 1) fun y1 => (y1.1, y1.2)) else (bnd (v_M_counted (am_si h 0 8 0) a1) fun y2 => (y2.1, y2.2)))
def p_M_count (h : HP) (a1 : Int32) : Prop := (((v_M_in (am_si h 0 8 0) a1 0 10) = 0 → True) ∧ (¬ (v_M_in (am_si h 0 8 0) a1 0 10) = 0 → (p_M_counted (am_si h 0 8 0) a1)))
def g_M_count (_ _ : List Sh) (as : List Value) (h : HP) : GR := match as with
  | [.ref o1, .int a1] => (Nat.beq o1 0, p_M_count h a1, none, some (.int (v_M_count h a1).1), (v_M_count h a1).2)
  | _ => bad h
def d_M_count (k : Nat) : CD := (k, yX6_count, cX6_count, 2, some .int, 2, 8, 181, 0, false, true, g_M_count)
theorem chk_M_count : ∀ pc, am_chk cX6_count k_M_count pc = true := am_chkall 29 (by decide +kernel) (fun pc h => by unfold k_M_count; rw [Nat.ble_eq_true_of_le h]; rfl)
theorem pf_M_count : plainFor yX6_count = true := by decide +kernel
theorem cu_M_count : Cond.code yX6_count cX6_count 2 (some .int) ∈ am_U := am_tb 1228 (by decide +kernel) rfl
set_option maxHeartbeats 20000000 in
set_option maxRecDepth 100000 in
theorem ev_M_count {e1 ro : List Sh} {P : AR → HP → Prop} (h : HP) (a1 : Int32) (hp : p_M_count h a1) (hP : ∀ q, v_M_count h a1 = q → RIW P h q) : am_Ev m_M_count (WM ++ e1) ro P (0, [.ref 0, .int a1], [], h) := by
  unfold p_M_count at hp
  refine am_Ev_G [5] 400 _ ?_
  show am_Ev m_M_count (WM ++ e1) ro P (5, [.ref 0, .int a1], [], (am_si h 0 8 0))
  refine am_Ev_G [12] 400 _ ?_
  show am_Ev m_M_count (WM ++ e1) ro P (12, [.ref 0, .int a1], [.int (v_M_in (am_si h 0 8 0) a1 0 10)], (am_si h 0 8 0))
  refine am_Ev_G [20, 28] 400 _ ?_
  show (((v_M_in (am_si h 0 8 0) a1 0 10) = 0 → am_Ev m_M_count (WM ++ e1) ro P (28, [.ref 0, .int a1], [.int ((v_M_refuses (am_si h 0 8 0) 1).1)], ((v_M_refuses (am_si h 0 8 0) 1).2))) ∧ (¬ (v_M_in (am_si h 0 8 0) a1 0 10) = 0 → ((p_M_counted (am_si h 0 8 0) a1) ∧ am_Ev m_M_count (WM ++ e1) ro P (20, [.ref 0, .int a1], [.int ((v_M_counted (am_si h 0 8 0) a1).1)], ((v_M_counted (am_si h 0 8 0) a1).2)))))
  refine ⟨fun c1 => ?_, fun c1 => ?_⟩
  · skip
    obtain ⟨y1, c2⟩ : ∃ y, v_M_refuses (am_si h 0 8 0) 1 = y := ⟨_, rfl⟩
    rw [c2]
    show am_Ev m_M_count (WM ++ e1) ro P (28, [.ref 0, .int a1], [.int y1.1], y1.2)
    refine am_Ev_G [] 400 _ ?_
    show P (.inl (some (.int y1.1))) y1.2
    exact hP (y1.1, y1.2) (by unfold v_M_count; simp only [if_pos c1, bnd, c2])
  · have hp := hp.2 c1
    refine ⟨hp, ?_⟩
    obtain ⟨y2, c3⟩ : ∃ y, v_M_counted (am_si h 0 8 0) a1 = y := ⟨_, rfl⟩
    rw [c3]
    show am_Ev m_M_count (WM ++ e1) ro P (20, [.ref 0, .int a1], [.int y2.1], y2.2)
    refine am_Ev_G [28] 400 _ ?_
    show am_Ev m_M_count (WM ++ e1) ro P (28, [.ref 0, .int a1], [.int y2.1], y2.2)
    refine am_Ev_G [] 400 _ ?_
    show P (.inl (some (.int y2.1))) y2.2
    exact hP (y2.1, y2.2) (by unfold v_M_count; simp only [if_neg c1, bnd, c3])
theorem ok_M_count {l : Launch} (hl : l.stackTraces = false) (e1 ro : List Sh) (k : Nat) : am_Ok l (WM ++ e1) ro (d_M_count k) := by
  refine am_met hl (own := RX6) (M := m_M_count) rfl pf_M_count cu_M_count rfl rfl rfl rfl (fun _ => rfl) rfl ⟨chk_M_count, (am_c (fl_M_38) am_n), (am_c (lk_M_127) (am_c (lk_M_134) (am_c (lk_M_245) am_n))), (am_n), (am_n)⟩ (am_n) (am_c (ok_M_in hl e1 _ 0) (am_c (ok_M_refuses hl e1 _ 16) (am_c (ok_M_counted hl e1 _ 16) am_n))) (fun z => nomatch z) ?_ ?_
  · intro _ as h hg
    show g_thr (g_M_count (WM ++ e1) ro as h) = none
    unfold g_M_count
    split <;> rfl
  · intro as h hg hp
    revert hg hp
    show g_ok (g_M_count (WM ++ e1) ro as h) = true → g_pre (g_M_count (WM ++ e1) ro as h) → _ ∧ am_Ev m_M_count (WM ++ e1) ro (am_eq (g_M_count (WM ++ e1) ro as h)) (0, am_ent as 2, [], h)
    unfold g_M_count
    split
    · rename_i o1 a1
      intro hc hp
      change (Nat.beq o1 0) = true at hc
      obtain rfl := am_beq hc
      exact ⟨Nat.le_of_ble_eq_true rfl, ev_M_count h a1 hp eqRIW⟩
    · exact fun z => nomatch z
end
