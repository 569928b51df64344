/-! THE LAW'S draws (written by gen/law31b.py). -/
noncomputable section
def k_L_drawn (pc : Nat) : Ent := bif Nat.ble 40 pc then am_nop else bif Nat.ble 21 pc then (bif Nat.ble 30 pc then (bif Nat.ble 35 pc then (bif Nat.ble 38 pc then (bif Nat.ble 39 pc then (bif Nat.beq pc 39 then (.ireturn, 0, 0, []) else am_nop) else (bif Nat.beq pc 38 then (.ixor, 0, 0, []) else am_nop)) else (bif Nat.ble 37 pc then (bif Nat.beq pc 37 then (.imul, 0, 0, []) else am_nop) else (bif Nat.beq pc 35 then (.ldc 8, 0, 0, []) else am_nop))) else (bif Nat.ble 33 pc then (bif Nat.ble 34 pc then (bif Nat.beq pc 34 then (.iload_n 1, 0, 1, []) else am_nop) else (bif Nat.beq pc 33 then (.ixor, 0, 0, []) else am_nop)) else (bif Nat.ble 32 pc then (bif Nat.beq pc 32 then (.imul, 0, 0, []) else am_nop) else (bif Nat.beq pc 30 then (.bipush 31, 31, 0, []) else am_nop)))) else (bif Nat.ble 26 pc then (bif Nat.ble 28 pc then (bif Nat.ble 29 pc then (bif Nat.beq pc 29 then (.idiv, 0, 0, []) else am_nop) else (bif Nat.beq pc 28 then (.arraylength, 0, 0, []) else am_nop)) else (bif Nat.ble 27 pc then (bif Nat.beq pc 27 then (.aload_n 0, 0, 0, []) else am_nop) else (bif Nat.beq pc 26 then (.iload_n 1, 0, 1, []) else am_nop))) else (bif Nat.ble 24 pc then (bif Nat.ble 25 pc then (bif Nat.beq pc 25 then (.ishr, 0, 0, []) else am_nop) else (bif Nat.beq pc 24 then (.irem, 0, 0, []) else am_nop)) else (bif Nat.ble 22 pc then (bif Nat.beq pc 22 then (.bipush 7, 7, 0, []) else am_nop) else (bif Nat.beq pc 21 then (.iload_n 1, 0, 1, []) else am_nop))))) else (bif Nat.ble 11 pc then (bif Nat.ble 17 pc then (bif Nat.ble 19 pc then (bif Nat.ble 20 pc then (bif Nat.beq pc 20 then (.iaload, 0, 0, []) else am_nop) else (bif Nat.beq pc 19 then (.irem, 0, 0, []) else am_nop)) else (bif Nat.ble 18 pc then (bif Nat.beq pc 18 then (.arraylength, 0, 0, []) else am_nop) else (bif Nat.beq pc 17 then (.aload_n 0, 0, 0, []) else am_nop))) else (bif Nat.ble 15 pc then (bif Nat.ble 16 pc then (bif Nat.beq pc 16 then (.iload_n 1, 0, 1, []) else am_nop) else (bif Nat.beq pc 15 then (.aload_n 0, 0, 0, []) else am_nop)) else (bif Nat.ble 12 pc then (bif Nat.beq pc 12 then (.goto 27, 0, 39, []) else am_nop) else (bif Nat.beq pc 11 then (.iadd, 0, 0, []) else am_nop)))) else (bif Nat.ble 5 pc then (bif Nat.ble 9 pc then (bif Nat.ble 10 pc then (bif Nat.beq pc 10 then (.iconst 3, 3, 0, []) else am_nop) else (bif Nat.beq pc 9 then (.imul, 0, 0, []) else am_nop)) else (bif Nat.ble 8 pc then (bif Nat.beq pc 8 then (.iload_n 1, 0, 1, []) else am_nop) else (bif Nat.beq pc 5 then (.sipush 7919, 7919, 0, []) else am_nop))) else (bif Nat.ble 1 pc then (bif Nat.ble 2 pc then (bif Nat.beq pc 2 then (.ifCond .ne 13, 0, 15, []) else am_nop) else (bif Nat.beq pc 1 then (.arraylength, 0, 0, []) else am_nop)) else (bif Nat.beq pc 0 then (.aload_n 0, 0, 0, []) else am_nop))))
theorem cn_drawn_8 : am_cok RL 8 (.int 2654435) := am_tb 515 (by decide +kernel) rfl
def m_L_drawn : MI := (k_L_drawn, [], [], [(8, .int 2654435)], [], [], [], 0, 0, some .int, fun _ => 0, 1)
def v_L_drawn (L : Nat) (h : HP) (k : Int32) : Int32 := if Int32.ofNat L = 0 then 7919 * k + 3 else ((h.1 1005 (am_ix (k - k / Int32.ofNat L * Int32.ofNat L)) >>> ((k - k / 7 * 7) &&& 31)) ^^^ (k / Int32.ofNat L * 31)) ^^^ (k * 2654435)
def g_L_drawn (L : Nat) (_ _ : List Sh) (as : List Value) (h : HP) : GR := match as with
  | [.ref o, .int k] => (Nat.beq o 1005, ∃ i, i < 1000 ∧ k = nI i, none, some (.int (v_L_drawn L h k)), h)
  | _ => bad h
def d_L_drawn (L : Nat) : CD := (0, yL_drawn, cL_drawn, 2, some .int, 2, 0, 0, 0, false, true, g_L_drawn L)
theorem chk_L_drawn : ∀ pc, am_chk cL_drawn k_L_drawn pc = true := am_chkall 40 (by decide +kernel) (fun pc h => by unfold k_L_drawn; rw [Nat.ble_eq_true_of_le h]; rfl)
theorem pf_L_drawn : plainFor yL_drawn = true := by decide +kernel
theorem cu_L_drawn : Cond.code yL_drawn cL_drawn 2 (some .int) ∈ am_U := am_tb 514 (by decide +kernel) rfl
abbrev ROL (L : Nat) : List Sh := RO ++ [(5, L, [])]
set_option maxRecDepth 100000 in
theorem ev_L_drawn {sh : List Sh} {P : AR → HP → Prop} {L : Nat} (hL : L ≤ 260) (h : HP) {i : Nat} (hi : i < 1000) (hP : P (.inl (some (.int (v_L_drawn L h (nI i))))) h) : am_Ev m_L_drawn sh (ROL L) P (0, [.ref 1005, .int (nI i)], [], h) := by
  unfold v_L_drawn at hP
  refine am_Ev_G [2] 5 _ ?_
  show am_Ev m_L_drawn sh (ROL L) P (2, [.ref 1005, .int (nI i)], [.int (Int32.ofNat L)], h)
  by_cases e : Int32.ofNat L = 0
  · refine wk_ifne rfl e ?_
    rw [if_pos e] at hP
    refine am_Ev_G [39] 20 _ ?_
    show am_Ev m_L_drawn sh (ROL L) P (39, [.ref 1005, .int (nI i)], [.int (7919 * nI i + 3)], h)
    refine am_Ev_G [] 3 _ ?_
    exact hP
  · refine wk_ifne1 rfl e ?_
    rw [if_neg e] at hP
    have hL0 : L ≠ 0 := fun z => e (by rw [z]; rfl)
    refine am_Ev_G [39] 40 _ ?_
    show (¬ Int32.ofNat L = 0 ∧ (am_in (nI i - nI i / Int32.ofNat L * Int32.ofNat L) L ∧ (¬ (7 : Int32) = 0 ∧ (¬ Int32.ofNat L = 0 ∧ am_Ev m_L_drawn sh (ROL L) P (39, [.ref 1005, .int (nI i)], [.int (((h.1 1005 (am_ix (nI i - nI i / Int32.ofNat L * Int32.ofNat L)) >>> ((nI i - nI i / 7 * 7) &&& 31)) ^^^ (nI i / Int32.ofNat L * 31)) ^^^ (nI i * 2654435))], h)))))
    refine ⟨e, ?_, by decide, e, ?_⟩
    · rw [show Int32.ofNat L = nI L from rfl, nI_mod (by omega) (by omega)]
      exact nI_am (Nat.mod_lt _ (by omega)) (by omega)
    · refine am_Ev_G [] 3 _ ?_
      exact hP
theorem ok_L_drawn {l : Launch} (hl : l.stackTraces = false) {L : Nat} (hL : L ≤ 260) (sh : List Sh) : am_Ok l sh (ROL L) (d_L_drawn L) := by
  refine am_met hl (own := RL) (M := m_L_drawn) rfl pf_L_drawn cu_L_drawn rfl rfl rfl rfl (fun _ => rfl) rfl ⟨chk_L_drawn, (am_n), (am_n), (am_c (cn_drawn_8) am_n), (am_n)⟩ (am_n) (am_n) (fun z => nomatch z) ?_ ?_
  · intro _ as h hg
    show g_thr (g_L_drawn L sh (ROL L) as h) = none
    unfold g_L_drawn
    split <;> rfl
  · intro as h hg hp
    revert hg hp
    show g_ok (g_L_drawn L sh (ROL L) as h) = true → g_pre (g_L_drawn L sh (ROL L) as h) → _ ∧ am_Ev m_L_drawn sh (ROL L) (am_eq (g_L_drawn L sh (ROL L) as h)) (0, am_ent as 2, [], h)
    unfold g_L_drawn
    split
    · rename_i o k
      intro hc hp
      obtain ⟨i, hi, rfl⟩ := hp
      obtain rfl := am_beq hc
      exact ⟨Nat.le_of_ble_eq_true rfl, ev_L_drawn hL h hi ⟨rfl, rfl, rfl⟩⟩
    · exact fun z => nomatch z
end
