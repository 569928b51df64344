/-! Shelf, out of its code (written by gen/meth.py). -/
noncomputable section
def k_S_store (pc : Nat) : Ent := bif Nat.ble 34 pc then am_nop else bif Nat.ble 18 pc then (bif Nat.ble 25 pc then (bif Nat.ble 29 pc then (bif Nat.ble 30 pc then (bif Nat.ble 33 pc then (bif Nat.beq pc 33 then (.return_, 0, 0, []) else am_nop) else (bif Nat.beq pc 30 then (.invokevirtual 22, 0, 0, []) else am_nop)) else (bif Nat.beq pc 29 then (.aload_n 2, 0, 2, []) else am_nop)) else (bif Nat.ble 28 pc then (bif Nat.beq pc 28 then (.aload_n 3, 0, 3, []) else am_nop) else (bif Nat.beq pc 25 then (.ifnull 8, 0, 33, []) else am_nop))) else (bif Nat.ble 22 pc then (bif Nat.ble 23 pc then (bif Nat.ble 24 pc then (bif Nat.beq pc 24 then (.aload_n 3, 0, 3, []) else am_nop) else (bif Nat.beq pc 23 then (.astore_n 3, 0, 3, []) else am_nop)) else (bif Nat.beq pc 22 then (.aconst_null, 0, 0, []) else am_nop)) else (bif Nat.ble 19 pc then (bif Nat.beq pc 19 then (.goto 4, 0, 23, []) else am_nop) else (bif Nat.beq pc 18 then (.aaload, 0, 0, []) else am_nop)))) else (bif Nat.ble 9 pc then (bif Nat.ble 13 pc then (bif Nat.ble 14 pc then (bif Nat.ble 17 pc then (bif Nat.beq pc 17 then (.iload_n 1, 0, 1, []) else am_nop) else (bif Nat.beq pc 14 then (.getfield 15, 0, 0, []) else am_nop)) else (bif Nat.beq pc 13 then (.aload_n 0, 0, 0, []) else am_nop)) else (bif Nat.ble 10 pc then (bif Nat.beq pc 10 then (.if_icmp .ge 12, 0, 22, []) else am_nop) else (bif Nat.beq pc 9 then (.arraylength, 0, 0, []) else am_nop))) else (bif Nat.ble 4 pc then (bif Nat.ble 5 pc then (bif Nat.ble 6 pc then (bif Nat.beq pc 6 then (.getfield 15, 0, 0, []) else am_nop) else (bif Nat.beq pc 5 then (.aload_n 0, 0, 0, []) else am_nop)) else (bif Nat.beq pc 4 then (.iload_n 1, 0, 1, []) else am_nop)) else (bif Nat.ble 1 pc then (bif Nat.beq pc 1 then (.ifCond .lt 21, 0, 22, []) else am_nop) else (bif Nat.beq pc 0 then (.iload_n 1, 0, 1, []) else am_nop))))
theorem fl_S_15 : am_fok RX2 15 (2, 0) := ⟨RX2, TX2, 1, rfl, by decide, rfl, Or.inl (am_tb 187 (by decide +kernel) rfl)⟩
theorem lk_S_22 : am_lnk RX2 22 (d_TC_copyFrom 24) := ⟨⟨by decide, by decide⟩, am_tb 2 (by decide +kernel) rfl, Or.inr ⟨by decide, rfl, am_tb 326 (by decide +kernel) rfl, am_tp 3 (by decide +kernel) rfl, ⟨TX4, 15, rfl⟩, Or.inr ⟨"BusBlocks", am_tb 324 (by decide +kernel) rfl⟩⟩⟩
def m_S_store : MI := (k_S_store, [(15, 2, 0)], [(22, d_TC_copyFrom 24)], [], [], [], [], 3, 86, none, fun _ => 0, 1)
def v_S_store_0_33 (h : HP) (a1 : Int32) : HP := (if a1 < 0 then h else (if a1 < 6 then (if a1 = (nI 0) then (bnd (v_copyFrom h 39 0) fun y1 => y1) else (if a1 = (nI 1) then (bnd (v_copyFrom h 51 0) fun y2 => y2) else (if a1 = (nI 2) then (bnd (v_copyFrom h 63 0) fun y3 => y3) else (if a1 = (nI 3) then (bnd (v_copyFrom h 75 0) fun y4 => y4) else (if a1 = (nI 4) then (bnd (v_copyFrom h 87 0) fun y5 => y5) else (if a1 = (nI 5) then (bnd (v_copyFrom h 99 0) fun y6 => y6) else h)))))) else h))
def p_S_store_0_33 (h : HP) (a1 : Int32) : Prop := ((a1 < 0 → True) ∧ (¬ a1 < 0 → ((a1 < 6 → (am_in a1 6)) ∧ (¬ a1 < 6 → True))))
def v_S_store_0_35 (h : HP) (a1 : Int32) : HP := (if a1 < 0 then h else (if a1 < 2 then (if a1 = (nI 0) then (bnd (v_copyFrom h 111 0) fun y1 => y1) else (if a1 = (nI 1) then (bnd (v_copyFrom h 123 0) fun y2 => y2) else h)) else h))
def p_S_store_0_35 (h : HP) (a1 : Int32) : Prop := ((a1 < 0 → True) ∧ (¬ a1 < 0 → ((a1 < 2 → (am_in a1 2)) ∧ (¬ a1 < 2 → True))))
def g_S_store (_ _ : List Sh) (as : List Value) (h : HP) : GR := match as with
  | [.ref o1, .int a1, .ref o2] => bif Nat.beq o1 33 && Nat.beq o2 0 then (true, p_S_store_0_33 h a1, none, none, v_S_store_0_33 h a1) else bif Nat.beq o1 35 && Nat.beq o2 0 then (true, p_S_store_0_35 h a1, none, none, v_S_store_0_35 h a1) else bad h
  | _ => bad h
def d_S_store (k : Nat) : CD := (k, yX2_store, cX2_store, 4, none, 3, 3, 86, 0, false, true, g_S_store)
theorem chk_S_store : ∀ pc, am_chk cX2_store k_S_store pc = true := am_chkall 34 (by decide +kernel) (fun pc h => by unfold k_S_store; rw [Nat.ble_eq_true_of_le h]; rfl)
theorem pf_S_store : plainFor yX2_store = true := by decide +kernel
theorem cu_S_store : Cond.code yX2_store cX2_store 4 (none) ∈ am_U := am_tb 323 (by decide +kernel) rfl
set_option maxRecDepth 100000 in
theorem ev_S_store_0_33 {e1 ro : List Sh} {P : AR → HP → Prop} (h : HP) (a1 : Int32) (hp : p_S_store_0_33 h a1) (hP : ∀ q, v_S_store_0_33 h a1 = q → RVW P h q) : am_Ev m_S_store (WB ++ e1) ro P (0, [.ref 33, .int a1, .ref 0, .retAddr 0], [], h) := by
  unfold p_S_store_0_33 at hp
  refine am_Ev_G [25] 400 _ ?_
  show ((a1 < 0 → am_Ev m_S_store (WB ++ e1) ro P (25, [.ref 33, .int a1, .ref 0, .null], [.null], h)) ∧ (¬ a1 < 0 → ((¬ a1 < 6 → am_Ev m_S_store (WB ++ e1) ro P (25, [.ref 33, .int a1, .ref 0, .null], [.null], h)) ∧ (a1 < 6 → ((am_in a1 6) ∧ ((a1 = (nI 0) → am_Ev m_S_store (WB ++ e1) ro P (25, [.ref 33, .int a1, .ref 0, .ref 39], [.ref 39], h)) ∧ (¬ a1 = (nI 0) → ((a1 = (nI 1) → am_Ev m_S_store (WB ++ e1) ro P (25, [.ref 33, .int a1, .ref 0, .ref 51], [.ref 51], h)) ∧ (¬ a1 = (nI 1) → ((a1 = (nI 2) → am_Ev m_S_store (WB ++ e1) ro P (25, [.ref 33, .int a1, .ref 0, .ref 63], [.ref 63], h)) ∧ (¬ a1 = (nI 2) → ((a1 = (nI 3) → am_Ev m_S_store (WB ++ e1) ro P (25, [.ref 33, .int a1, .ref 0, .ref 75], [.ref 75], h)) ∧ (¬ a1 = (nI 3) → ((a1 = (nI 4) → am_Ev m_S_store (WB ++ e1) ro P (25, [.ref 33, .int a1, .ref 0, .ref 87], [.ref 87], h)) ∧ (¬ a1 = (nI 4) → ((a1 = (nI 5) → am_Ev m_S_store (WB ++ e1) ro P (25, [.ref 33, .int a1, .ref 0, .ref 99], [.ref 99], h)) ∧ (¬ a1 = (nI 5) → True)))))))))))))))))
  refine ⟨fun c1 => ?_, fun c1 => ?_⟩
  · skip
    refine am_Ev_G [33] 400 _ ?_
    show am_Ev m_S_store (WB ++ e1) ro P (33, [.ref 33, .int a1, .ref 0, .null], [], h)
    refine am_Ev_G [] 400 _ ?_
    show P (.inl none) h
    exact hP h (by unfold v_S_store_0_33; simp only [if_pos c1])
  · have hp := hp.2 c1
    refine ⟨fun c2 => ?_, fun c2 => ?_⟩
    · skip
      refine am_Ev_G [33] 400 _ ?_
      show am_Ev m_S_store (WB ++ e1) ro P (33, [.ref 33, .int a1, .ref 0, .null], [], h)
      refine am_Ev_G [] 400 _ ?_
      show P (.inl none) h
      exact hP h (by unfold v_S_store_0_33; simp only [if_neg c1, if_neg c2])
    · have hp := hp.1 c2
      refine ⟨hp, ?_⟩
      refine ⟨fun c3 => ?_, fun c3 => ?_⟩
      · skip
        refine am_Ev_G [33] 400 _ ?_
        show am_Ev m_S_store (WB ++ e1) ro P (33, [.ref 33, .int a1, .ref 0, .ref 39], [], (v_copyFrom h 39 0))
        obtain ⟨y1, c4⟩ : ∃ y, v_copyFrom h 39 0 = y := ⟨_, rfl⟩
        rw [c4]
        show am_Ev m_S_store (WB ++ e1) ro P (33, [.ref 33, .int a1, .ref 0, .ref 39], [], y1)
        refine am_Ev_G [] 400 _ ?_
        show P (.inl none) y1
        exact hP y1 (by unfold v_S_store_0_33; simp only [if_neg c1, if_pos c2, if_pos c3, bnd, c4])
      · skip
        refine ⟨fun c5 => ?_, fun c5 => ?_⟩
        · skip
          refine am_Ev_G [33] 400 _ ?_
          show am_Ev m_S_store (WB ++ e1) ro P (33, [.ref 33, .int a1, .ref 0, .ref 51], [], (v_copyFrom h 51 0))
          obtain ⟨y2, c6⟩ : ∃ y, v_copyFrom h 51 0 = y := ⟨_, rfl⟩
          rw [c6]
          show am_Ev m_S_store (WB ++ e1) ro P (33, [.ref 33, .int a1, .ref 0, .ref 51], [], y2)
          refine am_Ev_G [] 400 _ ?_
          show P (.inl none) y2
          exact hP y2 (by unfold v_S_store_0_33; simp only [if_neg c1, if_pos c2, if_neg c3, if_pos c5, bnd, c6])
        · skip
          refine ⟨fun c7 => ?_, fun c7 => ?_⟩
          · skip
            refine am_Ev_G [33] 400 _ ?_
            show am_Ev m_S_store (WB ++ e1) ro P (33, [.ref 33, .int a1, .ref 0, .ref 63], [], (v_copyFrom h 63 0))
            obtain ⟨y3, c8⟩ : ∃ y, v_copyFrom h 63 0 = y := ⟨_, rfl⟩
            rw [c8]
            show am_Ev m_S_store (WB ++ e1) ro P (33, [.ref 33, .int a1, .ref 0, .ref 63], [], y3)
            refine am_Ev_G [] 400 _ ?_
            show P (.inl none) y3
            exact hP y3 (by unfold v_S_store_0_33; simp only [if_neg c1, if_pos c2, if_neg c3, if_neg c5, if_pos c7, bnd, c8])
          · skip
            refine ⟨fun c9 => ?_, fun c9 => ?_⟩
            · skip
              refine am_Ev_G [33] 400 _ ?_
              show am_Ev m_S_store (WB ++ e1) ro P (33, [.ref 33, .int a1, .ref 0, .ref 75], [], (v_copyFrom h 75 0))
              obtain ⟨y4, c10⟩ : ∃ y, v_copyFrom h 75 0 = y := ⟨_, rfl⟩
              rw [c10]
              show am_Ev m_S_store (WB ++ e1) ro P (33, [.ref 33, .int a1, .ref 0, .ref 75], [], y4)
              refine am_Ev_G [] 400 _ ?_
              show P (.inl none) y4
              exact hP y4 (by unfold v_S_store_0_33; simp only [if_neg c1, if_pos c2, if_neg c3, if_neg c5, if_neg c7, if_pos c9, bnd, c10])
            · skip
              refine ⟨fun c11 => ?_, fun c11 => ?_⟩
              · skip
                refine am_Ev_G [33] 400 _ ?_
                show am_Ev m_S_store (WB ++ e1) ro P (33, [.ref 33, .int a1, .ref 0, .ref 87], [], (v_copyFrom h 87 0))
                obtain ⟨y5, c12⟩ : ∃ y, v_copyFrom h 87 0 = y := ⟨_, rfl⟩
                rw [c12]
                show am_Ev m_S_store (WB ++ e1) ro P (33, [.ref 33, .int a1, .ref 0, .ref 87], [], y5)
                refine am_Ev_G [] 400 _ ?_
                show P (.inl none) y5
                exact hP y5 (by unfold v_S_store_0_33; simp only [if_neg c1, if_pos c2, if_neg c3, if_neg c5, if_neg c7, if_neg c9, if_pos c11, bnd, c12])
              · skip
                refine ⟨fun c13 => ?_, fun c13 => ?_⟩
                · skip
                  refine am_Ev_G [33] 400 _ ?_
                  show am_Ev m_S_store (WB ++ e1) ro P (33, [.ref 33, .int a1, .ref 0, .ref 99], [], (v_copyFrom h 99 0))
                  obtain ⟨y6, c14⟩ : ∃ y, v_copyFrom h 99 0 = y := ⟨_, rfl⟩
                  rw [c14]
                  show am_Ev m_S_store (WB ++ e1) ro P (33, [.ref 33, .int a1, .ref 0, .ref 99], [], y6)
                  refine am_Ev_G [] 400 _ ?_
                  show P (.inl none) y6
                  exact hP y6 (by unfold v_S_store_0_33; simp only [if_neg c1, if_pos c2, if_neg c3, if_neg c5, if_neg c7, if_neg c9, if_neg c11, if_pos c13, bnd, c14])
                · exact trivial
set_option maxRecDepth 100000 in
theorem ev_S_store_0_35 {e1 ro : List Sh} {P : AR → HP → Prop} (h : HP) (a1 : Int32) (hp : p_S_store_0_35 h a1) (hP : ∀ q, v_S_store_0_35 h a1 = q → RVW P h q) : am_Ev m_S_store (WB ++ e1) ro P (0, [.ref 35, .int a1, .ref 0, .retAddr 0], [], h) := by
  unfold p_S_store_0_35 at hp
  refine am_Ev_G [25] 400 _ ?_
  show ((a1 < 0 → am_Ev m_S_store (WB ++ e1) ro P (25, [.ref 35, .int a1, .ref 0, .null], [.null], h)) ∧ (¬ a1 < 0 → ((¬ a1 < 2 → am_Ev m_S_store (WB ++ e1) ro P (25, [.ref 35, .int a1, .ref 0, .null], [.null], h)) ∧ (a1 < 2 → ((am_in a1 2) ∧ ((a1 = (nI 0) → am_Ev m_S_store (WB ++ e1) ro P (25, [.ref 35, .int a1, .ref 0, .ref 111], [.ref 111], h)) ∧ (¬ a1 = (nI 0) → ((a1 = (nI 1) → am_Ev m_S_store (WB ++ e1) ro P (25, [.ref 35, .int a1, .ref 0, .ref 123], [.ref 123], h)) ∧ (¬ a1 = (nI 1) → True)))))))))
  refine ⟨fun c1 => ?_, fun c1 => ?_⟩
  · skip
    refine am_Ev_G [33] 400 _ ?_
    show am_Ev m_S_store (WB ++ e1) ro P (33, [.ref 35, .int a1, .ref 0, .null], [], h)
    refine am_Ev_G [] 400 _ ?_
    show P (.inl none) h
    exact hP h (by unfold v_S_store_0_35; simp only [if_pos c1])
  · have hp := hp.2 c1
    refine ⟨fun c2 => ?_, fun c2 => ?_⟩
    · skip
      refine am_Ev_G [33] 400 _ ?_
      show am_Ev m_S_store (WB ++ e1) ro P (33, [.ref 35, .int a1, .ref 0, .null], [], h)
      refine am_Ev_G [] 400 _ ?_
      show P (.inl none) h
      exact hP h (by unfold v_S_store_0_35; simp only [if_neg c1, if_neg c2])
    · have hp := hp.1 c2
      refine ⟨hp, ?_⟩
      refine ⟨fun c3 => ?_, fun c3 => ?_⟩
      · skip
        refine am_Ev_G [33] 400 _ ?_
        show am_Ev m_S_store (WB ++ e1) ro P (33, [.ref 35, .int a1, .ref 0, .ref 111], [], (v_copyFrom h 111 0))
        obtain ⟨y1, c4⟩ : ∃ y, v_copyFrom h 111 0 = y := ⟨_, rfl⟩
        rw [c4]
        show am_Ev m_S_store (WB ++ e1) ro P (33, [.ref 35, .int a1, .ref 0, .ref 111], [], y1)
        refine am_Ev_G [] 400 _ ?_
        show P (.inl none) y1
        exact hP y1 (by unfold v_S_store_0_35; simp only [if_neg c1, if_pos c2, if_pos c3, bnd, c4])
      · skip
        refine ⟨fun c5 => ?_, fun c5 => ?_⟩
        · skip
          refine am_Ev_G [33] 400 _ ?_
          show am_Ev m_S_store (WB ++ e1) ro P (33, [.ref 35, .int a1, .ref 0, .ref 123], [], (v_copyFrom h 123 0))
          obtain ⟨y2, c6⟩ : ∃ y, v_copyFrom h 123 0 = y := ⟨_, rfl⟩
          rw [c6]
          show am_Ev m_S_store (WB ++ e1) ro P (33, [.ref 35, .int a1, .ref 0, .ref 123], [], y2)
          refine am_Ev_G [] 400 _ ?_
          show P (.inl none) y2
          exact hP y2 (by unfold v_S_store_0_35; simp only [if_neg c1, if_pos c2, if_neg c3, if_pos c5, bnd, c6])
        · exact trivial
theorem ok_S_store {l : Launch} (hl : l.stackTraces = false) (e1 ro : List Sh) (k : Nat) : am_Ok l (WB ++ e1) ro (d_S_store k) := by
  refine am_met hl (own := RX2) (M := m_S_store) rfl pf_S_store cu_S_store rfl rfl rfl rfl (fun _ => rfl) rfl ⟨chk_S_store, (am_c (fl_S_15) am_n), (am_c (lk_S_22) am_n), (am_n), (am_n)⟩ (am_n) (am_c (ok_TC_copyFrom hl e1 _ 24) am_n) (fun z => nomatch z) ?_ ?_
  · intro _ as h hg
    show g_thr (g_S_store (WB ++ e1) ro as h) = none
    unfold g_S_store
    split
    · rename_i o1 a1 o2
      cases Nat.beq o1 33 && Nat.beq o2 0 with
      | true => rfl
      | false =>
        cases Nat.beq o1 35 && Nat.beq o2 0 with
        | true => rfl
        | false =>
          rfl
    · rfl
  · intro as h hg hp
    revert hg hp
    show g_ok (g_S_store (WB ++ e1) ro as h) = true → g_pre (g_S_store (WB ++ e1) ro as h) → _ ∧ am_Ev m_S_store (WB ++ e1) ro (am_eq (g_S_store (WB ++ e1) ro as h)) (0, am_ent as 4, [], h)
    unfold g_S_store
    split
    · rename_i o1 a1 o2
      cases hc : (Nat.beq o1 33 && Nat.beq o2 0) with
      | true =>
        intro _ hp
        rw [Bool.and_eq_true] at hc
        obtain rfl := am_beq hc.1
        obtain rfl := am_beq hc.2
        exact ⟨Nat.le_of_ble_eq_true rfl, ev_S_store_0_33 h a1 hp eqRVW⟩
      | false =>
        cases hc : (Nat.beq o1 35 && Nat.beq o2 0) with
        | true =>
          intro _ hp
          rw [Bool.and_eq_true] at hc
          obtain rfl := am_beq hc.1
          obtain rfl := am_beq hc.2
          exact ⟨Nat.le_of_ble_eq_true rfl, ev_S_store_0_35 h a1 hp eqRVW⟩
        | false =>
          exact fun z => nomatch z
    · exact fun z => nomatch z
def k_S_fetch (pc : Nat) : Ent := bif Nat.ble 34 pc then am_nop else bif Nat.ble 18 pc then (bif Nat.ble 25 pc then (bif Nat.ble 29 pc then (bif Nat.ble 30 pc then (bif Nat.ble 33 pc then (bif Nat.beq pc 33 then (.return_, 0, 0, []) else am_nop) else (bif Nat.beq pc 30 then (.invokevirtual 22, 0, 0, []) else am_nop)) else (bif Nat.beq pc 29 then (.aload_n 3, 0, 3, []) else am_nop)) else (bif Nat.ble 28 pc then (bif Nat.beq pc 28 then (.aload_n 2, 0, 2, []) else am_nop) else (bif Nat.beq pc 25 then (.ifnull 8, 0, 33, []) else am_nop))) else (bif Nat.ble 22 pc then (bif Nat.ble 23 pc then (bif Nat.ble 24 pc then (bif Nat.beq pc 24 then (.aload_n 3, 0, 3, []) else am_nop) else (bif Nat.beq pc 23 then (.astore_n 3, 0, 3, []) else am_nop)) else (bif Nat.beq pc 22 then (.aconst_null, 0, 0, []) else am_nop)) else (bif Nat.ble 19 pc then (bif Nat.beq pc 19 then (.goto 4, 0, 23, []) else am_nop) else (bif Nat.beq pc 18 then (.aaload, 0, 0, []) else am_nop)))) else (bif Nat.ble 9 pc then (bif Nat.ble 13 pc then (bif Nat.ble 14 pc then (bif Nat.ble 17 pc then (bif Nat.beq pc 17 then (.iload_n 1, 0, 1, []) else am_nop) else (bif Nat.beq pc 14 then (.getfield 15, 0, 0, []) else am_nop)) else (bif Nat.beq pc 13 then (.aload_n 0, 0, 0, []) else am_nop)) else (bif Nat.ble 10 pc then (bif Nat.beq pc 10 then (.if_icmp .ge 12, 0, 22, []) else am_nop) else (bif Nat.beq pc 9 then (.arraylength, 0, 0, []) else am_nop))) else (bif Nat.ble 4 pc then (bif Nat.ble 5 pc then (bif Nat.ble 6 pc then (bif Nat.beq pc 6 then (.getfield 15, 0, 0, []) else am_nop) else (bif Nat.beq pc 5 then (.aload_n 0, 0, 0, []) else am_nop)) else (bif Nat.beq pc 4 then (.iload_n 1, 0, 1, []) else am_nop)) else (bif Nat.ble 1 pc then (bif Nat.beq pc 1 then (.ifCond .lt 21, 0, 22, []) else am_nop) else (bif Nat.beq pc 0 then (.iload_n 1, 0, 1, []) else am_nop))))
def m_S_fetch : MI := (k_S_fetch, [(15, 2, 0)], [(22, d_TC_copyFrom 24)], [], [], [], [], 3, 86, none, fun _ => 0, 1)
def v_S_fetch_0_33 (h : HP) (a1 : Int32) : HP := (if a1 < 0 then h else (if a1 < 6 then (if a1 = (nI 0) then (bnd (v_copyFrom h 0 39) fun y1 => y1) else (if a1 = (nI 1) then (bnd (v_copyFrom h 0 51) fun y2 => y2) else (if a1 = (nI 2) then (bnd (v_copyFrom h 0 63) fun y3 => y3) else (if a1 = (nI 3) then (bnd (v_copyFrom h 0 75) fun y4 => y4) else (if a1 = (nI 4) then (bnd (v_copyFrom h 0 87) fun y5 => y5) else (if a1 = (nI 5) then (bnd (v_copyFrom h 0 99) fun y6 => y6) else h)))))) else h))
def p_S_fetch_0_33 (h : HP) (a1 : Int32) : Prop := ((a1 < 0 → True) ∧ (¬ a1 < 0 → ((a1 < 6 → (am_in a1 6)) ∧ (¬ a1 < 6 → True))))
def v_S_fetch_0_35 (h : HP) (a1 : Int32) : HP := (if a1 < 0 then h else (if a1 < 2 then (if a1 = (nI 0) then (bnd (v_copyFrom h 0 111) fun y1 => y1) else (if a1 = (nI 1) then (bnd (v_copyFrom h 0 123) fun y2 => y2) else h)) else h))
def p_S_fetch_0_35 (h : HP) (a1 : Int32) : Prop := ((a1 < 0 → True) ∧ (¬ a1 < 0 → ((a1 < 2 → (am_in a1 2)) ∧ (¬ a1 < 2 → True))))
def g_S_fetch (_ _ : List Sh) (as : List Value) (h : HP) : GR := match as with
  | [.ref o1, .int a1, .ref o2] => bif Nat.beq o1 33 && Nat.beq o2 0 then (true, p_S_fetch_0_33 h a1, none, none, v_S_fetch_0_33 h a1) else bif Nat.beq o1 35 && Nat.beq o2 0 then (true, p_S_fetch_0_35 h a1, none, none, v_S_fetch_0_35 h a1) else bad h
  | _ => bad h
def d_S_fetch (k : Nat) : CD := (k, yX2_fetch, cX2_fetch, 4, none, 3, 3, 86, 0, false, true, g_S_fetch)
theorem chk_S_fetch : ∀ pc, am_chk cX2_fetch k_S_fetch pc = true := am_chkall 34 (by decide +kernel) (fun pc h => by unfold k_S_fetch; rw [Nat.ble_eq_true_of_le h]; rfl)
theorem pf_S_fetch : plainFor yX2_fetch = true := by decide +kernel
theorem cu_S_fetch : Cond.code yX2_fetch cX2_fetch 4 (none) ∈ am_U := am_tb 413 (by decide +kernel) rfl
set_option maxRecDepth 100000 in
theorem ev_S_fetch_0_33 {e1 ro : List Sh} {P : AR → HP → Prop} (h : HP) (a1 : Int32) (hp : p_S_fetch_0_33 h a1) (hP : ∀ q, v_S_fetch_0_33 h a1 = q → RVW P h q) : am_Ev m_S_fetch (WB ++ e1) ro P (0, [.ref 33, .int a1, .ref 0, .retAddr 0], [], h) := by
  unfold p_S_fetch_0_33 at hp
  refine am_Ev_G [25] 400 _ ?_
  show ((a1 < 0 → am_Ev m_S_fetch (WB ++ e1) ro P (25, [.ref 33, .int a1, .ref 0, .null], [.null], h)) ∧ (¬ a1 < 0 → ((¬ a1 < 6 → am_Ev m_S_fetch (WB ++ e1) ro P (25, [.ref 33, .int a1, .ref 0, .null], [.null], h)) ∧ (a1 < 6 → ((am_in a1 6) ∧ ((a1 = (nI 0) → am_Ev m_S_fetch (WB ++ e1) ro P (25, [.ref 33, .int a1, .ref 0, .ref 39], [.ref 39], h)) ∧ (¬ a1 = (nI 0) → ((a1 = (nI 1) → am_Ev m_S_fetch (WB ++ e1) ro P (25, [.ref 33, .int a1, .ref 0, .ref 51], [.ref 51], h)) ∧ (¬ a1 = (nI 1) → ((a1 = (nI 2) → am_Ev m_S_fetch (WB ++ e1) ro P (25, [.ref 33, .int a1, .ref 0, .ref 63], [.ref 63], h)) ∧ (¬ a1 = (nI 2) → ((a1 = (nI 3) → am_Ev m_S_fetch (WB ++ e1) ro P (25, [.ref 33, .int a1, .ref 0, .ref 75], [.ref 75], h)) ∧ (¬ a1 = (nI 3) → ((a1 = (nI 4) → am_Ev m_S_fetch (WB ++ e1) ro P (25, [.ref 33, .int a1, .ref 0, .ref 87], [.ref 87], h)) ∧ (¬ a1 = (nI 4) → ((a1 = (nI 5) → am_Ev m_S_fetch (WB ++ e1) ro P (25, [.ref 33, .int a1, .ref 0, .ref 99], [.ref 99], h)) ∧ (¬ a1 = (nI 5) → True)))))))))))))))))
  refine ⟨fun c1 => ?_, fun c1 => ?_⟩
  · skip
    refine am_Ev_G [33] 400 _ ?_
    show am_Ev m_S_fetch (WB ++ e1) ro P (33, [.ref 33, .int a1, .ref 0, .null], [], h)
    refine am_Ev_G [] 400 _ ?_
    show P (.inl none) h
    exact hP h (by unfold v_S_fetch_0_33; simp only [if_pos c1])
  · have hp := hp.2 c1
    refine ⟨fun c2 => ?_, fun c2 => ?_⟩
    · skip
      refine am_Ev_G [33] 400 _ ?_
      show am_Ev m_S_fetch (WB ++ e1) ro P (33, [.ref 33, .int a1, .ref 0, .null], [], h)
      refine am_Ev_G [] 400 _ ?_
      show P (.inl none) h
      exact hP h (by unfold v_S_fetch_0_33; simp only [if_neg c1, if_neg c2])
    · have hp := hp.1 c2
      refine ⟨hp, ?_⟩
      refine ⟨fun c3 => ?_, fun c3 => ?_⟩
      · skip
        refine am_Ev_G [33] 400 _ ?_
        show am_Ev m_S_fetch (WB ++ e1) ro P (33, [.ref 33, .int a1, .ref 0, .ref 39], [], (v_copyFrom h 0 39))
        obtain ⟨y1, c4⟩ : ∃ y, v_copyFrom h 0 39 = y := ⟨_, rfl⟩
        rw [c4]
        show am_Ev m_S_fetch (WB ++ e1) ro P (33, [.ref 33, .int a1, .ref 0, .ref 39], [], y1)
        refine am_Ev_G [] 400 _ ?_
        show P (.inl none) y1
        exact hP y1 (by unfold v_S_fetch_0_33; simp only [if_neg c1, if_pos c2, if_pos c3, bnd, c4])
      · skip
        refine ⟨fun c5 => ?_, fun c5 => ?_⟩
        · skip
          refine am_Ev_G [33] 400 _ ?_
          show am_Ev m_S_fetch (WB ++ e1) ro P (33, [.ref 33, .int a1, .ref 0, .ref 51], [], (v_copyFrom h 0 51))
          obtain ⟨y2, c6⟩ : ∃ y, v_copyFrom h 0 51 = y := ⟨_, rfl⟩
          rw [c6]
          show am_Ev m_S_fetch (WB ++ e1) ro P (33, [.ref 33, .int a1, .ref 0, .ref 51], [], y2)
          refine am_Ev_G [] 400 _ ?_
          show P (.inl none) y2
          exact hP y2 (by unfold v_S_fetch_0_33; simp only [if_neg c1, if_pos c2, if_neg c3, if_pos c5, bnd, c6])
        · skip
          refine ⟨fun c7 => ?_, fun c7 => ?_⟩
          · skip
            refine am_Ev_G [33] 400 _ ?_
            show am_Ev m_S_fetch (WB ++ e1) ro P (33, [.ref 33, .int a1, .ref 0, .ref 63], [], (v_copyFrom h 0 63))
            obtain ⟨y3, c8⟩ : ∃ y, v_copyFrom h 0 63 = y := ⟨_, rfl⟩
            rw [c8]
            show am_Ev m_S_fetch (WB ++ e1) ro P (33, [.ref 33, .int a1, .ref 0, .ref 63], [], y3)
            refine am_Ev_G [] 400 _ ?_
            show P (.inl none) y3
            exact hP y3 (by unfold v_S_fetch_0_33; simp only [if_neg c1, if_pos c2, if_neg c3, if_neg c5, if_pos c7, bnd, c8])
          · skip
            refine ⟨fun c9 => ?_, fun c9 => ?_⟩
            · skip
              refine am_Ev_G [33] 400 _ ?_
              show am_Ev m_S_fetch (WB ++ e1) ro P (33, [.ref 33, .int a1, .ref 0, .ref 75], [], (v_copyFrom h 0 75))
              obtain ⟨y4, c10⟩ : ∃ y, v_copyFrom h 0 75 = y := ⟨_, rfl⟩
              rw [c10]
              show am_Ev m_S_fetch (WB ++ e1) ro P (33, [.ref 33, .int a1, .ref 0, .ref 75], [], y4)
              refine am_Ev_G [] 400 _ ?_
              show P (.inl none) y4
              exact hP y4 (by unfold v_S_fetch_0_33; simp only [if_neg c1, if_pos c2, if_neg c3, if_neg c5, if_neg c7, if_pos c9, bnd, c10])
            · skip
              refine ⟨fun c11 => ?_, fun c11 => ?_⟩
              · skip
                refine am_Ev_G [33] 400 _ ?_
                show am_Ev m_S_fetch (WB ++ e1) ro P (33, [.ref 33, .int a1, .ref 0, .ref 87], [], (v_copyFrom h 0 87))
                obtain ⟨y5, c12⟩ : ∃ y, v_copyFrom h 0 87 = y := ⟨_, rfl⟩
                rw [c12]
                show am_Ev m_S_fetch (WB ++ e1) ro P (33, [.ref 33, .int a1, .ref 0, .ref 87], [], y5)
                refine am_Ev_G [] 400 _ ?_
                show P (.inl none) y5
                exact hP y5 (by unfold v_S_fetch_0_33; simp only [if_neg c1, if_pos c2, if_neg c3, if_neg c5, if_neg c7, if_neg c9, if_pos c11, bnd, c12])
              · skip
                refine ⟨fun c13 => ?_, fun c13 => ?_⟩
                · skip
                  refine am_Ev_G [33] 400 _ ?_
                  show am_Ev m_S_fetch (WB ++ e1) ro P (33, [.ref 33, .int a1, .ref 0, .ref 99], [], (v_copyFrom h 0 99))
                  obtain ⟨y6, c14⟩ : ∃ y, v_copyFrom h 0 99 = y := ⟨_, rfl⟩
                  rw [c14]
                  show am_Ev m_S_fetch (WB ++ e1) ro P (33, [.ref 33, .int a1, .ref 0, .ref 99], [], y6)
                  refine am_Ev_G [] 400 _ ?_
                  show P (.inl none) y6
                  exact hP y6 (by unfold v_S_fetch_0_33; simp only [if_neg c1, if_pos c2, if_neg c3, if_neg c5, if_neg c7, if_neg c9, if_neg c11, if_pos c13, bnd, c14])
                · exact trivial
set_option maxRecDepth 100000 in
theorem ev_S_fetch_0_35 {e1 ro : List Sh} {P : AR → HP → Prop} (h : HP) (a1 : Int32) (hp : p_S_fetch_0_35 h a1) (hP : ∀ q, v_S_fetch_0_35 h a1 = q → RVW P h q) : am_Ev m_S_fetch (WB ++ e1) ro P (0, [.ref 35, .int a1, .ref 0, .retAddr 0], [], h) := by
  unfold p_S_fetch_0_35 at hp
  refine am_Ev_G [25] 400 _ ?_
  show ((a1 < 0 → am_Ev m_S_fetch (WB ++ e1) ro P (25, [.ref 35, .int a1, .ref 0, .null], [.null], h)) ∧ (¬ a1 < 0 → ((¬ a1 < 2 → am_Ev m_S_fetch (WB ++ e1) ro P (25, [.ref 35, .int a1, .ref 0, .null], [.null], h)) ∧ (a1 < 2 → ((am_in a1 2) ∧ ((a1 = (nI 0) → am_Ev m_S_fetch (WB ++ e1) ro P (25, [.ref 35, .int a1, .ref 0, .ref 111], [.ref 111], h)) ∧ (¬ a1 = (nI 0) → ((a1 = (nI 1) → am_Ev m_S_fetch (WB ++ e1) ro P (25, [.ref 35, .int a1, .ref 0, .ref 123], [.ref 123], h)) ∧ (¬ a1 = (nI 1) → True)))))))))
  refine ⟨fun c1 => ?_, fun c1 => ?_⟩
  · skip
    refine am_Ev_G [33] 400 _ ?_
    show am_Ev m_S_fetch (WB ++ e1) ro P (33, [.ref 35, .int a1, .ref 0, .null], [], h)
    refine am_Ev_G [] 400 _ ?_
    show P (.inl none) h
    exact hP h (by unfold v_S_fetch_0_35; simp only [if_pos c1])
  · have hp := hp.2 c1
    refine ⟨fun c2 => ?_, fun c2 => ?_⟩
    · skip
      refine am_Ev_G [33] 400 _ ?_
      show am_Ev m_S_fetch (WB ++ e1) ro P (33, [.ref 35, .int a1, .ref 0, .null], [], h)
      refine am_Ev_G [] 400 _ ?_
      show P (.inl none) h
      exact hP h (by unfold v_S_fetch_0_35; simp only [if_neg c1, if_neg c2])
    · have hp := hp.1 c2
      refine ⟨hp, ?_⟩
      refine ⟨fun c3 => ?_, fun c3 => ?_⟩
      · skip
        refine am_Ev_G [33] 400 _ ?_
        show am_Ev m_S_fetch (WB ++ e1) ro P (33, [.ref 35, .int a1, .ref 0, .ref 111], [], (v_copyFrom h 0 111))
        obtain ⟨y1, c4⟩ : ∃ y, v_copyFrom h 0 111 = y := ⟨_, rfl⟩
        rw [c4]
        show am_Ev m_S_fetch (WB ++ e1) ro P (33, [.ref 35, .int a1, .ref 0, .ref 111], [], y1)
        refine am_Ev_G [] 400 _ ?_
        show P (.inl none) y1
        exact hP y1 (by unfold v_S_fetch_0_35; simp only [if_neg c1, if_pos c2, if_pos c3, bnd, c4])
      · skip
        refine ⟨fun c5 => ?_, fun c5 => ?_⟩
        · skip
          refine am_Ev_G [33] 400 _ ?_
          show am_Ev m_S_fetch (WB ++ e1) ro P (33, [.ref 35, .int a1, .ref 0, .ref 123], [], (v_copyFrom h 0 123))
          obtain ⟨y2, c6⟩ : ∃ y, v_copyFrom h 0 123 = y := ⟨_, rfl⟩
          rw [c6]
          show am_Ev m_S_fetch (WB ++ e1) ro P (33, [.ref 35, .int a1, .ref 0, .ref 123], [], y2)
          refine am_Ev_G [] 400 _ ?_
          show P (.inl none) y2
          exact hP y2 (by unfold v_S_fetch_0_35; simp only [if_neg c1, if_pos c2, if_neg c3, if_pos c5, bnd, c6])
        · exact trivial
theorem ok_S_fetch {l : Launch} (hl : l.stackTraces = false) (e1 ro : List Sh) (k : Nat) : am_Ok l (WB ++ e1) ro (d_S_fetch k) := by
  refine am_met hl (own := RX2) (M := m_S_fetch) rfl pf_S_fetch cu_S_fetch rfl rfl rfl rfl (fun _ => rfl) rfl ⟨chk_S_fetch, (am_c (fl_S_15) am_n), (am_c (lk_S_22) am_n), (am_n), (am_n)⟩ (am_n) (am_c (ok_TC_copyFrom hl e1 _ 24) am_n) (fun z => nomatch z) ?_ ?_
  · intro _ as h hg
    show g_thr (g_S_fetch (WB ++ e1) ro as h) = none
    unfold g_S_fetch
    split
    · rename_i o1 a1 o2
      cases Nat.beq o1 33 && Nat.beq o2 0 with
      | true => rfl
      | false =>
        cases Nat.beq o1 35 && Nat.beq o2 0 with
        | true => rfl
        | false =>
          rfl
    · rfl
  · intro as h hg hp
    revert hg hp
    show g_ok (g_S_fetch (WB ++ e1) ro as h) = true → g_pre (g_S_fetch (WB ++ e1) ro as h) → _ ∧ am_Ev m_S_fetch (WB ++ e1) ro (am_eq (g_S_fetch (WB ++ e1) ro as h)) (0, am_ent as 4, [], h)
    unfold g_S_fetch
    split
    · rename_i o1 a1 o2
      cases hc : (Nat.beq o1 33 && Nat.beq o2 0) with
      | true =>
        intro _ hp
        rw [Bool.and_eq_true] at hc
        obtain rfl := am_beq hc.1
        obtain rfl := am_beq hc.2
        exact ⟨Nat.le_of_ble_eq_true rfl, ev_S_fetch_0_33 h a1 hp eqRVW⟩
      | false =>
        cases hc : (Nat.beq o1 35 && Nat.beq o2 0) with
        | true =>
          intro _ hp
          rw [Bool.and_eq_true] at hc
          obtain rfl := am_beq hc.1
          obtain rfl := am_beq hc.2
          exact ⟨Nat.le_of_ble_eq_true rfl, ev_S_fetch_0_35 h a1 hp eqRVW⟩
        | false =>
          exact fun z => nomatch z
    · exact fun z => nomatch z
end
