def k_B_at (pc : Nat) : Ent := bif Nat.ble 18 pc then am_nop else bif Nat.ble 10 pc then (bif Nat.ble 13 pc then (bif Nat.ble 16 pc then (bif Nat.ble 17 pc then (bif Nat.beq pc 17 then (.ireturn, 0, 0, []) else am_nop) else (bif Nat.beq pc 16 then (.iconst (-1), (-1 : Int32), 0, []) else am_nop)) else (bif Nat.beq pc 13 then (.goto 4, 0, 17, []) else am_nop)) else (bif Nat.ble 11 pc then (bif Nat.ble 12 pc then (bif Nat.beq pc 12 then (.iaload, 0, 0, []) else am_nop) else (bif Nat.beq pc 11 then (.iload_n 1, 0, 1, []) else am_nop)) else (bif Nat.beq pc 10 then (.aload_n 0, 0, 0, []) else am_nop))) else (bif Nat.ble 5 pc then (bif Nat.ble 6 pc then (bif Nat.ble 7 pc then (bif Nat.beq pc 7 then (.if_icmp .ge 9, 0, 16, []) else am_nop) else (bif Nat.beq pc 6 then (.arraylength, 0, 0, []) else am_nop)) else (bif Nat.beq pc 5 then (.aload_n 0, 0, 0, []) else am_nop)) else (bif Nat.ble 1 pc then (bif Nat.ble 4 pc then (bif Nat.beq pc 4 then (.iload_n 1, 0, 1, []) else am_nop) else (bif Nat.beq pc 1 then (.ifCond .lt 15, 0, 16, []) else am_nop)) else (bif Nat.beq pc 0 then (.iload_n 1, 0, 1, []) else am_nop)))
theorem chk_B_at : ∀ pc, am_chk cX5_at k_B_at pc = true := am_chkall 18 (by decide +kernel) (fun pc h => by unfold k_B_at; rw [Nat.ble_eq_true_of_le h]; rfl)
theorem pf_B_at : plainFor yX5_at = true := by decide +kernel
theorem cu_B_at : Cond.code yX5_at cX5_at 2 (some .int) ∈ am_U := am_tb 362 (by decide +kernel) rfl
def m_B_at : MI := (k_B_at, [], [], [], [], [], [], 0, 0, some .int, fun _ => 0, 1)
def g_B_at (sh ro : List Sh) (as : List Value) (h : HP) : GR := match as with
  | [.ref r, .int i] => (match am_gs sh ro r with
    | some (k, n, _) => ((Nat.beq k 0 || Nat.beq k 5) && Nat.blt n 1000, True, none, some (.int (v_at n (h.1 r) i)), h)
    | none => bad h)
  | _ => bad h
def d_B_at (k : Nat) : CD := (k, yX5_at, cX5_at, 2, some .int, 2, 0, 0, 0, false, false, g_B_at)
theorem nI_toI {n : Nat} (h : n < 1000) : (Int32.ofNat n).toInt = n := nI_toInt (n := n) (by omega)
theorem ev_B_at {sh ro : List Sh} {P : AR → HP → Prop} {r k n : Nat} {fs : List Nat} {i : Int32} {h : HP} (hr : am_gs sh ro r = some (k, n, fs)) (hk : k = 0 ∨ k = 5) (hn : n < 1000) (hP : P (.inl (some (.int (v_at n (h.1 r) i)))) h) : am_Ev m_B_at sh ro P (0, [.ref r, .int i], [], h) := by
  refine am_Ev_G [5] 10 _ ?_
  show (i < 0 → P (.inl (some (.int (-1)))) h) ∧ (¬ i < 0 → am_Ev m_B_at sh ro P (5, [.ref r, .int i], [.int i], h))
  have e0 := nI_toI hn
  refine ⟨fun c1 => ?_, fun c1 => ?_⟩
  · rw [Int32.lt_iff_toInt_lt, Int32.toInt_zero] at c1
    rw [v_at, if_neg (by omega)] at hP
    exact hP
  · rw [Int32.lt_iff_toInt_lt, Int32.toInt_zero] at c1
    refine am_Ev_G [7, 12] 10 _ ?_
    show (match am_gs sh ro r with | some (k, n, _) => bif Nat.blt k 4 || Nat.beq k 5 then am_Ev m_B_at sh ro P (7, [.ref r, .int i], [.int (Int32.ofNat n), .int i], h) else False | none => False)
    rw [hr]
    have key : am_Ev m_B_at sh ro P (7, [.ref r, .int i], [.int (Int32.ofNat n), .int i], h) := by
      refine am_Ev_G [12] 10 _ ?_
      show (¬ i < Int32.ofNat n → P (.inl (some (.int (-1)))) h) ∧ (i < Int32.ofNat n → am_Ev m_B_at sh ro P (12, [.ref r, .int i], [.int i, .ref r], h))
      refine ⟨fun c2 => ?_, fun c2 => ?_⟩
      · rw [Int32.lt_iff_toInt_lt, e0] at c2
        rw [v_at, if_neg (by omega)] at hP
        exact hP
      · rw [Int32.lt_iff_toInt_lt, e0] at c2
        rw [v_at, if_pos ⟨by omega, c2⟩] at hP
        refine am_Ev_G [13] 10 _ ?_
        show (match am_gs sh ro r with | some (k, n, _) => bif Nat.beq k 0 || Nat.beq k 5 then am_in i n ∧ am_Ev m_B_at sh ro P (13, [.ref r, .int i], [.int (h.1 r (am_ix i))], h) else False | none => False)
        rw [hr]
        have key : am_in i n ∧ am_Ev m_B_at sh ro P (13, [.ref r, .int i], [.int (h.1 r (am_ix i))], h) := by
          refine ⟨⟨by omega, c2⟩, ?_⟩
          refine am_Ev_G [] 10 _ ?_
          exact hP
        rcases hk with rfl | rfl <;> exact key
    rcases hk with rfl | rfl <;> exact key
theorem ok_B_at {l : Launch} (hl : l.stackTraces = false) (sh ro : List Sh) (k : Nat) : am_Ok l sh ro (d_B_at k) := by
  refine am_met hl (own := RX5) (M := m_B_at) rfl pf_B_at cu_B_at rfl rfl rfl rfl (fun _ => rfl) rfl ⟨chk_B_at, am_n, am_n, am_n, am_n⟩ am_n am_n ?_ ?_ ?_
  · intro _ as h hg
    show g_pre (g_B_at sh ro as h)
    revert hg
    show g_ok (g_B_at sh ro as h) = true → _
    unfold g_B_at
    split
    · split
      · exact fun _ => trivial
      · exact fun z => nomatch z
    · exact fun z => nomatch z
  · intro _ as h hg
    show g_thr (g_B_at sh ro as h) = none
    unfold g_B_at
    split
    · split <;> rfl
    · rfl
  · intro as h hg hp2
    clear hp2
    revert hg
    show g_ok (g_B_at sh ro as h) = true → _ ∧ am_Ev m_B_at sh ro (am_eq (g_B_at sh ro as h)) (0, am_ent as 2, [], h)
    unfold g_B_at
    split
    · split
      · rename_i r i k n fs hr
        intro hg
        simp only [g_ok, Bool.and_eq_true] at hg
        have hk : k = 0 ∨ k = 5 := by
          have := hg.1
          simp only [Bool.or_eq_true] at this
          exact this.imp am_beq am_beq
        exact ⟨Nat.le_refl _, ev_B_at hr hk (am_blt hg.2) ⟨rfl, rfl, rfl⟩⟩
      · exact fun z => nomatch z
    · exact fun z => nomatch z
def k_B_put (pc : Nat) : Ent := bif Nat.ble 15 pc then am_nop else bif Nat.ble 7 pc then (bif Nat.ble 12 pc then (bif Nat.ble 13 pc then (bif Nat.ble 14 pc then (bif Nat.beq pc 14 then (.return_, 0, 0, []) else am_nop) else (bif Nat.beq pc 13 then (.iastore, 0, 0, []) else am_nop)) else (bif Nat.beq pc 12 then (.iload_n 2, 0, 2, []) else am_nop)) else (bif Nat.ble 10 pc then (bif Nat.ble 11 pc then (bif Nat.beq pc 11 then (.iload_n 1, 0, 1, []) else am_nop) else (bif Nat.beq pc 10 then (.aload_n 0, 0, 0, []) else am_nop)) else (bif Nat.beq pc 7 then (.if_icmp .ge 7, 0, 14, []) else am_nop))) else (bif Nat.ble 4 pc then (bif Nat.ble 5 pc then (bif Nat.ble 6 pc then (bif Nat.beq pc 6 then (.arraylength, 0, 0, []) else am_nop) else (bif Nat.beq pc 5 then (.aload_n 0, 0, 0, []) else am_nop)) else (bif Nat.beq pc 4 then (.iload_n 1, 0, 1, []) else am_nop)) else (bif Nat.ble 1 pc then (bif Nat.beq pc 1 then (.ifCond .lt 13, 0, 14, []) else am_nop) else (bif Nat.beq pc 0 then (.iload_n 1, 0, 1, []) else am_nop)))
theorem chk_B_put : ∀ pc, am_chk cX5_put k_B_put pc = true := am_chkall 15 (by decide +kernel) (fun pc h => by unfold k_B_put; rw [Nat.ble_eq_true_of_le h]; rfl)
theorem pf_B_put : plainFor yX5_put = true := by decide +kernel
theorem cu_B_put : Cond.code yX5_put cX5_put 3 none ∈ am_U := am_tb 343 (by decide +kernel) rfl
def m_B_put : MI := (k_B_put, [], [], [], [], [], [], 0, 0, none, fun _ => 0, 1)
def g_B_put (sh ro : List Sh) (as : List Value) (h : HP) : GR := match as with
  | [.ref r, .int i, .int x] => (match am_gs sh ro r with
    | some (k, n, _) => (Nat.beq k 0 && Nat.blt r 1000 && Nat.blt n 1000, True, none, none, v_put n h r i x)
    | none => bad h)
  | _ => bad h
def d_B_put (k : Nat) : CD := (k, yX5_put, cX5_put, 3, none, 3, 0, 0, 0, false, false, g_B_put)
theorem ev_B_put {sh ro : List Sh} {P : AR → HP → Prop} {r n : Nat} {fs : List Nat} {i x : Int32} {h : HP} (hr : am_gs sh ro r = some (0, n, fs)) (hr2 : Nat.blt r 1000 = true) (hn : n < 1000) (hP : P (.inl none) (v_put n h r i x)) : am_Ev m_B_put sh ro P (0, [.ref r, .int i, .int x], [], h) := by
  refine am_Ev_G [5] 10 _ ?_
  show (i < 0 → P (.inl none) h) ∧ (¬ i < 0 → am_Ev m_B_put sh ro P (5, [.ref r, .int i, .int x], [.int i], h))
  have e0 := nI_toI hn
  refine ⟨fun c1 => ?_, fun c1 => ?_⟩
  · rw [Int32.lt_iff_toInt_lt, Int32.toInt_zero] at c1
    rw [v_put, if_neg (by omega)] at hP
    exact hP
  · rw [Int32.lt_iff_toInt_lt, Int32.toInt_zero] at c1
    refine am_Ev_G [7, 13] 10 _ ?_
    show (match am_gs sh ro r with | some (k, n, _) => bif Nat.blt k 4 || Nat.beq k 5 then am_Ev m_B_put sh ro P (7, [.ref r, .int i, .int x], [.int (Int32.ofNat n), .int i], h) else False | none => False)
    rw [hr]
    show am_Ev m_B_put sh ro P (7, [.ref r, .int i, .int x], [.int (Int32.ofNat n), .int i], h)
    refine am_Ev_G [13] 10 _ ?_
    show (¬ i < Int32.ofNat n → P (.inl none) h) ∧ (i < Int32.ofNat n → am_Ev m_B_put sh ro P (13, [.ref r, .int i, .int x], [.int x, .int i, .ref r], h))
    refine ⟨fun c2 => ?_, fun c2 => ?_⟩
    · rw [Int32.lt_iff_toInt_lt, e0] at c2
      rw [v_put, if_neg (by omega)] at hP
      exact hP
    · rw [Int32.lt_iff_toInt_lt, e0] at c2
      rw [v_put, if_pos ⟨by omega, c2⟩] at hP
      refine am_Ev_G [14] 10 _ ?_
      show (match am_gs sh ro r with | some (k, n, _) => bif Nat.beq k 0 && Nat.blt r 1000 then am_in i n ∧ am_Ev m_B_put sh ro P (14, [.ref r, .int i, .int x], [], am_si h r (am_ix i) x) else False | none => False)
      rw [hr]
      dsimp only
      rw [hr2]
      show am_in i n ∧ am_Ev m_B_put sh ro P (14, [.ref r, .int i, .int x], [], am_si h r (am_ix i) x)
      refine ⟨⟨by omega, c2⟩, ?_⟩
      refine am_Ev_G [] 10 _ ?_
      exact hP
theorem ok_B_put {l : Launch} (hl : l.stackTraces = false) (sh ro : List Sh) (k : Nat) : am_Ok l sh ro (d_B_put k) := by
  refine am_met hl (own := RX5) (M := m_B_put) rfl pf_B_put cu_B_put rfl rfl rfl rfl (fun _ => rfl) rfl ⟨chk_B_put, am_n, am_n, am_n, am_n⟩ am_n am_n ?_ ?_ ?_
  · intro _ as h hg
    show g_pre (g_B_put sh ro as h)
    revert hg
    show g_ok (g_B_put sh ro as h) = true → _
    unfold g_B_put
    split
    · split
      · exact fun _ => trivial
      · exact fun z => nomatch z
    · exact fun z => nomatch z
  · intro _ as h hg
    show g_thr (g_B_put sh ro as h) = none
    unfold g_B_put
    split
    · split <;> rfl
    · rfl
  · intro as h hg hp2
    clear hp2
    revert hg
    show g_ok (g_B_put sh ro as h) = true → _ ∧ am_Ev m_B_put sh ro (am_eq (g_B_put sh ro as h)) (0, am_ent as 3, [], h)
    unfold g_B_put
    split
    · split
      · rename_i r i x k n fs hr
        intro hg
        simp only [g_ok, Bool.and_eq_true] at hg
        have hk := am_beq hg.1.1
        subst hk
        exact ⟨Nat.le_refl _, ev_B_put hr hg.1.2 (am_blt hg.2) ⟨rfl, rfl, rfl⟩⟩
      · exact fun z => nomatch z
    · exact fun z => nomatch z
def k_J_max (pc : Nat) : Ent := bif Nat.ble 11 pc then am_nop else bif Nat.ble 5 pc then (bif Nat.ble 9 pc then (bif Nat.ble 10 pc then (bif Nat.beq pc 10 then (.ireturn, 0, 0, []) else am_nop) else (bif Nat.beq pc 9 then (.iload_n 1, 0, 1, []) else am_nop)) else (bif Nat.ble 6 pc then (bif Nat.beq pc 6 then (.goto 4, 0, 10, []) else am_nop) else (bif Nat.beq pc 5 then (.iload_n 0, 0, 0, []) else am_nop))) else (bif Nat.ble 1 pc then (bif Nat.ble 2 pc then (bif Nat.beq pc 2 then (.if_icmp .lt 7, 0, 9, []) else am_nop) else (bif Nat.beq pc 1 then (.iload_n 1, 0, 1, []) else am_nop)) else (bif Nat.beq pc 0 then (.iload_n 0, 0, 0, []) else am_nop))
theorem chk_J_max : ∀ pc, am_chk cJ9_max_7cf53 k_J_max pc = true := am_chkall 11 (by decide +kernel) (fun pc h => by unfold k_J_max; rw [Nat.ble_eq_true_of_le h]; rfl)
theorem pf_J_max : plainFor yJ9_max_7cf53 = true := by decide +kernel
theorem cu_J_max : Cond.code yJ9_max_7cf53 cJ9_max_7cf53 2 (some .int) ∈ am_U := am_tb 183 (by decide +kernel) rfl
def m_J_max : MI := (k_J_max, [], [], [], [], [], [], 0, 0, some .int, fun _ => 0, 1)
def g_J_max (_ _ : List Sh) (as : List Value) (h : HP) : GR := match as with
  | [.int a, .int b] => (true, True, none, some (.int (v_max a b)), h)
  | _ => bad h
def d_J_max (k : Nat) : CD := (k, yJ9_max_7cf53, cJ9_max_7cf53, 2, some .int, 2, 0, 0, 0, false, false, g_J_max)
theorem ok_J_max {l : Launch} (hl : l.stackTraces = false) (sh ro : List Sh) (k : Nat) : am_Ok l sh ro (d_J_max k) := by
  refine am_met hl (own := RJ9) (M := m_J_max) rfl pf_J_max cu_J_max rfl rfl rfl rfl (fun _ => rfl) rfl ⟨chk_J_max, am_n, am_n, am_n, am_n⟩ am_n am_n ?_ ?_ ?_
  · intro _ as h hg
    show g_pre (g_J_max sh ro as h)
    unfold g_J_max
    split <;> exact trivial
  · intro _ as h hg
    show g_thr (g_J_max sh ro as h) = none
    unfold g_J_max
    split <;> rfl
  · intro as h hg hp2
    clear hp2
    revert hg
    show g_ok (g_J_max sh ro as h) = true → _ ∧ am_Ev m_J_max sh ro (am_eq (g_J_max sh ro as h)) (0, am_ent as 2, [], h)
    unfold g_J_max
    split
    · rename_i a b
      intro _
      refine ⟨Nat.le_refl _, ?_⟩
      refine am_Ev_G [] 10 _ ?_
      show (a < b → am_eq (true, True, none, some (.int (v_max a b)), h) (.inl (some (.int b))) h) ∧ (¬ a < b → am_eq (true, True, none, some (.int (v_max a b)), h) (.inl (some (.int a))) h)
      refine ⟨fun c => ⟨rfl, ?_, rfl⟩, fun c => ⟨rfl, ?_, rfl⟩⟩
      · show some (Value.int (v_max a b)) = _
        rw [v_max, if_pos c]
      · show some (Value.int (v_max a b)) = _
        rw [v_max, if_neg c]
    · exact fun z => nomatch z
def k_J_min (pc : Nat) : Ent := bif Nat.ble 11 pc then am_nop else bif Nat.ble 5 pc then (bif Nat.ble 9 pc then (bif Nat.ble 10 pc then (bif Nat.beq pc 10 then (.ireturn, 0, 0, []) else am_nop) else (bif Nat.beq pc 9 then (.iload_n 1, 0, 1, []) else am_nop)) else (bif Nat.ble 6 pc then (bif Nat.beq pc 6 then (.goto 4, 0, 10, []) else am_nop) else (bif Nat.beq pc 5 then (.iload_n 0, 0, 0, []) else am_nop))) else (bif Nat.ble 1 pc then (bif Nat.ble 2 pc then (bif Nat.beq pc 2 then (.if_icmp .gt 7, 0, 9, []) else am_nop) else (bif Nat.beq pc 1 then (.iload_n 1, 0, 1, []) else am_nop)) else (bif Nat.beq pc 0 then (.iload_n 0, 0, 0, []) else am_nop))
theorem chk_J_min : ∀ pc, am_chk cJ9_min_7cf53 k_J_min pc = true := am_chkall 11 (by decide +kernel) (fun pc h => by unfold k_J_min; rw [Nat.ble_eq_true_of_le h]; rfl)
theorem pf_J_min : plainFor yJ9_min_7cf53 = true := by decide +kernel
theorem cu_J_min : Cond.code yJ9_min_7cf53 cJ9_min_7cf53 2 (some .int) ∈ am_U := am_tb 333 (by decide +kernel) rfl
def m_J_min : MI := (k_J_min, [], [], [], [], [], [], 0, 0, some .int, fun _ => 0, 1)
def g_J_min (_ _ : List Sh) (as : List Value) (h : HP) : GR := match as with
  | [.int a, .int b] => (true, True, none, some (.int (v_min a b)), h)
  | _ => bad h
def d_J_min (k : Nat) : CD := (k, yJ9_min_7cf53, cJ9_min_7cf53, 2, some .int, 2, 0, 0, 0, false, false, g_J_min)
theorem ok_J_min {l : Launch} (hl : l.stackTraces = false) (sh ro : List Sh) (k : Nat) : am_Ok l sh ro (d_J_min k) := by
  refine am_met hl (own := RJ9) (M := m_J_min) rfl pf_J_min cu_J_min rfl rfl rfl rfl (fun _ => rfl) rfl ⟨chk_J_min, am_n, am_n, am_n, am_n⟩ am_n am_n ?_ ?_ ?_
  · intro _ as h hg
    show g_pre (g_J_min sh ro as h)
    unfold g_J_min
    split <;> exact trivial
  · intro _ as h hg
    show g_thr (g_J_min sh ro as h) = none
    unfold g_J_min
    split <;> rfl
  · intro as h hg hp2
    clear hp2
    revert hg
    show g_ok (g_J_min sh ro as h) = true → _ ∧ am_Ev m_J_min sh ro (am_eq (g_J_min sh ro as h)) (0, am_ent as 2, [], h)
    unfold g_J_min
    split
    · rename_i a b
      intro _
      refine ⟨Nat.le_refl _, ?_⟩
      refine am_Ev_G [] 10 _ ?_
      show (¬ a ≤ b → am_eq (true, True, none, some (.int (v_min a b)), h) (.inl (some (.int b))) h) ∧ (a ≤ b → am_eq (true, True, none, some (.int (v_min a b)), h) (.inl (some (.int a))) h)
      refine ⟨fun c => ⟨rfl, ?_, rfl⟩, fun c => ⟨rfl, ?_, rfl⟩⟩
      · show some (Value.int (v_min a b)) = _
        rw [v_min, if_neg c]
      · show some (Value.int (v_min a b)) = _
        rw [v_min, if_pos c]
    · exact fun z => nomatch z
def k_A_fill (pc : Nat) : Ent := bif Nat.ble 21 pc then am_nop else bif Nat.ble 7 pc then (bif Nat.ble 13 pc then (bif Nat.ble 17 pc then (bif Nat.ble 20 pc then (bif Nat.beq pc 20 then (.return_, 0, 0, []) else am_nop) else (bif Nat.beq pc 17 then (.goto (-12), 0, 5, []) else am_nop)) else (bif Nat.ble 14 pc then (bif Nat.beq pc 14 then (.iinc 2 1, 1, 2, []) else am_nop) else (bif Nat.beq pc 13 then (.iastore, 0, 0, []) else am_nop))) else (bif Nat.ble 11 pc then (bif Nat.ble 12 pc then (bif Nat.beq pc 12 then (.iload_n 1, 0, 1, []) else am_nop) else (bif Nat.beq pc 11 then (.iload_n 2, 0, 2, []) else am_nop)) else (bif Nat.ble 10 pc then (bif Nat.beq pc 10 then (.aload_n 0, 0, 0, []) else am_nop) else (bif Nat.beq pc 7 then (.if_icmp .ge 13, 0, 20, []) else am_nop)))) else (bif Nat.ble 3 pc then (bif Nat.ble 5 pc then (bif Nat.ble 6 pc then (bif Nat.beq pc 6 then (.iload_n 3, 0, 3, []) else am_nop) else (bif Nat.beq pc 5 then (.iload_n 2, 0, 2, []) else am_nop)) else (bif Nat.ble 4 pc then (bif Nat.beq pc 4 then (.istore_n 3, 0, 3, []) else am_nop) else (bif Nat.beq pc 3 then (.arraylength, 0, 0, []) else am_nop))) else (bif Nat.ble 1 pc then (bif Nat.ble 2 pc then (bif Nat.beq pc 2 then (.aload_n 0, 0, 0, []) else am_nop) else (bif Nat.beq pc 1 then (.istore_n 2, 0, 2, []) else am_nop)) else (bif Nat.beq pc 0 then (.iconst 0, 0, 0, []) else am_nop)))
theorem chk_A_fill : ∀ pc, am_chk cJ7_fill_53178 k_A_fill pc = true := am_chkall 21 (by decide +kernel) (fun pc h => by unfold k_A_fill; rw [Nat.ble_eq_true_of_le h]; rfl)
theorem pf_A_fill : plainFor yJ7_fill_53178 = true := by decide +kernel
theorem cu_A_fill : Cond.code yJ7_fill_53178 cJ7_fill_53178 4 none ∈ am_U := am_tb 462 (by decide +kernel) rfl
def m_A_fill : MI := (k_A_fill, [], [], [], [], [], [], 0, 0, none, fun _ => 0, 1)
def g_A_fill (sh ro : List Sh) (as : List Value) (h : HP) : GR := match as with
  | [.ref r, .int x] => (match am_gs sh ro r with
    | some (k, n, _) => (Nat.beq k 0 && Nat.blt r 1000 && Nat.blt n 1000, True, none, none, v_fill n h r x)
    | none => bad h)
  | _ => bad h
def d_A_fill (k : Nat) : CD := (k, yJ7_fill_53178, cJ7_fill_53178, 4, none, 2, 0, 0, 0, false, false, g_A_fill)
theorem v_fill_0 (h : HP) (r : Nat) (x : Int32) : v_fill 0 h r x = h := by
  obtain ⟨h1, h2⟩ := h
  unfold v_fill
  congr 1
  funext c
  by_cases e : c = r
  · subst e; rw [if_pos rfl]; funext i; rw [if_neg (by omega)]
  · rw [if_neg e]
theorem v_fill_s (k : Nat) (h : HP) (r : Nat) (x : Int32) : am_si (v_fill k h r x) r k x = v_fill (k + 1) h r x := by
  unfold v_fill am_si
  congr 1
  funext c i
  unfold am_up upd
  by_cases e : c = r
  · subst e
    simp only [if_pos]
    by_cases hi : i = k
    · subst hi; rw [if_pos rfl, if_pos (by omega)]
    · rw [if_neg hi]
      by_cases hk : i < k
      · rw [if_pos hk, if_pos (by omega)]
      · rw [if_neg hk, if_neg (by omega)]
  · simp only [if_neg e]
theorem ev_A_st {sh ro : List Sh} {P : AR → HP → Prop} {r n : Nat} {fs : List Nat} {i j x : Int32} {h : HP} (hr : am_gs sh ro r = some (0, n, fs)) (hr2 : Nat.blt r 1000 = true) (hi : am_in i n) (k : am_Ev m_A_fill sh ro P (14, [.ref r, .int x, .int i, .int j], [], am_si h r (am_ix i) x)) : am_Ev m_A_fill sh ro P (13, [.ref r, .int x, .int i, .int j], [.int x, .int i, .ref r], h) := by
  refine am_Ev_G [14] 10 _ ?_
  show (match am_gs sh ro r with | some (k, n, _) => bif Nat.beq k 0 && Nat.blt r 1000 then am_in i n ∧ am_Ev m_A_fill sh ro P (14, [.ref r, .int x, .int i, .int j], [], am_si h r (am_ix i) x) else False | none => False)
  rw [hr]
  dsimp only
  rw [hr2]
  exact ⟨hi, k⟩
theorem ev_A_loop {sh ro : List Sh} {P : AR → HP → Prop} {r n : Nat} {fs : List Nat} {x : Int32} {h : HP} (hr : am_gs sh ro r = some (0, n, fs)) (hr2 : Nat.blt r 1000 = true) (hn : n < 1000) (hP : P (.inl none) (v_fill n h r x)) : ∀ (d k : Nat), k + d = n → am_Ev m_A_fill sh ro P (5, [.ref r, .int x, .int (nI k), .int (nI n)], [], v_fill k h r x)
  | 0, k, hk => by
    have e : k = n := by omega
    subst e
    refine am_Ev_G [10] 10 _ ?_
    show (¬ nI k < nI k → P (.inl none) (v_fill k h r x)) ∧ (nI k < nI k → _)
    exact ⟨fun _ => hP, fun c => absurd c (by rw [nI_ltI (by omega) (by omega)]; omega)⟩
  | d + 1, k, hk => by
    refine am_Ev_G [13] 10 _ ?_
    show (¬ nI k < nI n → _) ∧ (nI k < nI n → am_Ev m_A_fill sh ro P (13, [.ref r, .int x, .int (nI k), .int (nI n)], [.int x, .int (nI k), .ref r], v_fill k h r x))
    refine ⟨fun c => absurd (nI_lt (by omega) (by omega)) c, fun _ => ?_⟩
    refine ev_A_st hr hr2 ⟨by rw [nI_toInt (by omega)]; omega, by rw [nI_toInt (by omega)]; omega⟩ ?_
    show am_Ev m_A_fill sh ro P (14, [.ref r, .int x, .int (nI k), .int (nI n)], [], am_si (v_fill k h r x) r (nI k).toNatClampNeg x)
    rw [nI_clamp (by omega), v_fill_s]
    refine am_Ev_G [5] 10 _ ?_
    show am_Ev m_A_fill sh ro P (5, [.ref r, .int x, .int (nI k + 1), .int (nI n)], [], v_fill (k + 1) h r x)
    rw [nI_1]
    exact ev_A_loop hr hr2 hn hP d (k + 1) (by omega)
theorem ev_A_fill {sh ro : List Sh} {P : AR → HP → Prop} {r n : Nat} {fs : List Nat} {x : Int32} {h : HP} (hr : am_gs sh ro r = some (0, n, fs)) (hr2 : Nat.blt r 1000 = true) (hn : n < 1000) (hP : P (.inl none) (v_fill n h r x)) : am_Ev m_A_fill sh ro P (0, [.ref r, .int x, .retAddr 0, .retAddr 0], [], h) := by
  refine am_Ev_G [3] 10 _ ?_
  show am_Ev m_A_fill sh ro P (3, [.ref r, .int x, .int 0, .retAddr 0], [.ref r], h)
  refine am_Ev_G [4] 10 _ ?_
  show (match am_gs sh ro r with | some (k, n, _) => bif Nat.blt k 4 || Nat.beq k 5 then am_Ev m_A_fill sh ro P (4, [.ref r, .int x, .int 0, .retAddr 0], [.int (Int32.ofNat n)], h) else False | none => False)
  rw [hr]
  show am_Ev m_A_fill sh ro P (4, [.ref r, .int x, .int 0, .retAddr 0], [.int (Int32.ofNat n)], h)
  refine am_Ev_G [5] 10 _ ?_
  show am_Ev m_A_fill sh ro P (5, [.ref r, .int x, .int (nI 0), .int (nI n)], [], h)
  have k := ev_A_loop hr hr2 hn hP n 0 (by omega)
  rw [v_fill_0] at k
  exact k
theorem ok_A_fill {l : Launch} (hl : l.stackTraces = false) (sh ro : List Sh) (k : Nat) : am_Ok l sh ro (d_A_fill k) := by
  refine am_met hl (own := RJ7) (M := m_A_fill) rfl pf_A_fill cu_A_fill rfl rfl rfl rfl (fun _ => rfl) rfl ⟨chk_A_fill, am_n, am_n, am_n, am_n⟩ am_n am_n ?_ ?_ ?_
  · intro _ as h hg
    show g_pre (g_A_fill sh ro as h)
    revert hg
    show g_ok (g_A_fill sh ro as h) = true → _
    unfold g_A_fill
    split
    · split
      · exact fun _ => trivial
      · exact fun z => nomatch z
    · exact fun z => nomatch z
  · intro _ as h hg
    show g_thr (g_A_fill sh ro as h) = none
    unfold g_A_fill
    split
    · split <;> rfl
    · rfl
  · intro as h hg hp2
    clear hp2
    revert hg
    show g_ok (g_A_fill sh ro as h) = true → _ ∧ am_Ev m_A_fill sh ro (am_eq (g_A_fill sh ro as h)) (0, am_ent as 4, [], h)
    unfold g_A_fill
    split
    · split
      · rename_i r x k n fs hr
        intro hg
        simp only [g_ok, Bool.and_eq_true] at hg
        have hk := am_beq hg.1.1
        subst hk
        exact ⟨by show 2 ≤ 4; omega, ev_A_fill hr hg.1.2 (am_blt hg.2) ⟨rfl, rfl, rfl⟩⟩
      · exact fun z => nomatch z
    · exact fun z => nomatch z
