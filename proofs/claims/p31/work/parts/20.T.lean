/-! Timetable, out of its code (written by gen/meth.py). -/
noncomputable section
def bnd {α β : Type} (x : α) (f : α → β) : β := f x
/-! what an answer has to be, by its kind -/
section EQR
variable {h : HP} {p : Prop}
theorem eqRI {v : Int32} : ∀ q, v = q → RI (am_eq (true, p, none, some (.int v), h)) h q := fun q e => by subst e; exact ⟨rfl, rfl, rfl⟩
theorem eqRJ {v : Int64} : ∀ q, v = q → RJ (am_eq (true, p, none, some (.long v), h)) h q := fun q e => by subst e; exact ⟨rfl, rfl, rfl⟩
theorem eqRD {v : UInt64} : ∀ q, v = q → RD (am_eq (true, p, none, some (.double v), h)) h q := fun q e => by subst e; exact ⟨rfl, rfl, rfl⟩
theorem eqRV {v : Unit} : ∀ q, v = q → RV (am_eq (true, p, none, none, h)) h q := fun q e => ⟨rfl, rfl, rfl⟩
theorem eqRVW {v : HP} : ∀ q, v = q → RVW (am_eq (true, p, none, none, v)) h q := fun q e => by subst e; exact ⟨rfl, rfl, rfl⟩
theorem eqRIW {v : Int32 × HP} : ∀ q, v = q → RIW (am_eq (true, p, none, some (.int v.1), v.2)) h q := fun q e => by subst e; exact ⟨rfl, rfl, rfl⟩
theorem eqRJW {v : Int64 × HP} : ∀ q, v = q → RJW (am_eq (true, p, none, some (.long v.1), v.2)) h q := fun q e => by subst e; exact ⟨rfl, rfl, rfl⟩
theorem eqRDW {v : UInt64 × HP} : ∀ q, v = q → RDW (am_eq (true, p, none, some (.double v.1), v.2)) h q := fun q e => by subst e; exact ⟨rfl, rfl, rfl⟩
theorem eqRVT {v : Option String} : ∀ q, v = q → RVT (am_eq (true, p, v, none, h)) h q := fun q e => by subst e; cases v <;> exact ⟨rfl, by first | exact ⟨rfl, rfl⟩ | rfl⟩
theorem eqRIT {v : String ⊕ Int32} : ∀ q, v = q → RIT (am_eq (true, p, rthr v, rvI v, h)) h q := fun q e => by subst e; cases v <;> exact ⟨rfl, by first | exact ⟨rfl, rfl⟩ | rfl⟩
theorem eqRJT {v : String ⊕ Int64} : ∀ q, v = q → RJT (am_eq (true, p, rthr v, rvJ v, h)) h q := fun q e => by subst e; cases v <;> exact ⟨rfl, by first | exact ⟨rfl, rfl⟩ | rfl⟩
theorem eqRIWT {v : String ⊕ (Int32 × HP)} : ∀ q, v = q → RIWT (am_eq (true, p, rthr v, rvIW v, rhpI h v)) h q := fun q e => by subst e; cases v <;> exact ⟨rfl, by first | exact ⟨rfl, rfl⟩ | rfl⟩
theorem eqRJWT {v : String ⊕ (Int64 × HP)} : ∀ q, v = q → RJWT (am_eq (true, p, rthr v, rvJW v, rhpJ h v)) h q := fun q e => by subst e; cases v <;> exact ⟨rfl, by first | exact ⟨rfl, rfl⟩ | rfl⟩
end EQR
def k_T_addTrip (pc : Nat) : Ent := bif Nat.ble 101 pc then am_nop else bif Nat.ble 51 pc then (bif Nat.ble 78 pc then (bif Nat.ble 89 pc then (bif Nat.ble 94 pc then (bif Nat.ble 98 pc then (bif Nat.ble 100 pc then (bif Nat.beq pc 100 then (.ireturn, 0, 0, []) else am_nop) else (bif Nat.beq pc 98 then (.iload 6, 0, 6, []) else am_nop)) else (bif Nat.ble 95 pc then (bif Nat.beq pc 95 then (.putfield 59, 0, 0, []) else am_nop) else (bif Nat.beq pc 94 then (.iadd, 0, 0, []) else am_nop))) else (bif Nat.ble 90 pc then (bif Nat.ble 93 pc then (bif Nat.beq pc 93 then (.iconst 1, 1, 0, []) else am_nop) else (bif Nat.beq pc 90 then (.getfield 59, 0, 0, []) else am_nop)) else (bif Nat.beq pc 89 then (.dup, 0, 0, []) else am_nop))) else (bif Nat.ble 84 pc then (bif Nat.ble 85 pc then (bif Nat.ble 88 pc then (bif Nat.beq pc 88 then (.aload_n 0, 0, 0, []) else am_nop) else (bif Nat.beq pc 85 then (.invokestatic 76, 0, 0, []) else am_nop)) else (bif Nat.beq pc 84 then (.iconst 0, 0, 0, []) else am_nop)) else (bif Nat.ble 79 pc then (bif Nat.ble 82 pc then (bif Nat.beq pc 82 then (.iload 6, 0, 6, []) else am_nop) else (bif Nat.beq pc 79 then (.getfield 33, 0, 0, []) else am_nop)) else (bif Nat.beq pc 78 then (.aload_n 0, 0, 0, []) else am_nop)))) else (bif Nat.ble 64 pc then (bif Nat.ble 69 pc then (bif Nat.ble 74 pc then (bif Nat.ble 75 pc then (bif Nat.beq pc 75 then (.invokestatic 76, 0, 0, []) else am_nop) else (bif Nat.beq pc 74 then (.iconst (-1), (-1 : Int32), 0, []) else am_nop)) else (bif Nat.ble 72 pc then (bif Nat.beq pc 72 then (.iload 6, 0, 6, []) else am_nop) else (bif Nat.beq pc 69 then (.getfield 30, 0, 0, []) else am_nop))) else (bif Nat.ble 65 pc then (bif Nat.ble 68 pc then (bif Nat.beq pc 68 then (.aload_n 0, 0, 0, []) else am_nop) else (bif Nat.beq pc 65 then (.invokestatic 76, 0, 0, []) else am_nop)) else (bif Nat.beq pc 64 then (.iconst (-1), (-1 : Int32), 0, []) else am_nop))) else (bif Nat.ble 58 pc then (bif Nat.ble 59 pc then (bif Nat.ble 62 pc then (bif Nat.beq pc 62 then (.iload 6, 0, 6, []) else am_nop) else (bif Nat.beq pc 59 then (.getfield 27, 0, 0, []) else am_nop)) else (bif Nat.beq pc 58 then (.aload_n 0, 0, 0, []) else am_nop)) else (bif Nat.ble 53 pc then (bif Nat.ble 55 pc then (bif Nat.beq pc 55 then (.invokestatic 76, 0, 0, []) else am_nop) else (bif Nat.beq pc 53 then (.iload 5, 0, 5, []) else am_nop)) else (bif Nat.beq pc 51 then (.iload 6, 0, 6, []) else am_nop))))) else (bif Nat.ble 23 pc then (bif Nat.ble 36 pc then (bif Nat.ble 42 pc then (bif Nat.ble 47 pc then (bif Nat.ble 48 pc then (bif Nat.beq pc 48 then (.getfield 24, 0, 0, []) else am_nop) else (bif Nat.beq pc 47 then (.aload_n 0, 0, 0, []) else am_nop)) else (bif Nat.ble 44 pc then (bif Nat.beq pc 44 then (.invokestatic 76, 0, 0, []) else am_nop) else (bif Nat.beq pc 42 then (.iload 4, 0, 4, []) else am_nop))) else (bif Nat.ble 37 pc then (bif Nat.ble 40 pc then (bif Nat.beq pc 40 then (.iload 6, 0, 6, []) else am_nop) else (bif Nat.beq pc 37 then (.getfield 21, 0, 0, []) else am_nop)) else (bif Nat.beq pc 36 then (.aload_n 0, 0, 0, []) else am_nop))) else (bif Nat.ble 30 pc then (bif Nat.ble 32 pc then (bif Nat.ble 33 pc then (bif Nat.beq pc 33 then (.invokestatic 76, 0, 0, []) else am_nop) else (bif Nat.beq pc 32 then (.iload_n 3, 0, 3, []) else am_nop)) else (bif Nat.beq pc 30 then (.iload 6, 0, 6, []) else am_nop)) else (bif Nat.ble 26 pc then (bif Nat.ble 27 pc then (bif Nat.beq pc 27 then (.getfield 18, 0, 0, []) else am_nop) else (bif Nat.beq pc 26 then (.aload_n 0, 0, 0, []) else am_nop)) else (bif Nat.beq pc 23 then (.invokestatic 76, 0, 0, []) else am_nop)))) else (bif Nat.ble 12 pc then (bif Nat.ble 17 pc then (bif Nat.ble 20 pc then (bif Nat.ble 22 pc then (bif Nat.beq pc 22 then (.iload_n 2, 0, 2, []) else am_nop) else (bif Nat.beq pc 20 then (.iload 6, 0, 6, []) else am_nop)) else (bif Nat.beq pc 17 then (.getfield 15, 0, 0, []) else am_nop)) else (bif Nat.ble 13 pc then (bif Nat.ble 16 pc then (bif Nat.beq pc 16 then (.aload_n 0, 0, 0, []) else am_nop) else (bif Nat.beq pc 13 then (.invokestatic 76, 0, 0, []) else am_nop)) else (bif Nat.beq pc 12 then (.iload_n 1, 0, 1, []) else am_nop))) else (bif Nat.ble 6 pc then (bif Nat.ble 7 pc then (bif Nat.ble 10 pc then (bif Nat.beq pc 10 then (.iload 6, 0, 6, []) else am_nop) else (bif Nat.beq pc 7 then (.getfield 9, 0, 0, []) else am_nop)) else (bif Nat.beq pc 6 then (.aload_n 0, 0, 0, []) else am_nop)) else (bif Nat.ble 1 pc then (bif Nat.ble 4 pc then (bif Nat.beq pc 4 then (.istore 6, 0, 6, []) else am_nop) else (bif Nat.beq pc 1 then (.getfield 59, 0, 0, []) else am_nop)) else (bif Nat.beq pc 0 then (.aload_n 0, 0, 0, []) else am_nop)))))
theorem fl_T_9 : am_fok RX4 9 (4, 0) := ⟨RX4, TX4, 15, rfl, by decide, rfl, Or.inl (am_tb 43 (by decide +kernel) rfl)⟩
theorem fl_T_15 : am_fok RX4 15 (4, 1) := ⟨RX4, TX4, 15, rfl, by decide, rfl, Or.inl (am_tb 46 (by decide +kernel) rfl)⟩
theorem fl_T_18 : am_fok RX4 18 (4, 2) := ⟨RX4, TX4, 15, rfl, by decide, rfl, Or.inl (am_tb 49 (by decide +kernel) rfl)⟩
theorem fl_T_21 : am_fok RX4 21 (4, 3) := ⟨RX4, TX4, 15, rfl, by decide, rfl, Or.inl (am_tb 53 (by decide +kernel) rfl)⟩
theorem fl_T_24 : am_fok RX4 24 (4, 4) := ⟨RX4, TX4, 15, rfl, by decide, rfl, Or.inl (am_tb 57 (by decide +kernel) rfl)⟩
theorem fl_T_27 : am_fok RX4 27 (4, 5) := ⟨RX4, TX4, 15, rfl, by decide, rfl, Or.inl (am_tb 59 (by decide +kernel) rfl)⟩
theorem fl_T_30 : am_fok RX4 30 (4, 6) := ⟨RX4, TX4, 15, rfl, by decide, rfl, Or.inl (am_tb 62 (by decide +kernel) rfl)⟩
theorem fl_T_33 : am_fok RX4 33 (4, 7) := ⟨RX4, TX4, 15, rfl, by decide, rfl, Or.inl (am_tb 65 (by decide +kernel) rfl)⟩
theorem fl_T_59 : am_fok RX4 59 (4, 11) := ⟨RX4, TX4, 15, rfl, by decide, rfl, Or.inl (am_tb 76 (by decide +kernel) rfl)⟩
theorem lk_T_76 : am_lnk RX4 76 (d_B_put 1) := ⟨⟨by decide, by decide⟩, am_tb 1 (by decide +kernel) rfl, Or.inl ⟨by decide, rfl, am_tb 342 (by decide +kernel) rfl, Or.inr ⟨rfl, "BusBlocks", am_tb 341 (by decide +kernel) rfl⟩⟩⟩
def m_T_addTrip : MI := (k_T_addTrip, [(9, 4, 0), (15, 4, 1), (18, 4, 2), (21, 4, 3), (24, 4, 4), (27, 4, 5), (30, 4, 6), (33, 4, 7), (59, 4, 11)], [(76, d_B_put 1)], [], [], [], [], 1, 24, some .int, fun _ => 0, 1)
def v_T_addTrip (h : HP) (a1 : Int32) (a2 : Int32) (a3 : Int32) (a4 : Int32) (a5 : Int32) : Int32 × HP := (h.1 0 11, (am_si (v_put 20 (v_put 20 (v_put 20 (v_put 20 (v_put 20 (v_put 20 (v_put 20 (v_put 20 h 1 (h.1 0 11) a1) 2 (h.1 0 11) a2) 3 (h.1 0 11) a3) 4 (h.1 0 11) a4) 5 (h.1 0 11) a5) 6 (h.1 0 11) (-1 : Int32)) 7 (h.1 0 11) (-1 : Int32)) 8 (h.1 0 11) 0) 0 11 (((v_put 20 (v_put 20 (v_put 20 (v_put 20 (v_put 20 (v_put 20 (v_put 20 (v_put 20 h 1 (h.1 0 11) a1) 2 (h.1 0 11) a2) 3 (h.1 0 11) a3) 4 (h.1 0 11) a4) 5 (h.1 0 11) a5) 6 (h.1 0 11) (-1 : Int32)) 7 (h.1 0 11) (-1 : Int32)) 8 (h.1 0 11) 0).1 0 11) + 1)))
def g_T_addTrip (_ _ : List Sh) (as : List Value) (h : HP) : GR := match as with
  | [.ref o1, .int a1, .int a2, .int a3, .int a4, .int a5] => (Nat.beq o1 0, True, none, some (.int (v_T_addTrip h a1 a2 a3 a4 a5).1), (v_T_addTrip h a1 a2 a3 a4 a5).2)
  | _ => bad h
def d_T_addTrip (k : Nat) : CD := (k, yX4_addTrip, cX4_addTrip, 7, some .int, 6, 1, 24, 0, false, false, g_T_addTrip)
theorem chk_T_addTrip : ∀ pc, am_chk cX4_addTrip k_T_addTrip pc = true := am_chkall 101 (by decide +kernel) (fun pc h => by unfold k_T_addTrip; rw [Nat.ble_eq_true_of_le h]; rfl)
theorem pf_T_addTrip : plainFor yX4_addTrip = true := by decide +kernel
theorem cu_T_addTrip : Cond.code yX4_addTrip cX4_addTrip 7 (some .int) ∈ am_U := am_tb 340 (by decide +kernel) rfl
set_option maxRecDepth 100000 in
theorem ev_T_addTrip {e1 ro : List Sh} {P : AR → HP → Prop} (h : HP) (a1 : Int32) (a2 : Int32) (a3 : Int32) (a4 : Int32) (a5 : Int32) (hP : ∀ q, v_T_addTrip h a1 a2 a3 a4 a5 = q → RIW P h q) : am_Ev m_T_addTrip (WT ++ e1) ro P (0, [.ref 0, .int a1, .int a2, .int a3, .int a4, .int a5, .retAddr 0], [], h) := by
  refine am_Ev_G [16] 400 _ ?_
  show am_Ev m_T_addTrip (WT ++ e1) ro P (16, [.ref 0, .int a1, .int a2, .int a3, .int a4, .int a5, .int (h.1 0 11)], [], (v_put 20 h 1 (h.1 0 11) a1))
  refine am_Ev_G [36] 400 _ ?_
  show am_Ev m_T_addTrip (WT ++ e1) ro P (36, [.ref 0, .int a1, .int a2, .int a3, .int a4, .int a5, .int (h.1 0 11)], [], (v_put 20 (v_put 20 (v_put 20 h 1 (h.1 0 11) a1) 2 (h.1 0 11) a2) 3 (h.1 0 11) a3))
  refine am_Ev_G [58] 400 _ ?_
  show am_Ev m_T_addTrip (WT ++ e1) ro P (58, [.ref 0, .int a1, .int a2, .int a3, .int a4, .int a5, .int (h.1 0 11)], [], (v_put 20 (v_put 20 (v_put 20 (v_put 20 (v_put 20 h 1 (h.1 0 11) a1) 2 (h.1 0 11) a2) 3 (h.1 0 11) a3) 4 (h.1 0 11) a4) 5 (h.1 0 11) a5))
  refine am_Ev_G [78] 400 _ ?_
  show am_Ev m_T_addTrip (WT ++ e1) ro P (78, [.ref 0, .int a1, .int a2, .int a3, .int a4, .int a5, .int (h.1 0 11)], [], (v_put 20 (v_put 20 (v_put 20 (v_put 20 (v_put 20 (v_put 20 (v_put 20 h 1 (h.1 0 11) a1) 2 (h.1 0 11) a2) 3 (h.1 0 11) a3) 4 (h.1 0 11) a4) 5 (h.1 0 11) a5) 6 (h.1 0 11) (-1 : Int32)) 7 (h.1 0 11) (-1 : Int32)))
  refine am_Ev_G [] 400 _ ?_
  show P (.inl (some (.int (h.1 0 11)))) (am_si (v_put 20 (v_put 20 (v_put 20 (v_put 20 (v_put 20 (v_put 20 (v_put 20 (v_put 20 h 1 (h.1 0 11) a1) 2 (h.1 0 11) a2) 3 (h.1 0 11) a3) 4 (h.1 0 11) a4) 5 (h.1 0 11) a5) 6 (h.1 0 11) (-1 : Int32)) 7 (h.1 0 11) (-1 : Int32)) 8 (h.1 0 11) 0) 0 11 (((v_put 20 (v_put 20 (v_put 20 (v_put 20 (v_put 20 (v_put 20 (v_put 20 (v_put 20 h 1 (h.1 0 11) a1) 2 (h.1 0 11) a2) 3 (h.1 0 11) a3) 4 (h.1 0 11) a4) 5 (h.1 0 11) a5) 6 (h.1 0 11) (-1 : Int32)) 7 (h.1 0 11) (-1 : Int32)) 8 (h.1 0 11) 0).1 0 11) + 1))
  exact hP (h.1 0 11, (am_si (v_put 20 (v_put 20 (v_put 20 (v_put 20 (v_put 20 (v_put 20 (v_put 20 (v_put 20 h 1 (h.1 0 11) a1) 2 (h.1 0 11) a2) 3 (h.1 0 11) a3) 4 (h.1 0 11) a4) 5 (h.1 0 11) a5) 6 (h.1 0 11) (-1 : Int32)) 7 (h.1 0 11) (-1 : Int32)) 8 (h.1 0 11) 0) 0 11 (((v_put 20 (v_put 20 (v_put 20 (v_put 20 (v_put 20 (v_put 20 (v_put 20 (v_put 20 h 1 (h.1 0 11) a1) 2 (h.1 0 11) a2) 3 (h.1 0 11) a3) 4 (h.1 0 11) a4) 5 (h.1 0 11) a5) 6 (h.1 0 11) (-1 : Int32)) 7 (h.1 0 11) (-1 : Int32)) 8 (h.1 0 11) 0).1 0 11) + 1))) rfl
theorem ok_T_addTrip {l : Launch} (hl : l.stackTraces = false) (e1 ro : List Sh) (k : Nat) : am_Ok l (WT ++ e1) ro (d_T_addTrip k) := by
  refine am_met hl (own := RX4) (M := m_T_addTrip) rfl pf_T_addTrip cu_T_addTrip rfl rfl rfl rfl (fun _ => rfl) rfl ⟨chk_T_addTrip, (am_c (fl_T_9) (am_c (fl_T_15) (am_c (fl_T_18) (am_c (fl_T_21) (am_c (fl_T_24) (am_c (fl_T_27) (am_c (fl_T_30) (am_c (fl_T_33) (am_c (fl_T_59) am_n))))))))), (am_c (lk_T_76) am_n), (am_n), (am_n)⟩ (am_n) (am_c (ok_B_put hl _ _ 1) am_n) ?_ ?_ ?_
  · intro _ as h hg
    show g_pre (g_T_addTrip (WT ++ e1) ro as h)
    unfold g_T_addTrip
    split <;> exact trivial
  · intro _ as h hg
    show g_thr (g_T_addTrip (WT ++ e1) ro as h) = none
    unfold g_T_addTrip
    split <;> rfl
  · intro as h hg hp
    revert hg hp
    show g_ok (g_T_addTrip (WT ++ e1) ro as h) = true → g_pre (g_T_addTrip (WT ++ e1) ro as h) → _ ∧ am_Ev m_T_addTrip (WT ++ e1) ro (am_eq (g_T_addTrip (WT ++ e1) ro as h)) (0, am_ent as 7, [], h)
    unfold g_T_addTrip
    split
    · rename_i o1 a1 a2 a3 a4 a5
      intro hc hp
      change (Nat.beq o1 0) = true at hc
      obtain rfl := am_beq hc
      exact ⟨Nat.le_of_ble_eq_true rfl, ev_T_addTrip h a1 a2 a3 a4 a5 eqRIW⟩
    · exact fun z => nomatch z
def k_T_isRun (pc : Nat) : Ent := bif Nat.ble 17 pc then am_nop else bif Nat.ble 8 pc then (bif Nat.ble 12 pc then (bif Nat.ble 15 pc then (bif Nat.ble 16 pc then (bif Nat.beq pc 16 then (.ireturn, 0, 0, []) else am_nop) else (bif Nat.beq pc 15 then (.iconst 0, 0, 0, []) else am_nop)) else (bif Nat.beq pc 12 then (.goto 4, 0, 16, []) else am_nop)) else (bif Nat.ble 11 pc then (bif Nat.beq pc 11 then (.iconst 1, 1, 0, []) else am_nop) else (bif Nat.beq pc 8 then (.ifCond .ne 7, 0, 15, []) else am_nop))) else (bif Nat.ble 4 pc then (bif Nat.ble 5 pc then (bif Nat.beq pc 5 then (.invokestatic 80, 0, 0, []) else am_nop) else (bif Nat.beq pc 4 then (.iload_n 1, 0, 1, []) else am_nop)) else (bif Nat.ble 1 pc then (bif Nat.beq pc 1 then (.getfield 33, 0, 0, []) else am_nop) else (bif Nat.beq pc 0 then (.aload_n 0, 0, 0, []) else am_nop)))
theorem lk_T_80 : am_lnk RX4 80 (d_B_at 1) := ⟨⟨by decide, by decide⟩, am_tb 1 (by decide +kernel) rfl, Or.inl ⟨by decide, rfl, am_tb 361 (by decide +kernel) rfl, Or.inr ⟨rfl, "BusBlocks", am_tb 360 (by decide +kernel) rfl⟩⟩⟩
def m_T_isRun : MI := (k_T_isRun, [(33, 4, 7)], [(80, d_B_at 1)], [], [], [], [], 1, 23, some .boolean, fun _ => 0, 1)
def v_T_isRun (h : HP) (a1 : Int32) : Int32 := (if (v_at 20 (h.1 8) a1) = 0 then (1 : Int32) else 0)
def g_T_isRun (_ _ : List Sh) (as : List Value) (h : HP) : GR := match as with
  | [.ref o1, .int a1] => (Nat.beq o1 0, True, none, some (.int (v_T_isRun h a1)), h)
  | _ => bad h
def d_T_isRun (k : Nat) : CD := (k, yX4_isRun, cX4_isRun, 2, some .boolean, 2, 1, 23, 0, false, false, g_T_isRun)
theorem chk_T_isRun : ∀ pc, am_chk cX4_isRun k_T_isRun pc = true := am_chkall 17 (by decide +kernel) (fun pc h => by unfold k_T_isRun; rw [Nat.ble_eq_true_of_le h]; rfl)
theorem pf_T_isRun : plainFor yX4_isRun = true := by decide +kernel
theorem cu_T_isRun : Cond.code yX4_isRun cX4_isRun 2 (some .boolean) ∈ am_U := am_tb 366 (by decide +kernel) rfl
set_option maxRecDepth 100000 in
theorem ev_T_isRun {e1 ro : List Sh} {P : AR → HP → Prop} (h : HP) (a1 : Int32) (hP : ∀ q, v_T_isRun h a1 = q → RI P h q) : am_Ev m_T_isRun (WT ++ e1) ro P (0, [.ref 0, .int a1], [], h) := by
  refine am_Ev_G [8] 400 _ ?_
  show am_Ev m_T_isRun (WT ++ e1) ro P (8, [.ref 0, .int a1], [.int (v_at 20 (h.1 8) a1)], h)
  have key1 : am_Ev m_T_isRun (WT ++ e1) ro P (16, [.ref 0, .int a1], [.int (if (v_at 20 (h.1 8) a1) = 0 then (1 : Int32) else 0)], h) := by
    refine am_Ev_G [] 400 _ ?_
    show (((((if (v_at 20 (h.1 8) a1) = 0 then (1 : Int32) else 0) : Int32) = 0 ∨ ((if (v_at 20 (h.1 8) a1) = 0 then (1 : Int32) else 0) : Int32) = 1)) ∧ P (.inl (some (.int (if (v_at 20 (h.1 8) a1) = 0 then (1 : Int32) else 0)))) h)
    refine ⟨(by (repeat' split) <;> decide), ?_⟩
    exact hP (if (v_at 20 (h.1 8) a1) = 0 then (1 : Int32) else 0) rfl
  refine am_Ev_G [16] 400 _ ?_
  show ((¬ (v_at 20 (h.1 8) a1) = 0 → am_Ev m_T_isRun (WT ++ e1) ro P (16, [.ref 0, .int a1], [.int 0], h)) ∧ ((v_at 20 (h.1 8) a1) = 0 → am_Ev m_T_isRun (WT ++ e1) ro P (16, [.ref 0, .int a1], [.int 1], h)))
  refine ⟨fun c2 => ?_, fun c2 => ?_⟩
  · skip
    simpa only [if_neg c2] using key1
  · skip
    simpa only [if_pos c2] using key1
theorem ok_T_isRun {l : Launch} (hl : l.stackTraces = false) (e1 ro : List Sh) (k : Nat) : am_Ok l (WT ++ e1) ro (d_T_isRun k) := by
  refine am_met hl (own := RX4) (M := m_T_isRun) rfl pf_T_isRun cu_T_isRun rfl rfl rfl rfl (fun _ => rfl) rfl ⟨chk_T_isRun, (am_c (fl_T_33) am_n), (am_c (lk_T_80) am_n), (am_n), (am_n)⟩ (am_n) (am_c (ok_B_at hl _ _ 1) am_n) ?_ ?_ ?_
  · intro _ as h hg
    show g_pre (g_T_isRun (WT ++ e1) ro as h)
    unfold g_T_isRun
    split <;> exact trivial
  · intro _ as h hg
    show g_thr (g_T_isRun (WT ++ e1) ro as h) = none
    unfold g_T_isRun
    split <;> rfl
  · intro as h hg hp
    revert hg hp
    show g_ok (g_T_isRun (WT ++ e1) ro as h) = true → g_pre (g_T_isRun (WT ++ e1) ro as h) → _ ∧ am_Ev m_T_isRun (WT ++ e1) ro (am_eq (g_T_isRun (WT ++ e1) ro as h)) (0, am_ent as 2, [], h)
    unfold g_T_isRun
    split
    · rename_i o1 a1
      intro hc hp
      change (Nat.beq o1 0) = true at hc
      obtain rfl := am_beq hc
      exact ⟨Nat.le_of_ble_eq_true rfl, ev_T_isRun h a1 eqRI⟩
    · exact fun z => nomatch z
def k_T_arrivalOf (pc : Nat) : Ent := bif Nat.ble 18 pc then am_nop else bif Nat.ble 9 pc then (bif Nat.ble 13 pc then (bif Nat.ble 16 pc then (bif Nat.ble 17 pc then (bif Nat.beq pc 17 then (.ireturn, 0, 0, []) else am_nop) else (bif Nat.beq pc 16 then (.iadd, 0, 0, []) else am_nop)) else (bif Nat.beq pc 13 then (.invokestatic 80, 0, 0, []) else am_nop)) else (bif Nat.ble 12 pc then (bif Nat.beq pc 12 then (.iload_n 1, 0, 1, []) else am_nop) else (bif Nat.beq pc 9 then (.getfield 24, 0, 0, []) else am_nop))) else (bif Nat.ble 4 pc then (bif Nat.ble 5 pc then (bif Nat.ble 8 pc then (bif Nat.beq pc 8 then (.aload_n 0, 0, 0, []) else am_nop) else (bif Nat.beq pc 5 then (.invokestatic 80, 0, 0, []) else am_nop)) else (bif Nat.beq pc 4 then (.iload_n 1, 0, 1, []) else am_nop)) else (bif Nat.ble 1 pc then (bif Nat.beq pc 1 then (.getfield 21, 0, 0, []) else am_nop) else (bif Nat.beq pc 0 then (.aload_n 0, 0, 0, []) else am_nop)))
def m_T_arrivalOf : MI := (k_T_arrivalOf, [(21, 4, 3), (24, 4, 4)], [(80, d_B_at 1)], [], [], [], [], 1, 23, some .int, fun _ => 0, 1)
def v_T_arrivalOf (h : HP) (a1 : Int32) : Int32 := ((v_at 20 (h.1 4) a1) + (v_at 20 (h.1 5) a1))
def g_T_arrivalOf (_ _ : List Sh) (as : List Value) (h : HP) : GR := match as with
  | [.ref o1, .int a1] => (Nat.beq o1 0, True, none, some (.int (v_T_arrivalOf h a1)), h)
  | _ => bad h
def d_T_arrivalOf (k : Nat) : CD := (k, yX4_arrivalOf, cX4_arrivalOf, 2, some .int, 2, 1, 23, 0, false, false, g_T_arrivalOf)
theorem chk_T_arrivalOf : ∀ pc, am_chk cX4_arrivalOf k_T_arrivalOf pc = true := am_chkall 18 (by decide +kernel) (fun pc h => by unfold k_T_arrivalOf; rw [Nat.ble_eq_true_of_le h]; rfl)
theorem pf_T_arrivalOf : plainFor yX4_arrivalOf = true := by decide +kernel
theorem cu_T_arrivalOf : Cond.code yX4_arrivalOf cX4_arrivalOf 2 (some .int) ∈ am_U := am_tb 382 (by decide +kernel) rfl
set_option maxRecDepth 100000 in
theorem ev_T_arrivalOf {e1 ro : List Sh} {P : AR → HP → Prop} (h : HP) (a1 : Int32) (hP : ∀ q, v_T_arrivalOf h a1 = q → RI P h q) : am_Ev m_T_arrivalOf (WT ++ e1) ro P (0, [.ref 0, .int a1], [], h) := by
  refine am_Ev_G [16] 400 _ ?_
  show am_Ev m_T_arrivalOf (WT ++ e1) ro P (16, [.ref 0, .int a1], [.int (v_at 20 (h.1 5) a1), .int (v_at 20 (h.1 4) a1)], h)
  refine am_Ev_G [] 400 _ ?_
  show P (.inl (some (.int ((v_at 20 (h.1 4) a1) + (v_at 20 (h.1 5) a1))))) h
  exact hP ((v_at 20 (h.1 4) a1) + (v_at 20 (h.1 5) a1)) rfl
theorem ok_T_arrivalOf {l : Launch} (hl : l.stackTraces = false) (e1 ro : List Sh) (k : Nat) : am_Ok l (WT ++ e1) ro (d_T_arrivalOf k) := by
  refine am_met hl (own := RX4) (M := m_T_arrivalOf) rfl pf_T_arrivalOf cu_T_arrivalOf rfl rfl rfl rfl (fun _ => rfl) rfl ⟨chk_T_arrivalOf, (am_c (fl_T_21) (am_c (fl_T_24) am_n)), (am_c (lk_T_80) am_n), (am_n), (am_n)⟩ (am_n) (am_c (ok_B_at hl _ _ 1) am_n) ?_ ?_ ?_
  · intro _ as h hg
    show g_pre (g_T_arrivalOf (WT ++ e1) ro as h)
    unfold g_T_arrivalOf
    split <;> exact trivial
  · intro _ as h hg
    show g_thr (g_T_arrivalOf (WT ++ e1) ro as h) = none
    unfold g_T_arrivalOf
    split <;> rfl
  · intro as h hg hp
    revert hg hp
    show g_ok (g_T_arrivalOf (WT ++ e1) ro as h) = true → g_pre (g_T_arrivalOf (WT ++ e1) ro as h) → _ ∧ am_Ev m_T_arrivalOf (WT ++ e1) ro (am_eq (g_T_arrivalOf (WT ++ e1) ro as h)) (0, am_ent as 2, [], h)
    unfold g_T_arrivalOf
    split
    · rename_i o1 a1
      intro hc hp
      change (Nat.beq o1 0) = true at hc
      obtain rfl := am_beq hc
      exact ⟨Nat.le_of_ble_eq_true rfl, ev_T_arrivalOf h a1 eqRI⟩
    · exact fun z => nomatch z
def k_T_readyOf (pc : Nat) : Ent := bif Nat.ble 34 pc then am_nop else bif Nat.ble 17 pc then (bif Nat.ble 25 pc then (bif Nat.ble 29 pc then (bif Nat.ble 32 pc then (bif Nat.ble 33 pc then (bif Nat.beq pc 33 then (.ireturn, 0, 0, []) else am_nop) else (bif Nat.beq pc 32 then (.iadd, 0, 0, []) else am_nop)) else (bif Nat.beq pc 29 then (.invokestatic 80, 0, 0, []) else am_nop)) else (bif Nat.ble 26 pc then (bif Nat.beq pc 26 then (.invokestatic 80, 0, 0, []) else am_nop) else (bif Nat.beq pc 25 then (.iload_n 1, 0, 1, []) else am_nop))) else (bif Nat.ble 21 pc then (bif Nat.ble 22 pc then (bif Nat.beq pc 22 then (.getfield 18, 0, 0, []) else am_nop) else (bif Nat.beq pc 21 then (.aload_n 0, 0, 0, []) else am_nop)) else (bif Nat.ble 18 pc then (bif Nat.beq pc 18 then (.getfield 44, 0, 0, []) else am_nop) else (bif Nat.beq pc 17 then (.aload_n 0, 0, 0, []) else am_nop)))) else (bif Nat.ble 8 pc then (bif Nat.ble 12 pc then (bif Nat.ble 13 pc then (bif Nat.ble 16 pc then (bif Nat.beq pc 16 then (.iadd, 0, 0, []) else am_nop) else (bif Nat.beq pc 13 then (.invokestatic 80, 0, 0, []) else am_nop)) else (bif Nat.beq pc 12 then (.iload_n 1, 0, 1, []) else am_nop)) else (bif Nat.ble 9 pc then (bif Nat.beq pc 9 then (.getfield 24, 0, 0, []) else am_nop) else (bif Nat.beq pc 8 then (.aload_n 0, 0, 0, []) else am_nop))) else (bif Nat.ble 4 pc then (bif Nat.ble 5 pc then (bif Nat.beq pc 5 then (.invokestatic 80, 0, 0, []) else am_nop) else (bif Nat.beq pc 4 then (.iload_n 1, 0, 1, []) else am_nop)) else (bif Nat.ble 1 pc then (bif Nat.beq pc 1 then (.getfield 21, 0, 0, []) else am_nop) else (bif Nat.beq pc 0 then (.aload_n 0, 0, 0, []) else am_nop))))
theorem fl_T_44 : am_fok RX4 44 (4, 8) := ⟨RX4, TX4, 15, rfl, by decide, rfl, Or.inl (am_tb 66 (by decide +kernel) rfl)⟩
def m_T_readyOf : MI := (k_T_readyOf, [(18, 4, 2), (21, 4, 3), (24, 4, 4), (44, 4, 8)], [(80, d_B_at 1)], [], [], [], [], 1, 23, some .int, fun _ => 0, 1)
def v_T_readyOf (h : HP) (a1 : Int32) : Int32 := (((v_at 20 (h.1 4) a1) + (v_at 20 (h.1 5) a1)) + (v_at 4 (h.1 9) (v_at 20 (h.1 3) a1)))
def g_T_readyOf (_ _ : List Sh) (as : List Value) (h : HP) : GR := match as with
  | [.ref o1, .int a1] => (Nat.beq o1 0, True, none, some (.int (v_T_readyOf h a1)), h)
  | _ => bad h
def d_T_readyOf (k : Nat) : CD := (k, yX4_readyOf, cX4_readyOf, 2, some .int, 2, 1, 23, 0, false, false, g_T_readyOf)
theorem chk_T_readyOf : ∀ pc, am_chk cX4_readyOf k_T_readyOf pc = true := am_chkall 34 (by decide +kernel) (fun pc h => by unfold k_T_readyOf; rw [Nat.ble_eq_true_of_le h]; rfl)
theorem pf_T_readyOf : plainFor yX4_readyOf = true := by decide +kernel
theorem cu_T_readyOf : Cond.code yX4_readyOf cX4_readyOf 2 (some .int) ∈ am_U := am_tb 378 (by decide +kernel) rfl
set_option maxRecDepth 100000 in
theorem ev_T_readyOf {e1 ro : List Sh} {P : AR → HP → Prop} (h : HP) (a1 : Int32) (hP : ∀ q, v_T_readyOf h a1 = q → RI P h q) : am_Ev m_T_readyOf (WT ++ e1) ro P (0, [.ref 0, .int a1], [], h) := by
  refine am_Ev_G [16] 400 _ ?_
  show am_Ev m_T_readyOf (WT ++ e1) ro P (16, [.ref 0, .int a1], [.int (v_at 20 (h.1 5) a1), .int (v_at 20 (h.1 4) a1)], h)
  refine am_Ev_G [32] 400 _ ?_
  show am_Ev m_T_readyOf (WT ++ e1) ro P (32, [.ref 0, .int a1], [.int (v_at 4 (h.1 9) (v_at 20 (h.1 3) a1)), .int ((v_at 20 (h.1 4) a1) + (v_at 20 (h.1 5) a1))], h)
  refine am_Ev_G [] 400 _ ?_
  show P (.inl (some (.int (((v_at 20 (h.1 4) a1) + (v_at 20 (h.1 5) a1)) + (v_at 4 (h.1 9) (v_at 20 (h.1 3) a1)))))) h
  exact hP (((v_at 20 (h.1 4) a1) + (v_at 20 (h.1 5) a1)) + (v_at 4 (h.1 9) (v_at 20 (h.1 3) a1))) rfl
theorem ok_T_readyOf {l : Launch} (hl : l.stackTraces = false) (e1 ro : List Sh) (k : Nat) : am_Ok l (WT ++ e1) ro (d_T_readyOf k) := by
  refine am_met hl (own := RX4) (M := m_T_readyOf) rfl pf_T_readyOf cu_T_readyOf rfl rfl rfl rfl (fun _ => rfl) rfl ⟨chk_T_readyOf, (am_c (fl_T_18) (am_c (fl_T_21) (am_c (fl_T_24) (am_c (fl_T_44) am_n)))), (am_c (lk_T_80) am_n), (am_n), (am_n)⟩ (am_n) (am_c (ok_B_at hl _ _ 1) am_n) ?_ ?_ ?_
  · intro _ as h hg
    show g_pre (g_T_readyOf (WT ++ e1) ro as h)
    unfold g_T_readyOf
    split <;> exact trivial
  · intro _ as h hg
    show g_thr (g_T_readyOf (WT ++ e1) ro as h) = none
    unfold g_T_readyOf
    split <;> rfl
  · intro as h hg hp
    revert hg hp
    show g_ok (g_T_readyOf (WT ++ e1) ro as h) = true → g_pre (g_T_readyOf (WT ++ e1) ro as h) → _ ∧ am_Ev m_T_readyOf (WT ++ e1) ro (am_eq (g_T_readyOf (WT ++ e1) ro as h)) (0, am_ent as 2, [], h)
    unfold g_T_readyOf
    split
    · rename_i o1 a1
      intro hc hp
      change (Nat.beq o1 0) = true at hc
      obtain rfl := am_beq hc
      exact ⟨Nat.le_of_ble_eq_true rfl, ev_T_readyOf h a1 eqRI⟩
    · exact fun z => nomatch z
def k_T_runTrips (pc : Nat) : Ent := bif Nat.ble 36 pc then am_nop else bif Nat.ble 15 pc then (bif Nat.ble 26 pc then (bif Nat.ble 31 pc then (bif Nat.ble 34 pc then (bif Nat.ble 35 pc then (bif Nat.beq pc 35 then (.ireturn, 0, 0, []) else am_nop) else (bif Nat.beq pc 34 then (.iload_n 1, 0, 1, []) else am_nop)) else (bif Nat.beq pc 31 then (.goto (-27), 0, 4, []) else am_nop)) else (bif Nat.ble 27 pc then (bif Nat.ble 28 pc then (bif Nat.beq pc 28 then (.iinc 2 1, 1, 2, []) else am_nop) else (bif Nat.beq pc 27 then (.istore_n 1, 0, 1, []) else am_nop)) else (bif Nat.beq pc 26 then (.iadd, 0, 0, []) else am_nop))) else (bif Nat.ble 21 pc then (bif Nat.ble 22 pc then (bif Nat.ble 25 pc then (bif Nat.beq pc 25 then (.iconst 0, 0, 0, []) else am_nop) else (bif Nat.beq pc 22 then (.goto 4, 0, 26, []) else am_nop)) else (bif Nat.beq pc 21 then (.iconst 1, 1, 0, []) else am_nop)) else (bif Nat.ble 18 pc then (bif Nat.beq pc 18 then (.ifCond .eq 7, 0, 25, []) else am_nop) else (bif Nat.beq pc 15 then (.invokevirtual 84, 0, 0, []) else am_nop)))) else (bif Nat.ble 5 pc then (bif Nat.ble 12 pc then (bif Nat.ble 13 pc then (bif Nat.ble 14 pc then (bif Nat.beq pc 14 then (.iload_n 2, 0, 2, []) else am_nop) else (bif Nat.beq pc 13 then (.aload_n 0, 0, 0, []) else am_nop)) else (bif Nat.beq pc 12 then (.iload_n 1, 0, 1, []) else am_nop)) else (bif Nat.ble 6 pc then (bif Nat.ble 9 pc then (bif Nat.beq pc 9 then (.if_icmp .ge 25, 0, 34, []) else am_nop) else (bif Nat.beq pc 6 then (.getfield 59, 0, 0, []) else am_nop)) else (bif Nat.beq pc 5 then (.aload_n 0, 0, 0, []) else am_nop))) else (bif Nat.ble 2 pc then (bif Nat.ble 3 pc then (bif Nat.ble 4 pc then (bif Nat.beq pc 4 then (.iload_n 2, 0, 2, []) else am_nop) else (bif Nat.beq pc 3 then (.istore_n 2, 0, 2, []) else am_nop)) else (bif Nat.beq pc 2 then (.iconst 0, 0, 0, []) else am_nop)) else (bif Nat.ble 1 pc then (bif Nat.beq pc 1 then (.istore_n 1, 0, 1, []) else am_nop) else (bif Nat.beq pc 0 then (.iconst 0, 0, 0, []) else am_nop))))
theorem lk_T_84 : am_lnk RX4 84 (d_T_isRun 14) := ⟨⟨by decide, by decide⟩, am_tb 2 (by decide +kernel) rfl, Or.inr ⟨by decide, rfl, am_tb 365 (by decide +kernel) rfl, am_tp 8 (by decide +kernel) rfl, ⟨TX4, 15, rfl⟩, Or.inl (am_tb 363 (by decide +kernel) rfl)⟩⟩
def m_T_runTrips : MI := (k_T_runTrips, [(59, 4, 11)], [(84, d_T_isRun 14)], [], [], [], [], 2, 46, some .int, fun _ => 0, 1)
def s_T_runTrips_4 (h : HP) (v1 : Int32 × Int32) : (Int32 × Int32) ⊕ (Int32 × Int32) := (if v1.2 < (h.1 0 11) then (.inl ((v1.1 + (if (v_T_isRun h v1.2) = 0 then (0 : Int32) else 1)), (v1.2 + 1))) else (.inr (v1.1, v1.2)))
def ps_T_runTrips_4 (h : HP) (v1 : Int32 × Int32) : Prop := True
def v_T_runTrips (h : HP) : Int32 := (match itr (s_T_runTrips_4 h) NF (0, 0) with | some r1 => r1.1 | none => 0)
def p_T_runTrips (h : HP) : Prop := (itrp (s_T_runTrips_4 h) (ps_T_runTrips_4 h) NF (0, 0))
def g_T_runTrips (_ _ : List Sh) (as : List Value) (h : HP) : GR := match as with
  | [.ref o1] => (Nat.beq o1 0, p_T_runTrips h, none, some (.int (v_T_runTrips h)), h)
  | _ => bad h
def d_T_runTrips (k : Nat) : CD := (k, yX4_runTrips, cX4_runTrips, 3, some .int, 1, 2, 46, 0, false, true, g_T_runTrips)
theorem chk_T_runTrips : ∀ pc, am_chk cX4_runTrips k_T_runTrips pc = true := am_chkall 36 (by decide +kernel) (fun pc h => by unfold k_T_runTrips; rw [Nat.ble_eq_true_of_le h]; rfl)
theorem pf_T_runTrips : plainFor yX4_runTrips = true := by decide +kernel
theorem cu_T_runTrips : Cond.code yX4_runTrips cX4_runTrips 3 (some .int) ∈ am_U := am_tb 426 (by decide +kernel) rfl
set_option maxRecDepth 100000 in
theorem ev_T_runTrips {e1 ro : List Sh} {P : AR → HP → Prop} (h : HP) (hp : p_T_runTrips h) (hP : ∀ q, v_T_runTrips h = q → RI P h q) : am_Ev m_T_runTrips (WT ++ e1) ro P (0, [.ref 0, .retAddr 0, .retAddr 0], [], h) := by
  unfold p_T_runTrips at hp
  refine am_Ev_G [4] 400 _ ?_
  show am_Ev m_T_runTrips (WT ++ e1) ro P (4, [.ref 0, .int 0, .int 0], [], h)
  have hpl := hp
  refine am_itr (E := (fun (v1 : Int32 × Int32) => am_Ev m_T_runTrips (WT ++ e1) ro P (4, [.ref 0, .int v1.1, .int v1.2], [], h))) (E' := (fun (r1 : Int32 × Int32) => am_Ev m_T_runTrips (WT ++ e1) ro P (34, [.ref 0, .int r1.1, .int r1.2], [], h))) (s_T_runTrips_4 h) (ps_T_runTrips_4 h) ?_ NF (0, 0) hpl ?_
  · intro v1 hp hc1 hx1
    show am_Ev m_T_runTrips (WT ++ e1) ro P (4, [.ref 0, .int v1.1, .int v1.2], [], h)
    refine am_Ev_G [18, 34] 400 _ ?_
    show ((¬ v1.2 < (h.1 0 11) → am_Ev m_T_runTrips (WT ++ e1) ro P (34, [.ref 0, .int v1.1, .int v1.2], [], h)) ∧ (v1.2 < (h.1 0 11) → am_Ev m_T_runTrips (WT ++ e1) ro P (18, [.ref 0, .int v1.1, .int v1.2], [.int (v_T_isRun h v1.2), .int v1.1], h)))
    refine ⟨fun c1 => ?_, fun c1 => ?_⟩
    · skip
      exact hx1 (v1.1, v1.2) (by unfold s_T_runTrips_4; simp only [if_neg c1])
    · skip
      have key2 : am_Ev m_T_runTrips (WT ++ e1) ro P (26, [.ref 0, .int v1.1, .int v1.2], [.int (if (v_T_isRun h v1.2) = 0 then (0 : Int32) else 1), .int v1.1], h) := by
        refine am_Ev_G [4] 400 _ ?_
        show am_Ev m_T_runTrips (WT ++ e1) ro P (4, [.ref 0, .int (v1.1 + (if (v_T_isRun h v1.2) = 0 then (0 : Int32) else 1)), .int (v1.2 + 1)], [], h)
        exact hc1 ((v1.1 + (if (v_T_isRun h v1.2) = 0 then (0 : Int32) else 1)), (v1.2 + 1)) (by unfold s_T_runTrips_4; simp only [if_pos c1])
      refine am_Ev_G [26] 400 _ ?_
      show (((v_T_isRun h v1.2) = 0 → am_Ev m_T_runTrips (WT ++ e1) ro P (26, [.ref 0, .int v1.1, .int v1.2], [.int 0, .int v1.1], h)) ∧ (¬ (v_T_isRun h v1.2) = 0 → am_Ev m_T_runTrips (WT ++ e1) ro P (26, [.ref 0, .int v1.1, .int v1.2], [.int 1, .int v1.1], h)))
      refine ⟨fun c3 => ?_, fun c3 => ?_⟩
      · skip
        simpa only [if_pos c3] using key2
      · skip
        simpa only [if_neg c3] using key2
  · intro r1 hr4
    show am_Ev m_T_runTrips (WT ++ e1) ro P (34, [.ref 0, .int r1.1, .int r1.2], [], h)
    refine am_Ev_G [] 400 _ ?_
    show P (.inl (some (.int r1.1))) h
    exact hP r1.1 (by unfold v_T_runTrips; simp only [hr4])
theorem ok_T_runTrips {l : Launch} (hl : l.stackTraces = false) (e1 ro : List Sh) (k : Nat) : am_Ok l (WT ++ e1) ro (d_T_runTrips k) := by
  refine am_met hl (own := RX4) (M := m_T_runTrips) rfl pf_T_runTrips cu_T_runTrips rfl rfl rfl rfl (fun _ => rfl) rfl ⟨chk_T_runTrips, (am_c (fl_T_59) am_n), (am_c (lk_T_84) am_n), (am_n), (am_n)⟩ (am_n) (am_c (ok_T_isRun hl e1 _ 14) am_n) (fun z => nomatch z) ?_ ?_
  · intro _ as h hg
    show g_thr (g_T_runTrips (WT ++ e1) ro as h) = none
    unfold g_T_runTrips
    split <;> rfl
  · intro as h hg hp
    revert hg hp
    show g_ok (g_T_runTrips (WT ++ e1) ro as h) = true → g_pre (g_T_runTrips (WT ++ e1) ro as h) → _ ∧ am_Ev m_T_runTrips (WT ++ e1) ro (am_eq (g_T_runTrips (WT ++ e1) ro as h)) (0, am_ent as 3, [], h)
    unfold g_T_runTrips
    split
    · rename_i o1
      intro hc hp
      change (Nat.beq o1 0) = true at hc
      obtain rfl := am_beq hc
      exact ⟨Nat.le_of_ble_eq_true rfl, ev_T_runTrips h hp eqRI⟩
    · exact fun z => nomatch z
def k_T_runTripsAt (pc : Nat) : Ent := bif Nat.ble 49 pc then am_nop else bif Nat.ble 24 pc then (bif Nat.ble 38 pc then (bif Nat.ble 41 pc then (bif Nat.ble 47 pc then (bif Nat.ble 48 pc then (bif Nat.beq pc 48 then (.ireturn, 0, 0, []) else am_nop) else (bif Nat.beq pc 47 then (.iload_n 3, 0, 3, []) else am_nop)) else (bif Nat.ble 44 pc then (bif Nat.beq pc 44 then (.goto (-39), 0, 5, []) else am_nop) else (bif Nat.beq pc 41 then (.iinc 4 1, 1, 4, []) else am_nop))) else (bif Nat.ble 39 pc then (bif Nat.ble 40 pc then (bif Nat.beq pc 40 then (.istore_n 3, 0, 3, []) else am_nop) else (bif Nat.beq pc 39 then (.iadd, 0, 0, []) else am_nop)) else (bif Nat.beq pc 38 then (.iconst 0, 0, 0, []) else am_nop))) else (bif Nat.ble 30 pc then (bif Nat.ble 34 pc then (bif Nat.ble 35 pc then (bif Nat.beq pc 35 then (.goto 4, 0, 39, []) else am_nop) else (bif Nat.beq pc 34 then (.iconst 1, 1, 0, []) else am_nop)) else (bif Nat.ble 31 pc then (bif Nat.beq pc 31 then (.if_icmp .ne 7, 0, 38, []) else am_nop) else (bif Nat.beq pc 30 then (.iload_n 2, 0, 2, []) else am_nop))) else (bif Nat.ble 25 pc then (bif Nat.ble 27 pc then (bif Nat.beq pc 27 then (.invokestatic 80, 0, 0, []) else am_nop) else (bif Nat.beq pc 25 then (.iload 4, 0, 4, []) else am_nop)) else (bif Nat.beq pc 24 then (.aload_n 1, 0, 1, []) else am_nop)))) else (bif Nat.ble 8 pc then (bif Nat.ble 15 pc then (bif Nat.ble 18 pc then (bif Nat.ble 21 pc then (bif Nat.beq pc 21 then (.ifCond .eq 17, 0, 38, []) else am_nop) else (bif Nat.beq pc 18 then (.invokevirtual 84, 0, 0, []) else am_nop)) else (bif Nat.ble 16 pc then (bif Nat.beq pc 16 then (.iload 4, 0, 4, []) else am_nop) else (bif Nat.beq pc 15 then (.aload_n 0, 0, 0, []) else am_nop))) else (bif Nat.ble 11 pc then (bif Nat.ble 14 pc then (bif Nat.beq pc 14 then (.iload_n 3, 0, 3, []) else am_nop) else (bif Nat.beq pc 11 then (.if_icmp .ge 36, 0, 47, []) else am_nop)) else (bif Nat.beq pc 8 then (.getfield 59, 0, 0, []) else am_nop))) else (bif Nat.ble 3 pc then (bif Nat.ble 5 pc then (bif Nat.ble 7 pc then (bif Nat.beq pc 7 then (.aload_n 0, 0, 0, []) else am_nop) else (bif Nat.beq pc 5 then (.iload 4, 0, 4, []) else am_nop)) else (bif Nat.beq pc 3 then (.istore 4, 0, 4, []) else am_nop)) else (bif Nat.ble 1 pc then (bif Nat.ble 2 pc then (bif Nat.beq pc 2 then (.iconst 0, 0, 0, []) else am_nop) else (bif Nat.beq pc 1 then (.istore_n 3, 0, 3, []) else am_nop)) else (bif Nat.beq pc 0 then (.iconst 0, 0, 0, []) else am_nop))))
def m_T_runTripsAt : MI := (k_T_runTripsAt, [(59, 4, 11)], [(80, d_B_at 1), (84, d_T_isRun 14)], [], [], [], [], 2, 46, some .int, fun _ => 0, 1)
def s_T_runTripsAt_2_5 (h : HP) (a2 : Int32) (v1 : Int32 × Int32) : (Int32 × Int32) ⊕ (Int32 × Int32) := (if v1.2 < (h.1 0 11) then (.inl ((v1.1 + (if (v_T_isRun h v1.2) = 0 then (0 : Int32) else (if (v_at 20 (h.1 2) v1.2) = a2 then (1 : Int32) else 0))), (v1.2 + 1))) else (.inr (v1.1, v1.2)))
def ps_T_runTripsAt_2_5 (h : HP) (a2 : Int32) (v1 : Int32 × Int32) : Prop := True
def v_T_runTripsAt_2 (h : HP) (a2 : Int32) : Int32 := (match itr (s_T_runTripsAt_2_5 h a2) NF (0, 0) with | some r1 => r1.1 | none => 0)
def p_T_runTripsAt_2 (h : HP) (a2 : Int32) : Prop := (itrp (s_T_runTripsAt_2_5 h a2) (ps_T_runTripsAt_2_5 h a2) NF (0, 0))
def s_T_runTripsAt_3_5 (h : HP) (a2 : Int32) (v1 : Int32 × Int32) : (Int32 × Int32) ⊕ (Int32 × Int32) := (if v1.2 < (h.1 0 11) then (.inl ((v1.1 + (if (v_T_isRun h v1.2) = 0 then (0 : Int32) else (if (v_at 20 (h.1 3) v1.2) = a2 then (1 : Int32) else 0))), (v1.2 + 1))) else (.inr (v1.1, v1.2)))
def ps_T_runTripsAt_3_5 (h : HP) (a2 : Int32) (v1 : Int32 × Int32) : Prop := True
def v_T_runTripsAt_3 (h : HP) (a2 : Int32) : Int32 := (match itr (s_T_runTripsAt_3_5 h a2) NF (0, 0) with | some r1 => r1.1 | none => 0)
def p_T_runTripsAt_3 (h : HP) (a2 : Int32) : Prop := (itrp (s_T_runTripsAt_3_5 h a2) (ps_T_runTripsAt_3_5 h a2) NF (0, 0))
def g_T_runTripsAt (_ _ : List Sh) (as : List Value) (h : HP) : GR := match as with
  | [.ref o1, .ref o2, .int a2] => bif Nat.beq o1 0 && Nat.beq o2 2 then (true, p_T_runTripsAt_2 h a2, none, some (.int (v_T_runTripsAt_2 h a2)), h) else bif Nat.beq o1 0 && Nat.beq o2 3 then (true, p_T_runTripsAt_3 h a2, none, some (.int (v_T_runTripsAt_3 h a2)), h) else bad h
  | _ => bad h
def d_T_runTripsAt (k : Nat) : CD := (k, yX4_runTripsAt, cX4_runTripsAt, 5, some .int, 3, 2, 46, 0, false, true, g_T_runTripsAt)
theorem chk_T_runTripsAt : ∀ pc, am_chk cX4_runTripsAt k_T_runTripsAt pc = true := am_chkall 49 (by decide +kernel) (fun pc h => by unfold k_T_runTripsAt; rw [Nat.ble_eq_true_of_le h]; rfl)
theorem pf_T_runTripsAt : plainFor yX4_runTripsAt = true := by decide +kernel
theorem cu_T_runTripsAt : Cond.code yX4_runTripsAt cX4_runTripsAt 5 (some .int) ∈ am_U := am_tb 680 (by decide +kernel) rfl
set_option maxRecDepth 100000 in
theorem ev_T_runTripsAt_2 {e1 ro : List Sh} {P : AR → HP → Prop} (h : HP) (a2 : Int32) (hp : p_T_runTripsAt_2 h a2) (hP : ∀ q, v_T_runTripsAt_2 h a2 = q → RI P h q) : am_Ev m_T_runTripsAt (WT ++ e1) ro P (0, [.ref 0, .ref 2, .int a2, .retAddr 0, .retAddr 0], [], h) := by
  unfold p_T_runTripsAt_2 at hp
  refine am_Ev_G [5] 400 _ ?_
  show am_Ev m_T_runTripsAt (WT ++ e1) ro P (5, [.ref 0, .ref 2, .int a2, .int 0, .int 0], [], h)
  have hpl := hp
  refine am_itr (E := (fun (v1 : Int32 × Int32) => am_Ev m_T_runTripsAt (WT ++ e1) ro P (5, [.ref 0, .ref 2, .int a2, .int v1.1, .int v1.2], [], h))) (E' := (fun (r1 : Int32 × Int32) => am_Ev m_T_runTripsAt (WT ++ e1) ro P (47, [.ref 0, .ref 2, .int a2, .int r1.1, .int r1.2], [], h))) (s_T_runTripsAt_2_5 h a2) (ps_T_runTripsAt_2_5 h a2) ?_ NF (0, 0) hpl ?_
  · intro v1 hp hc1 hx1
    show am_Ev m_T_runTripsAt (WT ++ e1) ro P (5, [.ref 0, .ref 2, .int a2, .int v1.1, .int v1.2], [], h)
    refine am_Ev_G [21, 47] 400 _ ?_
    show ((¬ v1.2 < (h.1 0 11) → am_Ev m_T_runTripsAt (WT ++ e1) ro P (47, [.ref 0, .ref 2, .int a2, .int v1.1, .int v1.2], [], h)) ∧ (v1.2 < (h.1 0 11) → am_Ev m_T_runTripsAt (WT ++ e1) ro P (21, [.ref 0, .ref 2, .int a2, .int v1.1, .int v1.2], [.int (v_T_isRun h v1.2), .int v1.1], h)))
    refine ⟨fun c1 => ?_, fun c1 => ?_⟩
    · skip
      exact hx1 (v1.1, v1.2) (by unfold s_T_runTripsAt_2_5; simp only [if_neg c1])
    · skip
      have key2 : am_Ev m_T_runTripsAt (WT ++ e1) ro P (39, [.ref 0, .ref 2, .int a2, .int v1.1, .int v1.2], [.int (if (v_T_isRun h v1.2) = 0 then (0 : Int32) else (if (v_at 20 (h.1 2) v1.2) = a2 then (1 : Int32) else 0)), .int v1.1], h) := by
        refine am_Ev_G [5] 400 _ ?_
        show am_Ev m_T_runTripsAt (WT ++ e1) ro P (5, [.ref 0, .ref 2, .int a2, .int (v1.1 + (if (v_T_isRun h v1.2) = 0 then (0 : Int32) else (if (v_at 20 (h.1 2) v1.2) = a2 then (1 : Int32) else 0))), .int (v1.2 + 1)], [], h)
        exact hc1 ((v1.1 + (if (v_T_isRun h v1.2) = 0 then (0 : Int32) else (if (v_at 20 (h.1 2) v1.2) = a2 then (1 : Int32) else 0))), (v1.2 + 1)) (by unfold s_T_runTripsAt_2_5; simp only [if_pos c1])
      refine am_Ev_G [39] 400 _ ?_
      show (((v_T_isRun h v1.2) = 0 → am_Ev m_T_runTripsAt (WT ++ e1) ro P (39, [.ref 0, .ref 2, .int a2, .int v1.1, .int v1.2], [.int 0, .int v1.1], h)) ∧ (¬ (v_T_isRun h v1.2) = 0 → ((¬ (v_at 20 (h.1 2) v1.2) = a2 → am_Ev m_T_runTripsAt (WT ++ e1) ro P (39, [.ref 0, .ref 2, .int a2, .int v1.1, .int v1.2], [.int 0, .int v1.1], h)) ∧ ((v_at 20 (h.1 2) v1.2) = a2 → am_Ev m_T_runTripsAt (WT ++ e1) ro P (39, [.ref 0, .ref 2, .int a2, .int v1.1, .int v1.2], [.int 1, .int v1.1], h)))))
      refine ⟨fun c3 => ?_, fun c3 => ?_⟩
      · skip
        simpa only [if_pos c3] using key2
      · skip
        refine ⟨fun c4 => ?_, fun c4 => ?_⟩
        · skip
          simpa only [if_neg c3, if_neg c4] using key2
        · skip
          simpa only [if_neg c3, if_pos c4] using key2
  · intro r1 hr5
    show am_Ev m_T_runTripsAt (WT ++ e1) ro P (47, [.ref 0, .ref 2, .int a2, .int r1.1, .int r1.2], [], h)
    refine am_Ev_G [] 400 _ ?_
    show P (.inl (some (.int r1.1))) h
    exact hP r1.1 (by unfold v_T_runTripsAt_2; simp only [hr5])
set_option maxRecDepth 100000 in
theorem ev_T_runTripsAt_3 {e1 ro : List Sh} {P : AR → HP → Prop} (h : HP) (a2 : Int32) (hp : p_T_runTripsAt_3 h a2) (hP : ∀ q, v_T_runTripsAt_3 h a2 = q → RI P h q) : am_Ev m_T_runTripsAt (WT ++ e1) ro P (0, [.ref 0, .ref 3, .int a2, .retAddr 0, .retAddr 0], [], h) := by
  unfold p_T_runTripsAt_3 at hp
  refine am_Ev_G [5] 400 _ ?_
  show am_Ev m_T_runTripsAt (WT ++ e1) ro P (5, [.ref 0, .ref 3, .int a2, .int 0, .int 0], [], h)
  have hpl := hp
  refine am_itr (E := (fun (v1 : Int32 × Int32) => am_Ev m_T_runTripsAt (WT ++ e1) ro P (5, [.ref 0, .ref 3, .int a2, .int v1.1, .int v1.2], [], h))) (E' := (fun (r1 : Int32 × Int32) => am_Ev m_T_runTripsAt (WT ++ e1) ro P (47, [.ref 0, .ref 3, .int a2, .int r1.1, .int r1.2], [], h))) (s_T_runTripsAt_3_5 h a2) (ps_T_runTripsAt_3_5 h a2) ?_ NF (0, 0) hpl ?_
  · intro v1 hp hc1 hx1
    show am_Ev m_T_runTripsAt (WT ++ e1) ro P (5, [.ref 0, .ref 3, .int a2, .int v1.1, .int v1.2], [], h)
    refine am_Ev_G [21, 47] 400 _ ?_
    show ((¬ v1.2 < (h.1 0 11) → am_Ev m_T_runTripsAt (WT ++ e1) ro P (47, [.ref 0, .ref 3, .int a2, .int v1.1, .int v1.2], [], h)) ∧ (v1.2 < (h.1 0 11) → am_Ev m_T_runTripsAt (WT ++ e1) ro P (21, [.ref 0, .ref 3, .int a2, .int v1.1, .int v1.2], [.int (v_T_isRun h v1.2), .int v1.1], h)))
    refine ⟨fun c1 => ?_, fun c1 => ?_⟩
    · skip
      exact hx1 (v1.1, v1.2) (by unfold s_T_runTripsAt_3_5; simp only [if_neg c1])
    · skip
      have key2 : am_Ev m_T_runTripsAt (WT ++ e1) ro P (39, [.ref 0, .ref 3, .int a2, .int v1.1, .int v1.2], [.int (if (v_T_isRun h v1.2) = 0 then (0 : Int32) else (if (v_at 20 (h.1 3) v1.2) = a2 then (1 : Int32) else 0)), .int v1.1], h) := by
        refine am_Ev_G [5] 400 _ ?_
        show am_Ev m_T_runTripsAt (WT ++ e1) ro P (5, [.ref 0, .ref 3, .int a2, .int (v1.1 + (if (v_T_isRun h v1.2) = 0 then (0 : Int32) else (if (v_at 20 (h.1 3) v1.2) = a2 then (1 : Int32) else 0))), .int (v1.2 + 1)], [], h)
        exact hc1 ((v1.1 + (if (v_T_isRun h v1.2) = 0 then (0 : Int32) else (if (v_at 20 (h.1 3) v1.2) = a2 then (1 : Int32) else 0))), (v1.2 + 1)) (by unfold s_T_runTripsAt_3_5; simp only [if_pos c1])
      refine am_Ev_G [39] 400 _ ?_
      show (((v_T_isRun h v1.2) = 0 → am_Ev m_T_runTripsAt (WT ++ e1) ro P (39, [.ref 0, .ref 3, .int a2, .int v1.1, .int v1.2], [.int 0, .int v1.1], h)) ∧ (¬ (v_T_isRun h v1.2) = 0 → ((¬ (v_at 20 (h.1 3) v1.2) = a2 → am_Ev m_T_runTripsAt (WT ++ e1) ro P (39, [.ref 0, .ref 3, .int a2, .int v1.1, .int v1.2], [.int 0, .int v1.1], h)) ∧ ((v_at 20 (h.1 3) v1.2) = a2 → am_Ev m_T_runTripsAt (WT ++ e1) ro P (39, [.ref 0, .ref 3, .int a2, .int v1.1, .int v1.2], [.int 1, .int v1.1], h)))))
      refine ⟨fun c3 => ?_, fun c3 => ?_⟩
      · skip
        simpa only [if_pos c3] using key2
      · skip
        refine ⟨fun c4 => ?_, fun c4 => ?_⟩
        · skip
          simpa only [if_neg c3, if_neg c4] using key2
        · skip
          simpa only [if_neg c3, if_pos c4] using key2
  · intro r1 hr5
    show am_Ev m_T_runTripsAt (WT ++ e1) ro P (47, [.ref 0, .ref 3, .int a2, .int r1.1, .int r1.2], [], h)
    refine am_Ev_G [] 400 _ ?_
    show P (.inl (some (.int r1.1))) h
    exact hP r1.1 (by unfold v_T_runTripsAt_3; simp only [hr5])
theorem ok_T_runTripsAt {l : Launch} (hl : l.stackTraces = false) (e1 ro : List Sh) (k : Nat) : am_Ok l (WT ++ e1) ro (d_T_runTripsAt k) := by
  refine am_met hl (own := RX4) (M := m_T_runTripsAt) rfl pf_T_runTripsAt cu_T_runTripsAt rfl rfl rfl rfl (fun _ => rfl) rfl ⟨chk_T_runTripsAt, (am_c (fl_T_59) am_n), (am_c (lk_T_80) (am_c (lk_T_84) am_n)), (am_n), (am_n)⟩ (am_n) (am_c (ok_B_at hl _ _ 1) (am_c (ok_T_isRun hl e1 _ 14) am_n)) (fun z => nomatch z) ?_ ?_
  · intro _ as h hg
    show g_thr (g_T_runTripsAt (WT ++ e1) ro as h) = none
    unfold g_T_runTripsAt
    split
    · rename_i o1 o2 a2
      cases Nat.beq o1 0 && Nat.beq o2 2 with
      | true => rfl
      | false =>
        cases Nat.beq o1 0 && Nat.beq o2 3 with
        | true => rfl
        | false =>
          rfl
    · rfl
  · intro as h hg hp
    revert hg hp
    show g_ok (g_T_runTripsAt (WT ++ e1) ro as h) = true → g_pre (g_T_runTripsAt (WT ++ e1) ro as h) → _ ∧ am_Ev m_T_runTripsAt (WT ++ e1) ro (am_eq (g_T_runTripsAt (WT ++ e1) ro as h)) (0, am_ent as 5, [], h)
    unfold g_T_runTripsAt
    split
    · rename_i o1 o2 a2
      cases hc : (Nat.beq o1 0 && Nat.beq o2 2) with
      | true =>
        intro _ hp
        rw [Bool.and_eq_true] at hc
        obtain rfl := am_beq hc.1
        obtain rfl := am_beq hc.2
        exact ⟨Nat.le_of_ble_eq_true rfl, ev_T_runTripsAt_2 h a2 hp eqRI⟩
      | false =>
        cases hc : (Nat.beq o1 0 && Nat.beq o2 3) with
        | true =>
          intro _ hp
          rw [Bool.and_eq_true] at hc
          obtain rfl := am_beq hc.1
          obtain rfl := am_beq hc.2
          exact ⟨Nat.le_of_ble_eq_true rfl, ev_T_runTripsAt_3 h a2 hp eqRI⟩
        | false =>
          exact fun z => nomatch z
    · exact fun z => nomatch z
def k_T_underWayAt (pc : Nat) : Ent := bif Nat.ble 57 pc then am_nop else bif Nat.ble 26 pc then (bif Nat.ble 42 pc then (bif Nat.ble 48 pc then (bif Nat.ble 52 pc then (bif Nat.ble 55 pc then (bif Nat.ble 56 pc then (bif Nat.beq pc 56 then (.ireturn, 0, 0, []) else am_nop) else (bif Nat.beq pc 55 then (.iload_n 2, 0, 2, []) else am_nop)) else (bif Nat.beq pc 52 then (.goto (-48), 0, 4, []) else am_nop)) else (bif Nat.ble 49 pc then (bif Nat.beq pc 49 then (.iinc 3 1, 1, 3, []) else am_nop) else (bif Nat.beq pc 48 then (.istore_n 2, 0, 2, []) else am_nop))) else (bif Nat.ble 46 pc then (bif Nat.ble 47 pc then (bif Nat.beq pc 47 then (.iadd, 0, 0, []) else am_nop) else (bif Nat.beq pc 46 then (.iconst 0, 0, 0, []) else am_nop)) else (bif Nat.ble 43 pc then (bif Nat.beq pc 43 then (.goto 4, 0, 47, []) else am_nop) else (bif Nat.beq pc 42 then (.iconst 1, 1, 0, []) else am_nop)))) else (bif Nat.ble 34 pc then (bif Nat.ble 36 pc then (bif Nat.ble 39 pc then (bif Nat.beq pc 39 then (.if_icmp .ge 7, 0, 46, []) else am_nop) else (bif Nat.beq pc 36 then (.invokevirtual 98, 0, 0, []) else am_nop)) else (bif Nat.ble 35 pc then (bif Nat.beq pc 35 then (.iload_n 3, 0, 3, []) else am_nop) else (bif Nat.beq pc 34 then (.aload_n 0, 0, 0, []) else am_nop))) else (bif Nat.ble 30 pc then (bif Nat.ble 33 pc then (bif Nat.beq pc 33 then (.iload_n 1, 0, 1, []) else am_nop) else (bif Nat.beq pc 30 then (.if_icmp .gt 16, 0, 46, []) else am_nop)) else (bif Nat.ble 29 pc then (bif Nat.beq pc 29 then (.iload_n 1, 0, 1, []) else am_nop) else (bif Nat.beq pc 26 then (.invokestatic 80, 0, 0, []) else am_nop))))) else (bif Nat.ble 12 pc then (bif Nat.ble 18 pc then (bif Nat.ble 22 pc then (bif Nat.ble 25 pc then (bif Nat.beq pc 25 then (.iload_n 3, 0, 3, []) else am_nop) else (bif Nat.beq pc 22 then (.getfield 21, 0, 0, []) else am_nop)) else (bif Nat.ble 21 pc then (bif Nat.beq pc 21 then (.aload_n 0, 0, 0, []) else am_nop) else (bif Nat.beq pc 18 then (.ifCond .eq 28, 0, 46, []) else am_nop))) else (bif Nat.ble 14 pc then (bif Nat.ble 15 pc then (bif Nat.beq pc 15 then (.invokevirtual 84, 0, 0, []) else am_nop) else (bif Nat.beq pc 14 then (.iload_n 3, 0, 3, []) else am_nop)) else (bif Nat.ble 13 pc then (bif Nat.beq pc 13 then (.aload_n 0, 0, 0, []) else am_nop) else (bif Nat.beq pc 12 then (.iload_n 2, 0, 2, []) else am_nop)))) else (bif Nat.ble 4 pc then (bif Nat.ble 6 pc then (bif Nat.ble 9 pc then (bif Nat.beq pc 9 then (.if_icmp .ge 46, 0, 55, []) else am_nop) else (bif Nat.beq pc 6 then (.getfield 59, 0, 0, []) else am_nop)) else (bif Nat.ble 5 pc then (bif Nat.beq pc 5 then (.aload_n 0, 0, 0, []) else am_nop) else (bif Nat.beq pc 4 then (.iload_n 3, 0, 3, []) else am_nop))) else (bif Nat.ble 2 pc then (bif Nat.ble 3 pc then (bif Nat.beq pc 3 then (.istore_n 3, 0, 3, []) else am_nop) else (bif Nat.beq pc 2 then (.iconst 0, 0, 0, []) else am_nop)) else (bif Nat.ble 1 pc then (bif Nat.beq pc 1 then (.istore_n 2, 0, 2, []) else am_nop) else (bif Nat.beq pc 0 then (.iconst 0, 0, 0, []) else am_nop)))))
theorem lk_T_98 : am_lnk RX4 98 (d_T_arrivalOf 14) := ⟨⟨by decide, by decide⟩, am_tb 2 (by decide +kernel) rfl, Or.inr ⟨by decide, rfl, am_tb 381 (by decide +kernel) rfl, am_tp 12 (by decide +kernel) rfl, ⟨TX4, 15, rfl⟩, Or.inl (am_tb 379 (by decide +kernel) rfl)⟩⟩
def m_T_underWayAt : MI := (k_T_underWayAt, [(21, 4, 3), (59, 4, 11)], [(80, d_B_at 1), (84, d_T_isRun 14), (98, d_T_arrivalOf 14)], [], [], [], [], 2, 46, some .int, fun _ => 0, 1)
def s_T_underWayAt_4 (h : HP) (a1 : Int32) (v1 : Int32 × Int32) : (Int32 × Int32) ⊕ (Int32 × Int32) := (if v1.2 < (h.1 0 11) then (.inl ((v1.1 + (if (v_T_isRun h v1.2) = 0 then (0 : Int32) else (if (v_at 20 (h.1 4) v1.2) ≤ a1 then (if a1 < (v_T_arrivalOf h v1.2) then (1 : Int32) else 0) else 0))), (v1.2 + 1))) else (.inr (v1.1, v1.2)))
def ps_T_underWayAt_4 (h : HP) (a1 : Int32) (v1 : Int32 × Int32) : Prop := True
def v_T_underWayAt (h : HP) (a1 : Int32) : Int32 := (match itr (s_T_underWayAt_4 h a1) NF (0, 0) with | some r1 => r1.1 | none => 0)
def p_T_underWayAt (h : HP) (a1 : Int32) : Prop := (itrp (s_T_underWayAt_4 h a1) (ps_T_underWayAt_4 h a1) NF (0, 0))
def g_T_underWayAt (_ _ : List Sh) (as : List Value) (h : HP) : GR := match as with
  | [.ref o1, .int a1] => (Nat.beq o1 0, p_T_underWayAt h a1, none, some (.int (v_T_underWayAt h a1)), h)
  | _ => bad h
def d_T_underWayAt (k : Nat) : CD := (k, yX4_underWayAt, cX4_underWayAt, 4, some .int, 2, 2, 46, 0, false, true, g_T_underWayAt)
theorem chk_T_underWayAt : ∀ pc, am_chk cX4_underWayAt k_T_underWayAt pc = true := am_chkall 57 (by decide +kernel) (fun pc h => by unfold k_T_underWayAt; rw [Nat.ble_eq_true_of_le h]; rfl)
theorem pf_T_underWayAt : plainFor yX4_underWayAt = true := by decide +kernel
theorem cu_T_underWayAt : Cond.code yX4_underWayAt cX4_underWayAt 4 (some .int) ∈ am_U := am_tb 484 (by decide +kernel) rfl
set_option maxRecDepth 100000 in
theorem ev_T_underWayAt {e1 ro : List Sh} {P : AR → HP → Prop} (h : HP) (a1 : Int32) (hp : p_T_underWayAt h a1) (hP : ∀ q, v_T_underWayAt h a1 = q → RI P h q) : am_Ev m_T_underWayAt (WT ++ e1) ro P (0, [.ref 0, .int a1, .retAddr 0, .retAddr 0], [], h) := by
  unfold p_T_underWayAt at hp
  refine am_Ev_G [4] 400 _ ?_
  show am_Ev m_T_underWayAt (WT ++ e1) ro P (4, [.ref 0, .int a1, .int 0, .int 0], [], h)
  have hpl := hp
  refine am_itr (E := (fun (v1 : Int32 × Int32) => am_Ev m_T_underWayAt (WT ++ e1) ro P (4, [.ref 0, .int a1, .int v1.1, .int v1.2], [], h))) (E' := (fun (r1 : Int32 × Int32) => am_Ev m_T_underWayAt (WT ++ e1) ro P (55, [.ref 0, .int a1, .int r1.1, .int r1.2], [], h))) (s_T_underWayAt_4 h a1) (ps_T_underWayAt_4 h a1) ?_ NF (0, 0) hpl ?_
  · intro v1 hp hc1 hx1
    show am_Ev m_T_underWayAt (WT ++ e1) ro P (4, [.ref 0, .int a1, .int v1.1, .int v1.2], [], h)
    refine am_Ev_G [18, 55] 400 _ ?_
    show ((¬ v1.2 < (h.1 0 11) → am_Ev m_T_underWayAt (WT ++ e1) ro P (55, [.ref 0, .int a1, .int v1.1, .int v1.2], [], h)) ∧ (v1.2 < (h.1 0 11) → am_Ev m_T_underWayAt (WT ++ e1) ro P (18, [.ref 0, .int a1, .int v1.1, .int v1.2], [.int (v_T_isRun h v1.2), .int v1.1], h)))
    refine ⟨fun c1 => ?_, fun c1 => ?_⟩
    · skip
      exact hx1 (v1.1, v1.2) (by unfold s_T_underWayAt_4; simp only [if_neg c1])
    · skip
      have key2 : am_Ev m_T_underWayAt (WT ++ e1) ro P (47, [.ref 0, .int a1, .int v1.1, .int v1.2], [.int (if (v_T_isRun h v1.2) = 0 then (0 : Int32) else (if (v_at 20 (h.1 4) v1.2) ≤ a1 then (if a1 < (v_T_arrivalOf h v1.2) then (1 : Int32) else 0) else 0)), .int v1.1], h) := by
        refine am_Ev_G [4] 400 _ ?_
        show am_Ev m_T_underWayAt (WT ++ e1) ro P (4, [.ref 0, .int a1, .int (v1.1 + (if (v_T_isRun h v1.2) = 0 then (0 : Int32) else (if (v_at 20 (h.1 4) v1.2) ≤ a1 then (if a1 < (v_T_arrivalOf h v1.2) then (1 : Int32) else 0) else 0))), .int (v1.2 + 1)], [], h)
        exact hc1 ((v1.1 + (if (v_T_isRun h v1.2) = 0 then (0 : Int32) else (if (v_at 20 (h.1 4) v1.2) ≤ a1 then (if a1 < (v_T_arrivalOf h v1.2) then (1 : Int32) else 0) else 0))), (v1.2 + 1)) (by unfold s_T_underWayAt_4; simp only [if_pos c1])
      refine am_Ev_G [47] 400 _ ?_
      show (((v_T_isRun h v1.2) = 0 → am_Ev m_T_underWayAt (WT ++ e1) ro P (47, [.ref 0, .int a1, .int v1.1, .int v1.2], [.int 0, .int v1.1], h)) ∧ (¬ (v_T_isRun h v1.2) = 0 → ((¬ (v_at 20 (h.1 4) v1.2) ≤ a1 → am_Ev m_T_underWayAt (WT ++ e1) ro P (47, [.ref 0, .int a1, .int v1.1, .int v1.2], [.int 0, .int v1.1], h)) ∧ ((v_at 20 (h.1 4) v1.2) ≤ a1 → ((¬ a1 < (v_T_arrivalOf h v1.2) → am_Ev m_T_underWayAt (WT ++ e1) ro P (47, [.ref 0, .int a1, .int v1.1, .int v1.2], [.int 0, .int v1.1], h)) ∧ (a1 < (v_T_arrivalOf h v1.2) → am_Ev m_T_underWayAt (WT ++ e1) ro P (47, [.ref 0, .int a1, .int v1.1, .int v1.2], [.int 1, .int v1.1], h)))))))
      refine ⟨fun c3 => ?_, fun c3 => ?_⟩
      · skip
        simpa only [if_pos c3] using key2
      · skip
        refine ⟨fun c4 => ?_, fun c4 => ?_⟩
        · skip
          simpa only [if_neg c3, if_neg c4] using key2
        · skip
          refine ⟨fun c5 => ?_, fun c5 => ?_⟩
          · skip
            simpa only [if_neg c3, if_pos c4, if_neg c5] using key2
          · skip
            simpa only [if_neg c3, if_pos c4, if_pos c5] using key2
  · intro r1 hr6
    show am_Ev m_T_underWayAt (WT ++ e1) ro P (55, [.ref 0, .int a1, .int r1.1, .int r1.2], [], h)
    refine am_Ev_G [] 400 _ ?_
    show P (.inl (some (.int r1.1))) h
    exact hP r1.1 (by unfold v_T_underWayAt; simp only [hr6])
theorem ok_T_underWayAt {l : Launch} (hl : l.stackTraces = false) (e1 ro : List Sh) (k : Nat) : am_Ok l (WT ++ e1) ro (d_T_underWayAt k) := by
  refine am_met hl (own := RX4) (M := m_T_underWayAt) rfl pf_T_underWayAt cu_T_underWayAt rfl rfl rfl rfl (fun _ => rfl) rfl ⟨chk_T_underWayAt, (am_c (fl_T_21) (am_c (fl_T_59) am_n)), (am_c (lk_T_80) (am_c (lk_T_84) (am_c (lk_T_98) am_n))), (am_n), (am_n)⟩ (am_n) (am_c (ok_B_at hl _ _ 1) (am_c (ok_T_isRun hl e1 _ 14) (am_c (ok_T_arrivalOf hl e1 _ 14) am_n))) (fun z => nomatch z) ?_ ?_
  · intro _ as h hg
    show g_thr (g_T_underWayAt (WT ++ e1) ro as h) = none
    unfold g_T_underWayAt
    split <;> rfl
  · intro as h hg hp
    revert hg hp
    show g_ok (g_T_underWayAt (WT ++ e1) ro as h) = true → g_pre (g_T_underWayAt (WT ++ e1) ro as h) → _ ∧ am_Ev m_T_underWayAt (WT ++ e1) ro (am_eq (g_T_underWayAt (WT ++ e1) ro as h)) (0, am_ent as 4, [], h)
    unfold g_T_underWayAt
    split
    · rename_i o1 a1
      intro hc hp
      change (Nat.beq o1 0) = true at hc
      obtain rfl := am_beq hc
      exact ⟨Nat.le_of_ble_eq_true rfl, ev_T_underWayAt h a1 hp eqRI⟩
    · exact fun z => nomatch z
def k_T_mostUnderWay (pc : Nat) : Ent := bif Nat.ble 45 pc then am_nop else bif Nat.ble 20 pc then (bif Nat.ble 30 pc then (bif Nat.ble 37 pc then (bif Nat.ble 43 pc then (bif Nat.ble 44 pc then (bif Nat.beq pc 44 then (.ireturn, 0, 0, []) else am_nop) else (bif Nat.beq pc 43 then (.iload_n 1, 0, 1, []) else am_nop)) else (bif Nat.ble 40 pc then (bif Nat.beq pc 40 then (.goto (-36), 0, 4, []) else am_nop) else (bif Nat.beq pc 37 then (.iinc 2 1, 1, 2, []) else am_nop))) else (bif Nat.ble 33 pc then (bif Nat.ble 36 pc then (bif Nat.beq pc 36 then (.istore_n 1, 0, 1, []) else am_nop) else (bif Nat.beq pc 33 then (.invokestatic 92, 0, 0, []) else am_nop)) else (bif Nat.beq pc 30 then (.invokevirtual 88, 0, 0, []) else am_nop))) else (bif Nat.ble 23 pc then (bif Nat.ble 26 pc then (bif Nat.ble 27 pc then (bif Nat.beq pc 27 then (.invokestatic 80, 0, 0, []) else am_nop) else (bif Nat.beq pc 26 then (.iload_n 2, 0, 2, []) else am_nop)) else (bif Nat.beq pc 23 then (.getfield 21, 0, 0, []) else am_nop)) else (bif Nat.ble 21 pc then (bif Nat.ble 22 pc then (bif Nat.beq pc 22 then (.aload_n 0, 0, 0, []) else am_nop) else (bif Nat.beq pc 21 then (.aload_n 0, 0, 0, []) else am_nop)) else (bif Nat.beq pc 20 then (.iload_n 1, 0, 1, []) else am_nop)))) else (bif Nat.ble 6 pc then (bif Nat.ble 13 pc then (bif Nat.ble 14 pc then (bif Nat.ble 17 pc then (bif Nat.beq pc 17 then (.ifCond .eq 20, 0, 37, []) else am_nop) else (bif Nat.beq pc 14 then (.invokevirtual 84, 0, 0, []) else am_nop)) else (bif Nat.beq pc 13 then (.iload_n 2, 0, 2, []) else am_nop)) else (bif Nat.ble 9 pc then (bif Nat.ble 12 pc then (bif Nat.beq pc 12 then (.aload_n 0, 0, 0, []) else am_nop) else (bif Nat.beq pc 9 then (.if_icmp .ge 34, 0, 43, []) else am_nop)) else (bif Nat.beq pc 6 then (.getfield 59, 0, 0, []) else am_nop))) else (bif Nat.ble 3 pc then (bif Nat.ble 4 pc then (bif Nat.ble 5 pc then (bif Nat.beq pc 5 then (.aload_n 0, 0, 0, []) else am_nop) else (bif Nat.beq pc 4 then (.iload_n 2, 0, 2, []) else am_nop)) else (bif Nat.beq pc 3 then (.istore_n 2, 0, 2, []) else am_nop)) else (bif Nat.ble 1 pc then (bif Nat.ble 2 pc then (bif Nat.beq pc 2 then (.iconst 0, 0, 0, []) else am_nop) else (bif Nat.beq pc 1 then (.istore_n 1, 0, 1, []) else am_nop)) else (bif Nat.beq pc 0 then (.iconst 0, 0, 0, []) else am_nop))))
theorem lk_T_88 : am_lnk RX4 88 (d_T_underWayAt 14) := ⟨⟨by decide, by decide⟩, am_tb 2 (by decide +kernel) rfl, Or.inr ⟨by decide, rfl, am_tb 483 (by decide +kernel) rfl, am_tp 30 (by decide +kernel) rfl, ⟨TX4, 15, rfl⟩, Or.inl (am_tb 481 (by decide +kernel) rfl)⟩⟩
theorem lk_T_92 : am_lnk RX4 92 (d_J_max 0) := ⟨⟨by decide, by decide⟩, am_tb 7 (by decide +kernel) rfl, Or.inl ⟨by decide, rfl, am_tb 182 (by decide +kernel) rfl, Or.inl ⟨by decide, am_tb 476 (by decide +kernel) rfl⟩⟩⟩
def m_T_mostUnderWay : MI := (k_T_mostUnderWay, [(21, 4, 3), (59, 4, 11)], [(80, d_B_at 1), (84, d_T_isRun 14), (88, d_T_underWayAt 14), (92, d_J_max 0)], [], [], [], [], 3, 71, some .int, fun _ => 0, 1)
def s_T_mostUnderWay_4 (h : HP) (v1 : Int32 × Int32) : (Int32 × Int32) ⊕ (Int32 × Int32) := (if v1.2 < (h.1 0 11) then (.inl ((if (v_T_isRun h v1.2) = 0 then v1.1 else (v_max v1.1 (v_T_underWayAt h (v_at 20 (h.1 4) v1.2)))), (v1.2 + 1))) else (.inr (v1.1, v1.2)))
def ps_T_mostUnderWay_4 (h : HP) (v1 : Int32 × Int32) : Prop := ((v1.2 < (h.1 0 11) → (((v_T_isRun h v1.2) = 0 → True) ∧ (¬ (v_T_isRun h v1.2) = 0 → (p_T_underWayAt h (v_at 20 (h.1 4) v1.2))))) ∧ (¬ v1.2 < (h.1 0 11) → True))
def v_T_mostUnderWay (h : HP) : Int32 := (match itr (s_T_mostUnderWay_4 h) NF (0, 0) with | some r1 => r1.1 | none => 0)
def p_T_mostUnderWay (h : HP) : Prop := (itrp (s_T_mostUnderWay_4 h) (ps_T_mostUnderWay_4 h) NF (0, 0))
def g_T_mostUnderWay (_ _ : List Sh) (as : List Value) (h : HP) : GR := match as with
  | [.ref o1] => (Nat.beq o1 0, p_T_mostUnderWay h, none, some (.int (v_T_mostUnderWay h)), h)
  | _ => bad h
def d_T_mostUnderWay (k : Nat) : CD := (k, yX4_mostUnderWay, cX4_mostUnderWay, 3, some .int, 1, 3, 71, 0, false, true, g_T_mostUnderWay)
theorem chk_T_mostUnderWay : ∀ pc, am_chk cX4_mostUnderWay k_T_mostUnderWay pc = true := am_chkall 45 (by decide +kernel) (fun pc h => by unfold k_T_mostUnderWay; rw [Nat.ble_eq_true_of_le h]; rfl)
theorem pf_T_mostUnderWay : plainFor yX4_mostUnderWay = true := by decide +kernel
theorem cu_T_mostUnderWay : Cond.code yX4_mostUnderWay cX4_mostUnderWay 3 (some .int) ∈ am_U := am_tb 480 (by decide +kernel) rfl
set_option maxRecDepth 100000 in
theorem ev_T_mostUnderWay {e1 ro : List Sh} {P : AR → HP → Prop} (h : HP) (hp : p_T_mostUnderWay h) (hP : ∀ q, v_T_mostUnderWay h = q → RI P h q) : am_Ev m_T_mostUnderWay (WT ++ e1) ro P (0, [.ref 0, .retAddr 0, .retAddr 0], [], h) := by
  unfold p_T_mostUnderWay at hp
  refine am_Ev_G [4] 400 _ ?_
  show am_Ev m_T_mostUnderWay (WT ++ e1) ro P (4, [.ref 0, .int 0, .int 0], [], h)
  have hpl := hp
  refine am_itr (E := (fun (v1 : Int32 × Int32) => am_Ev m_T_mostUnderWay (WT ++ e1) ro P (4, [.ref 0, .int v1.1, .int v1.2], [], h))) (E' := (fun (r1 : Int32 × Int32) => am_Ev m_T_mostUnderWay (WT ++ e1) ro P (43, [.ref 0, .int r1.1, .int r1.2], [], h))) (s_T_mostUnderWay_4 h) (ps_T_mostUnderWay_4 h) ?_ NF (0, 0) hpl ?_
  · intro v1 hp hc1 hx1
    show am_Ev m_T_mostUnderWay (WT ++ e1) ro P (4, [.ref 0, .int v1.1, .int v1.2], [], h)
    unfold ps_T_mostUnderWay_4 at hp
    refine am_Ev_G [17, 43] 400 _ ?_
    show ((¬ v1.2 < (h.1 0 11) → am_Ev m_T_mostUnderWay (WT ++ e1) ro P (43, [.ref 0, .int v1.1, .int v1.2], [], h)) ∧ (v1.2 < (h.1 0 11) → am_Ev m_T_mostUnderWay (WT ++ e1) ro P (17, [.ref 0, .int v1.1, .int v1.2], [.int (v_T_isRun h v1.2)], h)))
    refine ⟨fun c1 => ?_, fun c1 => ?_⟩
    · skip
      exact hx1 (v1.1, v1.2) (by unfold s_T_mostUnderWay_4; simp only [if_neg c1])
    · have hp := hp.1 c1
      have hpa := hp
      have key2 : am_Ev m_T_mostUnderWay (WT ++ e1) ro P (37, [.ref 0, .int (if (v_T_isRun h v1.2) = 0 then v1.1 else (v_max v1.1 (v_T_underWayAt h (v_at 20 (h.1 4) v1.2)))), .int v1.2], [], h) := by
        refine am_Ev_G [4] 400 _ ?_
        show am_Ev m_T_mostUnderWay (WT ++ e1) ro P (4, [.ref 0, .int (if (v_T_isRun h v1.2) = 0 then v1.1 else (v_max v1.1 (v_T_underWayAt h (v_at 20 (h.1 4) v1.2)))), .int (v1.2 + 1)], [], h)
        exact hc1 ((if (v_T_isRun h v1.2) = 0 then v1.1 else (v_max v1.1 (v_T_underWayAt h (v_at 20 (h.1 4) v1.2)))), (v1.2 + 1)) (by unfold s_T_mostUnderWay_4; simp only [if_pos c1])
      have hp := hpa
      refine am_Ev_G [37] 400 _ ?_
      show (((v_T_isRun h v1.2) = 0 → am_Ev m_T_mostUnderWay (WT ++ e1) ro P (37, [.ref 0, .int v1.1, .int v1.2], [], h)) ∧ (¬ (v_T_isRun h v1.2) = 0 → ((p_T_underWayAt h (v_at 20 (h.1 4) v1.2)) ∧ am_Ev m_T_mostUnderWay (WT ++ e1) ro P (37, [.ref 0, .int (v_max v1.1 (v_T_underWayAt h (v_at 20 (h.1 4) v1.2))), .int v1.2], [], h))))
      refine ⟨fun c3 => ?_, fun c3 => ?_⟩
      · skip
        simpa only [if_pos c3] using key2
      · have hp := hp.2 c3
        refine ⟨hp, ?_⟩
        simpa only [if_neg c3] using key2
  · intro r1 hr4
    show am_Ev m_T_mostUnderWay (WT ++ e1) ro P (43, [.ref 0, .int r1.1, .int r1.2], [], h)
    refine am_Ev_G [] 400 _ ?_
    show P (.inl (some (.int r1.1))) h
    exact hP r1.1 (by unfold v_T_mostUnderWay; simp only [hr4])
theorem ok_T_mostUnderWay {l : Launch} (hl : l.stackTraces = false) (e1 ro : List Sh) (k : Nat) : am_Ok l (WT ++ e1) ro (d_T_mostUnderWay k) := by
  refine am_met hl (own := RX4) (M := m_T_mostUnderWay) rfl pf_T_mostUnderWay cu_T_mostUnderWay rfl rfl rfl rfl (fun _ => rfl) rfl ⟨chk_T_mostUnderWay, (am_c (fl_T_21) (am_c (fl_T_59) am_n)), (am_c (lk_T_80) (am_c (lk_T_84) (am_c (lk_T_88) (am_c (lk_T_92) am_n)))), (am_n), (am_n)⟩ (am_n) (am_c (ok_B_at hl _ _ 1) (am_c (ok_T_isRun hl e1 _ 14) (am_c (ok_T_underWayAt hl e1 _ 14) (am_c (ok_J_max hl _ _ 0) am_n)))) (fun z => nomatch z) ?_ ?_
  · intro _ as h hg
    show g_thr (g_T_mostUnderWay (WT ++ e1) ro as h) = none
    unfold g_T_mostUnderWay
    split <;> rfl
  · intro as h hg hp
    revert hg hp
    show g_ok (g_T_mostUnderWay (WT ++ e1) ro as h) = true → g_pre (g_T_mostUnderWay (WT ++ e1) ro as h) → _ ∧ am_Ev m_T_mostUnderWay (WT ++ e1) ro (am_eq (g_T_mostUnderWay (WT ++ e1) ro as h)) (0, am_ent as 3, [], h)
    unfold g_T_mostUnderWay
    split
    · rename_i o1
      intro hc hp
      change (Nat.beq o1 0) = true at hc
      obtain rfl := am_beq hc
      exact ⟨Nat.le_of_ble_eq_true rfl, ev_T_mostUnderWay h hp eqRI⟩
    · exact fun z => nomatch z
def k_T_reasonAgainst (pc : Nat) : Ent := bif Nat.ble 119 pc then am_nop else bif Nat.ble 57 pc then (bif Nat.ble 87 pc then (bif Nat.ble 103 pc then (bif Nat.ble 113 pc then (bif Nat.ble 117 pc then (bif Nat.ble 118 pc then (bif Nat.beq pc 118 then (.ireturn, 0, 0, []) else am_nop) else (bif Nat.beq pc 117 then (.iconst 0, 0, 0, []) else am_nop)) else (bif Nat.ble 114 pc then (bif Nat.beq pc 114 then (.goto 4, 0, 118, []) else am_nop) else (bif Nat.beq pc 113 then (.iconst 5, 5, 0, []) else am_nop))) else (bif Nat.ble 107 pc then (bif Nat.ble 110 pc then (bif Nat.beq pc 110 then (.if_icmp .eq 7, 0, 117, []) else am_nop) else (bif Nat.beq pc 107 then (.invokestatic 80, 0, 0, []) else am_nop)) else (bif Nat.ble 106 pc then (bif Nat.beq pc 106 then (.iload_n 2, 0, 2, []) else am_nop) else (bif Nat.beq pc 103 then (.getfield 9, 0, 0, []) else am_nop)))) else (bif Nat.ble 95 pc then (bif Nat.ble 99 pc then (bif Nat.ble 102 pc then (bif Nat.beq pc 102 then (.aload_n 0, 0, 0, []) else am_nop) else (bif Nat.beq pc 99 then (.invokestatic 80, 0, 0, []) else am_nop)) else (bif Nat.ble 98 pc then (bif Nat.beq pc 98 then (.iload_n 1, 0, 1, []) else am_nop) else (bif Nat.beq pc 95 then (.getfield 9, 0, 0, []) else am_nop))) else (bif Nat.ble 91 pc then (bif Nat.ble 94 pc then (bif Nat.beq pc 94 then (.aload_n 0, 0, 0, []) else am_nop) else (bif Nat.beq pc 91 then (.ifCond .ne 26, 0, 117, []) else am_nop)) else (bif Nat.ble 88 pc then (bif Nat.beq pc 88 then (.invokestatic 80, 0, 0, []) else am_nop) else (bif Nat.beq pc 87 then (.iconst 0, 0, 0, []) else am_nop))))) else (bif Nat.ble 73 pc then (bif Nat.ble 81 pc then (bif Nat.ble 83 pc then (bif Nat.ble 84 pc then (bif Nat.beq pc 84 then (.getfield 56, 0, 0, []) else am_nop) else (bif Nat.beq pc 83 then (.aload_n 0, 0, 0, []) else am_nop)) else (bif Nat.ble 82 pc then (bif Nat.beq pc 82 then (.ireturn, 0, 0, []) else am_nop) else (bif Nat.beq pc 81 then (.iconst 4, 4, 0, []) else am_nop))) else (bif Nat.ble 75 pc then (bif Nat.ble 78 pc then (bif Nat.beq pc 78 then (.if_icmp .ge 5, 0, 83, []) else am_nop) else (bif Nat.beq pc 75 then (.invokevirtual 101, 0, 0, []) else am_nop)) else (bif Nat.ble 74 pc then (bif Nat.beq pc 74 then (.iload_n 2, 0, 2, []) else am_nop) else (bif Nat.beq pc 73 then (.aload_n 0, 0, 0, []) else am_nop)))) else (bif Nat.ble 65 pc then (bif Nat.ble 69 pc then (bif Nat.ble 70 pc then (bif Nat.beq pc 70 then (.invokestatic 80, 0, 0, []) else am_nop) else (bif Nat.beq pc 69 then (.iload_n 1, 0, 1, []) else am_nop)) else (bif Nat.ble 66 pc then (bif Nat.beq pc 66 then (.getfield 21, 0, 0, []) else am_nop) else (bif Nat.beq pc 65 then (.aload_n 0, 0, 0, []) else am_nop))) else (bif Nat.ble 63 pc then (bif Nat.ble 64 pc then (bif Nat.beq pc 64 then (.ireturn, 0, 0, []) else am_nop) else (bif Nat.beq pc 63 then (.iconst 3, 3, 0, []) else am_nop)) else (bif Nat.ble 60 pc then (bif Nat.beq pc 60 then (.if_icmp .eq 5, 0, 65, []) else am_nop) else (bif Nat.beq pc 57 then (.invokestatic 80, 0, 0, []) else am_nop)))))) else (bif Nat.ble 27 pc then (bif Nat.ble 43 pc then (bif Nat.ble 49 pc then (bif Nat.ble 53 pc then (bif Nat.ble 56 pc then (bif Nat.beq pc 56 then (.iload_n 2, 0, 2, []) else am_nop) else (bif Nat.beq pc 53 then (.getfield 18, 0, 0, []) else am_nop)) else (bif Nat.ble 52 pc then (bif Nat.beq pc 52 then (.aload_n 0, 0, 0, []) else am_nop) else (bif Nat.beq pc 49 then (.invokestatic 80, 0, 0, []) else am_nop))) else (bif Nat.ble 45 pc then (bif Nat.ble 48 pc then (bif Nat.beq pc 48 then (.iload_n 1, 0, 1, []) else am_nop) else (bif Nat.beq pc 45 then (.getfield 15, 0, 0, []) else am_nop)) else (bif Nat.ble 44 pc then (bif Nat.beq pc 44 then (.aload_n 0, 0, 0, []) else am_nop) else (bif Nat.beq pc 43 then (.ireturn, 0, 0, []) else am_nop)))) else (bif Nat.ble 35 pc then (bif Nat.ble 39 pc then (bif Nat.ble 42 pc then (bif Nat.beq pc 42 then (.iconst 2, 2, 0, []) else am_nop) else (bif Nat.beq pc 39 then (.if_icmp .eq 5, 0, 44, []) else am_nop)) else (bif Nat.ble 38 pc then (bif Nat.beq pc 38 then (.iconst (-1), (-1 : Int32), 0, []) else am_nop) else (bif Nat.beq pc 35 then (.invokestatic 80, 0, 0, []) else am_nop))) else (bif Nat.ble 31 pc then (bif Nat.ble 34 pc then (bif Nat.beq pc 34 then (.iload_n 1, 0, 1, []) else am_nop) else (bif Nat.beq pc 31 then (.getfield 27, 0, 0, []) else am_nop)) else (bif Nat.ble 30 pc then (bif Nat.beq pc 30 then (.aload_n 0, 0, 0, []) else am_nop) else (bif Nat.beq pc 27 then (.if_icmp .ne 15, 0, 42, []) else am_nop))))) else (bif Nat.ble 13 pc then (bif Nat.ble 19 pc then (bif Nat.ble 23 pc then (bif Nat.ble 26 pc then (bif Nat.beq pc 26 then (.iconst (-1), (-1 : Int32), 0, []) else am_nop) else (bif Nat.beq pc 23 then (.invokestatic 80, 0, 0, []) else am_nop)) else (bif Nat.ble 22 pc then (bif Nat.beq pc 22 then (.iload_n 2, 0, 2, []) else am_nop) else (bif Nat.beq pc 19 then (.getfield 30, 0, 0, []) else am_nop))) else (bif Nat.ble 17 pc then (bif Nat.ble 18 pc then (bif Nat.beq pc 18 then (.aload_n 0, 0, 0, []) else am_nop) else (bif Nat.beq pc 17 then (.ireturn, 0, 0, []) else am_nop)) else (bif Nat.ble 16 pc then (bif Nat.beq pc 16 then (.iconst 1, 1, 0, []) else am_nop) else (bif Nat.beq pc 13 then (.ifCond .ne 5, 0, 18, []) else am_nop)))) else (bif Nat.ble 5 pc then (bif Nat.ble 9 pc then (bif Nat.ble 10 pc then (bif Nat.beq pc 10 then (.invokevirtual 84, 0, 0, []) else am_nop) else (bif Nat.beq pc 9 then (.iload_n 2, 0, 2, []) else am_nop)) else (bif Nat.ble 8 pc then (bif Nat.beq pc 8 then (.aload_n 0, 0, 0, []) else am_nop) else (bif Nat.beq pc 5 then (.ifCond .eq 11, 0, 16, []) else am_nop))) else (bif Nat.ble 1 pc then (bif Nat.ble 2 pc then (bif Nat.beq pc 2 then (.invokevirtual 84, 0, 0, []) else am_nop) else (bif Nat.beq pc 1 then (.iload_n 1, 0, 1, []) else am_nop)) else (bif Nat.beq pc 0 then (.aload_n 0, 0, 0, []) else am_nop)))))
theorem fl_T_56 : am_fok RX4 56 (4, 10) := ⟨RX4, TX4, 15, rfl, by decide, rfl, Or.inl (am_tb 72 (by decide +kernel) rfl)⟩
theorem lk_T_101 : am_lnk RX4 101 (d_T_readyOf 14) := ⟨⟨by decide, by decide⟩, am_tb 2 (by decide +kernel) rfl, Or.inr ⟨by decide, rfl, am_tb 377 (by decide +kernel) rfl, am_tp 11 (by decide +kernel) rfl, ⟨TX4, 15, rfl⟩, Or.inl (am_tb 375 (by decide +kernel) rfl)⟩⟩
def m_T_reasonAgainst : MI := (k_T_reasonAgainst, [(9, 4, 0), (15, 4, 1), (18, 4, 2), (21, 4, 3), (27, 4, 5), (30, 4, 6), (56, 4, 10)], [(80, d_B_at 1), (84, d_T_isRun 14), (101, d_T_readyOf 14)], [], [], [], [], 2, 46, some .int, fun _ => 0, 1)
def v_T_reasonAgainst (h : HP) (a1 : Int32) (a2 : Int32) : Int32 := (if (v_T_isRun h a1) = 0 then 1 else (if (v_T_isRun h a2) = 0 then 1 else (if (v_at 20 (h.1 7) a2) = (-1 : Int32) then (if (v_at 20 (h.1 6) a1) = (-1 : Int32) then (if (v_at 20 (h.1 2) a1) = (v_at 20 (h.1 3) a2) then (if (v_at 20 (h.1 4) a1) < (v_T_readyOf h a2) then 4 else (if (v_at 4 (h.1 11) 0) = 0 then (if (v_at 20 (h.1 1) a1) = (v_at 20 (h.1 1) a2) then (0 : Int32) else 5) else 0)) else 3) else 2) else 2)))
def g_T_reasonAgainst (_ _ : List Sh) (as : List Value) (h : HP) : GR := match as with
  | [.ref o1, .int a1, .int a2] => (Nat.beq o1 0, True, none, some (.int (v_T_reasonAgainst h a1 a2)), h)
  | _ => bad h
def d_T_reasonAgainst (k : Nat) : CD := (k, yX4_reasonAgainst, cX4_reasonAgainst, 3, some .int, 3, 2, 46, 0, false, false, g_T_reasonAgainst)
theorem chk_T_reasonAgainst : ∀ pc, am_chk cX4_reasonAgainst k_T_reasonAgainst pc = true := am_chkall 119 (by decide +kernel) (fun pc h => by unfold k_T_reasonAgainst; rw [Nat.ble_eq_true_of_le h]; rfl)
theorem pf_T_reasonAgainst : plainFor yX4_reasonAgainst = true := by decide +kernel
theorem cu_T_reasonAgainst : Cond.code yX4_reasonAgainst cX4_reasonAgainst 3 (some .int) ∈ am_U := am_tb 374 (by decide +kernel) rfl
set_option maxRecDepth 100000 in
theorem ev_T_reasonAgainst {e1 ro : List Sh} {P : AR → HP → Prop} (h : HP) (a1 : Int32) (a2 : Int32) (hP : ∀ q, v_T_reasonAgainst h a1 a2 = q → RI P h q) : am_Ev m_T_reasonAgainst (WT ++ e1) ro P (0, [.ref 0, .int a1, .int a2], [], h) := by
  refine am_Ev_G [13] 400 _ ?_
  show (((v_T_isRun h a1) = 0 → P (.inl (some (.int 1))) h) ∧ (¬ (v_T_isRun h a1) = 0 → am_Ev m_T_reasonAgainst (WT ++ e1) ro P (13, [.ref 0, .int a1, .int a2], [.int (v_T_isRun h a2)], h)))
  refine ⟨fun c1 => ?_, fun c1 => ?_⟩
  · skip
    exact hP 1 (by unfold v_T_reasonAgainst; simp only [if_pos c1])
  · skip
    refine am_Ev_G [38] 400 _ ?_
    show ((¬ (v_T_isRun h a2) = 0 → ((¬ (v_at 20 (h.1 7) a2) = (-1 : Int32) → P (.inl (some (.int 2))) h) ∧ ((v_at 20 (h.1 7) a2) = (-1 : Int32) → am_Ev m_T_reasonAgainst (WT ++ e1) ro P (38, [.ref 0, .int a1, .int a2], [.int (v_at 20 (h.1 6) a1)], h)))) ∧ ((v_T_isRun h a2) = 0 → P (.inl (some (.int 1))) h))
    refine ⟨fun c2 => ?_, fun c2 => ?_⟩
    · skip
      refine ⟨fun c3 => ?_, fun c3 => ?_⟩
      · skip
        exact hP 2 (by unfold v_T_reasonAgainst; simp only [if_neg c1, if_neg c2, if_neg c3])
      · skip
        refine am_Ev_G [52] 400 _ ?_
        show (((v_at 20 (h.1 6) a1) = (-1 : Int32) → am_Ev m_T_reasonAgainst (WT ++ e1) ro P (52, [.ref 0, .int a1, .int a2], [.int (v_at 20 (h.1 2) a1)], h)) ∧ (¬ (v_at 20 (h.1 6) a1) = (-1 : Int32) → P (.inl (some (.int 2))) h))
        refine ⟨fun c4 => ?_, fun c4 => ?_⟩
        · skip
          refine am_Ev_G [73] 400 _ ?_
          show (((v_at 20 (h.1 2) a1) = (v_at 20 (h.1 3) a2) → am_Ev m_T_reasonAgainst (WT ++ e1) ro P (73, [.ref 0, .int a1, .int a2], [.int (v_at 20 (h.1 4) a1)], h)) ∧ (¬ (v_at 20 (h.1 2) a1) = (v_at 20 (h.1 3) a2) → P (.inl (some (.int 3))) h))
          refine ⟨fun c5 => ?_, fun c5 => ?_⟩
          · skip
            refine am_Ev_G [91] 400 _ ?_
            show ((¬ (v_at 20 (h.1 4) a1) < (v_T_readyOf h a2) → am_Ev m_T_reasonAgainst (WT ++ e1) ro P (91, [.ref 0, .int a1, .int a2], [.int (v_at 4 (h.1 11) 0)], h)) ∧ ((v_at 20 (h.1 4) a1) < (v_T_readyOf h a2) → P (.inl (some (.int 4))) h))
            refine ⟨fun c6 => ?_, fun c6 => ?_⟩
            · skip
              have key7 : am_Ev m_T_reasonAgainst (WT ++ e1) ro P (118, [.ref 0, .int a1, .int a2], [.int (if (v_at 4 (h.1 11) 0) = 0 then (if (v_at 20 (h.1 1) a1) = (v_at 20 (h.1 1) a2) then (0 : Int32) else 5) else 0)], h) := by
                refine am_Ev_G [] 400 _ ?_
                show P (.inl (some (.int (if (v_at 4 (h.1 11) 0) = 0 then (if (v_at 20 (h.1 1) a1) = (v_at 20 (h.1 1) a2) then (0 : Int32) else 5) else 0)))) h
                exact hP (if (v_at 4 (h.1 11) 0) = 0 then (if (v_at 20 (h.1 1) a1) = (v_at 20 (h.1 1) a2) then (0 : Int32) else 5) else 0) (by unfold v_T_reasonAgainst; simp only [if_neg c1, if_neg c2, if_pos c3, if_pos c4, if_pos c5, if_neg c6])
              refine am_Ev_G [118] 400 _ ?_
              show ((¬ (v_at 4 (h.1 11) 0) = 0 → am_Ev m_T_reasonAgainst (WT ++ e1) ro P (118, [.ref 0, .int a1, .int a2], [.int 0], h)) ∧ ((v_at 4 (h.1 11) 0) = 0 → (((v_at 20 (h.1 1) a1) = (v_at 20 (h.1 1) a2) → am_Ev m_T_reasonAgainst (WT ++ e1) ro P (118, [.ref 0, .int a1, .int a2], [.int 0], h)) ∧ (¬ (v_at 20 (h.1 1) a1) = (v_at 20 (h.1 1) a2) → am_Ev m_T_reasonAgainst (WT ++ e1) ro P (118, [.ref 0, .int a1, .int a2], [.int 5], h)))))
              refine ⟨fun c8 => ?_, fun c8 => ?_⟩
              · skip
                simpa only [if_neg c8] using key7
              · skip
                refine ⟨fun c9 => ?_, fun c9 => ?_⟩
                · skip
                  simpa only [if_pos c8, if_pos c9] using key7
                · skip
                  simpa only [if_pos c8, if_neg c9] using key7
            · skip
              exact hP 4 (by unfold v_T_reasonAgainst; simp only [if_neg c1, if_neg c2, if_pos c3, if_pos c4, if_pos c5, if_pos c6])
          · skip
            exact hP 3 (by unfold v_T_reasonAgainst; simp only [if_neg c1, if_neg c2, if_pos c3, if_pos c4, if_neg c5])
        · skip
          exact hP 2 (by unfold v_T_reasonAgainst; simp only [if_neg c1, if_neg c2, if_pos c3, if_neg c4])
    · skip
      exact hP 1 (by unfold v_T_reasonAgainst; simp only [if_neg c1, if_pos c2])
theorem ok_T_reasonAgainst {l : Launch} (hl : l.stackTraces = false) (e1 ro : List Sh) (k : Nat) : am_Ok l (WT ++ e1) ro (d_T_reasonAgainst k) := by
  refine am_met hl (own := RX4) (M := m_T_reasonAgainst) rfl pf_T_reasonAgainst cu_T_reasonAgainst rfl rfl rfl rfl (fun _ => rfl) rfl ⟨chk_T_reasonAgainst, (am_c (fl_T_9) (am_c (fl_T_15) (am_c (fl_T_18) (am_c (fl_T_21) (am_c (fl_T_27) (am_c (fl_T_30) (am_c (fl_T_56) am_n))))))), (am_c (lk_T_80) (am_c (lk_T_84) (am_c (lk_T_101) am_n))), (am_n), (am_n)⟩ (am_n) (am_c (ok_B_at hl _ _ 1) (am_c (ok_T_isRun hl e1 _ 14) (am_c (ok_T_readyOf hl e1 _ 14) am_n))) ?_ ?_ ?_
  · intro _ as h hg
    show g_pre (g_T_reasonAgainst (WT ++ e1) ro as h)
    unfold g_T_reasonAgainst
    split <;> exact trivial
  · intro _ as h hg
    show g_thr (g_T_reasonAgainst (WT ++ e1) ro as h) = none
    unfold g_T_reasonAgainst
    split <;> rfl
  · intro as h hg hp
    revert hg hp
    show g_ok (g_T_reasonAgainst (WT ++ e1) ro as h) = true → g_pre (g_T_reasonAgainst (WT ++ e1) ro as h) → _ ∧ am_Ev m_T_reasonAgainst (WT ++ e1) ro (am_eq (g_T_reasonAgainst (WT ++ e1) ro as h)) (0, am_ent as 3, [], h)
    unfold g_T_reasonAgainst
    split
    · rename_i o1 a1 a2
      intro hc hp
      change (Nat.beq o1 0) = true at hc
      obtain rfl := am_beq hc
      exact ⟨Nat.le_of_ble_eq_true rfl, ev_T_reasonAgainst h a1 a2 eqRI⟩
    · exact fun z => nomatch z
def k_T_link (pc : Nat) : Ent := bif Nat.ble 19 pc then am_nop else bif Nat.ble 9 pc then (bif Nat.ble 14 pc then (bif Nat.ble 15 pc then (bif Nat.ble 18 pc then (bif Nat.beq pc 18 then (.return_, 0, 0, []) else am_nop) else (bif Nat.beq pc 15 then (.invokestatic 76, 0, 0, []) else am_nop)) else (bif Nat.beq pc 14 then (.iload_n 1, 0, 1, []) else am_nop)) else (bif Nat.ble 10 pc then (bif Nat.ble 13 pc then (bif Nat.beq pc 13 then (.iload_n 2, 0, 2, []) else am_nop) else (bif Nat.beq pc 10 then (.getfield 30, 0, 0, []) else am_nop)) else (bif Nat.beq pc 9 then (.aload_n 0, 0, 0, []) else am_nop))) else (bif Nat.ble 4 pc then (bif Nat.ble 5 pc then (bif Nat.ble 6 pc then (bif Nat.beq pc 6 then (.invokestatic 76, 0, 0, []) else am_nop) else (bif Nat.beq pc 5 then (.iload_n 2, 0, 2, []) else am_nop)) else (bif Nat.beq pc 4 then (.iload_n 1, 0, 1, []) else am_nop)) else (bif Nat.ble 1 pc then (bif Nat.beq pc 1 then (.getfield 27, 0, 0, []) else am_nop) else (bif Nat.beq pc 0 then (.aload_n 0, 0, 0, []) else am_nop)))
def m_T_link : MI := (k_T_link, [(27, 4, 5), (30, 4, 6)], [(76, d_B_put 1)], [], [], [], [], 1, 24, none, fun _ => 0, 1)
def v_T_link (h : HP) (a1 : Int32) (a2 : Int32) : HP := (v_put 20 (v_put 20 h 6 a1 a2) 7 a2 a1)
def g_T_link (_ _ : List Sh) (as : List Value) (h : HP) : GR := match as with
  | [.ref o1, .int a1, .int a2] => (Nat.beq o1 0, True, none, none, v_T_link h a1 a2)
  | _ => bad h
def d_T_link (k : Nat) : CD := (k, yX4_link, cX4_link, 3, none, 3, 1, 24, 0, false, false, g_T_link)
theorem chk_T_link : ∀ pc, am_chk cX4_link k_T_link pc = true := am_chkall 19 (by decide +kernel) (fun pc h => by unfold k_T_link; rw [Nat.ble_eq_true_of_le h]; rfl)
theorem pf_T_link : plainFor yX4_link = true := by decide +kernel
theorem cu_T_link : Cond.code yX4_link cX4_link 3 (none) ∈ am_U := am_tb 386 (by decide +kernel) rfl
set_option maxRecDepth 100000 in
theorem ev_T_link {e1 ro : List Sh} {P : AR → HP → Prop} (h : HP) (a1 : Int32) (a2 : Int32) (hP : ∀ q, v_T_link h a1 a2 = q → RVW P h q) : am_Ev m_T_link (WT ++ e1) ro P (0, [.ref 0, .int a1, .int a2], [], h) := by
  refine am_Ev_G [18] 400 _ ?_
  show am_Ev m_T_link (WT ++ e1) ro P (18, [.ref 0, .int a1, .int a2], [], (v_put 20 (v_put 20 h 6 a1 a2) 7 a2 a1))
  refine am_Ev_G [] 400 _ ?_
  show P (.inl none) (v_put 20 (v_put 20 h 6 a1 a2) 7 a2 a1)
  exact hP (v_put 20 (v_put 20 h 6 a1 a2) 7 a2 a1) rfl
theorem ok_T_link {l : Launch} (hl : l.stackTraces = false) (e1 ro : List Sh) (k : Nat) : am_Ok l (WT ++ e1) ro (d_T_link k) := by
  refine am_met hl (own := RX4) (M := m_T_link) rfl pf_T_link cu_T_link rfl rfl rfl rfl (fun _ => rfl) rfl ⟨chk_T_link, (am_c (fl_T_27) (am_c (fl_T_30) am_n)), (am_c (lk_T_76) am_n), (am_n), (am_n)⟩ (am_n) (am_c (ok_B_put hl _ _ 1) am_n) ?_ ?_ ?_
  · intro _ as h hg
    show g_pre (g_T_link (WT ++ e1) ro as h)
    unfold g_T_link
    split <;> exact trivial
  · intro _ as h hg
    show g_thr (g_T_link (WT ++ e1) ro as h) = none
    unfold g_T_link
    split <;> rfl
  · intro as h hg hp
    revert hg hp
    show g_ok (g_T_link (WT ++ e1) ro as h) = true → g_pre (g_T_link (WT ++ e1) ro as h) → _ ∧ am_Ev m_T_link (WT ++ e1) ro (am_eq (g_T_link (WT ++ e1) ro as h)) (0, am_ent as 3, [], h)
    unfold g_T_link
    split
    · rename_i o1 a1 a2
      intro hc hp
      change (Nat.beq o1 0) = true at hc
      obtain rfl := am_beq hc
      exact ⟨Nat.le_of_ble_eq_true rfl, ev_T_link h a1 a2 eqRVW⟩
    · exact fun z => nomatch z
def k_T_cutBehind (pc : Nat) : Ent := bif Nat.ble 26 pc then am_nop else bif Nat.ble 13 pc then (bif Nat.ble 20 pc then (bif Nat.ble 22 pc then (bif Nat.ble 25 pc then (bif Nat.beq pc 25 then (.return_, 0, 0, []) else am_nop) else (bif Nat.beq pc 22 then (.invokestatic 76, 0, 0, []) else am_nop)) else (bif Nat.ble 21 pc then (bif Nat.beq pc 21 then (.iconst (-1), (-1 : Int32), 0, []) else am_nop) else (bif Nat.beq pc 20 then (.iload_n 1, 0, 1, []) else am_nop))) else (bif Nat.ble 16 pc then (bif Nat.ble 17 pc then (bif Nat.beq pc 17 then (.getfield 30, 0, 0, []) else am_nop) else (bif Nat.beq pc 16 then (.aload_n 0, 0, 0, []) else am_nop)) else (bif Nat.beq pc 13 then (.invokestatic 76, 0, 0, []) else am_nop))) else (bif Nat.ble 5 pc then (bif Nat.ble 9 pc then (bif Nat.ble 12 pc then (bif Nat.beq pc 12 then (.iconst (-1), (-1 : Int32), 0, []) else am_nop) else (bif Nat.beq pc 9 then (.invokestatic 80, 0, 0, []) else am_nop)) else (bif Nat.ble 8 pc then (bif Nat.beq pc 8 then (.iload_n 1, 0, 1, []) else am_nop) else (bif Nat.beq pc 5 then (.getfield 30, 0, 0, []) else am_nop))) else (bif Nat.ble 1 pc then (bif Nat.ble 4 pc then (bif Nat.beq pc 4 then (.aload_n 0, 0, 0, []) else am_nop) else (bif Nat.beq pc 1 then (.getfield 27, 0, 0, []) else am_nop)) else (bif Nat.beq pc 0 then (.aload_n 0, 0, 0, []) else am_nop)))
def m_T_cutBehind : MI := (k_T_cutBehind, [(27, 4, 5), (30, 4, 6)], [(76, d_B_put 1), (80, d_B_at 1)], [], [], [], [], 1, 24, none, fun _ => 0, 1)
def v_T_cutBehind (h : HP) (a1 : Int32) : HP := (v_put 20 (v_put 20 h 6 (v_at 20 (h.1 7) a1) (-1 : Int32)) 7 a1 (-1 : Int32))
def g_T_cutBehind (_ _ : List Sh) (as : List Value) (h : HP) : GR := match as with
  | [.ref o1, .int a1] => (Nat.beq o1 0, True, none, none, v_T_cutBehind h a1)
  | _ => bad h
def d_T_cutBehind (k : Nat) : CD := (k, yX4_cutBehind, cX4_cutBehind, 2, none, 2, 1, 24, 0, false, false, g_T_cutBehind)
theorem chk_T_cutBehind : ∀ pc, am_chk cX4_cutBehind k_T_cutBehind pc = true := am_chkall 26 (by decide +kernel) (fun pc h => by unfold k_T_cutBehind; rw [Nat.ble_eq_true_of_le h]; rfl)
theorem pf_T_cutBehind : plainFor yX4_cutBehind = true := by decide +kernel
theorem cu_T_cutBehind : Cond.code yX4_cutBehind cX4_cutBehind 2 (none) ∈ am_U := am_tb 575 (by decide +kernel) rfl
set_option maxRecDepth 100000 in
theorem ev_T_cutBehind {e1 ro : List Sh} {P : AR → HP → Prop} (h : HP) (a1 : Int32) (hP : ∀ q, v_T_cutBehind h a1 = q → RVW P h q) : am_Ev m_T_cutBehind (WT ++ e1) ro P (0, [.ref 0, .int a1], [], h) := by
  refine am_Ev_G [16] 400 _ ?_
  show am_Ev m_T_cutBehind (WT ++ e1) ro P (16, [.ref 0, .int a1], [], (v_put 20 h 6 (v_at 20 (h.1 7) a1) (-1 : Int32)))
  refine am_Ev_G [] 400 _ ?_
  show P (.inl none) (v_put 20 (v_put 20 h 6 (v_at 20 (h.1 7) a1) (-1 : Int32)) 7 a1 (-1 : Int32))
  exact hP (v_put 20 (v_put 20 h 6 (v_at 20 (h.1 7) a1) (-1 : Int32)) 7 a1 (-1 : Int32)) rfl
theorem ok_T_cutBehind {l : Launch} (hl : l.stackTraces = false) (e1 ro : List Sh) (k : Nat) : am_Ok l (WT ++ e1) ro (d_T_cutBehind k) := by
  refine am_met hl (own := RX4) (M := m_T_cutBehind) rfl pf_T_cutBehind cu_T_cutBehind rfl rfl rfl rfl (fun _ => rfl) rfl ⟨chk_T_cutBehind, (am_c (fl_T_27) (am_c (fl_T_30) am_n)), (am_c (lk_T_76) (am_c (lk_T_80) am_n)), (am_n), (am_n)⟩ (am_n) (am_c (ok_B_put hl _ _ 1) (am_c (ok_B_at hl _ _ 1) am_n)) ?_ ?_ ?_
  · intro _ as h hg
    show g_pre (g_T_cutBehind (WT ++ e1) ro as h)
    unfold g_T_cutBehind
    split <;> exact trivial
  · intro _ as h hg
    show g_thr (g_T_cutBehind (WT ++ e1) ro as h) = none
    unfold g_T_cutBehind
    split <;> rfl
  · intro as h hg hp
    revert hg hp
    show g_ok (g_T_cutBehind (WT ++ e1) ro as h) = true → g_pre (g_T_cutBehind (WT ++ e1) ro as h) → _ ∧ am_Ev m_T_cutBehind (WT ++ e1) ro (am_eq (g_T_cutBehind (WT ++ e1) ro as h)) (0, am_ent as 2, [], h)
    unfold g_T_cutBehind
    split
    · rename_i o1 a1
      intro hc hp
      change (Nat.beq o1 0) = true at hc
      obtain rfl := am_beq hc
      exact ⟨Nat.le_of_ble_eq_true rfl, ev_T_cutBehind h a1 eqRVW⟩
    · exact fun z => nomatch z
def k_T_cutAhead (pc : Nat) : Ent := bif Nat.ble 26 pc then am_nop else bif Nat.ble 13 pc then (bif Nat.ble 20 pc then (bif Nat.ble 22 pc then (bif Nat.ble 25 pc then (bif Nat.beq pc 25 then (.return_, 0, 0, []) else am_nop) else (bif Nat.beq pc 22 then (.invokestatic 76, 0, 0, []) else am_nop)) else (bif Nat.ble 21 pc then (bif Nat.beq pc 21 then (.iconst (-1), (-1 : Int32), 0, []) else am_nop) else (bif Nat.beq pc 20 then (.iload_n 1, 0, 1, []) else am_nop))) else (bif Nat.ble 16 pc then (bif Nat.ble 17 pc then (bif Nat.beq pc 17 then (.getfield 27, 0, 0, []) else am_nop) else (bif Nat.beq pc 16 then (.aload_n 0, 0, 0, []) else am_nop)) else (bif Nat.beq pc 13 then (.invokestatic 76, 0, 0, []) else am_nop))) else (bif Nat.ble 5 pc then (bif Nat.ble 9 pc then (bif Nat.ble 12 pc then (bif Nat.beq pc 12 then (.iconst (-1), (-1 : Int32), 0, []) else am_nop) else (bif Nat.beq pc 9 then (.invokestatic 80, 0, 0, []) else am_nop)) else (bif Nat.ble 8 pc then (bif Nat.beq pc 8 then (.iload_n 1, 0, 1, []) else am_nop) else (bif Nat.beq pc 5 then (.getfield 27, 0, 0, []) else am_nop))) else (bif Nat.ble 1 pc then (bif Nat.ble 4 pc then (bif Nat.beq pc 4 then (.aload_n 0, 0, 0, []) else am_nop) else (bif Nat.beq pc 1 then (.getfield 30, 0, 0, []) else am_nop)) else (bif Nat.beq pc 0 then (.aload_n 0, 0, 0, []) else am_nop)))
def m_T_cutAhead : MI := (k_T_cutAhead, [(27, 4, 5), (30, 4, 6)], [(76, d_B_put 1), (80, d_B_at 1)], [], [], [], [], 1, 24, none, fun _ => 0, 1)
def v_T_cutAhead (h : HP) (a1 : Int32) : HP := (v_put 20 (v_put 20 h 7 (v_at 20 (h.1 6) a1) (-1 : Int32)) 6 a1 (-1 : Int32))
def g_T_cutAhead (_ _ : List Sh) (as : List Value) (h : HP) : GR := match as with
  | [.ref o1, .int a1] => (Nat.beq o1 0, True, none, none, v_T_cutAhead h a1)
  | _ => bad h
def d_T_cutAhead (k : Nat) : CD := (k, yX4_cutAhead, cX4_cutAhead, 2, none, 2, 1, 24, 0, false, false, g_T_cutAhead)
theorem chk_T_cutAhead : ∀ pc, am_chk cX4_cutAhead k_T_cutAhead pc = true := am_chkall 26 (by decide +kernel) (fun pc h => by unfold k_T_cutAhead; rw [Nat.ble_eq_true_of_le h]; rfl)
theorem pf_T_cutAhead : plainFor yX4_cutAhead = true := by decide +kernel
theorem cu_T_cutAhead : Cond.code yX4_cutAhead cX4_cutAhead 2 (none) ∈ am_U := am_tb 571 (by decide +kernel) rfl
set_option maxRecDepth 100000 in
theorem ev_T_cutAhead {e1 ro : List Sh} {P : AR → HP → Prop} (h : HP) (a1 : Int32) (hP : ∀ q, v_T_cutAhead h a1 = q → RVW P h q) : am_Ev m_T_cutAhead (WT ++ e1) ro P (0, [.ref 0, .int a1], [], h) := by
  refine am_Ev_G [16] 400 _ ?_
  show am_Ev m_T_cutAhead (WT ++ e1) ro P (16, [.ref 0, .int a1], [], (v_put 20 h 7 (v_at 20 (h.1 6) a1) (-1 : Int32)))
  refine am_Ev_G [] 400 _ ?_
  show P (.inl none) (v_put 20 (v_put 20 h 7 (v_at 20 (h.1 6) a1) (-1 : Int32)) 6 a1 (-1 : Int32))
  exact hP (v_put 20 (v_put 20 h 7 (v_at 20 (h.1 6) a1) (-1 : Int32)) 6 a1 (-1 : Int32)) rfl
theorem ok_T_cutAhead {l : Launch} (hl : l.stackTraces = false) (e1 ro : List Sh) (k : Nat) : am_Ok l (WT ++ e1) ro (d_T_cutAhead k) := by
  refine am_met hl (own := RX4) (M := m_T_cutAhead) rfl pf_T_cutAhead cu_T_cutAhead rfl rfl rfl rfl (fun _ => rfl) rfl ⟨chk_T_cutAhead, (am_c (fl_T_27) (am_c (fl_T_30) am_n)), (am_c (lk_T_76) (am_c (lk_T_80) am_n)), (am_n), (am_n)⟩ (am_n) (am_c (ok_B_put hl _ _ 1) (am_c (ok_B_at hl _ _ 1) am_n)) ?_ ?_ ?_
  · intro _ as h hg
    show g_pre (g_T_cutAhead (WT ++ e1) ro as h)
    unfold g_T_cutAhead
    split <;> exact trivial
  · intro _ as h hg
    show g_thr (g_T_cutAhead (WT ++ e1) ro as h) = none
    unfold g_T_cutAhead
    split <;> rfl
  · intro as h hg hp
    revert hg hp
    show g_ok (g_T_cutAhead (WT ++ e1) ro as h) = true → g_pre (g_T_cutAhead (WT ++ e1) ro as h) → _ ∧ am_Ev m_T_cutAhead (WT ++ e1) ro (am_eq (g_T_cutAhead (WT ++ e1) ro as h)) (0, am_ent as 2, [], h)
    unfold g_T_cutAhead
    split
    · rename_i o1 a1
      intro hc hp
      change (Nat.beq o1 0) = true at hc
      obtain rfl := am_beq hc
      exact ⟨Nat.le_of_ble_eq_true rfl, ev_T_cutAhead h a1 eqRVW⟩
    · exact fun z => nomatch z
def k_T_rankOf (pc : Nat) : Ent := bif Nat.ble 23 pc then am_nop else bif Nat.ble 13 pc then (bif Nat.ble 19 pc then (bif Nat.ble 21 pc then (bif Nat.ble 22 pc then (bif Nat.beq pc 22 then (.ireturn, 0, 0, []) else am_nop) else (bif Nat.beq pc 21 then (.iadd, 0, 0, []) else am_nop)) else (bif Nat.ble 20 pc then (bif Nat.beq pc 20 then (.iload_n 1, 0, 1, []) else am_nop) else (bif Nat.beq pc 19 then (.imul, 0, 0, []) else am_nop))) else (bif Nat.ble 14 pc then (bif Nat.ble 17 pc then (bif Nat.beq pc 17 then (.bipush 20, 20, 0, []) else am_nop) else (bif Nat.beq pc 14 then (.invokestatic 80, 0, 0, []) else am_nop)) else (bif Nat.beq pc 13 then (.iload_n 1, 0, 1, []) else am_nop))) else (bif Nat.ble 5 pc then (bif Nat.ble 9 pc then (bif Nat.ble 10 pc then (bif Nat.beq pc 10 then (.getfield 21, 0, 0, []) else am_nop) else (bif Nat.beq pc 9 then (.aload_n 0, 0, 0, []) else am_nop)) else (bif Nat.ble 6 pc then (bif Nat.beq pc 6 then (.goto 16, 0, 22, []) else am_nop) else (bif Nat.beq pc 5 then (.iconst (-1), (-1 : Int32), 0, []) else am_nop))) else (bif Nat.ble 1 pc then (bif Nat.ble 2 pc then (bif Nat.beq pc 2 then (.if_icmp .ne 7, 0, 9, []) else am_nop) else (bif Nat.beq pc 1 then (.iconst (-1), (-1 : Int32), 0, []) else am_nop)) else (bif Nat.beq pc 0 then (.iload_n 1, 0, 1, []) else am_nop)))
def m_T_rankOf : MI := (k_T_rankOf, [(21, 4, 3)], [(80, d_B_at 1)], [], [], [], [], 1, 23, some .int, fun _ => 0, 1)
def v_T_rankOf (h : HP) (a1 : Int32) : Int32 := (if a1 = (-1 : Int32) then (-1 : Int32) else (((v_at 20 (h.1 4) a1) * 20) + a1))
def g_T_rankOf (_ _ : List Sh) (as : List Value) (h : HP) : GR := match as with
  | [.ref o1, .int a1] => (Nat.beq o1 0, True, none, some (.int (v_T_rankOf h a1)), h)
  | _ => bad h
def d_T_rankOf (k : Nat) : CD := (k, yX4_rankOf, cX4_rankOf, 2, some .int, 2, 1, 23, 0, false, false, g_T_rankOf)
theorem chk_T_rankOf : ∀ pc, am_chk cX4_rankOf k_T_rankOf pc = true := am_chkall 23 (by decide +kernel) (fun pc h => by unfold k_T_rankOf; rw [Nat.ble_eq_true_of_le h]; rfl)
theorem pf_T_rankOf : plainFor yX4_rankOf = true := by decide +kernel
theorem cu_T_rankOf : Cond.code yX4_rankOf cX4_rankOf 2 (some .int) ∈ am_U := am_tb 359 (by decide +kernel) rfl
set_option maxRecDepth 100000 in
theorem ev_T_rankOf {e1 ro : List Sh} {P : AR → HP → Prop} (h : HP) (a1 : Int32) (hP : ∀ q, v_T_rankOf h a1 = q → RI P h q) : am_Ev m_T_rankOf (WT ++ e1) ro P (0, [.ref 0, .int a1], [], h) := by
  refine am_Ev_G [2] 400 _ ?_
  show am_Ev m_T_rankOf (WT ++ e1) ro P (2, [.ref 0, .int a1], [.int (-1 : Int32), .int a1], h)
  have key1 : am_Ev m_T_rankOf (WT ++ e1) ro P (22, [.ref 0, .int a1], [.int (if a1 = (-1 : Int32) then (-1 : Int32) else (((v_at 20 (h.1 4) a1) * 20) + a1))], h) := by
    refine am_Ev_G [] 400 _ ?_
    show P (.inl (some (.int (if a1 = (-1 : Int32) then (-1 : Int32) else (((v_at 20 (h.1 4) a1) * 20) + a1))))) h
    exact hP (if a1 = (-1 : Int32) then (-1 : Int32) else (((v_at 20 (h.1 4) a1) * 20) + a1)) rfl
  refine am_Ev_G [22] 400 _ ?_
  show ((¬ a1 = (-1 : Int32) → am_Ev m_T_rankOf (WT ++ e1) ro P (22, [.ref 0, .int a1], [.int (((v_at 20 (h.1 4) a1) * 20) + a1)], h)) ∧ (a1 = (-1 : Int32) → am_Ev m_T_rankOf (WT ++ e1) ro P (22, [.ref 0, .int a1], [.int (-1 : Int32)], h)))
  refine ⟨fun c2 => ?_, fun c2 => ?_⟩
  · skip
    simpa only [if_neg c2] using key1
  · skip
    simpa only [if_pos c2] using key1
theorem ok_T_rankOf {l : Launch} (hl : l.stackTraces = false) (e1 ro : List Sh) (k : Nat) : am_Ok l (WT ++ e1) ro (d_T_rankOf k) := by
  refine am_met hl (own := RX4) (M := m_T_rankOf) rfl pf_T_rankOf cu_T_rankOf rfl rfl rfl rfl (fun _ => rfl) rfl ⟨chk_T_rankOf, (am_c (fl_T_21) am_n), (am_c (lk_T_80) am_n), (am_n), (am_n)⟩ (am_n) (am_c (ok_B_at hl _ _ 1) am_n) ?_ ?_ ?_
  · intro _ as h hg
    show g_pre (g_T_rankOf (WT ++ e1) ro as h)
    unfold g_T_rankOf
    split <;> exact trivial
  · intro _ as h hg
    show g_thr (g_T_rankOf (WT ++ e1) ro as h) = none
    unfold g_T_rankOf
    split <;> rfl
  · intro as h hg hp
    revert hg hp
    show g_ok (g_T_rankOf (WT ++ e1) ro as h) = true → g_pre (g_T_rankOf (WT ++ e1) ro as h) → _ ∧ am_Ev m_T_rankOf (WT ++ e1) ro (am_eq (g_T_rankOf (WT ++ e1) ro as h)) (0, am_ent as 2, [], h)
    unfold g_T_rankOf
    split
    · rename_i o1 a1
      intro hc hp
      change (Nat.beq o1 0) = true at hc
      obtain rfl := am_beq hc
      exact ⟨Nat.le_of_ble_eq_true rfl, ev_T_rankOf h a1 eqRI⟩
    · exact fun z => nomatch z
def k_T_runTripBehind (pc : Nat) : Ent := bif Nat.ble 81 pc then am_nop else bif Nat.ble 39 pc then (bif Nat.ble 59 pc then (bif Nat.ble 70 pc then (bif Nat.ble 76 pc then (bif Nat.ble 79 pc then (bif Nat.ble 80 pc then (bif Nat.beq pc 80 then (.ireturn, 0, 0, []) else am_nop) else (bif Nat.beq pc 79 then (.iload_n 3, 0, 3, []) else am_nop)) else (bif Nat.beq pc 76 then (.goto (-65), 0, 11, []) else am_nop)) else (bif Nat.ble 72 pc then (bif Nat.ble 73 pc then (bif Nat.beq pc 73 then (.iinc 4 1, 1, 4, []) else am_nop) else (bif Nat.beq pc 72 then (.istore_n 3, 0, 3, []) else am_nop)) else (bif Nat.beq pc 70 then (.iload 4, 0, 4, []) else am_nop))) else (bif Nat.ble 63 pc then (bif Nat.ble 64 pc then (bif Nat.ble 67 pc then (bif Nat.beq pc 67 then (.if_icmp .ge 6, 0, 73, []) else am_nop) else (bif Nat.beq pc 64 then (.invokevirtual 114, 0, 0, []) else am_nop)) else (bif Nat.beq pc 63 then (.iload_n 3, 0, 3, []) else am_nop)) else (bif Nat.ble 62 pc then (bif Nat.beq pc 62 then (.aload_n 0, 0, 0, []) else am_nop) else (bif Nat.beq pc 59 then (.invokevirtual 114, 0, 0, []) else am_nop)))) else (bif Nat.ble 48 pc then (bif Nat.ble 53 pc then (bif Nat.ble 56 pc then (bif Nat.ble 57 pc then (bif Nat.beq pc 57 then (.iload 4, 0, 4, []) else am_nop) else (bif Nat.beq pc 56 then (.aload_n 0, 0, 0, []) else am_nop)) else (bif Nat.beq pc 53 then (.if_icmp .eq 17, 0, 70, []) else am_nop)) else (bif Nat.ble 51 pc then (bif Nat.ble 52 pc then (bif Nat.beq pc 52 then (.iconst (-1), (-1 : Int32), 0, []) else am_nop) else (bif Nat.beq pc 51 then (.iload_n 3, 0, 3, []) else am_nop)) else (bif Nat.beq pc 48 then (.ifCond .eq 25, 0, 73, []) else am_nop))) else (bif Nat.ble 43 pc then (bif Nat.ble 44 pc then (bif Nat.ble 46 pc then (bif Nat.beq pc 46 then (.iload 5, 0, 5, []) else am_nop) else (bif Nat.beq pc 44 then (.istore 5, 0, 5, []) else am_nop)) else (bif Nat.beq pc 43 then (.iconst 0, 0, 0, []) else am_nop)) else (bif Nat.ble 40 pc then (bif Nat.beq pc 40 then (.goto 4, 0, 44, []) else am_nop) else (bif Nat.beq pc 39 then (.iconst 1, 1, 0, []) else am_nop))))) else (bif Nat.ble 14 pc then (bif Nat.ble 26 pc then (bif Nat.ble 32 pc then (bif Nat.ble 35 pc then (bif Nat.ble 36 pc then (bif Nat.beq pc 36 then (.if_icmp .le 7, 0, 43, []) else am_nop) else (bif Nat.beq pc 35 then (.iload_n 2, 0, 2, []) else am_nop)) else (bif Nat.beq pc 32 then (.invokevirtual 114, 0, 0, []) else am_nop)) else (bif Nat.ble 29 pc then (bif Nat.ble 30 pc then (bif Nat.beq pc 30 then (.iload 4, 0, 4, []) else am_nop) else (bif Nat.beq pc 29 then (.aload_n 0, 0, 0, []) else am_nop)) else (bif Nat.beq pc 26 then (.ifCond .eq 17, 0, 43, []) else am_nop))) else (bif Nat.ble 20 pc then (bif Nat.ble 21 pc then (bif Nat.ble 23 pc then (bif Nat.beq pc 23 then (.invokevirtual 84, 0, 0, []) else am_nop) else (bif Nat.beq pc 21 then (.iload 4, 0, 4, []) else am_nop)) else (bif Nat.beq pc 20 then (.aload_n 0, 0, 0, []) else am_nop)) else (bif Nat.ble 17 pc then (bif Nat.beq pc 17 then (.if_icmp .ge 62, 0, 79, []) else am_nop) else (bif Nat.beq pc 14 then (.getfield 59, 0, 0, []) else am_nop)))) else (bif Nat.ble 7 pc then (bif Nat.ble 9 pc then (bif Nat.ble 11 pc then (bif Nat.ble 13 pc then (bif Nat.beq pc 13 then (.aload_n 0, 0, 0, []) else am_nop) else (bif Nat.beq pc 11 then (.iload 4, 0, 4, []) else am_nop)) else (bif Nat.beq pc 9 then (.istore 4, 0, 4, []) else am_nop)) else (bif Nat.ble 8 pc then (bif Nat.beq pc 8 then (.iconst 0, 0, 0, []) else am_nop) else (bif Nat.beq pc 7 then (.istore_n 3, 0, 3, []) else am_nop))) else (bif Nat.ble 2 pc then (bif Nat.ble 5 pc then (bif Nat.ble 6 pc then (bif Nat.beq pc 6 then (.iconst (-1), (-1 : Int32), 0, []) else am_nop) else (bif Nat.beq pc 5 then (.istore_n 2, 0, 2, []) else am_nop)) else (bif Nat.beq pc 2 then (.invokevirtual 114, 0, 0, []) else am_nop)) else (bif Nat.ble 1 pc then (bif Nat.beq pc 1 then (.iload_n 1, 0, 1, []) else am_nop) else (bif Nat.beq pc 0 then (.aload_n 0, 0, 0, []) else am_nop)))))
theorem lk_T_114 : am_lnk RX4 114 (d_T_rankOf 14) := ⟨⟨by decide, by decide⟩, am_tb 2 (by decide +kernel) rfl, Or.inr ⟨by decide, rfl, am_tb 358 (by decide +kernel) rfl, am_tp 7 (by decide +kernel) rfl, ⟨TX4, 15, rfl⟩, Or.inl (am_tb 356 (by decide +kernel) rfl)⟩⟩
def m_T_runTripBehind : MI := (k_T_runTripBehind, [(59, 4, 11)], [(84, d_T_isRun 14), (114, d_T_rankOf 14)], [], [], [], [], 2, 46, some .int, fun _ => 0, 1)
def s_T_runTripBehind_11 (h : HP) (a1 : Int32) (v1 : Int32 × Int32) : (Int32 × Int32) ⊕ (Int32 × Int32) := (if v1.2 < (h.1 0 11) then (.inl ((if ((if (v_T_isRun h v1.2) = 0 then (0 : Int32) else (if (v_T_rankOf h v1.2) ≤ (v_T_rankOf h a1) then (0 : Int32) else 1)) : Int32) = 0 then v1.1 else (if v1.1 = (-1 : Int32) then v1.2 else (if (v_T_rankOf h v1.2) < (v_T_rankOf h v1.1) then v1.2 else v1.1))), (v1.2 + 1))) else (.inr (v1.1, v1.2)))
def ps_T_runTripBehind_11 (h : HP) (a1 : Int32) (v1 : Int32 × Int32) : Prop := True
def v_T_runTripBehind (h : HP) (a1 : Int32) : Int32 := (match itr (s_T_runTripBehind_11 h a1) NF ((-1 : Int32), 0) with | some r1 => r1.1 | none => 0)
def p_T_runTripBehind (h : HP) (a1 : Int32) : Prop := (itrp (s_T_runTripBehind_11 h a1) (ps_T_runTripBehind_11 h a1) NF ((-1 : Int32), 0))
def g_T_runTripBehind (_ _ : List Sh) (as : List Value) (h : HP) : GR := match as with
  | [.ref o1, .int a1] => (Nat.beq o1 0, p_T_runTripBehind h a1, none, some (.int (v_T_runTripBehind h a1)), h)
  | _ => bad h
def d_T_runTripBehind (k : Nat) : CD := (k, yX4_runTripBehind, cX4_runTripBehind, 6, some .int, 2, 2, 46, 0, false, true, g_T_runTripBehind)
theorem chk_T_runTripBehind : ∀ pc, am_chk cX4_runTripBehind k_T_runTripBehind pc = true := am_chkall 81 (by decide +kernel) (fun pc h => by unfold k_T_runTripBehind; rw [Nat.ble_eq_true_of_le h]; rfl)
theorem pf_T_runTripBehind : plainFor yX4_runTripBehind = true := by decide +kernel
theorem cu_T_runTripBehind : Cond.code yX4_runTripBehind cX4_runTripBehind 6 (some .int) ∈ am_U := am_tb 355 (by decide +kernel) rfl
set_option maxRecDepth 100000 in
theorem ev_T_runTripBehind {e1 ro : List Sh} {P : AR → HP → Prop} (h : HP) (a1 : Int32) (hp : p_T_runTripBehind h a1) (hP : ∀ q, v_T_runTripBehind h a1 = q → RI P h q) : am_Ev m_T_runTripBehind (WT ++ e1) ro P (0, [.ref 0, .int a1, .retAddr 0, .retAddr 0, .retAddr 0, .retAddr 0], [], h) := by
  unfold p_T_runTripBehind at hp
  refine am_Ev_G [11] 400 _ ?_
  show am_Ev m_T_runTripBehind (WT ++ e1) ro P (11, [.ref 0, .int a1, .int (v_T_rankOf h a1), .int (-1 : Int32), .int 0, .retAddr 0], [], h)
  refine am_fg 1 ?_
  have hpl := hp
  refine am_itr (E := (fun (v1 : Int32 × Int32) => am_Ev m_T_runTripBehind (WT ++ e1) ro P (11, [.ref 0, .retAddr 0, .int (v_T_rankOf h a1), .int v1.1, .int v1.2, .retAddr 0], [], h))) (E' := (fun (r1 : Int32 × Int32) => am_Ev m_T_runTripBehind (WT ++ e1) ro P (79, [.ref 0, .retAddr 0, .int (v_T_rankOf h a1), .int r1.1, .int r1.2, .retAddr 0], [], h))) (s_T_runTripBehind_11 h a1) (ps_T_runTripBehind_11 h a1) ?_ NF ((-1 : Int32), 0) hpl ?_
  · intro v1 hp hc1 hx1
    show am_Ev m_T_runTripBehind (WT ++ e1) ro P (11, [.ref 0, .retAddr 0, .int (v_T_rankOf h a1), .int v1.1, .int v1.2, .retAddr 0], [], h)
    refine am_Ev_G [26, 79] 400 _ ?_
    show ((¬ v1.2 < (h.1 0 11) → am_Ev m_T_runTripBehind (WT ++ e1) ro P (79, [.ref 0, .retAddr 0, .int (v_T_rankOf h a1), .int v1.1, .int v1.2, .retAddr 0], [], h)) ∧ (v1.2 < (h.1 0 11) → am_Ev m_T_runTripBehind (WT ++ e1) ro P (26, [.ref 0, .retAddr 0, .int (v_T_rankOf h a1), .int v1.1, .int v1.2, .retAddr 0], [.int (v_T_isRun h v1.2)], h)))
    refine ⟨fun c1 => ?_, fun c1 => ?_⟩
    · skip
      exact hx1 (v1.1, v1.2) (by unfold s_T_runTripBehind_11; simp only [if_neg c1])
    · skip
      have key2 : am_Ev m_T_runTripBehind (WT ++ e1) ro P (44, [.ref 0, .retAddr 0, .int (v_T_rankOf h a1), .int v1.1, .int v1.2, .retAddr 0], [.int (if (v_T_isRun h v1.2) = 0 then (0 : Int32) else (if (v_T_rankOf h v1.2) ≤ (v_T_rankOf h a1) then (0 : Int32) else 1))], h) := by
        refine am_Ev_G [48] 400 _ ?_
        show am_Ev m_T_runTripBehind (WT ++ e1) ro P (48, [.ref 0, .retAddr 0, .int (v_T_rankOf h a1), .int v1.1, .int v1.2, .int (if (v_T_isRun h v1.2) = 0 then (0 : Int32) else (if (v_T_rankOf h v1.2) ≤ (v_T_rankOf h a1) then (0 : Int32) else 1))], [.int (if (v_T_isRun h v1.2) = 0 then (0 : Int32) else (if (v_T_rankOf h v1.2) ≤ (v_T_rankOf h a1) then (0 : Int32) else 1))], h)
        have key3 : am_Ev m_T_runTripBehind (WT ++ e1) ro P (73, [.ref 0, .retAddr 0, .int (v_T_rankOf h a1), .int (if ((if (v_T_isRun h v1.2) = 0 then (0 : Int32) else (if (v_T_rankOf h v1.2) ≤ (v_T_rankOf h a1) then (0 : Int32) else 1)) : Int32) = 0 then v1.1 else (if v1.1 = (-1 : Int32) then v1.2 else (if (v_T_rankOf h v1.2) < (v_T_rankOf h v1.1) then v1.2 else v1.1))), .int v1.2, .int (if (v_T_isRun h v1.2) = 0 then (0 : Int32) else (if (v_T_rankOf h v1.2) ≤ (v_T_rankOf h a1) then (0 : Int32) else 1))], [], h) := by
          refine am_Ev_G [11] 400 _ ?_
          show am_Ev m_T_runTripBehind (WT ++ e1) ro P (11, [.ref 0, .retAddr 0, .int (v_T_rankOf h a1), .int (if ((if (v_T_isRun h v1.2) = 0 then (0 : Int32) else (if (v_T_rankOf h v1.2) ≤ (v_T_rankOf h a1) then (0 : Int32) else 1)) : Int32) = 0 then v1.1 else (if v1.1 = (-1 : Int32) then v1.2 else (if (v_T_rankOf h v1.2) < (v_T_rankOf h v1.1) then v1.2 else v1.1))), .int (v1.2 + 1), .int (if (v_T_isRun h v1.2) = 0 then (0 : Int32) else (if (v_T_rankOf h v1.2) ≤ (v_T_rankOf h a1) then (0 : Int32) else 1))], [], h)
          refine am_fg 5 ?_
          exact hc1 ((if ((if (v_T_isRun h v1.2) = 0 then (0 : Int32) else (if (v_T_rankOf h v1.2) ≤ (v_T_rankOf h a1) then (0 : Int32) else 1)) : Int32) = 0 then v1.1 else (if v1.1 = (-1 : Int32) then v1.2 else (if (v_T_rankOf h v1.2) < (v_T_rankOf h v1.1) then v1.2 else v1.1))), (v1.2 + 1)) (by unfold s_T_runTripBehind_11; simp only [if_pos c1])
        refine am_Ev_G [73] 400 _ ?_
        show ((((if (v_T_isRun h v1.2) = 0 then (0 : Int32) else (if (v_T_rankOf h v1.2) ≤ (v_T_rankOf h a1) then (0 : Int32) else 1)) : Int32) = 0 → am_Ev m_T_runTripBehind (WT ++ e1) ro P (73, [.ref 0, .retAddr 0, .int (v_T_rankOf h a1), .int v1.1, .int v1.2, .int (if (v_T_isRun h v1.2) = 0 then (0 : Int32) else (if (v_T_rankOf h v1.2) ≤ (v_T_rankOf h a1) then (0 : Int32) else 1))], [], h)) ∧ (¬ ((if (v_T_isRun h v1.2) = 0 then (0 : Int32) else (if (v_T_rankOf h v1.2) ≤ (v_T_rankOf h a1) then (0 : Int32) else 1)) : Int32) = 0 → ((v1.1 = (-1 : Int32) → am_Ev m_T_runTripBehind (WT ++ e1) ro P (73, [.ref 0, .retAddr 0, .int (v_T_rankOf h a1), .int v1.2, .int v1.2, .int (if (v_T_isRun h v1.2) = 0 then (0 : Int32) else (if (v_T_rankOf h v1.2) ≤ (v_T_rankOf h a1) then (0 : Int32) else 1))], [], h)) ∧ (¬ v1.1 = (-1 : Int32) → ((¬ (v_T_rankOf h v1.2) < (v_T_rankOf h v1.1) → am_Ev m_T_runTripBehind (WT ++ e1) ro P (73, [.ref 0, .retAddr 0, .int (v_T_rankOf h a1), .int v1.1, .int v1.2, .int (if (v_T_isRun h v1.2) = 0 then (0 : Int32) else (if (v_T_rankOf h v1.2) ≤ (v_T_rankOf h a1) then (0 : Int32) else 1))], [], h)) ∧ ((v_T_rankOf h v1.2) < (v_T_rankOf h v1.1) → am_Ev m_T_runTripBehind (WT ++ e1) ro P (73, [.ref 0, .retAddr 0, .int (v_T_rankOf h a1), .int v1.2, .int v1.2, .int (if (v_T_isRun h v1.2) = 0 then (0 : Int32) else (if (v_T_rankOf h v1.2) ≤ (v_T_rankOf h a1) then (0 : Int32) else 1))], [], h)))))))
        refine ⟨fun c4 => ?_, fun c4 => ?_⟩
        · skip
          simpa only [if_pos c4] using key3
        · skip
          refine ⟨fun c5 => ?_, fun c5 => ?_⟩
          · skip
            simpa only [if_neg c4, if_pos c5] using key3
          · skip
            refine ⟨fun c6 => ?_, fun c6 => ?_⟩
            · skip
              simpa only [if_neg c4, if_neg c5, if_neg c6] using key3
            · skip
              simpa only [if_neg c4, if_neg c5, if_pos c6] using key3
      refine am_Ev_G [44] 400 _ ?_
      show (((v_T_isRun h v1.2) = 0 → am_Ev m_T_runTripBehind (WT ++ e1) ro P (44, [.ref 0, .retAddr 0, .int (v_T_rankOf h a1), .int v1.1, .int v1.2, .retAddr 0], [.int 0], h)) ∧ (¬ (v_T_isRun h v1.2) = 0 → (((v_T_rankOf h v1.2) ≤ (v_T_rankOf h a1) → am_Ev m_T_runTripBehind (WT ++ e1) ro P (44, [.ref 0, .retAddr 0, .int (v_T_rankOf h a1), .int v1.1, .int v1.2, .retAddr 0], [.int 0], h)) ∧ (¬ (v_T_rankOf h v1.2) ≤ (v_T_rankOf h a1) → am_Ev m_T_runTripBehind (WT ++ e1) ro P (44, [.ref 0, .retAddr 0, .int (v_T_rankOf h a1), .int v1.1, .int v1.2, .retAddr 0], [.int 1], h)))))
      refine ⟨fun c7 => ?_, fun c7 => ?_⟩
      · skip
        simpa only [if_pos c7] using key2
      · skip
        refine ⟨fun c8 => ?_, fun c8 => ?_⟩
        · skip
          simpa only [if_neg c7, if_pos c8] using key2
        · skip
          simpa only [if_neg c7, if_neg c8] using key2
  · intro r1 hr9
    show am_Ev m_T_runTripBehind (WT ++ e1) ro P (79, [.ref 0, .retAddr 0, .int (v_T_rankOf h a1), .int r1.1, .int r1.2, .retAddr 0], [], h)
    refine am_Ev_G [] 400 _ ?_
    show P (.inl (some (.int r1.1))) h
    exact hP r1.1 (by unfold v_T_runTripBehind; simp only [hr9])
theorem ok_T_runTripBehind {l : Launch} (hl : l.stackTraces = false) (e1 ro : List Sh) (k : Nat) : am_Ok l (WT ++ e1) ro (d_T_runTripBehind k) := by
  refine am_met hl (own := RX4) (M := m_T_runTripBehind) rfl pf_T_runTripBehind cu_T_runTripBehind rfl rfl rfl rfl (fun _ => rfl) rfl ⟨chk_T_runTripBehind, (am_c (fl_T_59) am_n), (am_c (lk_T_84) (am_c (lk_T_114) am_n)), (am_n), (am_n)⟩ (am_n) (am_c (ok_T_isRun hl e1 _ 14) (am_c (ok_T_rankOf hl e1 _ 14) am_n)) (fun z => nomatch z) ?_ ?_
  · intro _ as h hg
    show g_thr (g_T_runTripBehind (WT ++ e1) ro as h) = none
    unfold g_T_runTripBehind
    split <;> rfl
  · intro as h hg hp
    revert hg hp
    show g_ok (g_T_runTripBehind (WT ++ e1) ro as h) = true → g_pre (g_T_runTripBehind (WT ++ e1) ro as h) → _ ∧ am_Ev m_T_runTripBehind (WT ++ e1) ro (am_eq (g_T_runTripBehind (WT ++ e1) ro as h)) (0, am_ent as 6, [], h)
    unfold g_T_runTripBehind
    split
    · rename_i o1 a1
      intro hc hp
      change (Nat.beq o1 0) = true at hc
      obtain rfl := am_beq hc
      exact ⟨Nat.le_of_ble_eq_true rfl, ev_T_runTripBehind h a1 hp eqRI⟩
    · exact fun z => nomatch z
def k_T_longestWaiting (pc : Nat) : Ent := bif Nat.ble 61 pc then am_nop else bif Nat.ble 28 pc then (bif Nat.ble 44 pc then (bif Nat.ble 52 pc then (bif Nat.ble 56 pc then (bif Nat.ble 59 pc then (bif Nat.ble 60 pc then (bif Nat.beq pc 60 then (.ireturn, 0, 0, []) else am_nop) else (bif Nat.beq pc 59 then (.iload_n 2, 0, 2, []) else am_nop)) else (bif Nat.beq pc 56 then (.goto (-52), 0, 4, []) else am_nop)) else (bif Nat.ble 53 pc then (bif Nat.beq pc 53 then (.iinc 3 1, 1, 3, []) else am_nop) else (bif Nat.beq pc 52 then (.istore_n 2, 0, 2, []) else am_nop))) else (bif Nat.ble 48 pc then (bif Nat.ble 51 pc then (bif Nat.beq pc 51 then (.iload_n 3, 0, 3, []) else am_nop) else (bif Nat.beq pc 48 then (.if_icmp .ge 5, 0, 53, []) else am_nop)) else (bif Nat.ble 45 pc then (bif Nat.beq pc 45 then (.invokevirtual 98, 0, 0, []) else am_nop) else (bif Nat.beq pc 44 then (.iload_n 2, 0, 2, []) else am_nop)))) else (bif Nat.ble 35 pc then (bif Nat.ble 39 pc then (bif Nat.ble 40 pc then (bif Nat.ble 43 pc then (bif Nat.beq pc 43 then (.aload_n 0, 0, 0, []) else am_nop) else (bif Nat.beq pc 40 then (.invokevirtual 98, 0, 0, []) else am_nop)) else (bif Nat.beq pc 39 then (.iload_n 3, 0, 3, []) else am_nop)) else (bif Nat.ble 38 pc then (bif Nat.beq pc 38 then (.aload_n 0, 0, 0, []) else am_nop) else (bif Nat.beq pc 35 then (.if_icmp .eq 16, 0, 51, []) else am_nop))) else (bif Nat.ble 33 pc then (bif Nat.ble 34 pc then (bif Nat.beq pc 34 then (.iconst (-1), (-1 : Int32), 0, []) else am_nop) else (bif Nat.beq pc 33 then (.iload_n 2, 0, 2, []) else am_nop)) else (bif Nat.ble 30 pc then (bif Nat.beq pc 30 then (.ifCond .eq 23, 0, 53, []) else am_nop) else (bif Nat.beq pc 28 then (.iload 4, 0, 4, []) else am_nop))))) else (bif Nat.ble 12 pc then (bif Nat.ble 18 pc then (bif Nat.ble 22 pc then (bif Nat.ble 25 pc then (bif Nat.ble 26 pc then (bif Nat.beq pc 26 then (.istore 4, 0, 4, []) else am_nop) else (bif Nat.beq pc 25 then (.iconst 0, 0, 0, []) else am_nop)) else (bif Nat.beq pc 22 then (.goto 4, 0, 26, []) else am_nop)) else (bif Nat.ble 21 pc then (bif Nat.beq pc 21 then (.iconst 1, 1, 0, []) else am_nop) else (bif Nat.beq pc 18 then (.ifCond .ne 7, 0, 25, []) else am_nop))) else (bif Nat.ble 14 pc then (bif Nat.ble 15 pc then (bif Nat.beq pc 15 then (.invokevirtual 117, 0, 0, []) else am_nop) else (bif Nat.beq pc 14 then (.iload_n 3, 0, 3, []) else am_nop)) else (bif Nat.ble 13 pc then (bif Nat.beq pc 13 then (.iload_n 1, 0, 1, []) else am_nop) else (bif Nat.beq pc 12 then (.aload_n 0, 0, 0, []) else am_nop)))) else (bif Nat.ble 4 pc then (bif Nat.ble 6 pc then (bif Nat.ble 9 pc then (bif Nat.beq pc 9 then (.if_icmp .ge 50, 0, 59, []) else am_nop) else (bif Nat.beq pc 6 then (.getfield 59, 0, 0, []) else am_nop)) else (bif Nat.ble 5 pc then (bif Nat.beq pc 5 then (.aload_n 0, 0, 0, []) else am_nop) else (bif Nat.beq pc 4 then (.iload_n 3, 0, 3, []) else am_nop))) else (bif Nat.ble 2 pc then (bif Nat.ble 3 pc then (bif Nat.beq pc 3 then (.istore_n 3, 0, 3, []) else am_nop) else (bif Nat.beq pc 2 then (.iconst 0, 0, 0, []) else am_nop)) else (bif Nat.ble 1 pc then (bif Nat.beq pc 1 then (.istore_n 2, 0, 2, []) else am_nop) else (bif Nat.beq pc 0 then (.iconst (-1), (-1 : Int32), 0, []) else am_nop)))))
theorem lk_T_117 : am_lnk RX4 117 (d_T_reasonAgainst 14) := ⟨⟨by decide, by decide⟩, am_tb 2 (by decide +kernel) rfl, Or.inr ⟨by decide, rfl, am_tb 373 (by decide +kernel) rfl, am_tp 10 (by decide +kernel) rfl, ⟨TX4, 15, rfl⟩, Or.inl (am_tb 371 (by decide +kernel) rfl)⟩⟩
def m_T_longestWaiting : MI := (k_T_longestWaiting, [(59, 4, 11)], [(98, d_T_arrivalOf 14), (117, d_T_reasonAgainst 14)], [], [], [], [], 3, 70, some .int, fun _ => 0, 1)
def s_T_longestWaiting_4 (h : HP) (a1 : Int32) (v1 : Int32 × Int32) : (Int32 × Int32) ⊕ (Int32 × Int32) := (if v1.2 < (h.1 0 11) then (.inl ((if ((if (v_T_reasonAgainst h a1 v1.2) = 0 then (1 : Int32) else 0) : Int32) = 0 then v1.1 else (if v1.1 = (-1 : Int32) then v1.2 else (if (v_T_arrivalOf h v1.2) < (v_T_arrivalOf h v1.1) then v1.2 else v1.1))), (v1.2 + 1))) else (.inr (v1.1, v1.2)))
def ps_T_longestWaiting_4 (h : HP) (a1 : Int32) (v1 : Int32 × Int32) : Prop := True
def v_T_longestWaiting (h : HP) (a1 : Int32) : Int32 := (match itr (s_T_longestWaiting_4 h a1) NF ((-1 : Int32), 0) with | some r1 => r1.1 | none => 0)
def p_T_longestWaiting (h : HP) (a1 : Int32) : Prop := (itrp (s_T_longestWaiting_4 h a1) (ps_T_longestWaiting_4 h a1) NF ((-1 : Int32), 0))
def g_T_longestWaiting (_ _ : List Sh) (as : List Value) (h : HP) : GR := match as with
  | [.ref o1, .int a1] => (Nat.beq o1 0, p_T_longestWaiting h a1, none, some (.int (v_T_longestWaiting h a1)), h)
  | _ => bad h
def d_T_longestWaiting (k : Nat) : CD := (k, yX4_longestWaiting, cX4_longestWaiting, 5, some .int, 2, 3, 70, 0, false, true, g_T_longestWaiting)
theorem chk_T_longestWaiting : ∀ pc, am_chk cX4_longestWaiting k_T_longestWaiting pc = true := am_chkall 61 (by decide +kernel) (fun pc h => by unfold k_T_longestWaiting; rw [Nat.ble_eq_true_of_le h]; rfl)
theorem pf_T_longestWaiting : plainFor yX4_longestWaiting = true := by decide +kernel
theorem cu_T_longestWaiting : Cond.code yX4_longestWaiting cX4_longestWaiting 5 (some .int) ∈ am_U := am_tb 370 (by decide +kernel) rfl
set_option maxRecDepth 100000 in
theorem ev_T_longestWaiting {e1 ro : List Sh} {P : AR → HP → Prop} (h : HP) (a1 : Int32) (hp : p_T_longestWaiting h a1) (hP : ∀ q, v_T_longestWaiting h a1 = q → RI P h q) : am_Ev m_T_longestWaiting (WT ++ e1) ro P (0, [.ref 0, .int a1, .retAddr 0, .retAddr 0, .retAddr 0], [], h) := by
  unfold p_T_longestWaiting at hp
  refine am_Ev_G [4] 400 _ ?_
  show am_Ev m_T_longestWaiting (WT ++ e1) ro P (4, [.ref 0, .int a1, .int (-1 : Int32), .int 0, .retAddr 0], [], h)
  have hpl := hp
  refine am_itr (E := (fun (v1 : Int32 × Int32) => am_Ev m_T_longestWaiting (WT ++ e1) ro P (4, [.ref 0, .int a1, .int v1.1, .int v1.2, .retAddr 0], [], h))) (E' := (fun (r1 : Int32 × Int32) => am_Ev m_T_longestWaiting (WT ++ e1) ro P (59, [.ref 0, .int a1, .int r1.1, .int r1.2, .retAddr 0], [], h))) (s_T_longestWaiting_4 h a1) (ps_T_longestWaiting_4 h a1) ?_ NF ((-1 : Int32), 0) hpl ?_
  · intro v1 hp hc1 hx1
    show am_Ev m_T_longestWaiting (WT ++ e1) ro P (4, [.ref 0, .int a1, .int v1.1, .int v1.2, .retAddr 0], [], h)
    refine am_Ev_G [18, 59] 400 _ ?_
    show ((¬ v1.2 < (h.1 0 11) → am_Ev m_T_longestWaiting (WT ++ e1) ro P (59, [.ref 0, .int a1, .int v1.1, .int v1.2, .retAddr 0], [], h)) ∧ (v1.2 < (h.1 0 11) → am_Ev m_T_longestWaiting (WT ++ e1) ro P (18, [.ref 0, .int a1, .int v1.1, .int v1.2, .retAddr 0], [.int (v_T_reasonAgainst h a1 v1.2)], h)))
    refine ⟨fun c1 => ?_, fun c1 => ?_⟩
    · skip
      exact hx1 (v1.1, v1.2) (by unfold s_T_longestWaiting_4; simp only [if_neg c1])
    · skip
      have key2 : am_Ev m_T_longestWaiting (WT ++ e1) ro P (26, [.ref 0, .int a1, .int v1.1, .int v1.2, .retAddr 0], [.int (if (v_T_reasonAgainst h a1 v1.2) = 0 then (1 : Int32) else 0)], h) := by
        refine am_Ev_G [30] 400 _ ?_
        show am_Ev m_T_longestWaiting (WT ++ e1) ro P (30, [.ref 0, .int a1, .int v1.1, .int v1.2, .int (if (v_T_reasonAgainst h a1 v1.2) = 0 then (1 : Int32) else 0)], [.int (if (v_T_reasonAgainst h a1 v1.2) = 0 then (1 : Int32) else 0)], h)
        have key3 : am_Ev m_T_longestWaiting (WT ++ e1) ro P (53, [.ref 0, .int a1, .int (if ((if (v_T_reasonAgainst h a1 v1.2) = 0 then (1 : Int32) else 0) : Int32) = 0 then v1.1 else (if v1.1 = (-1 : Int32) then v1.2 else (if (v_T_arrivalOf h v1.2) < (v_T_arrivalOf h v1.1) then v1.2 else v1.1))), .int v1.2, .int (if (v_T_reasonAgainst h a1 v1.2) = 0 then (1 : Int32) else 0)], [], h) := by
          refine am_Ev_G [4] 400 _ ?_
          show am_Ev m_T_longestWaiting (WT ++ e1) ro P (4, [.ref 0, .int a1, .int (if ((if (v_T_reasonAgainst h a1 v1.2) = 0 then (1 : Int32) else 0) : Int32) = 0 then v1.1 else (if v1.1 = (-1 : Int32) then v1.2 else (if (v_T_arrivalOf h v1.2) < (v_T_arrivalOf h v1.1) then v1.2 else v1.1))), .int (v1.2 + 1), .int (if (v_T_reasonAgainst h a1 v1.2) = 0 then (1 : Int32) else 0)], [], h)
          refine am_fg 4 ?_
          exact hc1 ((if ((if (v_T_reasonAgainst h a1 v1.2) = 0 then (1 : Int32) else 0) : Int32) = 0 then v1.1 else (if v1.1 = (-1 : Int32) then v1.2 else (if (v_T_arrivalOf h v1.2) < (v_T_arrivalOf h v1.1) then v1.2 else v1.1))), (v1.2 + 1)) (by unfold s_T_longestWaiting_4; simp only [if_pos c1])
        refine am_Ev_G [53] 400 _ ?_
        show ((((if (v_T_reasonAgainst h a1 v1.2) = 0 then (1 : Int32) else 0) : Int32) = 0 → am_Ev m_T_longestWaiting (WT ++ e1) ro P (53, [.ref 0, .int a1, .int v1.1, .int v1.2, .int (if (v_T_reasonAgainst h a1 v1.2) = 0 then (1 : Int32) else 0)], [], h)) ∧ (¬ ((if (v_T_reasonAgainst h a1 v1.2) = 0 then (1 : Int32) else 0) : Int32) = 0 → ((v1.1 = (-1 : Int32) → am_Ev m_T_longestWaiting (WT ++ e1) ro P (53, [.ref 0, .int a1, .int v1.2, .int v1.2, .int (if (v_T_reasonAgainst h a1 v1.2) = 0 then (1 : Int32) else 0)], [], h)) ∧ (¬ v1.1 = (-1 : Int32) → ((¬ (v_T_arrivalOf h v1.2) < (v_T_arrivalOf h v1.1) → am_Ev m_T_longestWaiting (WT ++ e1) ro P (53, [.ref 0, .int a1, .int v1.1, .int v1.2, .int (if (v_T_reasonAgainst h a1 v1.2) = 0 then (1 : Int32) else 0)], [], h)) ∧ ((v_T_arrivalOf h v1.2) < (v_T_arrivalOf h v1.1) → am_Ev m_T_longestWaiting (WT ++ e1) ro P (53, [.ref 0, .int a1, .int v1.2, .int v1.2, .int (if (v_T_reasonAgainst h a1 v1.2) = 0 then (1 : Int32) else 0)], [], h)))))))
        refine ⟨fun c4 => ?_, fun c4 => ?_⟩
        · skip
          simpa only [if_pos c4] using key3
        · skip
          refine ⟨fun c5 => ?_, fun c5 => ?_⟩
          · skip
            simpa only [if_neg c4, if_pos c5] using key3
          · skip
            refine ⟨fun c6 => ?_, fun c6 => ?_⟩
            · skip
              simpa only [if_neg c4, if_neg c5, if_neg c6] using key3
            · skip
              simpa only [if_neg c4, if_neg c5, if_pos c6] using key3
      refine am_Ev_G [26] 400 _ ?_
      show ((¬ (v_T_reasonAgainst h a1 v1.2) = 0 → am_Ev m_T_longestWaiting (WT ++ e1) ro P (26, [.ref 0, .int a1, .int v1.1, .int v1.2, .retAddr 0], [.int 0], h)) ∧ ((v_T_reasonAgainst h a1 v1.2) = 0 → am_Ev m_T_longestWaiting (WT ++ e1) ro P (26, [.ref 0, .int a1, .int v1.1, .int v1.2, .retAddr 0], [.int 1], h)))
      refine ⟨fun c7 => ?_, fun c7 => ?_⟩
      · skip
        simpa only [if_neg c7] using key2
      · skip
        simpa only [if_pos c7] using key2
  · intro r1 hr8
    show am_Ev m_T_longestWaiting (WT ++ e1) ro P (59, [.ref 0, .int a1, .int r1.1, .int r1.2, .retAddr 0], [], h)
    refine am_Ev_G [] 400 _ ?_
    show P (.inl (some (.int r1.1))) h
    exact hP r1.1 (by unfold v_T_longestWaiting; simp only [hr8])
theorem ok_T_longestWaiting {l : Launch} (hl : l.stackTraces = false) (e1 ro : List Sh) (k : Nat) : am_Ok l (WT ++ e1) ro (d_T_longestWaiting k) := by
  refine am_met hl (own := RX4) (M := m_T_longestWaiting) rfl pf_T_longestWaiting cu_T_longestWaiting rfl rfl rfl rfl (fun _ => rfl) rfl ⟨chk_T_longestWaiting, (am_c (fl_T_59) am_n), (am_c (lk_T_98) (am_c (lk_T_117) am_n)), (am_n), (am_n)⟩ (am_n) (am_c (ok_T_arrivalOf hl e1 _ 14) (am_c (ok_T_reasonAgainst hl e1 _ 14) am_n)) (fun z => nomatch z) ?_ ?_
  · intro _ as h hg
    show g_thr (g_T_longestWaiting (WT ++ e1) ro as h) = none
    unfold g_T_longestWaiting
    split <;> rfl
  · intro as h hg hp
    revert hg hp
    show g_ok (g_T_longestWaiting (WT ++ e1) ro as h) = true → g_pre (g_T_longestWaiting (WT ++ e1) ro as h) → _ ∧ am_Ev m_T_longestWaiting (WT ++ e1) ro (am_eq (g_T_longestWaiting (WT ++ e1) ro as h)) (0, am_ent as 5, [], h)
    unfold g_T_longestWaiting
    split
    · rename_i o1 a1
      intro hc hp
      change (Nat.beq o1 0) = true at hc
      obtain rfl := am_beq hc
      exact ⟨Nat.le_of_ble_eq_true rfl, ev_T_longestWaiting h a1 hp eqRI⟩
    · exact fun z => nomatch z
def k_T_blockEverything (pc : Nat) : Ent := bif Nat.ble 83 pc then am_nop else bif Nat.ble 42 pc then (bif Nat.ble 61 pc then (bif Nat.ble 71 pc then (bif Nat.ble 76 pc then (bif Nat.ble 79 pc then (bif Nat.ble 82 pc then (bif Nat.beq pc 82 then (.return_, 0, 0, []) else am_nop) else (bif Nat.beq pc 79 then (.goto (-37), 0, 42, []) else am_nop)) else (bif Nat.beq pc 76 then (.iinc 2 1, 1, 2, []) else am_nop)) else (bif Nat.ble 72 pc then (bif Nat.ble 75 pc then (bif Nat.beq pc 75 then (.istore_n 1, 0, 1, []) else am_nop) else (bif Nat.beq pc 72 then (.invokevirtual 104, 0, 0, []) else am_nop)) else (bif Nat.beq pc 71 then (.iload_n 1, 0, 1, []) else am_nop))) else (bif Nat.ble 66 pc then (bif Nat.ble 67 pc then (bif Nat.ble 70 pc then (bif Nat.beq pc 70 then (.aload_n 0, 0, 0, []) else am_nop) else (bif Nat.beq pc 67 then (.invokevirtual 110, 0, 0, []) else am_nop)) else (bif Nat.beq pc 66 then (.iload_n 3, 0, 3, []) else am_nop)) else (bif Nat.ble 64 pc then (bif Nat.ble 65 pc then (bif Nat.beq pc 65 then (.iload_n 1, 0, 1, []) else am_nop) else (bif Nat.beq pc 64 then (.aload_n 0, 0, 0, []) else am_nop)) else (bif Nat.beq pc 61 then (.if_icmp .eq 9, 0, 70, []) else am_nop)))) else (bif Nat.ble 53 pc then (bif Nat.ble 58 pc then (bif Nat.ble 59 pc then (bif Nat.ble 60 pc then (bif Nat.beq pc 60 then (.iconst (-1), (-1 : Int32), 0, []) else am_nop) else (bif Nat.beq pc 59 then (.iload_n 3, 0, 3, []) else am_nop)) else (bif Nat.beq pc 58 then (.istore_n 3, 0, 3, []) else am_nop)) else (bif Nat.ble 54 pc then (bif Nat.ble 55 pc then (bif Nat.beq pc 55 then (.invokevirtual 107, 0, 0, []) else am_nop) else (bif Nat.beq pc 54 then (.iload_n 1, 0, 1, []) else am_nop)) else (bif Nat.beq pc 53 then (.aload_n 0, 0, 0, []) else am_nop))) else (bif Nat.ble 48 pc then (bif Nat.ble 49 pc then (bif Nat.ble 50 pc then (bif Nat.beq pc 50 then (.if_icmp .eq 32, 0, 82, []) else am_nop) else (bif Nat.beq pc 49 then (.iconst (-1), (-1 : Int32), 0, []) else am_nop)) else (bif Nat.beq pc 48 then (.iload_n 1, 0, 1, []) else am_nop)) else (bif Nat.ble 43 pc then (bif Nat.ble 45 pc then (bif Nat.beq pc 45 then (.if_icmp .ge 37, 0, 82, []) else am_nop) else (bif Nat.beq pc 43 then (.bipush 20, 20, 0, []) else am_nop)) else (bif Nat.beq pc 42 then (.iload_n 2, 0, 2, []) else am_nop))))) else (bif Nat.ble 20 pc then (bif Nat.ble 34 pc then (bif Nat.ble 39 pc then (bif Nat.ble 40 pc then (bif Nat.ble 41 pc then (bif Nat.beq pc 41 then (.istore_n 2, 0, 2, []) else am_nop) else (bif Nat.beq pc 40 then (.iconst 0, 0, 0, []) else am_nop)) else (bif Nat.beq pc 39 then (.istore_n 1, 0, 1, []) else am_nop)) else (bif Nat.ble 35 pc then (bif Nat.ble 36 pc then (bif Nat.beq pc 36 then (.invokevirtual 104, 0, 0, []) else am_nop) else (bif Nat.beq pc 35 then (.iconst (-1), (-1 : Int32), 0, []) else am_nop)) else (bif Nat.beq pc 34 then (.aload_n 0, 0, 0, []) else am_nop))) else (bif Nat.ble 25 pc then (bif Nat.ble 28 pc then (bif Nat.ble 31 pc then (bif Nat.beq pc 31 then (.goto (-29), 0, 2, []) else am_nop) else (bif Nat.beq pc 28 then (.iinc 1 1, 1, 1, []) else am_nop)) else (bif Nat.beq pc 25 then (.invokestatic 76, 0, 0, []) else am_nop)) else (bif Nat.ble 23 pc then (bif Nat.ble 24 pc then (bif Nat.beq pc 24 then (.iconst (-1), (-1 : Int32), 0, []) else am_nop) else (bif Nat.beq pc 23 then (.iload_n 1, 0, 1, []) else am_nop)) else (bif Nat.beq pc 20 then (.getfield 30, 0, 0, []) else am_nop)))) else (bif Nat.ble 10 pc then (bif Nat.ble 15 pc then (bif Nat.ble 16 pc then (bif Nat.ble 19 pc then (bif Nat.beq pc 19 then (.aload_n 0, 0, 0, []) else am_nop) else (bif Nat.beq pc 16 then (.invokestatic 76, 0, 0, []) else am_nop)) else (bif Nat.beq pc 15 then (.iconst (-1), (-1 : Int32), 0, []) else am_nop)) else (bif Nat.ble 11 pc then (bif Nat.ble 14 pc then (bif Nat.beq pc 14 then (.iload_n 1, 0, 1, []) else am_nop) else (bif Nat.beq pc 11 then (.getfield 27, 0, 0, []) else am_nop)) else (bif Nat.beq pc 10 then (.aload_n 0, 0, 0, []) else am_nop))) else (bif Nat.ble 3 pc then (bif Nat.ble 4 pc then (bif Nat.ble 7 pc then (bif Nat.beq pc 7 then (.if_icmp .ge 27, 0, 34, []) else am_nop) else (bif Nat.beq pc 4 then (.getfield 59, 0, 0, []) else am_nop)) else (bif Nat.beq pc 3 then (.aload_n 0, 0, 0, []) else am_nop)) else (bif Nat.ble 1 pc then (bif Nat.ble 2 pc then (bif Nat.beq pc 2 then (.iload_n 1, 0, 1, []) else am_nop) else (bif Nat.beq pc 1 then (.istore_n 1, 0, 1, []) else am_nop)) else (bif Nat.beq pc 0 then (.iconst 0, 0, 0, []) else am_nop)))))
theorem lk_T_104 : am_lnk RX4 104 (d_T_runTripBehind 14) := ⟨⟨by decide, by decide⟩, am_tb 2 (by decide +kernel) rfl, Or.inr ⟨by decide, rfl, am_tb 354 (by decide +kernel) rfl, am_tp 6 (by decide +kernel) rfl, ⟨TX4, 15, rfl⟩, Or.inl (am_tb 352 (by decide +kernel) rfl)⟩⟩
theorem lk_T_107 : am_lnk RX4 107 (d_T_longestWaiting 14) := ⟨⟨by decide, by decide⟩, am_tb 2 (by decide +kernel) rfl, Or.inr ⟨by decide, rfl, am_tb 369 (by decide +kernel) rfl, am_tp 9 (by decide +kernel) rfl, ⟨TX4, 15, rfl⟩, Or.inl (am_tb 367 (by decide +kernel) rfl)⟩⟩
theorem lk_T_110 : am_lnk RX4 110 (d_T_link 14) := ⟨⟨by decide, by decide⟩, am_tb 2 (by decide +kernel) rfl, Or.inr ⟨by decide, rfl, am_tb 385 (by decide +kernel) rfl, am_tp 13 (by decide +kernel) rfl, ⟨TX4, 15, rfl⟩, Or.inl (am_tb 383 (by decide +kernel) rfl)⟩⟩
def m_T_blockEverything : MI := (k_T_blockEverything, [(27, 4, 5), (30, 4, 6), (59, 4, 11)], [(76, d_B_put 1), (104, d_T_runTripBehind 14), (107, d_T_longestWaiting 14), (110, d_T_link 14)], [], [], [], [], 4, 96, none, fun _ => 0, 1)
def s_T_blockEverything_2 (h : HP) (v1 : Int32 × HP) : (Int32 × HP) ⊕ (Int32 × HP) := (if v1.1 < (v1.2.1 0 11) then (.inl ((v1.1 + 1), (v_put 20 (v_put 20 v1.2 6 v1.1 (-1 : Int32)) 7 v1.1 (-1 : Int32)))) else (.inr (v1.1, v1.2)))
def ps_T_blockEverything_2 (h : HP) (v1 : Int32 × HP) : Prop := True
def s_T_blockEverything_42 (h : HP) (r1 : Int32 × HP) (v1 : Int32 × Int32 × HP) : (Int32 × Int32 × HP) ⊕ (Int32 × Int32 × HP) := (if v1.2.1 < 20 then (if v1.1 = (-1 : Int32) then (.inr (v1.1, v1.2.1, v1.2.2)) else (if (v_T_longestWaiting v1.2.2 v1.1) = (-1 : Int32) then (.inl ((v_T_runTripBehind v1.2.2 v1.1), (v1.2.1 + 1), v1.2.2)) else (bnd (v_T_link v1.2.2 v1.1 (v_T_longestWaiting v1.2.2 v1.1)) fun y3 => (.inl ((v_T_runTripBehind y3 v1.1), (v1.2.1 + 1), y3))))) else (.inr (v1.1, v1.2.1, v1.2.2)))
def ps_T_blockEverything_42 (h : HP) (r1 : Int32 × HP) (v1 : Int32 × Int32 × HP) : Prop := ((v1.2.1 < 20 → ((v1.1 = (-1 : Int32) → True) ∧ (¬ v1.1 = (-1 : Int32) → ((p_T_longestWaiting v1.2.2 v1.1) ∧ (((v_T_longestWaiting v1.2.2 v1.1) = (-1 : Int32) → (p_T_runTripBehind v1.2.2 v1.1)) ∧ (¬ (v_T_longestWaiting v1.2.2 v1.1) = (-1 : Int32) → (∀ y3, v_T_link v1.2.2 v1.1 (v_T_longestWaiting v1.2.2 v1.1) = y3 → (p_T_runTripBehind y3 v1.1)))))))) ∧ (¬ v1.2.1 < 20 → True))
def v_T_blockEverything (h : HP) : HP := (match itr (s_T_blockEverything_2 h) NF (0, h) with | some r1 => (match itr (s_T_blockEverything_42 h r1) NF ((v_T_runTripBehind r1.2 (-1 : Int32)), 0, r1.2) with | some r2 => r2.2.2 | none => h) | none => h)
def p_T_blockEverything (h : HP) : Prop := (itrp (s_T_blockEverything_2 h) (ps_T_blockEverything_2 h) NF (0, h) ∧ ∀ r1, itr (s_T_blockEverything_2 h) NF (0, h) = some r1 → ((p_T_runTripBehind r1.2 (-1 : Int32)) ∧ (itrp (s_T_blockEverything_42 h r1) (ps_T_blockEverything_42 h r1) NF ((v_T_runTripBehind r1.2 (-1 : Int32)), 0, r1.2))))
def g_T_blockEverything (_ _ : List Sh) (as : List Value) (h : HP) : GR := match as with
  | [.ref o1] => (Nat.beq o1 0, p_T_blockEverything h, none, none, v_T_blockEverything h)
  | _ => bad h
def d_T_blockEverything (k : Nat) : CD := (k, yX4_blockEverything, cX4_blockEverything, 4, none, 1, 4, 96, 0, false, true, g_T_blockEverything)
theorem chk_T_blockEverything : ∀ pc, am_chk cX4_blockEverything k_T_blockEverything pc = true := am_chkall 83 (by decide +kernel) (fun pc h => by unfold k_T_blockEverything; rw [Nat.ble_eq_true_of_le h]; rfl)
theorem pf_T_blockEverything : plainFor yX4_blockEverything = true := by decide +kernel
theorem cu_T_blockEverything : Cond.code yX4_blockEverything cX4_blockEverything 4 (none) ∈ am_U := am_tb 351 (by decide +kernel) rfl
set_option maxRecDepth 100000 in
theorem ev_T_blockEverything {e1 ro : List Sh} {P : AR → HP → Prop} (h : HP) (hp : p_T_blockEverything h) (hP : ∀ q, v_T_blockEverything h = q → RVW P h q) : am_Ev m_T_blockEverything (WT ++ e1) ro P (0, [.ref 0, .retAddr 0, .retAddr 0, .retAddr 0], [], h) := by
  unfold p_T_blockEverything at hp
  refine am_Ev_G [2] 400 _ ?_
  show am_Ev m_T_blockEverything (WT ++ e1) ro P (2, [.ref 0, .int 0, .retAddr 0, .retAddr 0], [], h)
  obtain ⟨hpl, hp⟩ := hp
  refine am_itr (E := (fun (v1 : Int32 × HP) => am_Ev m_T_blockEverything (WT ++ e1) ro P (2, [.ref 0, .int v1.1, .retAddr 0, .retAddr 0], [], v1.2))) (E' := (fun (r1 : Int32 × HP) => am_Ev m_T_blockEverything (WT ++ e1) ro P (34, [.ref 0, .int r1.1, .retAddr 0, .retAddr 0], [], r1.2))) (s_T_blockEverything_2 h) (ps_T_blockEverything_2 h) ?_ NF (0, h) hpl ?_
  · intro v1 hp hc1 hx1
    show am_Ev m_T_blockEverything (WT ++ e1) ro P (2, [.ref 0, .int v1.1, .retAddr 0, .retAddr 0], [], v1.2)
    refine am_Ev_G [19, 34] 400 _ ?_
    show ((¬ v1.1 < (v1.2.1 0 11) → am_Ev m_T_blockEverything (WT ++ e1) ro P (34, [.ref 0, .int v1.1, .retAddr 0, .retAddr 0], [], v1.2)) ∧ (v1.1 < (v1.2.1 0 11) → am_Ev m_T_blockEverything (WT ++ e1) ro P (19, [.ref 0, .int v1.1, .retAddr 0, .retAddr 0], [], (v_put 20 v1.2 6 v1.1 (-1 : Int32)))))
    refine ⟨fun c1 => ?_, fun c1 => ?_⟩
    · skip
      exact hx1 (v1.1, v1.2) (by unfold s_T_blockEverything_2; simp only [if_neg c1])
    · skip
      refine am_Ev_G [2] 400 _ ?_
      show am_Ev m_T_blockEverything (WT ++ e1) ro P (2, [.ref 0, .int (v1.1 + 1), .retAddr 0, .retAddr 0], [], (v_put 20 (v_put 20 v1.2 6 v1.1 (-1 : Int32)) 7 v1.1 (-1 : Int32)))
      exact hc1 ((v1.1 + 1), (v_put 20 (v_put 20 v1.2 6 v1.1 (-1 : Int32)) 7 v1.1 (-1 : Int32))) (by unfold s_T_blockEverything_2; simp only [if_pos c1])
  · intro r1 hr2
    have hp := hp _ hr2
    show am_Ev m_T_blockEverything (WT ++ e1) ro P (34, [.ref 0, .int r1.1, .retAddr 0, .retAddr 0], [], r1.2)
    refine am_Ev_G [39] 400 _ ?_
    show ((p_T_runTripBehind r1.2 (-1 : Int32)) ∧ am_Ev m_T_blockEverything (WT ++ e1) ro P (39, [.ref 0, .int r1.1, .retAddr 0, .retAddr 0], [.int (v_T_runTripBehind r1.2 (-1 : Int32))], r1.2))
    obtain ⟨hob, hp⟩ := hp
    refine ⟨hob, ?_⟩
    refine am_Ev_G [42] 400 _ ?_
    show am_Ev m_T_blockEverything (WT ++ e1) ro P (42, [.ref 0, .int (v_T_runTripBehind r1.2 (-1 : Int32)), .int 0, .retAddr 0], [], r1.2)
    have hpl := hp
    refine am_itr (E := (fun (v1 : Int32 × Int32 × HP) => am_Ev m_T_blockEverything (WT ++ e1) ro P (42, [.ref 0, .int v1.1, .int v1.2.1, .retAddr 0], [], v1.2.2))) (E' := (fun (r2 : Int32 × Int32 × HP) => am_Ev m_T_blockEverything (WT ++ e1) ro P (82, [.ref 0, .int r2.1, .int r2.2.1, .retAddr 0], [], r2.2.2))) (s_T_blockEverything_42 h r1) (ps_T_blockEverything_42 h r1) ?_ NF ((v_T_runTripBehind r1.2 (-1 : Int32)), 0, r1.2) hpl ?_
    · intro v1 hp hc1 hx1
      show am_Ev m_T_blockEverything (WT ++ e1) ro P (42, [.ref 0, .int v1.1, .int v1.2.1, .retAddr 0], [], v1.2.2)
      unfold ps_T_blockEverything_42 at hp
      refine am_Ev_G [58, 82] 400 _ ?_
      show ((¬ v1.2.1 < 20 → am_Ev m_T_blockEverything (WT ++ e1) ro P (82, [.ref 0, .int v1.1, .int v1.2.1, .retAddr 0], [], v1.2.2)) ∧ (v1.2.1 < 20 → ((v1.1 = (-1 : Int32) → am_Ev m_T_blockEverything (WT ++ e1) ro P (82, [.ref 0, .int v1.1, .int v1.2.1, .retAddr 0], [], v1.2.2)) ∧ (¬ v1.1 = (-1 : Int32) → ((p_T_longestWaiting v1.2.2 v1.1) ∧ am_Ev m_T_blockEverything (WT ++ e1) ro P (58, [.ref 0, .int v1.1, .int v1.2.1, .retAddr 0], [.int (v_T_longestWaiting v1.2.2 v1.1)], v1.2.2))))))
      refine ⟨fun c3 => ?_, fun c3 => ?_⟩
      · skip
        exact hx1 (v1.1, v1.2.1, v1.2.2) (by unfold s_T_blockEverything_42; simp only [if_neg c3])
      · have hp := hp.1 c3
        refine ⟨fun c4 => ?_, fun c4 => ?_⟩
        · skip
          exact hx1 (v1.1, v1.2.1, v1.2.2) (by unfold s_T_blockEverything_42; simp only [if_pos c3, if_pos c4])
        · have hp := hp.2 c4
          obtain ⟨hob, hp⟩ := hp
          refine ⟨hob, ?_⟩
          refine am_Ev_G [70] 400 _ ?_
          show (((v_T_longestWaiting v1.2.2 v1.1) = (-1 : Int32) → am_Ev m_T_blockEverything (WT ++ e1) ro P (70, [.ref 0, .int v1.1, .int v1.2.1, .int (v_T_longestWaiting v1.2.2 v1.1)], [], v1.2.2)) ∧ (¬ (v_T_longestWaiting v1.2.2 v1.1) = (-1 : Int32) → am_Ev m_T_blockEverything (WT ++ e1) ro P (70, [.ref 0, .int v1.1, .int v1.2.1, .int (v_T_longestWaiting v1.2.2 v1.1)], [], (v_T_link v1.2.2 v1.1 (v_T_longestWaiting v1.2.2 v1.1)))))
          refine ⟨fun c5 => ?_, fun c5 => ?_⟩
          · have hp := hp.1 c5
            refine am_Ev_G [42] 400 _ ?_
            show ((p_T_runTripBehind v1.2.2 v1.1) ∧ am_Ev m_T_blockEverything (WT ++ e1) ro P (42, [.ref 0, .int (v_T_runTripBehind v1.2.2 v1.1), .int (v1.2.1 + 1), .int (v_T_longestWaiting v1.2.2 v1.1)], [], v1.2.2))
            refine ⟨hp, ?_⟩
            refine am_fg 3 ?_
            exact hc1 ((v_T_runTripBehind v1.2.2 v1.1), (v1.2.1 + 1), v1.2.2) (by unfold s_T_blockEverything_42; simp only [if_pos c3, if_neg c4, if_pos c5])
          · have hp := hp.2 c5
            obtain ⟨y3, c6⟩ : ∃ y, v_T_link v1.2.2 v1.1 (v_T_longestWaiting v1.2.2 v1.1) = y := ⟨_, rfl⟩
            rw [c6]
            have hp := hp _ c6
            show am_Ev m_T_blockEverything (WT ++ e1) ro P (70, [.ref 0, .int v1.1, .int v1.2.1, .int (v_T_longestWaiting v1.2.2 v1.1)], [], y3)
            refine am_Ev_G [42] 400 _ ?_
            show ((p_T_runTripBehind y3 v1.1) ∧ am_Ev m_T_blockEverything (WT ++ e1) ro P (42, [.ref 0, .int (v_T_runTripBehind y3 v1.1), .int (v1.2.1 + 1), .int (v_T_longestWaiting v1.2.2 v1.1)], [], y3))
            refine ⟨hp, ?_⟩
            refine am_fg 3 ?_
            exact hc1 ((v_T_runTripBehind y3 v1.1), (v1.2.1 + 1), y3) (by unfold s_T_blockEverything_42; simp only [if_pos c3, if_neg c4, if_neg c5, bnd, c6])
    · intro r2 hr7
      show am_Ev m_T_blockEverything (WT ++ e1) ro P (82, [.ref 0, .int r2.1, .int r2.2.1, .retAddr 0], [], r2.2.2)
      refine am_Ev_G [] 400 _ ?_
      show P (.inl none) r2.2.2
      exact hP r2.2.2 (by unfold v_T_blockEverything; simp only [hr2, hr7])
theorem ok_T_blockEverything {l : Launch} (hl : l.stackTraces = false) (e1 ro : List Sh) (k : Nat) : am_Ok l (WT ++ e1) ro (d_T_blockEverything k) := by
  refine am_met hl (own := RX4) (M := m_T_blockEverything) rfl pf_T_blockEverything cu_T_blockEverything rfl rfl rfl rfl (fun _ => rfl) rfl ⟨chk_T_blockEverything, (am_c (fl_T_27) (am_c (fl_T_30) (am_c (fl_T_59) am_n))), (am_c (lk_T_76) (am_c (lk_T_104) (am_c (lk_T_107) (am_c (lk_T_110) am_n)))), (am_n), (am_n)⟩ (am_n) (am_c (ok_B_put hl _ _ 1) (am_c (ok_T_runTripBehind hl e1 _ 14) (am_c (ok_T_longestWaiting hl e1 _ 14) (am_c (ok_T_link hl e1 _ 14) am_n)))) (fun z => nomatch z) ?_ ?_
  · intro _ as h hg
    show g_thr (g_T_blockEverything (WT ++ e1) ro as h) = none
    unfold g_T_blockEverything
    split <;> rfl
  · intro as h hg hp
    revert hg hp
    show g_ok (g_T_blockEverything (WT ++ e1) ro as h) = true → g_pre (g_T_blockEverything (WT ++ e1) ro as h) → _ ∧ am_Ev m_T_blockEverything (WT ++ e1) ro (am_eq (g_T_blockEverything (WT ++ e1) ro as h)) (0, am_ent as 4, [], h)
    unfold g_T_blockEverything
    split
    · rename_i o1
      intro hc hp
      change (Nat.beq o1 0) = true at hc
      obtain rfl := am_beq hc
      exact ⟨Nat.le_of_ble_eq_true rfl, ev_T_blockEverything h hp eqRVW⟩
    · exact fun z => nomatch z
def k_T_isHead (pc : Nat) : Ent := bif Nat.ble 29 pc then am_nop else bif Nat.ble 15 pc then (bif Nat.ble 23 pc then (bif Nat.ble 27 pc then (bif Nat.ble 28 pc then (bif Nat.beq pc 28 then (.ireturn, 0, 0, []) else am_nop) else (bif Nat.beq pc 27 then (.iconst 0, 0, 0, []) else am_nop)) else (bif Nat.ble 24 pc then (bif Nat.beq pc 24 then (.goto 4, 0, 28, []) else am_nop) else (bif Nat.beq pc 23 then (.iconst 1, 1, 0, []) else am_nop))) else (bif Nat.ble 19 pc then (bif Nat.ble 20 pc then (bif Nat.beq pc 20 then (.if_icmp .ne 7, 0, 27, []) else am_nop) else (bif Nat.beq pc 19 then (.iconst (-1), (-1 : Int32), 0, []) else am_nop)) else (bif Nat.ble 16 pc then (bif Nat.beq pc 16 then (.invokestatic 80, 0, 0, []) else am_nop) else (bif Nat.beq pc 15 then (.iload_n 1, 0, 1, []) else am_nop)))) else (bif Nat.ble 5 pc then (bif Nat.ble 11 pc then (bif Nat.ble 12 pc then (bif Nat.beq pc 12 then (.getfield 27, 0, 0, []) else am_nop) else (bif Nat.beq pc 11 then (.aload_n 0, 0, 0, []) else am_nop)) else (bif Nat.ble 8 pc then (bif Nat.beq pc 8 then (.ifCond .ne 19, 0, 27, []) else am_nop) else (bif Nat.beq pc 5 then (.invokestatic 80, 0, 0, []) else am_nop))) else (bif Nat.ble 1 pc then (bif Nat.ble 4 pc then (bif Nat.beq pc 4 then (.iload_n 1, 0, 1, []) else am_nop) else (bif Nat.beq pc 1 then (.getfield 33, 0, 0, []) else am_nop)) else (bif Nat.beq pc 0 then (.aload_n 0, 0, 0, []) else am_nop)))
def m_T_isHead : MI := (k_T_isHead, [(27, 4, 5), (33, 4, 7)], [(80, d_B_at 1)], [], [], [], [], 1, 23, some .boolean, fun _ => 0, 1)
def v_T_isHead (h : HP) (a1 : Int32) : Int32 := (if (v_at 20 (h.1 8) a1) = 0 then (if (v_at 20 (h.1 6) a1) = (-1 : Int32) then (1 : Int32) else 0) else 0)
def g_T_isHead (_ _ : List Sh) (as : List Value) (h : HP) : GR := match as with
  | [.ref o1, .int a1] => (Nat.beq o1 0, True, none, some (.int (v_T_isHead h a1)), h)
  | _ => bad h
def d_T_isHead (k : Nat) : CD := (k, yX4_isHead, cX4_isHead, 2, some .boolean, 2, 1, 23, 0, false, false, g_T_isHead)
theorem chk_T_isHead : ∀ pc, am_chk cX4_isHead k_T_isHead pc = true := am_chkall 29 (by decide +kernel) (fun pc h => by unfold k_T_isHead; rw [Nat.ble_eq_true_of_le h]; rfl)
theorem pf_T_isHead : plainFor yX4_isHead = true := by decide +kernel
theorem cu_T_isHead : Cond.code yX4_isHead cX4_isHead 2 (some .boolean) ∈ am_U := am_tb 398 (by decide +kernel) rfl
set_option maxRecDepth 100000 in
theorem ev_T_isHead {e1 ro : List Sh} {P : AR → HP → Prop} (h : HP) (a1 : Int32) (hP : ∀ q, v_T_isHead h a1 = q → RI P h q) : am_Ev m_T_isHead (WT ++ e1) ro P (0, [.ref 0, .int a1], [], h) := by
  refine am_Ev_G [8] 400 _ ?_
  show am_Ev m_T_isHead (WT ++ e1) ro P (8, [.ref 0, .int a1], [.int (v_at 20 (h.1 8) a1)], h)
  have key1 : am_Ev m_T_isHead (WT ++ e1) ro P (28, [.ref 0, .int a1], [.int (if (v_at 20 (h.1 8) a1) = 0 then (if (v_at 20 (h.1 6) a1) = (-1 : Int32) then (1 : Int32) else 0) else 0)], h) := by
    refine am_Ev_G [] 400 _ ?_
    show (((((if (v_at 20 (h.1 8) a1) = 0 then (if (v_at 20 (h.1 6) a1) = (-1 : Int32) then (1 : Int32) else 0) else 0) : Int32) = 0 ∨ ((if (v_at 20 (h.1 8) a1) = 0 then (if (v_at 20 (h.1 6) a1) = (-1 : Int32) then (1 : Int32) else 0) else 0) : Int32) = 1)) ∧ P (.inl (some (.int (if (v_at 20 (h.1 8) a1) = 0 then (if (v_at 20 (h.1 6) a1) = (-1 : Int32) then (1 : Int32) else 0) else 0)))) h)
    refine ⟨(by (repeat' split) <;> decide), ?_⟩
    exact hP (if (v_at 20 (h.1 8) a1) = 0 then (if (v_at 20 (h.1 6) a1) = (-1 : Int32) then (1 : Int32) else 0) else 0) rfl
  refine am_Ev_G [28] 400 _ ?_
  show ((¬ (v_at 20 (h.1 8) a1) = 0 → am_Ev m_T_isHead (WT ++ e1) ro P (28, [.ref 0, .int a1], [.int 0], h)) ∧ ((v_at 20 (h.1 8) a1) = 0 → ((¬ (v_at 20 (h.1 6) a1) = (-1 : Int32) → am_Ev m_T_isHead (WT ++ e1) ro P (28, [.ref 0, .int a1], [.int 0], h)) ∧ ((v_at 20 (h.1 6) a1) = (-1 : Int32) → am_Ev m_T_isHead (WT ++ e1) ro P (28, [.ref 0, .int a1], [.int 1], h)))))
  refine ⟨fun c2 => ?_, fun c2 => ?_⟩
  · skip
    simpa only [if_neg c2] using key1
  · skip
    refine ⟨fun c3 => ?_, fun c3 => ?_⟩
    · skip
      simpa only [if_pos c2, if_neg c3] using key1
    · skip
      simpa only [if_pos c2, if_pos c3] using key1
theorem ok_T_isHead {l : Launch} (hl : l.stackTraces = false) (e1 ro : List Sh) (k : Nat) : am_Ok l (WT ++ e1) ro (d_T_isHead k) := by
  refine am_met hl (own := RX4) (M := m_T_isHead) rfl pf_T_isHead cu_T_isHead rfl rfl rfl rfl (fun _ => rfl) rfl ⟨chk_T_isHead, (am_c (fl_T_27) (am_c (fl_T_33) am_n)), (am_c (lk_T_80) am_n), (am_n), (am_n)⟩ (am_n) (am_c (ok_B_at hl _ _ 1) am_n) ?_ ?_ ?_
  · intro _ as h hg
    show g_pre (g_T_isHead (WT ++ e1) ro as h)
    unfold g_T_isHead
    split <;> exact trivial
  · intro _ as h hg
    show g_thr (g_T_isHead (WT ++ e1) ro as h) = none
    unfold g_T_isHead
    split <;> rfl
  · intro as h hg hp
    revert hg hp
    show g_ok (g_T_isHead (WT ++ e1) ro as h) = true → g_pre (g_T_isHead (WT ++ e1) ro as h) → _ ∧ am_Ev m_T_isHead (WT ++ e1) ro (am_eq (g_T_isHead (WT ++ e1) ro as h)) (0, am_ent as 2, [], h)
    unfold g_T_isHead
    split
    · rename_i o1 a1
      intro hc hp
      change (Nat.beq o1 0) = true at hc
      obtain rfl := am_beq hc
      exact ⟨Nat.le_of_ble_eq_true rfl, ev_T_isHead h a1 eqRI⟩
    · exact fun z => nomatch z
def k_T_headsBelow (pc : Nat) : Ent := bif Nat.ble 33 pc then am_nop else bif Nat.ble 12 pc then (bif Nat.ble 23 pc then (bif Nat.ble 28 pc then (bif Nat.ble 31 pc then (bif Nat.ble 32 pc then (bif Nat.beq pc 32 then (.ireturn, 0, 0, []) else am_nop) else (bif Nat.beq pc 31 then (.iload_n 2, 0, 2, []) else am_nop)) else (bif Nat.beq pc 28 then (.goto (-24), 0, 4, []) else am_nop)) else (bif Nat.ble 24 pc then (bif Nat.ble 25 pc then (bif Nat.beq pc 25 then (.iinc 3 1, 1, 3, []) else am_nop) else (bif Nat.beq pc 24 then (.istore_n 2, 0, 2, []) else am_nop)) else (bif Nat.beq pc 23 then (.iadd, 0, 0, []) else am_nop))) else (bif Nat.ble 18 pc then (bif Nat.ble 19 pc then (bif Nat.ble 22 pc then (bif Nat.beq pc 22 then (.iconst 0, 0, 0, []) else am_nop) else (bif Nat.beq pc 19 then (.goto 4, 0, 23, []) else am_nop)) else (bif Nat.beq pc 18 then (.iconst 1, 1, 0, []) else am_nop)) else (bif Nat.ble 15 pc then (bif Nat.beq pc 15 then (.ifCond .eq 7, 0, 22, []) else am_nop) else (bif Nat.beq pc 12 then (.invokevirtual 120, 0, 0, []) else am_nop)))) else (bif Nat.ble 5 pc then (bif Nat.ble 9 pc then (bif Nat.ble 10 pc then (bif Nat.ble 11 pc then (bif Nat.beq pc 11 then (.iload_n 3, 0, 3, []) else am_nop) else (bif Nat.beq pc 10 then (.aload_n 0, 0, 0, []) else am_nop)) else (bif Nat.beq pc 9 then (.iload_n 2, 0, 2, []) else am_nop)) else (bif Nat.ble 6 pc then (bif Nat.beq pc 6 then (.if_icmp .ge 25, 0, 31, []) else am_nop) else (bif Nat.beq pc 5 then (.iload_n 1, 0, 1, []) else am_nop))) else (bif Nat.ble 2 pc then (bif Nat.ble 3 pc then (bif Nat.ble 4 pc then (bif Nat.beq pc 4 then (.iload_n 3, 0, 3, []) else am_nop) else (bif Nat.beq pc 3 then (.istore_n 3, 0, 3, []) else am_nop)) else (bif Nat.beq pc 2 then (.iconst 0, 0, 0, []) else am_nop)) else (bif Nat.ble 1 pc then (bif Nat.beq pc 1 then (.istore_n 2, 0, 2, []) else am_nop) else (bif Nat.beq pc 0 then (.iconst 0, 0, 0, []) else am_nop))))
theorem lk_T_120 : am_lnk RX4 120 (d_T_isHead 14) := ⟨⟨by decide, by decide⟩, am_tb 2 (by decide +kernel) rfl, Or.inr ⟨by decide, rfl, am_tb 397 (by decide +kernel) rfl, am_tp 16 (by decide +kernel) rfl, ⟨TX4, 15, rfl⟩, Or.inl (am_tb 395 (by decide +kernel) rfl)⟩⟩
def m_T_headsBelow : MI := (k_T_headsBelow, [], [(120, d_T_isHead 14)], [], [], [], [], 2, 46, some .int, fun _ => 0, 1)
def s_T_headsBelow_4 (h : HP) (a1 : Int32) (v1 : Int32 × Int32) : (Int32 × Int32) ⊕ (Int32 × Int32) := (if v1.2 < a1 then (.inl ((v1.1 + (if (v_T_isHead h v1.2) = 0 then (0 : Int32) else 1)), (v1.2 + 1))) else (.inr (v1.1, v1.2)))
def ps_T_headsBelow_4 (h : HP) (a1 : Int32) (v1 : Int32 × Int32) : Prop := True
def v_T_headsBelow (h : HP) (a1 : Int32) : Int32 := (match itr (s_T_headsBelow_4 h a1) NF (0, 0) with | some r1 => r1.1 | none => 0)
def p_T_headsBelow (h : HP) (a1 : Int32) : Prop := (itrp (s_T_headsBelow_4 h a1) (ps_T_headsBelow_4 h a1) NF (0, 0))
def g_T_headsBelow (_ _ : List Sh) (as : List Value) (h : HP) : GR := match as with
  | [.ref o1, .int a1] => (Nat.beq o1 0, p_T_headsBelow h a1, none, some (.int (v_T_headsBelow h a1)), h)
  | _ => bad h
def d_T_headsBelow (k : Nat) : CD := (k, yX4_headsBelow, cX4_headsBelow, 4, some .int, 2, 2, 46, 0, false, true, g_T_headsBelow)
theorem chk_T_headsBelow : ∀ pc, am_chk cX4_headsBelow k_T_headsBelow pc = true := am_chkall 33 (by decide +kernel) (fun pc h => by unfold k_T_headsBelow; rw [Nat.ble_eq_true_of_le h]; rfl)
theorem pf_T_headsBelow : plainFor yX4_headsBelow = true := by decide +kernel
theorem cu_T_headsBelow : Cond.code yX4_headsBelow cX4_headsBelow 4 (some .int) ∈ am_U := am_tb 394 (by decide +kernel) rfl
set_option maxRecDepth 100000 in
theorem ev_T_headsBelow {e1 ro : List Sh} {P : AR → HP → Prop} (h : HP) (a1 : Int32) (hp : p_T_headsBelow h a1) (hP : ∀ q, v_T_headsBelow h a1 = q → RI P h q) : am_Ev m_T_headsBelow (WT ++ e1) ro P (0, [.ref 0, .int a1, .retAddr 0, .retAddr 0], [], h) := by
  unfold p_T_headsBelow at hp
  refine am_Ev_G [4] 400 _ ?_
  show am_Ev m_T_headsBelow (WT ++ e1) ro P (4, [.ref 0, .int a1, .int 0, .int 0], [], h)
  have hpl := hp
  refine am_itr (E := (fun (v1 : Int32 × Int32) => am_Ev m_T_headsBelow (WT ++ e1) ro P (4, [.ref 0, .int a1, .int v1.1, .int v1.2], [], h))) (E' := (fun (r1 : Int32 × Int32) => am_Ev m_T_headsBelow (WT ++ e1) ro P (31, [.ref 0, .int a1, .int r1.1, .int r1.2], [], h))) (s_T_headsBelow_4 h a1) (ps_T_headsBelow_4 h a1) ?_ NF (0, 0) hpl ?_
  · intro v1 hp hc1 hx1
    show am_Ev m_T_headsBelow (WT ++ e1) ro P (4, [.ref 0, .int a1, .int v1.1, .int v1.2], [], h)
    refine am_Ev_G [15, 31] 400 _ ?_
    show ((¬ v1.2 < a1 → am_Ev m_T_headsBelow (WT ++ e1) ro P (31, [.ref 0, .int a1, .int v1.1, .int v1.2], [], h)) ∧ (v1.2 < a1 → am_Ev m_T_headsBelow (WT ++ e1) ro P (15, [.ref 0, .int a1, .int v1.1, .int v1.2], [.int (v_T_isHead h v1.2), .int v1.1], h)))
    refine ⟨fun c1 => ?_, fun c1 => ?_⟩
    · skip
      exact hx1 (v1.1, v1.2) (by unfold s_T_headsBelow_4; simp only [if_neg c1])
    · skip
      have key2 : am_Ev m_T_headsBelow (WT ++ e1) ro P (23, [.ref 0, .int a1, .int v1.1, .int v1.2], [.int (if (v_T_isHead h v1.2) = 0 then (0 : Int32) else 1), .int v1.1], h) := by
        refine am_Ev_G [4] 400 _ ?_
        show am_Ev m_T_headsBelow (WT ++ e1) ro P (4, [.ref 0, .int a1, .int (v1.1 + (if (v_T_isHead h v1.2) = 0 then (0 : Int32) else 1)), .int (v1.2 + 1)], [], h)
        exact hc1 ((v1.1 + (if (v_T_isHead h v1.2) = 0 then (0 : Int32) else 1)), (v1.2 + 1)) (by unfold s_T_headsBelow_4; simp only [if_pos c1])
      refine am_Ev_G [23] 400 _ ?_
      show (((v_T_isHead h v1.2) = 0 → am_Ev m_T_headsBelow (WT ++ e1) ro P (23, [.ref 0, .int a1, .int v1.1, .int v1.2], [.int 0, .int v1.1], h)) ∧ (¬ (v_T_isHead h v1.2) = 0 → am_Ev m_T_headsBelow (WT ++ e1) ro P (23, [.ref 0, .int a1, .int v1.1, .int v1.2], [.int 1, .int v1.1], h)))
      refine ⟨fun c3 => ?_, fun c3 => ?_⟩
      · skip
        simpa only [if_pos c3] using key2
      · skip
        simpa only [if_neg c3] using key2
  · intro r1 hr4
    show am_Ev m_T_headsBelow (WT ++ e1) ro P (31, [.ref 0, .int a1, .int r1.1, .int r1.2], [], h)
    refine am_Ev_G [] 400 _ ?_
    show P (.inl (some (.int r1.1))) h
    exact hP r1.1 (by unfold v_T_headsBelow; simp only [hr4])
theorem ok_T_headsBelow {l : Launch} (hl : l.stackTraces = false) (e1 ro : List Sh) (k : Nat) : am_Ok l (WT ++ e1) ro (d_T_headsBelow k) := by
  refine am_met hl (own := RX4) (M := m_T_headsBelow) rfl pf_T_headsBelow cu_T_headsBelow rfl rfl rfl rfl (fun _ => rfl) rfl ⟨chk_T_headsBelow, (am_n), (am_c (lk_T_120) am_n), (am_n), (am_n)⟩ (am_n) (am_c (ok_T_isHead hl e1 _ 14) am_n) (fun z => nomatch z) ?_ ?_
  · intro _ as h hg
    show g_thr (g_T_headsBelow (WT ++ e1) ro as h) = none
    unfold g_T_headsBelow
    split <;> rfl
  · intro as h hg hp
    revert hg hp
    show g_ok (g_T_headsBelow (WT ++ e1) ro as h) = true → g_pre (g_T_headsBelow (WT ++ e1) ro as h) → _ ∧ am_Ev m_T_headsBelow (WT ++ e1) ro (am_eq (g_T_headsBelow (WT ++ e1) ro as h)) (0, am_ent as 4, [], h)
    unfold g_T_headsBelow
    split
    · rename_i o1 a1
      intro hc hp
      change (Nat.beq o1 0) = true at hc
      obtain rfl := am_beq hc
      exact ⟨Nat.le_of_ble_eq_true rfl, ev_T_headsBelow h a1 hp eqRI⟩
    · exact fun z => nomatch z
def k_T_blocks (pc : Nat) : Ent := bif Nat.ble 9 pc then am_nop else bif Nat.ble 2 pc then (bif Nat.ble 5 pc then (bif Nat.ble 8 pc then (bif Nat.beq pc 8 then (.ireturn, 0, 0, []) else am_nop) else (bif Nat.beq pc 5 then (.invokevirtual 123, 0, 0, []) else am_nop)) else (bif Nat.beq pc 2 then (.getfield 59, 0, 0, []) else am_nop)) else (bif Nat.ble 1 pc then (bif Nat.beq pc 1 then (.aload_n 0, 0, 0, []) else am_nop) else (bif Nat.beq pc 0 then (.aload_n 0, 0, 0, []) else am_nop))
theorem lk_T_123 : am_lnk RX4 123 (d_T_headsBelow 14) := ⟨⟨by decide, by decide⟩, am_tb 2 (by decide +kernel) rfl, Or.inr ⟨by decide, rfl, am_tb 393 (by decide +kernel) rfl, am_tp 15 (by decide +kernel) rfl, ⟨TX4, 15, rfl⟩, Or.inl (am_tb 391 (by decide +kernel) rfl)⟩⟩
def m_T_blocks : MI := (k_T_blocks, [(59, 4, 11)], [(123, d_T_headsBelow 14)], [], [], [], [], 3, 71, some .int, fun _ => 0, 1)
def v_T_blocks (h : HP) : Int32 := (v_T_headsBelow h (h.1 0 11))
def p_T_blocks (h : HP) : Prop := (p_T_headsBelow h (h.1 0 11))
def g_T_blocks (_ _ : List Sh) (as : List Value) (h : HP) : GR := match as with
  | [.ref o1] => (Nat.beq o1 0, p_T_blocks h, none, some (.int (v_T_blocks h)), h)
  | _ => bad h
def d_T_blocks (k : Nat) : CD := (k, yX4_blocks, cX4_blocks, 1, some .int, 1, 3, 71, 0, false, true, g_T_blocks)
theorem chk_T_blocks : ∀ pc, am_chk cX4_blocks k_T_blocks pc = true := am_chkall 9 (by decide +kernel) (fun pc h => by unfold k_T_blocks; rw [Nat.ble_eq_true_of_le h]; rfl)
theorem pf_T_blocks : plainFor yX4_blocks = true := by decide +kernel
theorem cu_T_blocks : Cond.code yX4_blocks cX4_blocks 1 (some .int) ∈ am_U := am_tb 390 (by decide +kernel) rfl
set_option maxRecDepth 100000 in
theorem ev_T_blocks {e1 ro : List Sh} {P : AR → HP → Prop} (h : HP) (hp : p_T_blocks h) (hP : ∀ q, v_T_blocks h = q → RI P h q) : am_Ev m_T_blocks (WT ++ e1) ro P (0, [.ref 0], [], h) := by
  unfold p_T_blocks at hp
  refine am_Ev_G [] 400 _ ?_
  show ((p_T_headsBelow h (h.1 0 11)) ∧ P (.inl (some (.int (v_T_headsBelow h (h.1 0 11))))) h)
  refine ⟨hp, ?_⟩
  exact hP (v_T_headsBelow h (h.1 0 11)) rfl
theorem ok_T_blocks {l : Launch} (hl : l.stackTraces = false) (e1 ro : List Sh) (k : Nat) : am_Ok l (WT ++ e1) ro (d_T_blocks k) := by
  refine am_met hl (own := RX4) (M := m_T_blocks) rfl pf_T_blocks cu_T_blocks rfl rfl rfl rfl (fun _ => rfl) rfl ⟨chk_T_blocks, (am_c (fl_T_59) am_n), (am_c (lk_T_123) am_n), (am_n), (am_n)⟩ (am_n) (am_c (ok_T_headsBelow hl e1 _ 14) am_n) (fun z => nomatch z) ?_ ?_
  · intro _ as h hg
    show g_thr (g_T_blocks (WT ++ e1) ro as h) = none
    unfold g_T_blocks
    split <;> rfl
  · intro as h hg hp
    revert hg hp
    show g_ok (g_T_blocks (WT ++ e1) ro as h) = true → g_pre (g_T_blocks (WT ++ e1) ro as h) → _ ∧ am_Ev m_T_blocks (WT ++ e1) ro (am_eq (g_T_blocks (WT ++ e1) ro as h)) (0, am_ent as 1, [], h)
    unfold g_T_blocks
    split
    · rename_i o1
      intro hc hp
      change (Nat.beq o1 0) = true at hc
      obtain rfl := am_beq hc
      exact ⟨Nat.le_of_ble_eq_true rfl, ev_T_blocks h hp eqRI⟩
    · exact fun z => nomatch z
def k_T_headOf (pc : Nat) : Ent := bif Nat.ble 38 pc then am_nop else bif Nat.ble 17 pc then (bif Nat.ble 26 pc then (bif Nat.ble 33 pc then (bif Nat.ble 36 pc then (bif Nat.ble 37 pc then (bif Nat.beq pc 37 then (.ireturn, 0, 0, []) else am_nop) else (bif Nat.beq pc 36 then (.iconst (-1), (-1 : Int32), 0, []) else am_nop)) else (bif Nat.beq pc 33 then (.goto (-29), 0, 4, []) else am_nop)) else (bif Nat.ble 27 pc then (bif Nat.ble 30 pc then (bif Nat.beq pc 30 then (.iinc 3 1, 1, 3, []) else am_nop) else (bif Nat.beq pc 27 then (.iinc 2 1, 1, 2, []) else am_nop)) else (bif Nat.beq pc 26 then (.ireturn, 0, 0, []) else am_nop))) else (bif Nat.ble 21 pc then (bif Nat.ble 22 pc then (bif Nat.ble 25 pc then (bif Nat.beq pc 25 then (.iload_n 3, 0, 3, []) else am_nop) else (bif Nat.beq pc 22 then (.if_icmp .ne 5, 0, 27, []) else am_nop)) else (bif Nat.beq pc 21 then (.iload_n 1, 0, 1, []) else am_nop)) else (bif Nat.ble 20 pc then (bif Nat.beq pc 20 then (.iload_n 2, 0, 2, []) else am_nop) else (bif Nat.beq pc 17 then (.ifCond .eq 13, 0, 30, []) else am_nop)))) else (bif Nat.ble 5 pc then (bif Nat.ble 12 pc then (bif Nat.ble 13 pc then (bif Nat.ble 14 pc then (bif Nat.beq pc 14 then (.invokevirtual 120, 0, 0, []) else am_nop) else (bif Nat.beq pc 13 then (.iload_n 3, 0, 3, []) else am_nop)) else (bif Nat.beq pc 12 then (.aload_n 0, 0, 0, []) else am_nop)) else (bif Nat.ble 6 pc then (bif Nat.ble 9 pc then (bif Nat.beq pc 9 then (.if_icmp .ge 27, 0, 36, []) else am_nop) else (bif Nat.beq pc 6 then (.getfield 59, 0, 0, []) else am_nop)) else (bif Nat.beq pc 5 then (.aload_n 0, 0, 0, []) else am_nop))) else (bif Nat.ble 2 pc then (bif Nat.ble 3 pc then (bif Nat.ble 4 pc then (bif Nat.beq pc 4 then (.iload_n 3, 0, 3, []) else am_nop) else (bif Nat.beq pc 3 then (.istore_n 3, 0, 3, []) else am_nop)) else (bif Nat.beq pc 2 then (.iconst 0, 0, 0, []) else am_nop)) else (bif Nat.ble 1 pc then (bif Nat.beq pc 1 then (.istore_n 2, 0, 2, []) else am_nop) else (bif Nat.beq pc 0 then (.iconst 0, 0, 0, []) else am_nop))))
def m_T_headOf : MI := (k_T_headOf, [(59, 4, 11)], [(120, d_T_isHead 14)], [], [], [], [], 2, 46, some .int, fun _ => 0, 1)
def s_T_headOf_4 (h : HP) (a1 : Int32) (v1 : Int32 × Int32) : (Int32 × Int32) ⊕ ((Int32 × Int32) ⊕ (Int32)) := (if v1.2 < (h.1 0 11) then (if (v_T_isHead h v1.2) = 0 then (.inl (v1.1, (v1.2 + 1))) else (if v1.1 = a1 then (.inr (.inr v1.2)) else (.inl ((v1.1 + 1), (v1.2 + 1))))) else (.inr (.inl (v1.1, v1.2))))
def ps_T_headOf_4 (h : HP) (a1 : Int32) (v1 : Int32 × Int32) : Prop := True
def v_T_headOf (h : HP) (a1 : Int32) : Int32 := (match itr (s_T_headOf_4 h a1) NF (0, 0) with | some (.inl r1) => (-1 : Int32) | some (.inr q) => q | none => 0)
def p_T_headOf (h : HP) (a1 : Int32) : Prop := (itrp (s_T_headOf_4 h a1) (ps_T_headOf_4 h a1) NF (0, 0))
def g_T_headOf (_ _ : List Sh) (as : List Value) (h : HP) : GR := match as with
  | [.ref o1, .int a1] => (Nat.beq o1 0, p_T_headOf h a1, none, some (.int (v_T_headOf h a1)), h)
  | _ => bad h
def d_T_headOf (k : Nat) : CD := (k, yX4_headOf, cX4_headOf, 4, some .int, 2, 2, 46, 0, false, true, g_T_headOf)
theorem chk_T_headOf : ∀ pc, am_chk cX4_headOf k_T_headOf pc = true := am_chkall 38 (by decide +kernel) (fun pc h => by unfold k_T_headOf; rw [Nat.ble_eq_true_of_le h]; rfl)
theorem pf_T_headOf : plainFor yX4_headOf = true := by decide +kernel
theorem cu_T_headOf : Cond.code yX4_headOf cX4_headOf 4 (some .int) ∈ am_U := am_tb 701 (by decide +kernel) rfl
set_option maxRecDepth 100000 in
theorem ev_T_headOf {e1 ro : List Sh} {P : AR → HP → Prop} (h : HP) (a1 : Int32) (hp : p_T_headOf h a1) (hP : ∀ q, v_T_headOf h a1 = q → RI P h q) : am_Ev m_T_headOf (WT ++ e1) ro P (0, [.ref 0, .int a1, .retAddr 0, .retAddr 0], [], h) := by
  unfold p_T_headOf at hp
  refine am_Ev_G [4] 400 _ ?_
  show am_Ev m_T_headOf (WT ++ e1) ro P (4, [.ref 0, .int a1, .int 0, .int 0], [], h)
  have hpl := hp
  refine am_itr (E := (fun (v1 : Int32 × Int32) => am_Ev m_T_headOf (WT ++ e1) ro P (4, [.ref 0, .int a1, .int v1.1, .int v1.2], [], h))) (E' := (fun (x : (Int32 × Int32) ⊕ (Int32)) => match x with | .inl r1 => am_Ev m_T_headOf (WT ++ e1) ro P (36, [.ref 0, .int a1, .int r1.1, .int r1.2], [], h) | .inr q => RI P h q)) (s_T_headOf_4 h a1) (ps_T_headOf_4 h a1) ?_ NF (0, 0) hpl ?_
  · intro v1 hp hc1 hx1
    show am_Ev m_T_headOf (WT ++ e1) ro P (4, [.ref 0, .int a1, .int v1.1, .int v1.2], [], h)
    refine am_Ev_G [17, 36] 400 _ ?_
    show ((¬ v1.2 < (h.1 0 11) → am_Ev m_T_headOf (WT ++ e1) ro P (36, [.ref 0, .int a1, .int v1.1, .int v1.2], [], h)) ∧ (v1.2 < (h.1 0 11) → am_Ev m_T_headOf (WT ++ e1) ro P (17, [.ref 0, .int a1, .int v1.1, .int v1.2], [.int (v_T_isHead h v1.2)], h)))
    refine ⟨fun c1 => ?_, fun c1 => ?_⟩
    · skip
      exact hx1 (.inl (v1.1, v1.2)) (by unfold s_T_headOf_4; simp only [if_neg c1])
    · skip
      refine am_Ev_G [4] 400 _ ?_
      show (((v_T_isHead h v1.2) = 0 → am_Ev m_T_headOf (WT ++ e1) ro P (4, [.ref 0, .int a1, .int v1.1, .int (v1.2 + 1)], [], h)) ∧ (¬ (v_T_isHead h v1.2) = 0 → ((¬ v1.1 = a1 → am_Ev m_T_headOf (WT ++ e1) ro P (4, [.ref 0, .int a1, .int (v1.1 + 1), .int (v1.2 + 1)], [], h)) ∧ (v1.1 = a1 → P (.inl (some (.int v1.2))) h))))
      refine ⟨fun c2 => ?_, fun c2 => ?_⟩
      · skip
        exact hc1 (v1.1, (v1.2 + 1)) (by unfold s_T_headOf_4; simp only [if_pos c1, if_pos c2])
      · skip
        refine ⟨fun c3 => ?_, fun c3 => ?_⟩
        · skip
          exact hc1 ((v1.1 + 1), (v1.2 + 1)) (by unfold s_T_headOf_4; simp only [if_pos c1, if_neg c2, if_neg c3])
        · skip
          exact hx1 (.inr v1.2) (by unfold s_T_headOf_4; simp only [if_pos c1, if_neg c2, if_pos c3])
  · intro x hr4
    rcases x with r1 | q
    · skip
      show am_Ev m_T_headOf (WT ++ e1) ro P (36, [.ref 0, .int a1, .int r1.1, .int r1.2], [], h)
      refine am_Ev_G [] 400 _ ?_
      show P (.inl (some (.int (-1 : Int32)))) h
      exact hP (-1 : Int32) (by unfold v_T_headOf; simp only [hr4])
    · show RI P h q
      exact hP q (by unfold v_T_headOf; simp only [hr4])
theorem ok_T_headOf {l : Launch} (hl : l.stackTraces = false) (e1 ro : List Sh) (k : Nat) : am_Ok l (WT ++ e1) ro (d_T_headOf k) := by
  refine am_met hl (own := RX4) (M := m_T_headOf) rfl pf_T_headOf cu_T_headOf rfl rfl rfl rfl (fun _ => rfl) rfl ⟨chk_T_headOf, (am_c (fl_T_59) am_n), (am_c (lk_T_120) am_n), (am_n), (am_n)⟩ (am_n) (am_c (ok_T_isHead hl e1 _ 14) am_n) (fun z => nomatch z) ?_ ?_
  · intro _ as h hg
    show g_thr (g_T_headOf (WT ++ e1) ro as h) = none
    unfold g_T_headOf
    split <;> rfl
  · intro as h hg hp
    revert hg hp
    show g_ok (g_T_headOf (WT ++ e1) ro as h) = true → g_pre (g_T_headOf (WT ++ e1) ro as h) → _ ∧ am_Ev m_T_headOf (WT ++ e1) ro (am_eq (g_T_headOf (WT ++ e1) ro as h)) (0, am_ent as 4, [], h)
    unfold g_T_headOf
    split
    · rename_i o1 a1
      intro hc hp
      change (Nat.beq o1 0) = true at hc
      obtain rfl := am_beq hc
      exact ⟨Nat.le_of_ble_eq_true rfl, ev_T_headOf h a1 hp eqRI⟩
    · exact fun z => nomatch z
def k_T_blockWith (pc : Nat) : Ent := bif Nat.ble 53 pc then am_nop else bif Nat.ble 24 pc then (bif Nat.ble 37 pc then (bif Nat.ble 47 pc then (bif Nat.ble 49 pc then (bif Nat.ble 52 pc then (bif Nat.beq pc 52 then (.ireturn, 0, 0, []) else am_nop) else (bif Nat.beq pc 49 then (.invokevirtual 123, 0, 0, []) else am_nop)) else (bif Nat.ble 48 pc then (bif Nat.beq pc 48 then (.iload_n 2, 0, 2, []) else am_nop) else (bif Nat.beq pc 47 then (.aload_n 0, 0, 0, []) else am_nop))) else (bif Nat.ble 41 pc then (bif Nat.ble 44 pc then (bif Nat.beq pc 44 then (.goto (-30), 0, 14, []) else am_nop) else (bif Nat.beq pc 41 then (.iinc 3 1, 1, 3, []) else am_nop)) else (bif Nat.ble 40 pc then (bif Nat.beq pc 40 then (.istore_n 2, 0, 2, []) else am_nop) else (bif Nat.beq pc 37 then (.invokestatic 80, 0, 0, []) else am_nop)))) else (bif Nat.ble 29 pc then (bif Nat.ble 33 pc then (bif Nat.ble 36 pc then (bif Nat.beq pc 36 then (.iload_n 2, 0, 2, []) else am_nop) else (bif Nat.beq pc 33 then (.getfield 27, 0, 0, []) else am_nop)) else (bif Nat.ble 32 pc then (bif Nat.beq pc 32 then (.aload_n 0, 0, 0, []) else am_nop) else (bif Nat.beq pc 29 then (.if_icmp .eq 18, 0, 47, []) else am_nop))) else (bif Nat.ble 25 pc then (bif Nat.ble 28 pc then (bif Nat.beq pc 28 then (.iconst (-1), (-1 : Int32), 0, []) else am_nop) else (bif Nat.beq pc 25 then (.invokestatic 80, 0, 0, []) else am_nop)) else (bif Nat.beq pc 24 then (.iload_n 2, 0, 2, []) else am_nop)))) else (bif Nat.ble 11 pc then (bif Nat.ble 15 pc then (bif Nat.ble 20 pc then (bif Nat.ble 21 pc then (bif Nat.beq pc 21 then (.getfield 27, 0, 0, []) else am_nop) else (bif Nat.beq pc 20 then (.aload_n 0, 0, 0, []) else am_nop)) else (bif Nat.ble 17 pc then (bif Nat.beq pc 17 then (.if_icmp .ge 30, 0, 47, []) else am_nop) else (bif Nat.beq pc 15 then (.bipush 20, 20, 0, []) else am_nop))) else (bif Nat.ble 13 pc then (bif Nat.ble 14 pc then (bif Nat.beq pc 14 then (.iload_n 3, 0, 3, []) else am_nop) else (bif Nat.beq pc 13 then (.istore_n 3, 0, 3, []) else am_nop)) else (bif Nat.ble 12 pc then (bif Nat.beq pc 12 then (.iconst 0, 0, 0, []) else am_nop) else (bif Nat.beq pc 11 then (.istore_n 2, 0, 2, []) else am_nop)))) else (bif Nat.ble 5 pc then (bif Nat.ble 9 pc then (bif Nat.ble 10 pc then (bif Nat.beq pc 10 then (.iload_n 1, 0, 1, []) else am_nop) else (bif Nat.beq pc 9 then (.ireturn, 0, 0, []) else am_nop)) else (bif Nat.ble 8 pc then (bif Nat.beq pc 8 then (.iconst (-1), (-1 : Int32), 0, []) else am_nop) else (bif Nat.beq pc 5 then (.ifCond .ne 5, 0, 10, []) else am_nop))) else (bif Nat.ble 1 pc then (bif Nat.ble 2 pc then (bif Nat.beq pc 2 then (.invokevirtual 84, 0, 0, []) else am_nop) else (bif Nat.beq pc 1 then (.iload_n 1, 0, 1, []) else am_nop)) else (bif Nat.beq pc 0 then (.aload_n 0, 0, 0, []) else am_nop))))
def m_T_blockWith : MI := (k_T_blockWith, [(27, 4, 5)], [(80, d_B_at 1), (84, d_T_isRun 14), (123, d_T_headsBelow 14)], [], [], [], [], 3, 71, some .int, fun _ => 0, 1)
def s_T_blockWith_14 (h : HP) (a1 : Int32) (v1 : Int32 × Int32) : (Int32 × Int32) ⊕ (Int32 × Int32) := (if v1.2 < 20 then (if (v_at 20 (h.1 6) v1.1) = (-1 : Int32) then (.inr (v1.1, v1.2)) else (.inl ((v_at 20 (h.1 6) v1.1), (v1.2 + 1)))) else (.inr (v1.1, v1.2)))
def ps_T_blockWith_14 (h : HP) (a1 : Int32) (v1 : Int32 × Int32) : Prop := True
def v_T_blockWith (h : HP) (a1 : Int32) : Int32 := (if (v_T_isRun h a1) = 0 then (-1 : Int32) else (match itr (s_T_blockWith_14 h a1) NF (a1, 0) with | some r1 => (v_T_headsBelow h r1.1) | none => 0))
def p_T_blockWith (h : HP) (a1 : Int32) : Prop := (((v_T_isRun h a1) = 0 → True) ∧ (¬ (v_T_isRun h a1) = 0 → (itrp (s_T_blockWith_14 h a1) (ps_T_blockWith_14 h a1) NF (a1, 0) ∧ ∀ r1, itr (s_T_blockWith_14 h a1) NF (a1, 0) = some r1 → (p_T_headsBelow h r1.1))))
def g_T_blockWith (_ _ : List Sh) (as : List Value) (h : HP) : GR := match as with
  | [.ref o1, .int a1] => (Nat.beq o1 0, p_T_blockWith h a1, none, some (.int (v_T_blockWith h a1)), h)
  | _ => bad h
def d_T_blockWith (k : Nat) : CD := (k, yX4_blockWith, cX4_blockWith, 4, some .int, 2, 3, 71, 0, false, true, g_T_blockWith)
theorem chk_T_blockWith : ∀ pc, am_chk cX4_blockWith k_T_blockWith pc = true := am_chkall 53 (by decide +kernel) (fun pc h => by unfold k_T_blockWith; rw [Nat.ble_eq_true_of_le h]; rfl)
theorem pf_T_blockWith : plainFor yX4_blockWith = true := by decide +kernel
theorem cu_T_blockWith : Cond.code yX4_blockWith cX4_blockWith 4 (some .int) ∈ am_U := am_tb 693 (by decide +kernel) rfl
set_option maxRecDepth 100000 in
theorem ev_T_blockWith {e1 ro : List Sh} {P : AR → HP → Prop} (h : HP) (a1 : Int32) (hp : p_T_blockWith h a1) (hP : ∀ q, v_T_blockWith h a1 = q → RI P h q) : am_Ev m_T_blockWith (WT ++ e1) ro P (0, [.ref 0, .int a1, .retAddr 0, .retAddr 0], [], h) := by
  unfold p_T_blockWith at hp
  refine am_Ev_G [14] 400 _ ?_
  show ((¬ (v_T_isRun h a1) = 0 → am_Ev m_T_blockWith (WT ++ e1) ro P (14, [.ref 0, .int a1, .int a1, .int 0], [], h)) ∧ ((v_T_isRun h a1) = 0 → P (.inl (some (.int (-1 : Int32)))) h))
  refine ⟨fun c1 => ?_, fun c1 => ?_⟩
  · have hp := hp.2 c1
    refine am_fg 1 ?_
    obtain ⟨hpl, hp⟩ := hp
    refine am_itr (E := (fun (v1 : Int32 × Int32) => am_Ev m_T_blockWith (WT ++ e1) ro P (14, [.ref 0, .retAddr 0, .int v1.1, .int v1.2], [], h))) (E' := (fun (r1 : Int32 × Int32) => am_Ev m_T_blockWith (WT ++ e1) ro P (47, [.ref 0, .retAddr 0, .int r1.1, .int r1.2], [], h))) (s_T_blockWith_14 h a1) (ps_T_blockWith_14 h a1) ?_ NF (a1, 0) hpl ?_
    · intro v1 hp hc1 hx1
      show am_Ev m_T_blockWith (WT ++ e1) ro P (14, [.ref 0, .retAddr 0, .int v1.1, .int v1.2], [], h)
      refine am_Ev_G [24, 47] 400 _ ?_
      show ((¬ v1.2 < 20 → am_Ev m_T_blockWith (WT ++ e1) ro P (47, [.ref 0, .retAddr 0, .int v1.1, .int v1.2], [], h)) ∧ (v1.2 < 20 → am_Ev m_T_blockWith (WT ++ e1) ro P (24, [.ref 0, .retAddr 0, .int v1.1, .int v1.2], [.ref 6], h)))
      refine ⟨fun c2 => ?_, fun c2 => ?_⟩
      · skip
        exact hx1 (v1.1, v1.2) (by unfold s_T_blockWith_14; simp only [if_neg c2])
      · skip
        refine am_Ev_G [40, 47] 400 _ ?_
        show (((v_at 20 (h.1 6) v1.1) = (-1 : Int32) → am_Ev m_T_blockWith (WT ++ e1) ro P (47, [.ref 0, .retAddr 0, .int v1.1, .int v1.2], [], h)) ∧ (¬ (v_at 20 (h.1 6) v1.1) = (-1 : Int32) → am_Ev m_T_blockWith (WT ++ e1) ro P (40, [.ref 0, .retAddr 0, .int v1.1, .int v1.2], [.int (v_at 20 (h.1 6) v1.1)], h)))
        refine ⟨fun c3 => ?_, fun c3 => ?_⟩
        · skip
          exact hx1 (v1.1, v1.2) (by unfold s_T_blockWith_14; simp only [if_pos c2, if_pos c3])
        · skip
          refine am_Ev_G [14] 400 _ ?_
          show am_Ev m_T_blockWith (WT ++ e1) ro P (14, [.ref 0, .retAddr 0, .int (v_at 20 (h.1 6) v1.1), .int (v1.2 + 1)], [], h)
          exact hc1 ((v_at 20 (h.1 6) v1.1), (v1.2 + 1)) (by unfold s_T_blockWith_14; simp only [if_pos c2, if_neg c3])
    · intro r1 hr4
      have hp := hp _ hr4
      show am_Ev m_T_blockWith (WT ++ e1) ro P (47, [.ref 0, .retAddr 0, .int r1.1, .int r1.2], [], h)
      refine am_Ev_G [] 400 _ ?_
      show ((p_T_headsBelow h r1.1) ∧ P (.inl (some (.int (v_T_headsBelow h r1.1)))) h)
      refine ⟨hp, ?_⟩
      exact hP (v_T_headsBelow h r1.1) (by unfold v_T_blockWith; simp only [if_neg c1, hr4])
  · skip
    exact hP (-1 : Int32) (by unfold v_T_blockWith; simp only [if_pos c1])
theorem ok_T_blockWith {l : Launch} (hl : l.stackTraces = false) (e1 ro : List Sh) (k : Nat) : am_Ok l (WT ++ e1) ro (d_T_blockWith k) := by
  refine am_met hl (own := RX4) (M := m_T_blockWith) rfl pf_T_blockWith cu_T_blockWith rfl rfl rfl rfl (fun _ => rfl) rfl ⟨chk_T_blockWith, (am_c (fl_T_27) am_n), (am_c (lk_T_80) (am_c (lk_T_84) (am_c (lk_T_123) am_n))), (am_n), (am_n)⟩ (am_n) (am_c (ok_B_at hl _ _ 1) (am_c (ok_T_isRun hl e1 _ 14) (am_c (ok_T_headsBelow hl e1 _ 14) am_n))) (fun z => nomatch z) ?_ ?_
  · intro _ as h hg
    show g_thr (g_T_blockWith (WT ++ e1) ro as h) = none
    unfold g_T_blockWith
    split <;> rfl
  · intro as h hg hp
    revert hg hp
    show g_ok (g_T_blockWith (WT ++ e1) ro as h) = true → g_pre (g_T_blockWith (WT ++ e1) ro as h) → _ ∧ am_Ev m_T_blockWith (WT ++ e1) ro (am_eq (g_T_blockWith (WT ++ e1) ro as h)) (0, am_ent as 4, [], h)
    unfold g_T_blockWith
    split
    · rename_i o1 a1
      intro hc hp
      change (Nat.beq o1 0) = true at hc
      obtain rfl := am_beq hc
      exact ⟨Nat.le_of_ble_eq_true rfl, ev_T_blockWith h a1 hp eqRI⟩
    · exact fun z => nomatch z
def k_T_endFrom (pc : Nat) : Ent := bif Nat.ble 39 pc then am_nop else bif Nat.ble 18 pc then (bif Nat.ble 27 pc then (bif Nat.ble 34 pc then (bif Nat.ble 37 pc then (bif Nat.ble 38 pc then (bif Nat.beq pc 38 then (.ireturn, 0, 0, []) else am_nop) else (bif Nat.beq pc 37 then (.iload_n 2, 0, 2, []) else am_nop)) else (bif Nat.beq pc 34 then (.goto (-30), 0, 4, []) else am_nop)) else (bif Nat.ble 30 pc then (bif Nat.ble 31 pc then (bif Nat.beq pc 31 then (.iinc 3 1, 1, 3, []) else am_nop) else (bif Nat.beq pc 30 then (.istore_n 2, 0, 2, []) else am_nop)) else (bif Nat.beq pc 27 then (.invokestatic 80, 0, 0, []) else am_nop))) else (bif Nat.ble 22 pc then (bif Nat.ble 23 pc then (bif Nat.ble 26 pc then (bif Nat.beq pc 26 then (.iload_n 2, 0, 2, []) else am_nop) else (bif Nat.beq pc 23 then (.getfield 30, 0, 0, []) else am_nop)) else (bif Nat.beq pc 22 then (.aload_n 0, 0, 0, []) else am_nop)) else (bif Nat.ble 19 pc then (bif Nat.beq pc 19 then (.if_icmp .eq 18, 0, 37, []) else am_nop) else (bif Nat.beq pc 18 then (.iconst (-1), (-1 : Int32), 0, []) else am_nop)))) else (bif Nat.ble 5 pc then (bif Nat.ble 11 pc then (bif Nat.ble 14 pc then (bif Nat.ble 15 pc then (bif Nat.beq pc 15 then (.invokestatic 80, 0, 0, []) else am_nop) else (bif Nat.beq pc 14 then (.iload_n 2, 0, 2, []) else am_nop)) else (bif Nat.beq pc 11 then (.getfield 30, 0, 0, []) else am_nop)) else (bif Nat.ble 7 pc then (bif Nat.ble 10 pc then (bif Nat.beq pc 10 then (.aload_n 0, 0, 0, []) else am_nop) else (bif Nat.beq pc 7 then (.if_icmp .ge 30, 0, 37, []) else am_nop)) else (bif Nat.beq pc 5 then (.bipush 20, 20, 0, []) else am_nop))) else (bif Nat.ble 2 pc then (bif Nat.ble 3 pc then (bif Nat.ble 4 pc then (bif Nat.beq pc 4 then (.iload_n 3, 0, 3, []) else am_nop) else (bif Nat.beq pc 3 then (.istore_n 3, 0, 3, []) else am_nop)) else (bif Nat.beq pc 2 then (.iconst 0, 0, 0, []) else am_nop)) else (bif Nat.ble 1 pc then (bif Nat.beq pc 1 then (.istore_n 2, 0, 2, []) else am_nop) else (bif Nat.beq pc 0 then (.iload_n 1, 0, 1, []) else am_nop))))
def m_T_endFrom : MI := (k_T_endFrom, [(30, 4, 6)], [(80, d_B_at 1)], [], [], [], [], 1, 23, some .int, fun _ => 0, 1)
def s_T_endFrom_4 (h : HP) (a1 : Int32) (v1 : Int32 × Int32) : (Int32 × Int32) ⊕ (Int32 × Int32) := (if v1.2 < 20 then (if (v_at 20 (h.1 7) v1.1) = (-1 : Int32) then (.inr (v1.1, v1.2)) else (.inl ((v_at 20 (h.1 7) v1.1), (v1.2 + 1)))) else (.inr (v1.1, v1.2)))
def ps_T_endFrom_4 (h : HP) (a1 : Int32) (v1 : Int32 × Int32) : Prop := True
def v_T_endFrom (h : HP) (a1 : Int32) : Int32 := (match itr (s_T_endFrom_4 h a1) NF (a1, 0) with | some r1 => r1.1 | none => 0)
def p_T_endFrom (h : HP) (a1 : Int32) : Prop := (itrp (s_T_endFrom_4 h a1) (ps_T_endFrom_4 h a1) NF (a1, 0))
def g_T_endFrom (_ _ : List Sh) (as : List Value) (h : HP) : GR := match as with
  | [.ref o1, .int a1] => (Nat.beq o1 0, p_T_endFrom h a1, none, some (.int (v_T_endFrom h a1)), h)
  | _ => bad h
def d_T_endFrom (k : Nat) : CD := (k, yX4_endFrom, cX4_endFrom, 4, some .int, 2, 1, 23, 0, false, true, g_T_endFrom)
theorem chk_T_endFrom : ∀ pc, am_chk cX4_endFrom k_T_endFrom pc = true := am_chkall 39 (by decide +kernel) (fun pc h => by unfold k_T_endFrom; rw [Nat.ble_eq_true_of_le h]; rfl)
theorem pf_T_endFrom : plainFor yX4_endFrom = true := by decide +kernel
theorem cu_T_endFrom : Cond.code yX4_endFrom cX4_endFrom 4 (some .int) ∈ am_U := am_tb 717 (by decide +kernel) rfl
set_option maxRecDepth 100000 in
theorem ev_T_endFrom {e1 ro : List Sh} {P : AR → HP → Prop} (h : HP) (a1 : Int32) (hp : p_T_endFrom h a1) (hP : ∀ q, v_T_endFrom h a1 = q → RI P h q) : am_Ev m_T_endFrom (WT ++ e1) ro P (0, [.ref 0, .int a1, .retAddr 0, .retAddr 0], [], h) := by
  unfold p_T_endFrom at hp
  refine am_Ev_G [4] 400 _ ?_
  show am_Ev m_T_endFrom (WT ++ e1) ro P (4, [.ref 0, .int a1, .int a1, .int 0], [], h)
  refine am_fg 1 ?_
  have hpl := hp
  refine am_itr (E := (fun (v1 : Int32 × Int32) => am_Ev m_T_endFrom (WT ++ e1) ro P (4, [.ref 0, .retAddr 0, .int v1.1, .int v1.2], [], h))) (E' := (fun (r1 : Int32 × Int32) => am_Ev m_T_endFrom (WT ++ e1) ro P (37, [.ref 0, .retAddr 0, .int r1.1, .int r1.2], [], h))) (s_T_endFrom_4 h a1) (ps_T_endFrom_4 h a1) ?_ NF (a1, 0) hpl ?_
  · intro v1 hp hc1 hx1
    show am_Ev m_T_endFrom (WT ++ e1) ro P (4, [.ref 0, .retAddr 0, .int v1.1, .int v1.2], [], h)
    refine am_Ev_G [18, 37] 400 _ ?_
    show ((¬ v1.2 < 20 → am_Ev m_T_endFrom (WT ++ e1) ro P (37, [.ref 0, .retAddr 0, .int v1.1, .int v1.2], [], h)) ∧ (v1.2 < 20 → am_Ev m_T_endFrom (WT ++ e1) ro P (18, [.ref 0, .retAddr 0, .int v1.1, .int v1.2], [.int (v_at 20 (h.1 7) v1.1)], h)))
    refine ⟨fun c1 => ?_, fun c1 => ?_⟩
    · skip
      exact hx1 (v1.1, v1.2) (by unfold s_T_endFrom_4; simp only [if_neg c1])
    · skip
      refine am_Ev_G [4, 37] 400 _ ?_
      show (((v_at 20 (h.1 7) v1.1) = (-1 : Int32) → am_Ev m_T_endFrom (WT ++ e1) ro P (37, [.ref 0, .retAddr 0, .int v1.1, .int v1.2], [], h)) ∧ (¬ (v_at 20 (h.1 7) v1.1) = (-1 : Int32) → am_Ev m_T_endFrom (WT ++ e1) ro P (4, [.ref 0, .retAddr 0, .int (v_at 20 (h.1 7) v1.1), .int (v1.2 + 1)], [], h)))
      refine ⟨fun c2 => ?_, fun c2 => ?_⟩
      · skip
        exact hx1 (v1.1, v1.2) (by unfold s_T_endFrom_4; simp only [if_pos c1, if_pos c2])
      · skip
        exact hc1 ((v_at 20 (h.1 7) v1.1), (v1.2 + 1)) (by unfold s_T_endFrom_4; simp only [if_pos c1, if_neg c2])
  · intro r1 hr3
    show am_Ev m_T_endFrom (WT ++ e1) ro P (37, [.ref 0, .retAddr 0, .int r1.1, .int r1.2], [], h)
    refine am_Ev_G [] 400 _ ?_
    show P (.inl (some (.int r1.1))) h
    exact hP r1.1 (by unfold v_T_endFrom; simp only [hr3])
theorem ok_T_endFrom {l : Launch} (hl : l.stackTraces = false) (e1 ro : List Sh) (k : Nat) : am_Ok l (WT ++ e1) ro (d_T_endFrom k) := by
  refine am_met hl (own := RX4) (M := m_T_endFrom) rfl pf_T_endFrom cu_T_endFrom rfl rfl rfl rfl (fun _ => rfl) rfl ⟨chk_T_endFrom, (am_c (fl_T_30) am_n), (am_c (lk_T_80) am_n), (am_n), (am_n)⟩ (am_n) (am_c (ok_B_at hl _ _ 1) am_n) (fun z => nomatch z) ?_ ?_
  · intro _ as h hg
    show g_thr (g_T_endFrom (WT ++ e1) ro as h) = none
    unfold g_T_endFrom
    split <;> rfl
  · intro as h hg hp
    revert hg hp
    show g_ok (g_T_endFrom (WT ++ e1) ro as h) = true → g_pre (g_T_endFrom (WT ++ e1) ro as h) → _ ∧ am_Ev m_T_endFrom (WT ++ e1) ro (am_eq (g_T_endFrom (WT ++ e1) ro as h)) (0, am_ent as 4, [], h)
    unfold g_T_endFrom
    split
    · rename_i o1 a1
      intro hc hp
      change (Nat.beq o1 0) = true at hc
      obtain rfl := am_beq hc
      exact ⟨Nat.le_of_ble_eq_true rfl, ev_T_endFrom h a1 hp eqRI⟩
    · exact fun z => nomatch z
def k_T_tripsFrom (pc : Nat) : Ent := bif Nat.ble 32 pc then am_nop else bif Nat.ble 12 pc then (bif Nat.ble 23 pc then (bif Nat.ble 27 pc then (bif Nat.ble 30 pc then (bif Nat.ble 31 pc then (bif Nat.beq pc 31 then (.ireturn, 0, 0, []) else am_nop) else (bif Nat.beq pc 30 then (.iload_n 2, 0, 2, []) else am_nop)) else (bif Nat.beq pc 27 then (.goto (-23), 0, 4, []) else am_nop)) else (bif Nat.ble 26 pc then (bif Nat.beq pc 26 then (.istore_n 3, 0, 3, []) else am_nop) else (bif Nat.beq pc 23 then (.invokestatic 80, 0, 0, []) else am_nop))) else (bif Nat.ble 18 pc then (bif Nat.ble 19 pc then (bif Nat.ble 22 pc then (bif Nat.beq pc 22 then (.iload_n 3, 0, 3, []) else am_nop) else (bif Nat.beq pc 19 then (.getfield 30, 0, 0, []) else am_nop)) else (bif Nat.beq pc 18 then (.aload_n 0, 0, 0, []) else am_nop)) else (bif Nat.ble 15 pc then (bif Nat.beq pc 15 then (.iinc 2 1, 1, 2, []) else am_nop) else (bif Nat.beq pc 12 then (.if_icmp .ge 18, 0, 30, []) else am_nop)))) else (bif Nat.ble 4 pc then (bif Nat.ble 6 pc then (bif Nat.ble 9 pc then (bif Nat.ble 10 pc then (bif Nat.beq pc 10 then (.bipush 20, 20, 0, []) else am_nop) else (bif Nat.beq pc 9 then (.iload_n 2, 0, 2, []) else am_nop)) else (bif Nat.beq pc 6 then (.if_icmp .eq 24, 0, 30, []) else am_nop)) else (bif Nat.ble 5 pc then (bif Nat.beq pc 5 then (.iconst (-1), (-1 : Int32), 0, []) else am_nop) else (bif Nat.beq pc 4 then (.iload_n 3, 0, 3, []) else am_nop))) else (bif Nat.ble 2 pc then (bif Nat.ble 3 pc then (bif Nat.beq pc 3 then (.istore_n 3, 0, 3, []) else am_nop) else (bif Nat.beq pc 2 then (.iload_n 1, 0, 1, []) else am_nop)) else (bif Nat.ble 1 pc then (bif Nat.beq pc 1 then (.istore_n 2, 0, 2, []) else am_nop) else (bif Nat.beq pc 0 then (.iconst 0, 0, 0, []) else am_nop))))
def m_T_tripsFrom : MI := (k_T_tripsFrom, [(30, 4, 6)], [(80, d_B_at 1)], [], [], [], [], 1, 23, some .int, fun _ => 0, 1)
def s_T_tripsFrom_4 (h : HP) (a1 : Int32) (v1 : Int32 × Int32) : (Int32 × Int32) ⊕ (Int32 × Int32) := (if v1.2 = (-1 : Int32) then (.inr (v1.1, v1.2)) else (if v1.1 < 20 then (.inl ((v1.1 + 1), (v_at 20 (h.1 7) v1.2))) else (.inr (v1.1, v1.2))))
def ps_T_tripsFrom_4 (h : HP) (a1 : Int32) (v1 : Int32 × Int32) : Prop := True
def v_T_tripsFrom (h : HP) (a1 : Int32) : Int32 := (match itr (s_T_tripsFrom_4 h a1) NF (0, a1) with | some r1 => r1.1 | none => 0)
def p_T_tripsFrom (h : HP) (a1 : Int32) : Prop := (itrp (s_T_tripsFrom_4 h a1) (ps_T_tripsFrom_4 h a1) NF (0, a1))
def g_T_tripsFrom (_ _ : List Sh) (as : List Value) (h : HP) : GR := match as with
  | [.ref o1, .int a1] => (Nat.beq o1 0, p_T_tripsFrom h a1, none, some (.int (v_T_tripsFrom h a1)), h)
  | _ => bad h
def d_T_tripsFrom (k : Nat) : CD := (k, yX4_tripsFrom, cX4_tripsFrom, 4, some .int, 2, 1, 23, 0, false, true, g_T_tripsFrom)
theorem chk_T_tripsFrom : ∀ pc, am_chk cX4_tripsFrom k_T_tripsFrom pc = true := am_chkall 32 (by decide +kernel) (fun pc h => by unfold k_T_tripsFrom; rw [Nat.ble_eq_true_of_le h]; rfl)
theorem pf_T_tripsFrom : plainFor yX4_tripsFrom = true := by decide +kernel
theorem cu_T_tripsFrom : Cond.code yX4_tripsFrom cX4_tripsFrom 4 (some .int) ∈ am_U := am_tb 709 (by decide +kernel) rfl
set_option maxRecDepth 100000 in
theorem ev_T_tripsFrom {e1 ro : List Sh} {P : AR → HP → Prop} (h : HP) (a1 : Int32) (hp : p_T_tripsFrom h a1) (hP : ∀ q, v_T_tripsFrom h a1 = q → RI P h q) : am_Ev m_T_tripsFrom (WT ++ e1) ro P (0, [.ref 0, .int a1, .retAddr 0, .retAddr 0], [], h) := by
  unfold p_T_tripsFrom at hp
  refine am_Ev_G [4] 400 _ ?_
  show am_Ev m_T_tripsFrom (WT ++ e1) ro P (4, [.ref 0, .int a1, .int 0, .int a1], [], h)
  refine am_fg 1 ?_
  have hpl := hp
  refine am_itr (E := (fun (v1 : Int32 × Int32) => am_Ev m_T_tripsFrom (WT ++ e1) ro P (4, [.ref 0, .retAddr 0, .int v1.1, .int v1.2], [], h))) (E' := (fun (r1 : Int32 × Int32) => am_Ev m_T_tripsFrom (WT ++ e1) ro P (30, [.ref 0, .retAddr 0, .int r1.1, .int r1.2], [], h))) (s_T_tripsFrom_4 h a1) (ps_T_tripsFrom_4 h a1) ?_ NF (0, a1) hpl ?_
  · intro v1 hp hc1 hx1
    show am_Ev m_T_tripsFrom (WT ++ e1) ro P (4, [.ref 0, .retAddr 0, .int v1.1, .int v1.2], [], h)
    refine am_Ev_G [26, 30] 400 _ ?_
    show ((v1.2 = (-1 : Int32) → am_Ev m_T_tripsFrom (WT ++ e1) ro P (30, [.ref 0, .retAddr 0, .int v1.1, .int v1.2], [], h)) ∧ (¬ v1.2 = (-1 : Int32) → ((¬ v1.1 < 20 → am_Ev m_T_tripsFrom (WT ++ e1) ro P (30, [.ref 0, .retAddr 0, .int v1.1, .int v1.2], [], h)) ∧ (v1.1 < 20 → am_Ev m_T_tripsFrom (WT ++ e1) ro P (26, [.ref 0, .retAddr 0, .int (v1.1 + 1), .int v1.2], [.int (v_at 20 (h.1 7) v1.2)], h)))))
    refine ⟨fun c1 => ?_, fun c1 => ?_⟩
    · skip
      exact hx1 (v1.1, v1.2) (by unfold s_T_tripsFrom_4; simp only [if_pos c1])
    · skip
      refine ⟨fun c2 => ?_, fun c2 => ?_⟩
      · skip
        exact hx1 (v1.1, v1.2) (by unfold s_T_tripsFrom_4; simp only [if_neg c1, if_neg c2])
      · skip
        refine am_Ev_G [4] 400 _ ?_
        show am_Ev m_T_tripsFrom (WT ++ e1) ro P (4, [.ref 0, .retAddr 0, .int (v1.1 + 1), .int (v_at 20 (h.1 7) v1.2)], [], h)
        exact hc1 ((v1.1 + 1), (v_at 20 (h.1 7) v1.2)) (by unfold s_T_tripsFrom_4; simp only [if_neg c1, if_pos c2])
  · intro r1 hr3
    show am_Ev m_T_tripsFrom (WT ++ e1) ro P (30, [.ref 0, .retAddr 0, .int r1.1, .int r1.2], [], h)
    refine am_Ev_G [] 400 _ ?_
    show P (.inl (some (.int r1.1))) h
    exact hP r1.1 (by unfold v_T_tripsFrom; simp only [hr3])
theorem ok_T_tripsFrom {l : Launch} (hl : l.stackTraces = false) (e1 ro : List Sh) (k : Nat) : am_Ok l (WT ++ e1) ro (d_T_tripsFrom k) := by
  refine am_met hl (own := RX4) (M := m_T_tripsFrom) rfl pf_T_tripsFrom cu_T_tripsFrom rfl rfl rfl rfl (fun _ => rfl) rfl ⟨chk_T_tripsFrom, (am_c (fl_T_30) am_n), (am_c (lk_T_80) am_n), (am_n), (am_n)⟩ (am_n) (am_c (ok_B_at hl _ _ 1) am_n) (fun z => nomatch z) ?_ ?_
  · intro _ as h hg
    show g_thr (g_T_tripsFrom (WT ++ e1) ro as h) = none
    unfold g_T_tripsFrom
    split <;> rfl
  · intro as h hg hp
    revert hg hp
    show g_ok (g_T_tripsFrom (WT ++ e1) ro as h) = true → g_pre (g_T_tripsFrom (WT ++ e1) ro as h) → _ ∧ am_Ev m_T_tripsFrom (WT ++ e1) ro (am_eq (g_T_tripsFrom (WT ++ e1) ro as h)) (0, am_ent as 4, [], h)
    unfold g_T_tripsFrom
    split
    · rename_i o1 a1
      intro hc hp
      change (Nat.beq o1 0) = true at hc
      obtain rfl := am_beq hc
      exact ⟨Nat.le_of_ble_eq_true rfl, ev_T_tripsFrom h a1 hp eqRI⟩
    · exact fun z => nomatch z
def k_T_spanFrom (pc : Nat) : Ent := bif Nat.ble 19 pc then am_nop else bif Nat.ble 9 pc then (bif Nat.ble 14 pc then (bif Nat.ble 17 pc then (bif Nat.ble 18 pc then (bif Nat.beq pc 18 then (.ireturn, 0, 0, []) else am_nop) else (bif Nat.beq pc 17 then (.isub, 0, 0, []) else am_nop)) else (bif Nat.beq pc 14 then (.invokestatic 80, 0, 0, []) else am_nop)) else (bif Nat.ble 10 pc then (bif Nat.ble 13 pc then (bif Nat.beq pc 13 then (.iload_n 1, 0, 1, []) else am_nop) else (bif Nat.beq pc 10 then (.getfield 21, 0, 0, []) else am_nop)) else (bif Nat.beq pc 9 then (.aload_n 0, 0, 0, []) else am_nop))) else (bif Nat.ble 2 pc then (bif Nat.ble 3 pc then (bif Nat.ble 6 pc then (bif Nat.beq pc 6 then (.invokevirtual 98, 0, 0, []) else am_nop) else (bif Nat.beq pc 3 then (.invokevirtual 126, 0, 0, []) else am_nop)) else (bif Nat.beq pc 2 then (.iload_n 1, 0, 1, []) else am_nop)) else (bif Nat.ble 1 pc then (bif Nat.beq pc 1 then (.aload_n 0, 0, 0, []) else am_nop) else (bif Nat.beq pc 0 then (.aload_n 0, 0, 0, []) else am_nop)))
theorem lk_T_126 : am_lnk RX4 126 (d_T_endFrom 14) := ⟨⟨by decide, by decide⟩, am_tb 2 (by decide +kernel) rfl, Or.inr ⟨by decide, rfl, am_tb 716 (by decide +kernel) rfl, am_tp 59 (by decide +kernel) rfl, ⟨TX4, 15, rfl⟩, Or.inl (am_tb 714 (by decide +kernel) rfl)⟩⟩
def m_T_spanFrom : MI := (k_T_spanFrom, [(21, 4, 3)], [(80, d_B_at 1), (98, d_T_arrivalOf 14), (126, d_T_endFrom 14)], [], [], [], [], 2, 48, some .int, fun _ => 0, 1)
def v_T_spanFrom (h : HP) (a1 : Int32) : Int32 := ((v_T_arrivalOf h (v_T_endFrom h a1)) - (v_at 20 (h.1 4) a1))
def p_T_spanFrom (h : HP) (a1 : Int32) : Prop := (p_T_endFrom h a1)
def g_T_spanFrom (_ _ : List Sh) (as : List Value) (h : HP) : GR := match as with
  | [.ref o1, .int a1] => (Nat.beq o1 0, p_T_spanFrom h a1, none, some (.int (v_T_spanFrom h a1)), h)
  | _ => bad h
def d_T_spanFrom (k : Nat) : CD := (k, yX4_spanFrom, cX4_spanFrom, 2, some .int, 2, 2, 48, 0, false, true, g_T_spanFrom)
theorem chk_T_spanFrom : ∀ pc, am_chk cX4_spanFrom k_T_spanFrom pc = true := am_chkall 19 (by decide +kernel) (fun pc h => by unfold k_T_spanFrom; rw [Nat.ble_eq_true_of_le h]; rfl)
theorem pf_T_spanFrom : plainFor yX4_spanFrom = true := by decide +kernel
theorem cu_T_spanFrom : Cond.code yX4_spanFrom cX4_spanFrom 2 (some .int) ∈ am_U := am_tb 713 (by decide +kernel) rfl
set_option maxRecDepth 100000 in
theorem ev_T_spanFrom {e1 ro : List Sh} {P : AR → HP → Prop} (h : HP) (a1 : Int32) (hp : p_T_spanFrom h a1) (hP : ∀ q, v_T_spanFrom h a1 = q → RI P h q) : am_Ev m_T_spanFrom (WT ++ e1) ro P (0, [.ref 0, .int a1], [], h) := by
  unfold p_T_spanFrom at hp
  refine am_Ev_G [17] 400 _ ?_
  show ((p_T_endFrom h a1) ∧ am_Ev m_T_spanFrom (WT ++ e1) ro P (17, [.ref 0, .int a1], [.int (v_at 20 (h.1 4) a1), .int (v_T_arrivalOf h (v_T_endFrom h a1))], h))
  refine ⟨hp, ?_⟩
  refine am_Ev_G [] 400 _ ?_
  show P (.inl (some (.int ((v_T_arrivalOf h (v_T_endFrom h a1)) - (v_at 20 (h.1 4) a1))))) h
  exact hP ((v_T_arrivalOf h (v_T_endFrom h a1)) - (v_at 20 (h.1 4) a1)) rfl
theorem ok_T_spanFrom {l : Launch} (hl : l.stackTraces = false) (e1 ro : List Sh) (k : Nat) : am_Ok l (WT ++ e1) ro (d_T_spanFrom k) := by
  refine am_met hl (own := RX4) (M := m_T_spanFrom) rfl pf_T_spanFrom cu_T_spanFrom rfl rfl rfl rfl (fun _ => rfl) rfl ⟨chk_T_spanFrom, (am_c (fl_T_21) am_n), (am_c (lk_T_80) (am_c (lk_T_98) (am_c (lk_T_126) am_n))), (am_n), (am_n)⟩ (am_n) (am_c (ok_B_at hl _ _ 1) (am_c (ok_T_arrivalOf hl e1 _ 14) (am_c (ok_T_endFrom hl e1 _ 14) am_n))) (fun z => nomatch z) ?_ ?_
  · intro _ as h hg
    show g_thr (g_T_spanFrom (WT ++ e1) ro as h) = none
    unfold g_T_spanFrom
    split <;> rfl
  · intro as h hg hp
    revert hg hp
    show g_ok (g_T_spanFrom (WT ++ e1) ro as h) = true → g_pre (g_T_spanFrom (WT ++ e1) ro as h) → _ ∧ am_Ev m_T_spanFrom (WT ++ e1) ro (am_eq (g_T_spanFrom (WT ++ e1) ro as h)) (0, am_ent as 2, [], h)
    unfold g_T_spanFrom
    split
    · rename_i o1 a1
      intro hc hp
      change (Nat.beq o1 0) = true at hc
      obtain rfl := am_beq hc
      exact ⟨Nat.le_of_ble_eq_true rfl, ev_T_spanFrom h a1 hp eqRI⟩
    · exact fun z => nomatch z
def k_T_drivenFrom (pc : Nat) : Ent := bif Nat.ble 47 pc then am_nop else bif Nat.ble 21 pc then (bif Nat.ble 34 pc then (bif Nat.ble 39 pc then (bif Nat.ble 45 pc then (bif Nat.ble 46 pc then (bif Nat.beq pc 46 then (.ireturn, 0, 0, []) else am_nop) else (bif Nat.beq pc 45 then (.iload_n 2, 0, 2, []) else am_nop)) else (bif Nat.ble 42 pc then (bif Nat.beq pc 42 then (.goto (-35), 0, 7, []) else am_nop) else (bif Nat.beq pc 39 then (.iinc 4 1, 1, 4, []) else am_nop))) else (bif Nat.ble 35 pc then (bif Nat.ble 38 pc then (bif Nat.beq pc 38 then (.istore_n 3, 0, 3, []) else am_nop) else (bif Nat.beq pc 35 then (.invokestatic 80, 0, 0, []) else am_nop)) else (bif Nat.beq pc 34 then (.iload_n 3, 0, 3, []) else am_nop))) else (bif Nat.ble 28 pc then (bif Nat.ble 30 pc then (bif Nat.ble 31 pc then (bif Nat.beq pc 31 then (.getfield 30, 0, 0, []) else am_nop) else (bif Nat.beq pc 30 then (.aload_n 0, 0, 0, []) else am_nop)) else (bif Nat.ble 29 pc then (bif Nat.beq pc 29 then (.istore_n 2, 0, 2, []) else am_nop) else (bif Nat.beq pc 28 then (.iadd, 0, 0, []) else am_nop))) else (bif Nat.ble 24 pc then (bif Nat.ble 25 pc then (bif Nat.beq pc 25 then (.invokestatic 80, 0, 0, []) else am_nop) else (bif Nat.beq pc 24 then (.iload_n 3, 0, 3, []) else am_nop)) else (bif Nat.beq pc 21 then (.getfield 24, 0, 0, []) else am_nop)))) else (bif Nat.ble 9 pc then (bif Nat.ble 15 pc then (bif Nat.ble 19 pc then (bif Nat.ble 20 pc then (bif Nat.beq pc 20 then (.aload_n 0, 0, 0, []) else am_nop) else (bif Nat.beq pc 19 then (.iload_n 2, 0, 2, []) else am_nop)) else (bif Nat.ble 16 pc then (bif Nat.beq pc 16 then (.if_icmp .eq 29, 0, 45, []) else am_nop) else (bif Nat.beq pc 15 then (.iconst (-1), (-1 : Int32), 0, []) else am_nop))) else (bif Nat.ble 11 pc then (bif Nat.ble 14 pc then (bif Nat.beq pc 14 then (.iload_n 3, 0, 3, []) else am_nop) else (bif Nat.beq pc 11 then (.if_icmp .ge 34, 0, 45, []) else am_nop)) else (bif Nat.beq pc 9 then (.bipush 20, 20, 0, []) else am_nop))) else (bif Nat.ble 3 pc then (bif Nat.ble 5 pc then (bif Nat.ble 7 pc then (bif Nat.beq pc 7 then (.iload 4, 0, 4, []) else am_nop) else (bif Nat.beq pc 5 then (.istore 4, 0, 4, []) else am_nop)) else (bif Nat.ble 4 pc then (bif Nat.beq pc 4 then (.iconst 0, 0, 0, []) else am_nop) else (bif Nat.beq pc 3 then (.istore_n 3, 0, 3, []) else am_nop))) else (bif Nat.ble 1 pc then (bif Nat.ble 2 pc then (bif Nat.beq pc 2 then (.iload_n 1, 0, 1, []) else am_nop) else (bif Nat.beq pc 1 then (.istore_n 2, 0, 2, []) else am_nop)) else (bif Nat.beq pc 0 then (.iconst 0, 0, 0, []) else am_nop))))
def m_T_drivenFrom : MI := (k_T_drivenFrom, [(24, 4, 4), (30, 4, 6)], [(80, d_B_at 1)], [], [], [], [], 1, 23, some .int, fun _ => 0, 1)
def s_T_drivenFrom_7 (h : HP) (a1 : Int32) (v1 : Int32 × Int32 × Int32) : (Int32 × Int32 × Int32) ⊕ (Int32 × Int32 × Int32) := (if v1.2.2 < 20 then (if v1.2.1 = (-1 : Int32) then (.inr (v1.1, v1.2.1, v1.2.2)) else (.inl ((v1.1 + (v_at 20 (h.1 5) v1.2.1)), (v_at 20 (h.1 7) v1.2.1), (v1.2.2 + 1)))) else (.inr (v1.1, v1.2.1, v1.2.2)))
def ps_T_drivenFrom_7 (h : HP) (a1 : Int32) (v1 : Int32 × Int32 × Int32) : Prop := True
def v_T_drivenFrom (h : HP) (a1 : Int32) : Int32 := (match itr (s_T_drivenFrom_7 h a1) NF (0, a1, 0) with | some r1 => r1.1 | none => 0)
def p_T_drivenFrom (h : HP) (a1 : Int32) : Prop := (itrp (s_T_drivenFrom_7 h a1) (ps_T_drivenFrom_7 h a1) NF (0, a1, 0))
def g_T_drivenFrom (_ _ : List Sh) (as : List Value) (h : HP) : GR := match as with
  | [.ref o1, .int a1] => (Nat.beq o1 0, p_T_drivenFrom h a1, none, some (.int (v_T_drivenFrom h a1)), h)
  | _ => bad h
def d_T_drivenFrom (k : Nat) : CD := (k, yX4_drivenFrom, cX4_drivenFrom, 5, some .int, 2, 1, 23, 0, false, true, g_T_drivenFrom)
theorem chk_T_drivenFrom : ∀ pc, am_chk cX4_drivenFrom k_T_drivenFrom pc = true := am_chkall 47 (by decide +kernel) (fun pc h => by unfold k_T_drivenFrom; rw [Nat.ble_eq_true_of_le h]; rfl)
theorem pf_T_drivenFrom : plainFor yX4_drivenFrom = true := by decide +kernel
theorem cu_T_drivenFrom : Cond.code yX4_drivenFrom cX4_drivenFrom 5 (some .int) ∈ am_U := am_tb 721 (by decide +kernel) rfl
set_option maxRecDepth 100000 in
theorem ev_T_drivenFrom {e1 ro : List Sh} {P : AR → HP → Prop} (h : HP) (a1 : Int32) (hp : p_T_drivenFrom h a1) (hP : ∀ q, v_T_drivenFrom h a1 = q → RI P h q) : am_Ev m_T_drivenFrom (WT ++ e1) ro P (0, [.ref 0, .int a1, .retAddr 0, .retAddr 0, .retAddr 0], [], h) := by
  unfold p_T_drivenFrom at hp
  refine am_Ev_G [7] 400 _ ?_
  show am_Ev m_T_drivenFrom (WT ++ e1) ro P (7, [.ref 0, .int a1, .int 0, .int a1, .int 0], [], h)
  refine am_fg 1 ?_
  have hpl := hp
  refine am_itr (E := (fun (v1 : Int32 × Int32 × Int32) => am_Ev m_T_drivenFrom (WT ++ e1) ro P (7, [.ref 0, .retAddr 0, .int v1.1, .int v1.2.1, .int v1.2.2], [], h))) (E' := (fun (r1 : Int32 × Int32 × Int32) => am_Ev m_T_drivenFrom (WT ++ e1) ro P (45, [.ref 0, .retAddr 0, .int r1.1, .int r1.2.1, .int r1.2.2], [], h))) (s_T_drivenFrom_7 h a1) (ps_T_drivenFrom_7 h a1) ?_ NF (0, a1, 0) hpl ?_
  · intro v1 hp hc1 hx1
    show am_Ev m_T_drivenFrom (WT ++ e1) ro P (7, [.ref 0, .retAddr 0, .int v1.1, .int v1.2.1, .int v1.2.2], [], h)
    refine am_Ev_G [24, 45] 400 _ ?_
    show ((¬ v1.2.2 < 20 → am_Ev m_T_drivenFrom (WT ++ e1) ro P (45, [.ref 0, .retAddr 0, .int v1.1, .int v1.2.1, .int v1.2.2], [], h)) ∧ (v1.2.2 < 20 → ((v1.2.1 = (-1 : Int32) → am_Ev m_T_drivenFrom (WT ++ e1) ro P (45, [.ref 0, .retAddr 0, .int v1.1, .int v1.2.1, .int v1.2.2], [], h)) ∧ (¬ v1.2.1 = (-1 : Int32) → am_Ev m_T_drivenFrom (WT ++ e1) ro P (24, [.ref 0, .retAddr 0, .int v1.1, .int v1.2.1, .int v1.2.2], [.ref 5, .int v1.1], h)))))
    refine ⟨fun c1 => ?_, fun c1 => ?_⟩
    · skip
      exact hx1 (v1.1, v1.2.1, v1.2.2) (by unfold s_T_drivenFrom_7; simp only [if_neg c1])
    · skip
      refine ⟨fun c2 => ?_, fun c2 => ?_⟩
      · skip
        exact hx1 (v1.1, v1.2.1, v1.2.2) (by unfold s_T_drivenFrom_7; simp only [if_pos c1, if_pos c2])
      · skip
        refine am_Ev_G [38] 400 _ ?_
        show am_Ev m_T_drivenFrom (WT ++ e1) ro P (38, [.ref 0, .retAddr 0, .int (v1.1 + (v_at 20 (h.1 5) v1.2.1)), .int v1.2.1, .int v1.2.2], [.int (v_at 20 (h.1 7) v1.2.1)], h)
        refine am_Ev_G [7] 400 _ ?_
        show am_Ev m_T_drivenFrom (WT ++ e1) ro P (7, [.ref 0, .retAddr 0, .int (v1.1 + (v_at 20 (h.1 5) v1.2.1)), .int (v_at 20 (h.1 7) v1.2.1), .int (v1.2.2 + 1)], [], h)
        exact hc1 ((v1.1 + (v_at 20 (h.1 5) v1.2.1)), (v_at 20 (h.1 7) v1.2.1), (v1.2.2 + 1)) (by unfold s_T_drivenFrom_7; simp only [if_pos c1, if_neg c2])
  · intro r1 hr3
    show am_Ev m_T_drivenFrom (WT ++ e1) ro P (45, [.ref 0, .retAddr 0, .int r1.1, .int r1.2.1, .int r1.2.2], [], h)
    refine am_Ev_G [] 400 _ ?_
    show P (.inl (some (.int r1.1))) h
    exact hP r1.1 (by unfold v_T_drivenFrom; simp only [hr3])
theorem ok_T_drivenFrom {l : Launch} (hl : l.stackTraces = false) (e1 ro : List Sh) (k : Nat) : am_Ok l (WT ++ e1) ro (d_T_drivenFrom k) := by
  refine am_met hl (own := RX4) (M := m_T_drivenFrom) rfl pf_T_drivenFrom cu_T_drivenFrom rfl rfl rfl rfl (fun _ => rfl) rfl ⟨chk_T_drivenFrom, (am_c (fl_T_24) (am_c (fl_T_30) am_n)), (am_c (lk_T_80) am_n), (am_n), (am_n)⟩ (am_n) (am_c (ok_B_at hl _ _ 1) am_n) (fun z => nomatch z) ?_ ?_
  · intro _ as h hg
    show g_thr (g_T_drivenFrom (WT ++ e1) ro as h) = none
    unfold g_T_drivenFrom
    split <;> rfl
  · intro as h hg hp
    revert hg hp
    show g_ok (g_T_drivenFrom (WT ++ e1) ro as h) = true → g_pre (g_T_drivenFrom (WT ++ e1) ro as h) → _ ∧ am_Ev m_T_drivenFrom (WT ++ e1) ro (am_eq (g_T_drivenFrom (WT ++ e1) ro as h)) (0, am_ent as 5, [], h)
    unfold g_T_drivenFrom
    split
    · rename_i o1 a1
      intro hc hp
      change (Nat.beq o1 0) = true at hc
      obtain rfl := am_beq hc
      exact ⟨Nat.le_of_ble_eq_true rfl, ev_T_drivenFrom h a1 hp eqRI⟩
    · exact fun z => nomatch z
def k_T_routeChangesFrom (pc : Nat) : Ent := bif Nat.ble 79 pc then am_nop else bif Nat.ble 36 pc then (bif Nat.ble 58 pc then (bif Nat.ble 66 pc then (bif Nat.ble 74 pc then (bif Nat.ble 77 pc then (bif Nat.ble 78 pc then (bif Nat.beq pc 78 then (.ireturn, 0, 0, []) else am_nop) else (bif Nat.beq pc 77 then (.iload_n 2, 0, 2, []) else am_nop)) else (bif Nat.beq pc 74 then (.goto (-57), 0, 17, []) else am_nop)) else (bif Nat.ble 69 pc then (bif Nat.ble 71 pc then (bif Nat.beq pc 71 then (.iinc 5 1, 1, 5, []) else am_nop) else (bif Nat.beq pc 69 then (.istore 4, 0, 4, []) else am_nop)) else (bif Nat.beq pc 66 then (.invokestatic 80, 0, 0, []) else am_nop))) else (bif Nat.ble 61 pc then (bif Nat.ble 62 pc then (bif Nat.ble 65 pc then (bif Nat.beq pc 65 then (.iload_n 3, 0, 3, []) else am_nop) else (bif Nat.beq pc 62 then (.getfield 30, 0, 0, []) else am_nop)) else (bif Nat.beq pc 61 then (.aload_n 0, 0, 0, []) else am_nop)) else (bif Nat.ble 60 pc then (bif Nat.beq pc 60 then (.istore_n 3, 0, 3, []) else am_nop) else (bif Nat.beq pc 58 then (.iload 4, 0, 4, []) else am_nop)))) else (bif Nat.ble 48 pc then (bif Nat.ble 55 pc then (bif Nat.ble 56 pc then (bif Nat.ble 57 pc then (bif Nat.beq pc 57 then (.istore_n 2, 0, 2, []) else am_nop) else (bif Nat.beq pc 56 then (.iadd, 0, 0, []) else am_nop)) else (bif Nat.beq pc 55 then (.iconst 0, 0, 0, []) else am_nop)) else (bif Nat.ble 51 pc then (bif Nat.ble 52 pc then (bif Nat.beq pc 52 then (.goto 4, 0, 56, []) else am_nop) else (bif Nat.beq pc 51 then (.iconst 1, 1, 0, []) else am_nop)) else (bif Nat.beq pc 48 then (.if_icmp .eq 7, 0, 55, []) else am_nop))) else (bif Nat.ble 40 pc then (bif Nat.ble 43 pc then (bif Nat.ble 45 pc then (bif Nat.beq pc 45 then (.invokestatic 80, 0, 0, []) else am_nop) else (bif Nat.beq pc 43 then (.iload 4, 0, 4, []) else am_nop)) else (bif Nat.beq pc 40 then (.getfield 9, 0, 0, []) else am_nop)) else (bif Nat.ble 39 pc then (bif Nat.beq pc 39 then (.aload_n 0, 0, 0, []) else am_nop) else (bif Nat.beq pc 36 then (.invokestatic 80, 0, 0, []) else am_nop))))) else (bif Nat.ble 15 pc then (bif Nat.ble 26 pc then (bif Nat.ble 31 pc then (bif Nat.ble 32 pc then (bif Nat.ble 35 pc then (bif Nat.beq pc 35 then (.iload_n 3, 0, 3, []) else am_nop) else (bif Nat.beq pc 32 then (.getfield 9, 0, 0, []) else am_nop)) else (bif Nat.beq pc 31 then (.aload_n 0, 0, 0, []) else am_nop)) else (bif Nat.ble 27 pc then (bif Nat.ble 30 pc then (bif Nat.beq pc 30 then (.iload_n 2, 0, 2, []) else am_nop) else (bif Nat.beq pc 27 then (.if_icmp .eq 50, 0, 77, []) else am_nop)) else (bif Nat.beq pc 26 then (.iconst (-1), (-1 : Int32), 0, []) else am_nop))) else (bif Nat.ble 19 pc then (bif Nat.ble 21 pc then (bif Nat.ble 24 pc then (bif Nat.beq pc 24 then (.iload 4, 0, 4, []) else am_nop) else (bif Nat.beq pc 21 then (.if_icmp .ge 56, 0, 77, []) else am_nop)) else (bif Nat.beq pc 19 then (.bipush 20, 20, 0, []) else am_nop)) else (bif Nat.ble 17 pc then (bif Nat.beq pc 17 then (.iload 5, 0, 5, []) else am_nop) else (bif Nat.beq pc 15 then (.istore 5, 0, 5, []) else am_nop)))) else (bif Nat.ble 5 pc then (bif Nat.ble 9 pc then (bif Nat.ble 12 pc then (bif Nat.ble 14 pc then (bif Nat.beq pc 14 then (.iconst 0, 0, 0, []) else am_nop) else (bif Nat.beq pc 12 then (.istore 4, 0, 4, []) else am_nop)) else (bif Nat.beq pc 9 then (.invokestatic 80, 0, 0, []) else am_nop)) else (bif Nat.ble 8 pc then (bif Nat.beq pc 8 then (.iload_n 1, 0, 1, []) else am_nop) else (bif Nat.beq pc 5 then (.getfield 30, 0, 0, []) else am_nop))) else (bif Nat.ble 2 pc then (bif Nat.ble 3 pc then (bif Nat.ble 4 pc then (bif Nat.beq pc 4 then (.aload_n 0, 0, 0, []) else am_nop) else (bif Nat.beq pc 3 then (.istore_n 3, 0, 3, []) else am_nop)) else (bif Nat.beq pc 2 then (.iload_n 1, 0, 1, []) else am_nop)) else (bif Nat.ble 1 pc then (bif Nat.beq pc 1 then (.istore_n 2, 0, 2, []) else am_nop) else (bif Nat.beq pc 0 then (.iconst 0, 0, 0, []) else am_nop)))))
def m_T_routeChangesFrom : MI := (k_T_routeChangesFrom, [(9, 4, 0), (30, 4, 6)], [(80, d_B_at 1)], [], [], [], [], 1, 23, some .int, fun _ => 0, 1)
def s_T_routeChangesFrom_17 (h : HP) (a1 : Int32) (v1 : Int32 × Int32 × Int32 × Int32) : (Int32 × Int32 × Int32 × Int32) ⊕ (Int32 × Int32 × Int32 × Int32) := (if v1.2.2.2 < 20 then (if v1.2.2.1 = (-1 : Int32) then (.inr (v1.1, v1.2.1, v1.2.2.1, v1.2.2.2)) else (.inl ((v1.1 + (if (v_at 20 (h.1 1) v1.2.1) = (v_at 20 (h.1 1) v1.2.2.1) then (0 : Int32) else 1)), v1.2.2.1, (v_at 20 (h.1 7) v1.2.2.1), (v1.2.2.2 + 1)))) else (.inr (v1.1, v1.2.1, v1.2.2.1, v1.2.2.2)))
def ps_T_routeChangesFrom_17 (h : HP) (a1 : Int32) (v1 : Int32 × Int32 × Int32 × Int32) : Prop := True
def v_T_routeChangesFrom (h : HP) (a1 : Int32) : Int32 := (match itr (s_T_routeChangesFrom_17 h a1) NF (0, a1, (v_at 20 (h.1 7) a1), 0) with | some r1 => r1.1 | none => 0)
def p_T_routeChangesFrom (h : HP) (a1 : Int32) : Prop := (itrp (s_T_routeChangesFrom_17 h a1) (ps_T_routeChangesFrom_17 h a1) NF (0, a1, (v_at 20 (h.1 7) a1), 0))
def g_T_routeChangesFrom (_ _ : List Sh) (as : List Value) (h : HP) : GR := match as with
  | [.ref o1, .int a1] => (Nat.beq o1 0, p_T_routeChangesFrom h a1, none, some (.int (v_T_routeChangesFrom h a1)), h)
  | _ => bad h
def d_T_routeChangesFrom (k : Nat) : CD := (k, yX4_routeChangesFrom, cX4_routeChangesFrom, 6, some .int, 2, 1, 23, 0, false, true, g_T_routeChangesFrom)
theorem chk_T_routeChangesFrom : ∀ pc, am_chk cX4_routeChangesFrom k_T_routeChangesFrom pc = true := am_chkall 79 (by decide +kernel) (fun pc h => by unfold k_T_routeChangesFrom; rw [Nat.ble_eq_true_of_le h]; rfl)
theorem pf_T_routeChangesFrom : plainFor yX4_routeChangesFrom = true := by decide +kernel
theorem cu_T_routeChangesFrom : Cond.code yX4_routeChangesFrom cX4_routeChangesFrom 6 (some .int) ∈ am_U := am_tb 725 (by decide +kernel) rfl
set_option maxRecDepth 100000 in
theorem ev_T_routeChangesFrom {e1 ro : List Sh} {P : AR → HP → Prop} (h : HP) (a1 : Int32) (hp : p_T_routeChangesFrom h a1) (hP : ∀ q, v_T_routeChangesFrom h a1 = q → RI P h q) : am_Ev m_T_routeChangesFrom (WT ++ e1) ro P (0, [.ref 0, .int a1, .retAddr 0, .retAddr 0, .retAddr 0, .retAddr 0], [], h) := by
  unfold p_T_routeChangesFrom at hp
  refine am_Ev_G [12] 400 _ ?_
  show am_Ev m_T_routeChangesFrom (WT ++ e1) ro P (12, [.ref 0, .int a1, .int 0, .int a1, .retAddr 0, .retAddr 0], [.int (v_at 20 (h.1 7) a1)], h)
  refine am_Ev_G [17] 400 _ ?_
  show am_Ev m_T_routeChangesFrom (WT ++ e1) ro P (17, [.ref 0, .int a1, .int 0, .int a1, .int (v_at 20 (h.1 7) a1), .int 0], [], h)
  refine am_fg 1 ?_
  have hpl := hp
  refine am_itr (E := (fun (v1 : Int32 × Int32 × Int32 × Int32) => am_Ev m_T_routeChangesFrom (WT ++ e1) ro P (17, [.ref 0, .retAddr 0, .int v1.1, .int v1.2.1, .int v1.2.2.1, .int v1.2.2.2], [], h))) (E' := (fun (r1 : Int32 × Int32 × Int32 × Int32) => am_Ev m_T_routeChangesFrom (WT ++ e1) ro P (77, [.ref 0, .retAddr 0, .int r1.1, .int r1.2.1, .int r1.2.2.1, .int r1.2.2.2], [], h))) (s_T_routeChangesFrom_17 h a1) (ps_T_routeChangesFrom_17 h a1) ?_ NF (0, a1, (v_at 20 (h.1 7) a1), 0) hpl ?_
  · intro v1 hp hc1 hx1
    show am_Ev m_T_routeChangesFrom (WT ++ e1) ro P (17, [.ref 0, .retAddr 0, .int v1.1, .int v1.2.1, .int v1.2.2.1, .int v1.2.2.2], [], h)
    refine am_Ev_G [39, 77] 400 _ ?_
    show ((¬ v1.2.2.2 < 20 → am_Ev m_T_routeChangesFrom (WT ++ e1) ro P (77, [.ref 0, .retAddr 0, .int v1.1, .int v1.2.1, .int v1.2.2.1, .int v1.2.2.2], [], h)) ∧ (v1.2.2.2 < 20 → ((v1.2.2.1 = (-1 : Int32) → am_Ev m_T_routeChangesFrom (WT ++ e1) ro P (77, [.ref 0, .retAddr 0, .int v1.1, .int v1.2.1, .int v1.2.2.1, .int v1.2.2.2], [], h)) ∧ (¬ v1.2.2.1 = (-1 : Int32) → am_Ev m_T_routeChangesFrom (WT ++ e1) ro P (39, [.ref 0, .retAddr 0, .int v1.1, .int v1.2.1, .int v1.2.2.1, .int v1.2.2.2], [.int (v_at 20 (h.1 1) v1.2.1), .int v1.1], h)))))
    refine ⟨fun c1 => ?_, fun c1 => ?_⟩
    · skip
      exact hx1 (v1.1, v1.2.1, v1.2.2.1, v1.2.2.2) (by unfold s_T_routeChangesFrom_17; simp only [if_neg c1])
    · skip
      refine ⟨fun c2 => ?_, fun c2 => ?_⟩
      · skip
        exact hx1 (v1.1, v1.2.1, v1.2.2.1, v1.2.2.2) (by unfold s_T_routeChangesFrom_17; simp only [if_pos c1, if_pos c2])
      · skip
        refine am_Ev_G [48] 400 _ ?_
        show am_Ev m_T_routeChangesFrom (WT ++ e1) ro P (48, [.ref 0, .retAddr 0, .int v1.1, .int v1.2.1, .int v1.2.2.1, .int v1.2.2.2], [.int (v_at 20 (h.1 1) v1.2.2.1), .int (v_at 20 (h.1 1) v1.2.1), .int v1.1], h)
        have key3 : am_Ev m_T_routeChangesFrom (WT ++ e1) ro P (56, [.ref 0, .retAddr 0, .int v1.1, .int v1.2.1, .int v1.2.2.1, .int v1.2.2.2], [.int (if (v_at 20 (h.1 1) v1.2.1) = (v_at 20 (h.1 1) v1.2.2.1) then (0 : Int32) else 1), .int v1.1], h) := by
          refine am_Ev_G [69] 400 _ ?_
          show am_Ev m_T_routeChangesFrom (WT ++ e1) ro P (69, [.ref 0, .retAddr 0, .int (v1.1 + (if (v_at 20 (h.1 1) v1.2.1) = (v_at 20 (h.1 1) v1.2.2.1) then (0 : Int32) else 1)), .int v1.2.2.1, .int v1.2.2.1, .int v1.2.2.2], [.int (v_at 20 (h.1 7) v1.2.2.1)], h)
          refine am_Ev_G [17] 400 _ ?_
          show am_Ev m_T_routeChangesFrom (WT ++ e1) ro P (17, [.ref 0, .retAddr 0, .int (v1.1 + (if (v_at 20 (h.1 1) v1.2.1) = (v_at 20 (h.1 1) v1.2.2.1) then (0 : Int32) else 1)), .int v1.2.2.1, .int (v_at 20 (h.1 7) v1.2.2.1), .int (v1.2.2.2 + 1)], [], h)
          exact hc1 ((v1.1 + (if (v_at 20 (h.1 1) v1.2.1) = (v_at 20 (h.1 1) v1.2.2.1) then (0 : Int32) else 1)), v1.2.2.1, (v_at 20 (h.1 7) v1.2.2.1), (v1.2.2.2 + 1)) (by unfold s_T_routeChangesFrom_17; simp only [if_pos c1, if_neg c2])
        refine am_Ev_G [56] 400 _ ?_
        show (((v_at 20 (h.1 1) v1.2.1) = (v_at 20 (h.1 1) v1.2.2.1) → am_Ev m_T_routeChangesFrom (WT ++ e1) ro P (56, [.ref 0, .retAddr 0, .int v1.1, .int v1.2.1, .int v1.2.2.1, .int v1.2.2.2], [.int 0, .int v1.1], h)) ∧ (¬ (v_at 20 (h.1 1) v1.2.1) = (v_at 20 (h.1 1) v1.2.2.1) → am_Ev m_T_routeChangesFrom (WT ++ e1) ro P (56, [.ref 0, .retAddr 0, .int v1.1, .int v1.2.1, .int v1.2.2.1, .int v1.2.2.2], [.int 1, .int v1.1], h)))
        refine ⟨fun c4 => ?_, fun c4 => ?_⟩
        · skip
          simpa only [if_pos c4] using key3
        · skip
          simpa only [if_neg c4] using key3
  · intro r1 hr5
    show am_Ev m_T_routeChangesFrom (WT ++ e1) ro P (77, [.ref 0, .retAddr 0, .int r1.1, .int r1.2.1, .int r1.2.2.1, .int r1.2.2.2], [], h)
    refine am_Ev_G [] 400 _ ?_
    show P (.inl (some (.int r1.1))) h
    exact hP r1.1 (by unfold v_T_routeChangesFrom; simp only [hr5])
theorem ok_T_routeChangesFrom {l : Launch} (hl : l.stackTraces = false) (e1 ro : List Sh) (k : Nat) : am_Ok l (WT ++ e1) ro (d_T_routeChangesFrom k) := by
  refine am_met hl (own := RX4) (M := m_T_routeChangesFrom) rfl pf_T_routeChangesFrom cu_T_routeChangesFrom rfl rfl rfl rfl (fun _ => rfl) rfl ⟨chk_T_routeChangesFrom, (am_c (fl_T_9) (am_c (fl_T_30) am_n)), (am_c (lk_T_80) am_n), (am_n), (am_n)⟩ (am_n) (am_c (ok_B_at hl _ _ 1) am_n) (fun z => nomatch z) ?_ ?_
  · intro _ as h hg
    show g_thr (g_T_routeChangesFrom (WT ++ e1) ro as h) = none
    unfold g_T_routeChangesFrom
    split <;> rfl
  · intro as h hg hp
    revert hg hp
    show g_ok (g_T_routeChangesFrom (WT ++ e1) ro as h) = true → g_pre (g_T_routeChangesFrom (WT ++ e1) ro as h) → _ ∧ am_Ev m_T_routeChangesFrom (WT ++ e1) ro (am_eq (g_T_routeChangesFrom (WT ++ e1) ro as h)) (0, am_ent as 6, [], h)
    unfold g_T_routeChangesFrom
    split
    · rename_i o1 a1
      intro hc hp
      change (Nat.beq o1 0) = true at hc
      obtain rfl := am_beq hc
      exact ⟨Nat.le_of_ble_eq_true rfl, ev_T_routeChangesFrom h a1 hp eqRI⟩
    · exact fun z => nomatch z
def k_T_sparesLeft (pc : Nat) : Ent := bif Nat.ble 18 pc then am_nop else bif Nat.ble 9 pc then (bif Nat.ble 13 pc then (bif Nat.ble 14 pc then (bif Nat.ble 17 pc then (bif Nat.beq pc 17 then (.ireturn, 0, 0, []) else am_nop) else (bif Nat.beq pc 14 then (.invokestatic 92, 0, 0, []) else am_nop)) else (bif Nat.beq pc 13 then (.isub, 0, 0, []) else am_nop)) else (bif Nat.ble 10 pc then (bif Nat.beq pc 10 then (.getfield 63, 0, 0, []) else am_nop) else (bif Nat.beq pc 9 then (.aload_n 0, 0, 0, []) else am_nop))) else (bif Nat.ble 2 pc then (bif Nat.ble 5 pc then (bif Nat.ble 6 pc then (bif Nat.beq pc 6 then (.invokestatic 80, 0, 0, []) else am_nop) else (bif Nat.beq pc 5 then (.iconst 2, 2, 0, []) else am_nop)) else (bif Nat.beq pc 2 then (.getfield 56, 0, 0, []) else am_nop)) else (bif Nat.ble 1 pc then (bif Nat.beq pc 1 then (.aload_n 0, 0, 0, []) else am_nop) else (bif Nat.beq pc 0 then (.iconst 0, 0, 0, []) else am_nop)))
theorem fl_T_63 : am_fok RX4 63 (4, 12) := ⟨RX4, TX4, 15, rfl, by decide, rfl, Or.inl (am_tb 80 (by decide +kernel) rfl)⟩
def m_T_sparesLeft : MI := (k_T_sparesLeft, [(56, 4, 10), (63, 4, 12)], [(80, d_B_at 1), (92, d_J_max 0)], [], [], [], [], 1, 23, some .int, fun _ => 0, 1)
def v_T_sparesLeft (h : HP) : Int32 := (v_max 0 ((v_at 4 (h.1 11) 2) - (h.1 0 12)))
def g_T_sparesLeft (_ _ : List Sh) (as : List Value) (h : HP) : GR := match as with
  | [.ref o1] => (Nat.beq o1 0, True, none, some (.int (v_T_sparesLeft h)), h)
  | _ => bad h
def d_T_sparesLeft (k : Nat) : CD := (k, yX4_sparesLeft, cX4_sparesLeft, 1, some .int, 1, 1, 23, 0, false, false, g_T_sparesLeft)
theorem chk_T_sparesLeft : ∀ pc, am_chk cX4_sparesLeft k_T_sparesLeft pc = true := am_chkall 18 (by decide +kernel) (fun pc h => by unfold k_T_sparesLeft; rw [Nat.ble_eq_true_of_le h]; rfl)
theorem pf_T_sparesLeft : plainFor yX4_sparesLeft = true := by decide +kernel
theorem cu_T_sparesLeft : Cond.code yX4_sparesLeft cX4_sparesLeft 1 (some .int) ∈ am_U := am_tb 475 (by decide +kernel) rfl
set_option maxRecDepth 100000 in
theorem ev_T_sparesLeft {e1 ro : List Sh} {P : AR → HP → Prop} (h : HP) (hP : ∀ q, v_T_sparesLeft h = q → RI P h q) : am_Ev m_T_sparesLeft (WT ++ e1) ro P (0, [.ref 0], [], h) := by
  refine am_Ev_G [17] 400 _ ?_
  show am_Ev m_T_sparesLeft (WT ++ e1) ro P (17, [.ref 0], [.int (v_max 0 ((v_at 4 (h.1 11) 2) - (h.1 0 12)))], h)
  refine am_Ev_G [] 400 _ ?_
  show P (.inl (some (.int (v_max 0 ((v_at 4 (h.1 11) 2) - (h.1 0 12)))))) h
  exact hP (v_max 0 ((v_at 4 (h.1 11) 2) - (h.1 0 12))) rfl
theorem ok_T_sparesLeft {l : Launch} (hl : l.stackTraces = false) (e1 ro : List Sh) (k : Nat) : am_Ok l (WT ++ e1) ro (d_T_sparesLeft k) := by
  refine am_met hl (own := RX4) (M := m_T_sparesLeft) rfl pf_T_sparesLeft cu_T_sparesLeft rfl rfl rfl rfl (fun _ => rfl) rfl ⟨chk_T_sparesLeft, (am_c (fl_T_56) (am_c (fl_T_63) am_n)), (am_c (lk_T_80) (am_c (lk_T_92) am_n)), (am_n), (am_n)⟩ (am_n) (am_c (ok_B_at hl _ _ 1) (am_c (ok_J_max hl _ _ 0) am_n)) ?_ ?_ ?_
  · intro _ as h hg
    show g_pre (g_T_sparesLeft (WT ++ e1) ro as h)
    unfold g_T_sparesLeft
    split <;> exact trivial
  · intro _ as h hg
    show g_thr (g_T_sparesLeft (WT ++ e1) ro as h) = none
    unfold g_T_sparesLeft
    split <;> rfl
  · intro as h hg hp
    revert hg hp
    show g_ok (g_T_sparesLeft (WT ++ e1) ro as h) = true → g_pre (g_T_sparesLeft (WT ++ e1) ro as h) → _ ∧ am_Ev m_T_sparesLeft (WT ++ e1) ro (am_eq (g_T_sparesLeft (WT ++ e1) ro as h)) (0, am_ent as 1, [], h)
    unfold g_T_sparesLeft
    split
    · rename_i o1
      intro hc hp
      change (Nat.beq o1 0) = true at hc
      obtain rfl := am_beq hc
      exact ⟨Nat.le_of_ble_eq_true rfl, ev_T_sparesLeft h eqRI⟩
    · exact fun z => nomatch z
def k_T_lossesFrom (pc : Nat) : Ent := bif Nat.ble 87 pc then am_nop else bif Nat.ble 39 pc then (bif Nat.ble 63 pc then (bif Nat.ble 74 pc then (bif Nat.ble 81 pc then (bif Nat.ble 84 pc then (bif Nat.ble 86 pc then (bif Nat.beq pc 86 then (.ireturn, 0, 0, []) else am_nop) else (bif Nat.beq pc 84 then (.iload 4, 0, 4, []) else am_nop)) else (bif Nat.beq pc 81 then (.goto (-44), 0, 37, []) else am_nop)) else (bif Nat.ble 76 pc then (bif Nat.ble 79 pc then (bif Nat.beq pc 79 then (.istore 5, 0, 5, []) else am_nop) else (bif Nat.beq pc 76 then (.invokestatic 80, 0, 0, []) else am_nop)) else (bif Nat.beq pc 74 then (.iload 5, 0, 5, []) else am_nop))) else (bif Nat.ble 67 pc then (bif Nat.ble 70 pc then (bif Nat.ble 71 pc then (bif Nat.beq pc 71 then (.getfield 30, 0, 0, []) else am_nop) else (bif Nat.beq pc 70 then (.aload_n 0, 0, 0, []) else am_nop)) else (bif Nat.beq pc 67 then (.iinc 4 1, 1, 4, []) else am_nop)) else (bif Nat.ble 64 pc then (bif Nat.beq pc 64 then (.if_icmp .ge 20, 0, 84, []) else am_nop) else (bif Nat.beq pc 63 then (.iload_n 3, 0, 3, []) else am_nop)))) else (bif Nat.ble 50 pc then (bif Nat.ble 55 pc then (bif Nat.ble 58 pc then (bif Nat.ble 60 pc then (bif Nat.beq pc 60 then (.invokestatic 80, 0, 0, []) else am_nop) else (bif Nat.beq pc 58 then (.iload 5, 0, 5, []) else am_nop)) else (bif Nat.beq pc 55 then (.getfield 21, 0, 0, []) else am_nop)) else (bif Nat.ble 51 pc then (bif Nat.ble 54 pc then (bif Nat.beq pc 54 then (.aload_n 0, 0, 0, []) else am_nop) else (bif Nat.beq pc 51 then (.ifCond .ne 16, 0, 67, []) else am_nop)) else (bif Nat.beq pc 50 then (.iload_n 2, 0, 2, []) else am_nop))) else (bif Nat.ble 43 pc then (bif Nat.ble 45 pc then (bif Nat.ble 47 pc then (bif Nat.beq pc 47 then (.if_icmp .ge 37, 0, 84, []) else am_nop) else (bif Nat.beq pc 45 then (.bipush 20, 20, 0, []) else am_nop)) else (bif Nat.beq pc 43 then (.iload 4, 0, 4, []) else am_nop)) else (bif Nat.ble 40 pc then (bif Nat.beq pc 40 then (.if_icmp .eq 44, 0, 84, []) else am_nop) else (bif Nat.beq pc 39 then (.iconst (-1), (-1 : Int32), 0, []) else am_nop))))) else (bif Nat.ble 21 pc then (bif Nat.ble 30 pc then (bif Nat.ble 34 pc then (bif Nat.ble 35 pc then (bif Nat.ble 37 pc then (bif Nat.beq pc 37 then (.iload 5, 0, 5, []) else am_nop) else (bif Nat.beq pc 35 then (.istore 5, 0, 5, []) else am_nop)) else (bif Nat.beq pc 34 then (.iload_n 1, 0, 1, []) else am_nop)) else (bif Nat.ble 31 pc then (bif Nat.ble 32 pc then (bif Nat.beq pc 32 then (.istore 4, 0, 4, []) else am_nop) else (bif Nat.beq pc 31 then (.iconst 0, 0, 0, []) else am_nop)) else (bif Nat.beq pc 30 then (.istore_n 3, 0, 3, []) else am_nop))) else (bif Nat.ble 25 pc then (bif Nat.ble 26 pc then (bif Nat.ble 29 pc then (bif Nat.beq pc 29 then (.iadd, 0, 0, []) else am_nop) else (bif Nat.beq pc 26 then (.invokestatic 80, 0, 0, []) else am_nop)) else (bif Nat.beq pc 25 then (.iconst 3, 3, 0, []) else am_nop)) else (bif Nat.ble 22 pc then (bif Nat.beq pc 22 then (.getfield 56, 0, 0, []) else am_nop) else (bif Nat.beq pc 21 then (.aload_n 0, 0, 0, []) else am_nop)))) else (bif Nat.ble 11 pc then (bif Nat.ble 14 pc then (bif Nat.ble 17 pc then (bif Nat.ble 18 pc then (bif Nat.beq pc 18 then (.invokestatic 80, 0, 0, []) else am_nop) else (bif Nat.beq pc 17 then (.iload_n 1, 0, 1, []) else am_nop)) else (bif Nat.beq pc 14 then (.getfield 21, 0, 0, []) else am_nop)) else (bif Nat.ble 12 pc then (bif Nat.ble 13 pc then (bif Nat.beq pc 13 then (.aload_n 0, 0, 0, []) else am_nop) else (bif Nat.beq pc 12 then (.istore_n 2, 0, 2, []) else am_nop)) else (bif Nat.beq pc 11 then (.iconst 0, 0, 0, []) else am_nop))) else (bif Nat.ble 4 pc then (bif Nat.ble 7 pc then (bif Nat.ble 8 pc then (bif Nat.beq pc 8 then (.goto 4, 0, 12, []) else am_nop) else (bif Nat.beq pc 7 then (.iconst 1, 1, 0, []) else am_nop)) else (bif Nat.beq pc 4 then (.ifCond .ne 7, 0, 11, []) else am_nop)) else (bif Nat.ble 1 pc then (bif Nat.beq pc 1 then (.invokevirtual 129, 0, 0, []) else am_nop) else (bif Nat.beq pc 0 then (.aload_n 0, 0, 0, []) else am_nop)))))
theorem lk_T_129 : am_lnk RX4 129 (d_T_sparesLeft 14) := ⟨⟨by decide, by decide⟩, am_tb 2 (by decide +kernel) rfl, Or.inr ⟨by decide, rfl, am_tb 474 (by decide +kernel) rfl, am_tp 28 (by decide +kernel) rfl, ⟨TX4, 15, rfl⟩, Or.inl (am_tb 611 (by decide +kernel) rfl)⟩⟩
def m_T_lossesFrom : MI := (k_T_lossesFrom, [(21, 4, 3), (30, 4, 6), (56, 4, 10)], [(80, d_B_at 1), (129, d_T_sparesLeft 14)], [], [], [], [], 2, 45, some .int, fun _ => 0, 1)
def s_T_lossesFrom_37 (h : HP) (a1 : Int32) (v1 : Int32 × Int32) : (Int32 × Int32) ⊕ (Int32 × Int32) := (if v1.2 = (-1 : Int32) then (.inr (v1.1, v1.2)) else (if v1.1 < 20 then (if ((if (v_T_sparesLeft h) = 0 then (1 : Int32) else 0) : Int32) = 0 then (if (v_at 20 (h.1 4) v1.2) < ((v_at 20 (h.1 4) a1) + (v_at 4 (h.1 11) 3)) then (.inl ((v1.1 + 1), (v_at 20 (h.1 7) v1.2))) else (.inr (v1.1, v1.2))) else (.inl ((v1.1 + 1), (v_at 20 (h.1 7) v1.2)))) else (.inr (v1.1, v1.2))))
def ps_T_lossesFrom_37 (h : HP) (a1 : Int32) (v1 : Int32 × Int32) : Prop := True
def v_T_lossesFrom (h : HP) (a1 : Int32) : Int32 := (match itr (s_T_lossesFrom_37 h a1) NF (0, a1) with | some r1 => r1.1 | none => 0)
def p_T_lossesFrom (h : HP) (a1 : Int32) : Prop := (itrp (s_T_lossesFrom_37 h a1) (ps_T_lossesFrom_37 h a1) NF (0, a1))
def g_T_lossesFrom (_ _ : List Sh) (as : List Value) (h : HP) : GR := match as with
  | [.ref o1, .int a1] => (Nat.beq o1 0, p_T_lossesFrom h a1, none, some (.int (v_T_lossesFrom h a1)), h)
  | _ => bad h
def d_T_lossesFrom (k : Nat) : CD := (k, yX4_lossesFrom, cX4_lossesFrom, 6, some .int, 2, 2, 45, 0, false, true, g_T_lossesFrom)
theorem chk_T_lossesFrom : ∀ pc, am_chk cX4_lossesFrom k_T_lossesFrom pc = true := am_chkall 87 (by decide +kernel) (fun pc h => by unfold k_T_lossesFrom; rw [Nat.ble_eq_true_of_le h]; rfl)
theorem pf_T_lossesFrom : plainFor yX4_lossesFrom = true := by decide +kernel
theorem cu_T_lossesFrom : Cond.code yX4_lossesFrom cX4_lossesFrom 6 (some .int) ∈ am_U := am_tb 610 (by decide +kernel) rfl
set_option maxRecDepth 100000 in
theorem ev_T_lossesFrom {e1 ro : List Sh} {P : AR → HP → Prop} (h : HP) (a1 : Int32) (hp : p_T_lossesFrom h a1) (hP : ∀ q, v_T_lossesFrom h a1 = q → RI P h q) : am_Ev m_T_lossesFrom (WT ++ e1) ro P (0, [.ref 0, .int a1, .retAddr 0, .retAddr 0, .retAddr 0, .retAddr 0], [], h) := by
  unfold p_T_lossesFrom at hp
  refine am_Ev_G [4] 400 _ ?_
  show am_Ev m_T_lossesFrom (WT ++ e1) ro P (4, [.ref 0, .int a1, .retAddr 0, .retAddr 0, .retAddr 0, .retAddr 0], [.int (v_T_sparesLeft h)], h)
  have key1 : am_Ev m_T_lossesFrom (WT ++ e1) ro P (12, [.ref 0, .int a1, .retAddr 0, .retAddr 0, .retAddr 0, .retAddr 0], [.int (if (v_T_sparesLeft h) = 0 then (1 : Int32) else 0)], h) := by
    refine am_Ev_G [21] 400 _ ?_
    show am_Ev m_T_lossesFrom (WT ++ e1) ro P (21, [.ref 0, .int a1, .int (if (v_T_sparesLeft h) = 0 then (1 : Int32) else 0), .retAddr 0, .retAddr 0, .retAddr 0], [.int (v_at 20 (h.1 4) a1)], h)
    refine am_Ev_G [37] 400 _ ?_
    show am_Ev m_T_lossesFrom (WT ++ e1) ro P (37, [.ref 0, .int a1, .int (if (v_T_sparesLeft h) = 0 then (1 : Int32) else 0), .int ((v_at 20 (h.1 4) a1) + (v_at 4 (h.1 11) 3)), .int 0, .int a1], [], h)
    refine am_fg 1 ?_
    have hpl := hp
    refine am_itr (E := (fun (v1 : Int32 × Int32) => am_Ev m_T_lossesFrom (WT ++ e1) ro P (37, [.ref 0, .retAddr 0, .int (if (v_T_sparesLeft h) = 0 then (1 : Int32) else 0), .int ((v_at 20 (h.1 4) a1) + (v_at 4 (h.1 11) 3)), .int v1.1, .int v1.2], [], h))) (E' := (fun (r1 : Int32 × Int32) => am_Ev m_T_lossesFrom (WT ++ e1) ro P (84, [.ref 0, .retAddr 0, .int (if (v_T_sparesLeft h) = 0 then (1 : Int32) else 0), .int ((v_at 20 (h.1 4) a1) + (v_at 4 (h.1 11) 3)), .int r1.1, .int r1.2], [], h))) (s_T_lossesFrom_37 h a1) (ps_T_lossesFrom_37 h a1) ?_ NF (0, a1) hpl ?_
    · intro v1 hp hc1 hx1
      show am_Ev m_T_lossesFrom (WT ++ e1) ro P (37, [.ref 0, .retAddr 0, .int (if (v_T_sparesLeft h) = 0 then (1 : Int32) else 0), .int ((v_at 20 (h.1 4) a1) + (v_at 4 (h.1 11) 3)), .int v1.1, .int v1.2], [], h)
      refine am_Ev_G [50, 84] 400 _ ?_
      show ((v1.2 = (-1 : Int32) → am_Ev m_T_lossesFrom (WT ++ e1) ro P (84, [.ref 0, .retAddr 0, .int (if (v_T_sparesLeft h) = 0 then (1 : Int32) else 0), .int ((v_at 20 (h.1 4) a1) + (v_at 4 (h.1 11) 3)), .int v1.1, .int v1.2], [], h)) ∧ (¬ v1.2 = (-1 : Int32) → ((¬ v1.1 < 20 → am_Ev m_T_lossesFrom (WT ++ e1) ro P (84, [.ref 0, .retAddr 0, .int (if (v_T_sparesLeft h) = 0 then (1 : Int32) else 0), .int ((v_at 20 (h.1 4) a1) + (v_at 4 (h.1 11) 3)), .int v1.1, .int v1.2], [], h)) ∧ (v1.1 < 20 → am_Ev m_T_lossesFrom (WT ++ e1) ro P (50, [.ref 0, .retAddr 0, .int (if (v_T_sparesLeft h) = 0 then (1 : Int32) else 0), .int ((v_at 20 (h.1 4) a1) + (v_at 4 (h.1 11) 3)), .int v1.1, .int v1.2], [], h)))))
      refine ⟨fun c2 => ?_, fun c2 => ?_⟩
      · skip
        exact hx1 (v1.1, v1.2) (by unfold s_T_lossesFrom_37; simp only [if_pos c2])
      · skip
        refine ⟨fun c3 => ?_, fun c3 => ?_⟩
        · skip
          exact hx1 (v1.1, v1.2) (by unfold s_T_lossesFrom_37; simp only [if_neg c2, if_neg c3])
        · skip
          refine am_Ev_G [79, 84] 400 _ ?_
          show ((¬ ((if (v_T_sparesLeft h) = 0 then (1 : Int32) else 0) : Int32) = 0 → am_Ev m_T_lossesFrom (WT ++ e1) ro P (79, [.ref 0, .retAddr 0, .int (if (v_T_sparesLeft h) = 0 then (1 : Int32) else 0), .int ((v_at 20 (h.1 4) a1) + (v_at 4 (h.1 11) 3)), .int (v1.1 + 1), .int v1.2], [.int (v_at 20 (h.1 7) v1.2)], h)) ∧ (((if (v_T_sparesLeft h) = 0 then (1 : Int32) else 0) : Int32) = 0 → ((¬ (v_at 20 (h.1 4) v1.2) < ((v_at 20 (h.1 4) a1) + (v_at 4 (h.1 11) 3)) → am_Ev m_T_lossesFrom (WT ++ e1) ro P (84, [.ref 0, .retAddr 0, .int (if (v_T_sparesLeft h) = 0 then (1 : Int32) else 0), .int ((v_at 20 (h.1 4) a1) + (v_at 4 (h.1 11) 3)), .int v1.1, .int v1.2], [], h)) ∧ ((v_at 20 (h.1 4) v1.2) < ((v_at 20 (h.1 4) a1) + (v_at 4 (h.1 11) 3)) → am_Ev m_T_lossesFrom (WT ++ e1) ro P (79, [.ref 0, .retAddr 0, .int (if (v_T_sparesLeft h) = 0 then (1 : Int32) else 0), .int ((v_at 20 (h.1 4) a1) + (v_at 4 (h.1 11) 3)), .int (v1.1 + 1), .int v1.2], [.int (v_at 20 (h.1 7) v1.2)], h)))))
          refine ⟨fun c4 => ?_, fun c4 => ?_⟩
          · skip
            refine am_Ev_G [37] 400 _ ?_
            show am_Ev m_T_lossesFrom (WT ++ e1) ro P (37, [.ref 0, .retAddr 0, .int (if (v_T_sparesLeft h) = 0 then (1 : Int32) else 0), .int ((v_at 20 (h.1 4) a1) + (v_at 4 (h.1 11) 3)), .int (v1.1 + 1), .int (v_at 20 (h.1 7) v1.2)], [], h)
            exact hc1 ((v1.1 + 1), (v_at 20 (h.1 7) v1.2)) (by unfold s_T_lossesFrom_37; simp only [if_neg c2, if_pos c3, if_neg c4])
          · skip
            refine ⟨fun c5 => ?_, fun c5 => ?_⟩
            · skip
              exact hx1 (v1.1, v1.2) (by unfold s_T_lossesFrom_37; simp only [if_neg c2, if_pos c3, if_pos c4, if_neg c5])
            · skip
              refine am_Ev_G [37] 400 _ ?_
              show am_Ev m_T_lossesFrom (WT ++ e1) ro P (37, [.ref 0, .retAddr 0, .int (if (v_T_sparesLeft h) = 0 then (1 : Int32) else 0), .int ((v_at 20 (h.1 4) a1) + (v_at 4 (h.1 11) 3)), .int (v1.1 + 1), .int (v_at 20 (h.1 7) v1.2)], [], h)
              exact hc1 ((v1.1 + 1), (v_at 20 (h.1 7) v1.2)) (by unfold s_T_lossesFrom_37; simp only [if_neg c2, if_pos c3, if_pos c4, if_pos c5])
    · intro r1 hr6
      show am_Ev m_T_lossesFrom (WT ++ e1) ro P (84, [.ref 0, .retAddr 0, .int (if (v_T_sparesLeft h) = 0 then (1 : Int32) else 0), .int ((v_at 20 (h.1 4) a1) + (v_at 4 (h.1 11) 3)), .int r1.1, .int r1.2], [], h)
      refine am_Ev_G [] 400 _ ?_
      show P (.inl (some (.int r1.1))) h
      exact hP r1.1 (by unfold v_T_lossesFrom; simp only [hr6])
  refine am_Ev_G [12] 400 _ ?_
  show ((¬ (v_T_sparesLeft h) = 0 → am_Ev m_T_lossesFrom (WT ++ e1) ro P (12, [.ref 0, .int a1, .retAddr 0, .retAddr 0, .retAddr 0, .retAddr 0], [.int 0], h)) ∧ ((v_T_sparesLeft h) = 0 → am_Ev m_T_lossesFrom (WT ++ e1) ro P (12, [.ref 0, .int a1, .retAddr 0, .retAddr 0, .retAddr 0, .retAddr 0], [.int 1], h)))
  refine ⟨fun c7 => ?_, fun c7 => ?_⟩
  · skip
    simpa only [if_neg c7] using key1
  · skip
    simpa only [if_pos c7] using key1
theorem ok_T_lossesFrom {l : Launch} (hl : l.stackTraces = false) (e1 ro : List Sh) (k : Nat) : am_Ok l (WT ++ e1) ro (d_T_lossesFrom k) := by
  refine am_met hl (own := RX4) (M := m_T_lossesFrom) rfl pf_T_lossesFrom cu_T_lossesFrom rfl rfl rfl rfl (fun _ => rfl) rfl ⟨chk_T_lossesFrom, (am_c (fl_T_21) (am_c (fl_T_30) (am_c (fl_T_56) am_n))), (am_c (lk_T_80) (am_c (lk_T_129) am_n)), (am_n), (am_n)⟩ (am_n) (am_c (ok_B_at hl _ _ 1) (am_c (ok_T_sparesLeft hl e1 _ 14) am_n)) (fun z => nomatch z) ?_ ?_
  · intro _ as h hg
    show g_thr (g_T_lossesFrom (WT ++ e1) ro as h) = none
    unfold g_T_lossesFrom
    split <;> rfl
  · intro as h hg hp
    revert hg hp
    show g_ok (g_T_lossesFrom (WT ++ e1) ro as h) = true → g_pre (g_T_lossesFrom (WT ++ e1) ro as h) → _ ∧ am_Ev m_T_lossesFrom (WT ++ e1) ro (am_eq (g_T_lossesFrom (WT ++ e1) ro as h)) (0, am_ent as 6, [], h)
    unfold g_T_lossesFrom
    split
    · rename_i o1 a1
      intro hc hp
      change (Nat.beq o1 0) = true at hc
      obtain rfl := am_beq hc
      exact ⟨Nat.le_of_ble_eq_true rfl, ev_T_lossesFrom h a1 hp eqRI⟩
    · exact fun z => nomatch z
def k_T_loseBus (pc : Nat) : Ent := bif Nat.ble 88 pc then am_nop else bif Nat.ble 43 pc then (bif Nat.ble 64 pc then (bif Nat.ble 74 pc then (bif Nat.ble 80 pc then (bif Nat.ble 86 pc then (bif Nat.ble 87 pc then (bif Nat.beq pc 87 then (.ireturn, 0, 0, []) else am_nop) else (bif Nat.beq pc 86 then (.iload_n 2, 0, 2, []) else am_nop)) else (bif Nat.ble 83 pc then (bif Nat.beq pc 83 then (.goto (-36), 0, 47, []) else am_nop) else (bif Nat.beq pc 80 then (.iinc 4 1, 1, 4, []) else am_nop))) else (bif Nat.ble 77 pc then (bif Nat.ble 79 pc then (bif Nat.beq pc 79 then (.istore_n 3, 0, 3, []) else am_nop) else (bif Nat.beq pc 77 then (.iload 5, 0, 5, []) else am_nop)) else (bif Nat.beq pc 74 then (.invokestatic 76, 0, 0, []) else am_nop))) else (bif Nat.ble 69 pc then (bif Nat.ble 72 pc then (bif Nat.ble 73 pc then (bif Nat.beq pc 73 then (.iconst 1, 1, 0, []) else am_nop) else (bif Nat.beq pc 72 then (.iload_n 3, 0, 3, []) else am_nop)) else (bif Nat.beq pc 69 then (.getfield 33, 0, 0, []) else am_nop)) else (bif Nat.ble 65 pc then (bif Nat.ble 68 pc then (bif Nat.beq pc 68 then (.aload_n 0, 0, 0, []) else am_nop) else (bif Nat.beq pc 65 then (.invokevirtual 140, 0, 0, []) else am_nop)) else (bif Nat.beq pc 64 then (.iload_n 3, 0, 3, []) else am_nop)))) else (bif Nat.ble 53 pc then (bif Nat.ble 58 pc then (bif Nat.ble 61 pc then (bif Nat.ble 63 pc then (bif Nat.beq pc 63 then (.aload_n 0, 0, 0, []) else am_nop) else (bif Nat.beq pc 61 then (.istore 5, 0, 5, []) else am_nop)) else (bif Nat.beq pc 58 then (.invokestatic 80, 0, 0, []) else am_nop)) else (bif Nat.ble 54 pc then (bif Nat.ble 57 pc then (bif Nat.beq pc 57 then (.iload_n 3, 0, 3, []) else am_nop) else (bif Nat.beq pc 54 then (.getfield 30, 0, 0, []) else am_nop)) else (bif Nat.beq pc 53 then (.aload_n 0, 0, 0, []) else am_nop))) else (bif Nat.ble 47 pc then (bif Nat.ble 49 pc then (bif Nat.ble 50 pc then (bif Nat.beq pc 50 then (.if_icmp .ge 36, 0, 86, []) else am_nop) else (bif Nat.beq pc 49 then (.iload_n 2, 0, 2, []) else am_nop)) else (bif Nat.beq pc 47 then (.iload 4, 0, 4, []) else am_nop)) else (bif Nat.ble 44 pc then (bif Nat.ble 45 pc then (bif Nat.beq pc 45 then (.istore 4, 0, 4, []) else am_nop) else (bif Nat.beq pc 44 then (.iconst 0, 0, 0, []) else am_nop)) else (bif Nat.beq pc 43 then (.istore_n 3, 0, 3, []) else am_nop))))) else (bif Nat.ble 18 pc then (bif Nat.ble 32 pc then (bif Nat.ble 37 pc then (bif Nat.ble 39 pc then (bif Nat.ble 42 pc then (bif Nat.beq pc 42 then (.iload_n 1, 0, 1, []) else am_nop) else (bif Nat.beq pc 39 then (.invokevirtual 136, 0, 0, []) else am_nop)) else (bif Nat.ble 38 pc then (bif Nat.beq pc 38 then (.iload_n 1, 0, 1, []) else am_nop) else (bif Nat.beq pc 37 then (.aload_n 0, 0, 0, []) else am_nop))) else (bif Nat.ble 33 pc then (bif Nat.ble 34 pc then (bif Nat.beq pc 34 then (.putfield 63, 0, 0, []) else am_nop) else (bif Nat.beq pc 33 then (.iadd, 0, 0, []) else am_nop)) else (bif Nat.beq pc 32 then (.iconst 0, 0, 0, []) else am_nop))) else (bif Nat.ble 25 pc then (bif Nat.ble 28 pc then (bif Nat.ble 29 pc then (bif Nat.beq pc 29 then (.goto 4, 0, 33, []) else am_nop) else (bif Nat.beq pc 28 then (.iconst 1, 1, 0, []) else am_nop)) else (bif Nat.beq pc 25 then (.ifCond .le 7, 0, 32, []) else am_nop)) else (bif Nat.ble 21 pc then (bif Nat.ble 22 pc then (bif Nat.beq pc 22 then (.invokevirtual 129, 0, 0, []) else am_nop) else (bif Nat.beq pc 21 then (.aload_n 0, 0, 0, []) else am_nop)) else (bif Nat.beq pc 18 then (.getfield 63, 0, 0, []) else am_nop)))) else (bif Nat.ble 8 pc then (bif Nat.ble 13 pc then (bif Nat.ble 16 pc then (bif Nat.ble 17 pc then (bif Nat.beq pc 17 then (.dup, 0, 0, []) else am_nop) else (bif Nat.beq pc 16 then (.aload_n 0, 0, 0, []) else am_nop)) else (bif Nat.beq pc 13 then (.putfield 66, 0, 0, []) else am_nop)) else (bif Nat.ble 11 pc then (bif Nat.ble 12 pc then (bif Nat.beq pc 12 then (.iadd, 0, 0, []) else am_nop) else (bif Nat.beq pc 11 then (.iconst 1, 1, 0, []) else am_nop)) else (bif Nat.beq pc 8 then (.getfield 66, 0, 0, []) else am_nop))) else (bif Nat.ble 5 pc then (bif Nat.ble 6 pc then (bif Nat.ble 7 pc then (bif Nat.beq pc 7 then (.dup, 0, 0, []) else am_nop) else (bif Nat.beq pc 6 then (.aload_n 0, 0, 0, []) else am_nop)) else (bif Nat.beq pc 5 then (.istore_n 2, 0, 2, []) else am_nop)) else (bif Nat.ble 1 pc then (bif Nat.ble 2 pc then (bif Nat.beq pc 2 then (.invokevirtual 133, 0, 0, []) else am_nop) else (bif Nat.beq pc 1 then (.iload_n 1, 0, 1, []) else am_nop)) else (bif Nat.beq pc 0 then (.aload_n 0, 0, 0, []) else am_nop)))))
theorem fl_T_66 : am_fok RX4 66 (4, 13) := ⟨RX4, TX4, 15, rfl, by decide, rfl, Or.inl (am_tb 81 (by decide +kernel) rfl)⟩
theorem lk_T_133 : am_lnk RX4 133 (d_T_lossesFrom 14) := ⟨⟨by decide, by decide⟩, am_tb 2 (by decide +kernel) rfl, Or.inr ⟨by decide, rfl, am_tb 609 (by decide +kernel) rfl, am_tp 41 (by decide +kernel) rfl, ⟨TX4, 15, rfl⟩, Or.inl (am_tb 607 (by decide +kernel) rfl)⟩⟩
theorem lk_T_136 : am_lnk RX4 136 (d_T_cutAhead 14) := ⟨⟨by decide, by decide⟩, am_tb 2 (by decide +kernel) rfl, Or.inr ⟨by decide, rfl, am_tb 570 (by decide +kernel) rfl, am_tp 38 (by decide +kernel) rfl, ⟨TX4, 15, rfl⟩, Or.inl (am_tb 612 (by decide +kernel) rfl)⟩⟩
theorem lk_T_140 : am_lnk RX4 140 (d_T_cutBehind 14) := ⟨⟨by decide, by decide⟩, am_tb 2 (by decide +kernel) rfl, Or.inr ⟨by decide, rfl, am_tb 574 (by decide +kernel) rfl, am_tp 39 (by decide +kernel) rfl, ⟨TX4, 15, rfl⟩, Or.inl (am_tb 613 (by decide +kernel) rfl)⟩⟩
def m_T_loseBus : MI := (k_T_loseBus, [(30, 4, 6), (33, 4, 7), (63, 4, 12), (66, 4, 13)], [(76, d_B_put 1), (80, d_B_at 1), (129, d_T_sparesLeft 14), (133, d_T_lossesFrom 14), (136, d_T_cutAhead 14), (140, d_T_cutBehind 14)], [], [], [], [], 3, 72, some .int, fun _ => 0, 1)
def s_T_loseBus_47 (h : HP) (a1 : Int32) (y1 : HP) (v1 : Int32 × Int32 × HP) : (Int32 × Int32 × HP) ⊕ (Int32 × Int32 × HP) := (if v1.2.1 < (v_T_lossesFrom h a1) then (bnd (v_T_cutBehind v1.2.2 v1.1) fun y3 => (.inl ((v_at 20 (v1.2.2.1 7) v1.1), (v1.2.1 + 1), (v_put 20 y3 8 v1.1 1)))) else (.inr (v1.1, v1.2.1, v1.2.2)))
def ps_T_loseBus_47 (h : HP) (a1 : Int32) (y1 : HP) (v1 : Int32 × Int32 × HP) : Prop := True
def v_T_loseBus (h : HP) (a1 : Int32) : Int32 × HP := (bnd (v_T_cutAhead (am_si (am_si h 0 13 ((h.1 0 13) + 1)) 0 12 ((h.1 0 12) + (if (v_T_sparesLeft (am_si h 0 13 ((h.1 0 13) + 1))) ≤ 0 then (0 : Int32) else 1))) a1) fun y1 => (match itr (s_T_loseBus_47 h a1 y1) NF (a1, 0, y1) with | some r2 => ((v_T_lossesFrom h a1), r2.2.2) | none => (0, h)))
def p_T_loseBus (h : HP) (a1 : Int32) : Prop := ((p_T_lossesFrom h a1) ∧ (∀ y1, v_T_cutAhead (am_si (am_si h 0 13 ((h.1 0 13) + 1)) 0 12 ((h.1 0 12) + (if (v_T_sparesLeft (am_si h 0 13 ((h.1 0 13) + 1))) ≤ 0 then (0 : Int32) else 1))) a1 = y1 → (itrp (s_T_loseBus_47 h a1 y1) (ps_T_loseBus_47 h a1 y1) NF (a1, 0, y1))))
def g_T_loseBus (_ _ : List Sh) (as : List Value) (h : HP) : GR := match as with
  | [.ref o1, .int a1] => (Nat.beq o1 0, p_T_loseBus h a1, none, some (.int (v_T_loseBus h a1).1), (v_T_loseBus h a1).2)
  | _ => bad h
def d_T_loseBus (k : Nat) : CD := (k, yX4_loseBus, cX4_loseBus, 6, some .int, 2, 3, 72, 0, false, true, g_T_loseBus)
theorem chk_T_loseBus : ∀ pc, am_chk cX4_loseBus k_T_loseBus pc = true := am_chkall 88 (by decide +kernel) (fun pc h => by unfold k_T_loseBus; rw [Nat.ble_eq_true_of_le h]; rfl)
theorem pf_T_loseBus : plainFor yX4_loseBus = true := by decide +kernel
theorem cu_T_loseBus : Cond.code yX4_loseBus cX4_loseBus 6 (some .int) ∈ am_U := am_tb 606 (by decide +kernel) rfl
set_option maxRecDepth 100000 in
theorem ev_T_loseBus {e1 ro : List Sh} {P : AR → HP → Prop} (h : HP) (a1 : Int32) (hp : p_T_loseBus h a1) (hP : ∀ q, v_T_loseBus h a1 = q → RIW P h q) : am_Ev m_T_loseBus (WT ++ e1) ro P (0, [.ref 0, .int a1, .retAddr 0, .retAddr 0, .retAddr 0, .retAddr 0], [], h) := by
  unfold p_T_loseBus at hp
  refine am_Ev_G [25] 400 _ ?_
  show ((p_T_lossesFrom h a1) ∧ am_Ev m_T_loseBus (WT ++ e1) ro P (25, [.ref 0, .int a1, .int (v_T_lossesFrom h a1), .retAddr 0, .retAddr 0, .retAddr 0], [.int (v_T_sparesLeft (am_si h 0 13 ((h.1 0 13) + 1))), .int (h.1 0 12), .ref 0], (am_si h 0 13 ((h.1 0 13) + 1))))
  obtain ⟨hob, hp⟩ := hp
  refine ⟨hob, ?_⟩
  have key1 : am_Ev m_T_loseBus (WT ++ e1) ro P (33, [.ref 0, .int a1, .int (v_T_lossesFrom h a1), .retAddr 0, .retAddr 0, .retAddr 0], [.int (if (v_T_sparesLeft (am_si h 0 13 ((h.1 0 13) + 1))) ≤ 0 then (0 : Int32) else 1), .int (h.1 0 12), .ref 0], (am_si h 0 13 ((h.1 0 13) + 1))) := by
    refine am_Ev_G [42] 400 _ ?_
    show am_Ev m_T_loseBus (WT ++ e1) ro P (42, [.ref 0, .int a1, .int (v_T_lossesFrom h a1), .retAddr 0, .retAddr 0, .retAddr 0], [], (v_T_cutAhead (am_si (am_si h 0 13 ((h.1 0 13) + 1)) 0 12 ((h.1 0 12) + (if (v_T_sparesLeft (am_si h 0 13 ((h.1 0 13) + 1))) ≤ 0 then (0 : Int32) else 1))) a1))
    obtain ⟨y1, c2⟩ : ∃ y, v_T_cutAhead (am_si (am_si h 0 13 ((h.1 0 13) + 1)) 0 12 ((h.1 0 12) + (if (v_T_sparesLeft (am_si h 0 13 ((h.1 0 13) + 1))) ≤ 0 then (0 : Int32) else 1))) a1 = y := ⟨_, rfl⟩
    rw [c2]
    have hp := hp _ c2
    show am_Ev m_T_loseBus (WT ++ e1) ro P (42, [.ref 0, .int a1, .int (v_T_lossesFrom h a1), .retAddr 0, .retAddr 0, .retAddr 0], [], y1)
    refine am_Ev_G [47] 400 _ ?_
    show am_Ev m_T_loseBus (WT ++ e1) ro P (47, [.ref 0, .int a1, .int (v_T_lossesFrom h a1), .int a1, .int 0, .retAddr 0], [], y1)
    refine am_fg 1 ?_
    have hpl := hp
    refine am_itr (E := (fun (v1 : Int32 × Int32 × HP) => am_Ev m_T_loseBus (WT ++ e1) ro P (47, [.ref 0, .retAddr 0, .int (v_T_lossesFrom h a1), .int v1.1, .int v1.2.1, .retAddr 0], [], v1.2.2))) (E' := (fun (r2 : Int32 × Int32 × HP) => am_Ev m_T_loseBus (WT ++ e1) ro P (86, [.ref 0, .retAddr 0, .int (v_T_lossesFrom h a1), .int r2.1, .int r2.2.1, .retAddr 0], [], r2.2.2))) (s_T_loseBus_47 h a1 y1) (ps_T_loseBus_47 h a1 y1) ?_ NF (a1, 0, y1) hpl ?_
    · intro v1 hp hc1 hx1
      show am_Ev m_T_loseBus (WT ++ e1) ro P (47, [.ref 0, .retAddr 0, .int (v_T_lossesFrom h a1), .int v1.1, .int v1.2.1, .retAddr 0], [], v1.2.2)
      refine am_Ev_G [61, 86] 400 _ ?_
      show ((¬ v1.2.1 < (v_T_lossesFrom h a1) → am_Ev m_T_loseBus (WT ++ e1) ro P (86, [.ref 0, .retAddr 0, .int (v_T_lossesFrom h a1), .int v1.1, .int v1.2.1, .retAddr 0], [], v1.2.2)) ∧ (v1.2.1 < (v_T_lossesFrom h a1) → am_Ev m_T_loseBus (WT ++ e1) ro P (61, [.ref 0, .retAddr 0, .int (v_T_lossesFrom h a1), .int v1.1, .int v1.2.1, .retAddr 0], [.int (v_at 20 (v1.2.2.1 7) v1.1)], v1.2.2)))
      refine ⟨fun c3 => ?_, fun c3 => ?_⟩
      · skip
        exact hx1 (v1.1, v1.2.1, v1.2.2) (by unfold s_T_loseBus_47; simp only [if_neg c3])
      · skip
        refine am_Ev_G [68] 400 _ ?_
        show am_Ev m_T_loseBus (WT ++ e1) ro P (68, [.ref 0, .retAddr 0, .int (v_T_lossesFrom h a1), .int v1.1, .int v1.2.1, .int (v_at 20 (v1.2.2.1 7) v1.1)], [], (v_T_cutBehind v1.2.2 v1.1))
        obtain ⟨y3, c4⟩ : ∃ y, v_T_cutBehind v1.2.2 v1.1 = y := ⟨_, rfl⟩
        rw [c4]
        show am_Ev m_T_loseBus (WT ++ e1) ro P (68, [.ref 0, .retAddr 0, .int (v_T_lossesFrom h a1), .int v1.1, .int v1.2.1, .int (v_at 20 (v1.2.2.1 7) v1.1)], [], y3)
        refine am_Ev_G [77] 400 _ ?_
        show am_Ev m_T_loseBus (WT ++ e1) ro P (77, [.ref 0, .retAddr 0, .int (v_T_lossesFrom h a1), .int v1.1, .int v1.2.1, .int (v_at 20 (v1.2.2.1 7) v1.1)], [], (v_put 20 y3 8 v1.1 1))
        refine am_Ev_G [47] 400 _ ?_
        show am_Ev m_T_loseBus (WT ++ e1) ro P (47, [.ref 0, .retAddr 0, .int (v_T_lossesFrom h a1), .int (v_at 20 (v1.2.2.1 7) v1.1), .int (v1.2.1 + 1), .int (v_at 20 (v1.2.2.1 7) v1.1)], [], (v_put 20 y3 8 v1.1 1))
        refine am_fg 5 ?_
        exact hc1 ((v_at 20 (v1.2.2.1 7) v1.1), (v1.2.1 + 1), (v_put 20 y3 8 v1.1 1)) (by unfold s_T_loseBus_47; simp only [if_pos c3, bnd, c4])
    · intro r2 hr5
      show am_Ev m_T_loseBus (WT ++ e1) ro P (86, [.ref 0, .retAddr 0, .int (v_T_lossesFrom h a1), .int r2.1, .int r2.2.1, .retAddr 0], [], r2.2.2)
      refine am_Ev_G [] 400 _ ?_
      show P (.inl (some (.int (v_T_lossesFrom h a1)))) r2.2.2
      exact hP ((v_T_lossesFrom h a1), r2.2.2) (by unfold v_T_loseBus; simp only [bnd, c2, hr5])
  refine am_Ev_G [33] 400 _ ?_
  show (((v_T_sparesLeft (am_si h 0 13 ((h.1 0 13) + 1))) ≤ 0 → am_Ev m_T_loseBus (WT ++ e1) ro P (33, [.ref 0, .int a1, .int (v_T_lossesFrom h a1), .retAddr 0, .retAddr 0, .retAddr 0], [.int 0, .int (h.1 0 12), .ref 0], (am_si h 0 13 ((h.1 0 13) + 1)))) ∧ (¬ (v_T_sparesLeft (am_si h 0 13 ((h.1 0 13) + 1))) ≤ 0 → am_Ev m_T_loseBus (WT ++ e1) ro P (33, [.ref 0, .int a1, .int (v_T_lossesFrom h a1), .retAddr 0, .retAddr 0, .retAddr 0], [.int 1, .int (h.1 0 12), .ref 0], (am_si h 0 13 ((h.1 0 13) + 1)))))
  refine ⟨fun c6 => ?_, fun c6 => ?_⟩
  · skip
    simpa only [if_pos c6] using key1
  · skip
    simpa only [if_neg c6] using key1
theorem ok_T_loseBus {l : Launch} (hl : l.stackTraces = false) (e1 ro : List Sh) (k : Nat) : am_Ok l (WT ++ e1) ro (d_T_loseBus k) := by
  refine am_met hl (own := RX4) (M := m_T_loseBus) rfl pf_T_loseBus cu_T_loseBus rfl rfl rfl rfl (fun _ => rfl) rfl ⟨chk_T_loseBus, (am_c (fl_T_30) (am_c (fl_T_33) (am_c (fl_T_63) (am_c (fl_T_66) am_n)))), (am_c (lk_T_76) (am_c (lk_T_80) (am_c (lk_T_129) (am_c (lk_T_133) (am_c (lk_T_136) (am_c (lk_T_140) am_n)))))), (am_n), (am_n)⟩ (am_n) (am_c (ok_B_put hl _ _ 1) (am_c (ok_B_at hl _ _ 1) (am_c (ok_T_sparesLeft hl e1 _ 14) (am_c (ok_T_lossesFrom hl e1 _ 14) (am_c (ok_T_cutAhead hl e1 _ 14) (am_c (ok_T_cutBehind hl e1 _ 14) am_n)))))) (fun z => nomatch z) ?_ ?_
  · intro _ as h hg
    show g_thr (g_T_loseBus (WT ++ e1) ro as h) = none
    unfold g_T_loseBus
    split <;> rfl
  · intro as h hg hp
    revert hg hp
    show g_ok (g_T_loseBus (WT ++ e1) ro as h) = true → g_pre (g_T_loseBus (WT ++ e1) ro as h) → _ ∧ am_Ev m_T_loseBus (WT ++ e1) ro (am_eq (g_T_loseBus (WT ++ e1) ro as h)) (0, am_ent as 6, [], h)
    unfold g_T_loseBus
    split
    · rename_i o1 a1
      intro hc hp
      change (Nat.beq o1 0) = true at hc
      obtain rfl := am_beq hc
      exact ⟨Nat.le_of_ble_eq_true rfl, ev_T_loseBus h a1 hp eqRIW⟩
    · exact fun z => nomatch z
end
