/-! BusBlocksModel, out of its code (written by gen/meth.py). -/
noncomputable section
def k_M_fails (pc : Nat) : Ent := bif Nat.ble 145 pc then am_nop else bif Nat.ble 67 pc then (bif Nat.ble 104 pc then (bif Nat.ble 123 pc then (bif Nat.ble 132 pc then (bif Nat.ble 139 pc then (bif Nat.ble 142 pc then (bif Nat.ble 144 pc then (bif Nat.beq pc 144 then (.ireturn, 0, 0, []) else am_nop) else (bif Nat.beq pc 142 then (.iload 5, 0, 5, []) else am_nop)) else (bif Nat.beq pc 139 then (.goto (-53), 0, 86, []) else am_nop)) else (bif Nat.ble 134 pc then (bif Nat.ble 136 pc then (bif Nat.beq pc 136 then (.iinc 5 1, 1, 5, []) else am_nop) else (bif Nat.beq pc 134 then (.istore 6, 0, 6, []) else am_nop)) else (bif Nat.beq pc 132 then (.iload 7, 0, 7, []) else am_nop))) else (bif Nat.ble 126 pc then (bif Nat.ble 128 pc then (bif Nat.ble 129 pc then (bif Nat.beq pc 129 then (.invokevirtual 82, 0, 0, []) else am_nop) else (bif Nat.beq pc 128 then (.iconst (-1), (-1 : Int32), 0, []) else am_nop)) else (bif Nat.beq pc 126 then (.bipush 6, 6, 0, []) else am_nop)) else (bif Nat.ble 124 pc then (bif Nat.beq pc 124 then (.iload 6, 0, 6, []) else am_nop) else (bif Nat.beq pc 123 then (.aload_n 0, 0, 0, []) else am_nop)))) else (bif Nat.ble 115 pc then (bif Nat.ble 118 pc then (bif Nat.ble 119 pc then (bif Nat.ble 120 pc then (bif Nat.beq pc 120 then (.invokevirtual 82, 0, 0, []) else am_nop) else (bif Nat.beq pc 119 then (.iconst 1, 1, 0, []) else am_nop)) else (bif Nat.beq pc 118 then (.iconst 5, 5, 0, []) else am_nop)) else (bif Nat.ble 116 pc then (bif Nat.beq pc 116 then (.iload 6, 0, 6, []) else am_nop) else (bif Nat.beq pc 115 then (.aload_n 0, 0, 0, []) else am_nop))) else (bif Nat.ble 108 pc then (bif Nat.ble 110 pc then (bif Nat.ble 113 pc then (bif Nat.beq pc 113 then (.istore 7, 0, 7, []) else am_nop) else (bif Nat.beq pc 110 then (.invokevirtual 57, 0, 0, []) else am_nop)) else (bif Nat.beq pc 108 then (.iload 6, 0, 6, []) else am_nop)) else (bif Nat.ble 107 pc then (bif Nat.beq pc 107 then (.aload_n 0, 0, 0, []) else am_nop) else (bif Nat.beq pc 104 then (.if_icmp .ge 38, 0, 142, []) else am_nop))))) else (bif Nat.ble 84 pc then (bif Nat.ble 93 pc then (bif Nat.ble 99 pc then (bif Nat.ble 100 pc then (bif Nat.ble 103 pc then (bif Nat.beq pc 103 then (.iload_n 3, 0, 3, []) else am_nop) else (bif Nat.beq pc 100 then (.invokevirtual 49, 0, 0, []) else am_nop)) else (bif Nat.beq pc 99 then (.iconst 3, 3, 0, []) else am_nop)) else (bif Nat.ble 96 pc then (bif Nat.ble 97 pc then (bif Nat.beq pc 97 then (.iload 6, 0, 6, []) else am_nop) else (bif Nat.beq pc 96 then (.aload_n 0, 0, 0, []) else am_nop)) else (bif Nat.beq pc 93 then (.ifCond .eq 14, 0, 107, []) else am_nop))) else (bif Nat.ble 88 pc then (bif Nat.ble 89 pc then (bif Nat.ble 92 pc then (bif Nat.beq pc 92 then (.iload_n 2, 0, 2, []) else am_nop) else (bif Nat.beq pc 89 then (.if_icmp .eq 53, 0, 142, []) else am_nop)) else (bif Nat.beq pc 88 then (.iconst (-1), (-1 : Int32), 0, []) else am_nop)) else (bif Nat.ble 86 pc then (bif Nat.beq pc 86 then (.iload 6, 0, 6, []) else am_nop) else (bif Nat.beq pc 84 then (.istore 6, 0, 6, []) else am_nop)))) else (bif Nat.ble 76 pc then (bif Nat.ble 80 pc then (bif Nat.ble 81 pc then (bif Nat.ble 83 pc then (bif Nat.beq pc 83 then (.iload_n 1, 0, 1, []) else am_nop) else (bif Nat.beq pc 81 then (.istore 5, 0, 5, []) else am_nop)) else (bif Nat.beq pc 80 then (.iconst 0, 0, 0, []) else am_nop)) else (bif Nat.ble 77 pc then (bif Nat.beq pc 77 then (.invokevirtual 82, 0, 0, []) else am_nop) else (bif Nat.beq pc 76 then (.iconst (-1), (-1 : Int32), 0, []) else am_nop))) else (bif Nat.ble 71 pc then (bif Nat.ble 72 pc then (bif Nat.ble 74 pc then (bif Nat.beq pc 74 then (.bipush 6, 6, 0, []) else am_nop) else (bif Nat.beq pc 72 then (.iload 4, 0, 4, []) else am_nop)) else (bif Nat.beq pc 71 then (.aload_n 0, 0, 0, []) else am_nop)) else (bif Nat.ble 68 pc then (bif Nat.beq pc 68 then (.if_icmp .eq 12, 0, 80, []) else am_nop) else (bif Nat.beq pc 67 then (.iconst (-1), (-1 : Int32), 0, []) else am_nop)))))) else (bif Nat.ble 35 pc then (bif Nat.ble 48 pc then (bif Nat.ble 57 pc then (bif Nat.ble 60 pc then (bif Nat.ble 63 pc then (bif Nat.ble 65 pc then (bif Nat.beq pc 65 then (.iload 4, 0, 4, []) else am_nop) else (bif Nat.beq pc 63 then (.istore 4, 0, 4, []) else am_nop)) else (bif Nat.beq pc 60 then (.invokevirtual 64, 0, 0, []) else am_nop)) else (bif Nat.ble 58 pc then (bif Nat.ble 59 pc then (bif Nat.beq pc 59 then (.iload_n 1, 0, 1, []) else am_nop) else (bif Nat.beq pc 58 then (.aload_n 0, 0, 0, []) else am_nop)) else (bif Nat.beq pc 57 then (.iastore, 0, 0, []) else am_nop))) else (bif Nat.ble 52 pc then (bif Nat.ble 55 pc then (bif Nat.ble 56 pc then (bif Nat.beq pc 56 then (.iadd, 0, 0, []) else am_nop) else (bif Nat.beq pc 55 then (.iconst 0, 0, 0, []) else am_nop)) else (bif Nat.beq pc 52 then (.goto 4, 0, 56, []) else am_nop)) else (bif Nat.ble 51 pc then (bif Nat.beq pc 51 then (.iconst 1, 1, 0, []) else am_nop) else (bif Nat.beq pc 48 then (.ifCond .eq 7, 0, 55, []) else am_nop)))) else (bif Nat.ble 40 pc then (bif Nat.ble 45 pc then (bif Nat.ble 46 pc then (bif Nat.ble 47 pc then (bif Nat.beq pc 47 then (.iload_n 2, 0, 2, []) else am_nop) else (bif Nat.beq pc 46 then (.iaload, 0, 0, []) else am_nop)) else (bif Nat.beq pc 45 then (.dup2, 0, 0, []) else am_nop)) else (bif Nat.ble 43 pc then (bif Nat.beq pc 43 then (.bipush 12, 12, 0, []) else am_nop) else (bif Nat.beq pc 40 then (.getfield 7, 0, 0, []) else am_nop))) else (bif Nat.ble 37 pc then (bif Nat.ble 38 pc then (bif Nat.ble 39 pc then (bif Nat.beq pc 39 then (.aload_n 0, 0, 0, []) else am_nop) else (bif Nat.beq pc 38 then (.iastore, 0, 0, []) else am_nop)) else (bif Nat.beq pc 37 then (.iadd, 0, 0, []) else am_nop)) else (bif Nat.ble 36 pc then (bif Nat.beq pc 36 then (.iconst 1, 1, 0, []) else am_nop) else (bif Nat.beq pc 35 then (.iaload, 0, 0, []) else am_nop))))) else (bif Nat.ble 16 pc then (bif Nat.ble 26 pc then (bif Nat.ble 29 pc then (bif Nat.ble 32 pc then (bif Nat.ble 34 pc then (bif Nat.beq pc 34 then (.dup2, 0, 0, []) else am_nop) else (bif Nat.beq pc 32 then (.bipush 13, 13, 0, []) else am_nop)) else (bif Nat.beq pc 29 then (.getfield 7, 0, 0, []) else am_nop)) else (bif Nat.ble 27 pc then (bif Nat.ble 28 pc then (bif Nat.beq pc 28 then (.aload_n 0, 0, 0, []) else am_nop) else (bif Nat.beq pc 27 then (.istore_n 3, 0, 3, []) else am_nop)) else (bif Nat.beq pc 26 then (.iadd, 0, 0, []) else am_nop))) else (bif Nat.ble 20 pc then (bif Nat.ble 23 pc then (bif Nat.ble 25 pc then (bif Nat.beq pc 25 then (.iaload, 0, 0, []) else am_nop) else (bif Nat.beq pc 23 then (.bipush 11, 11, 0, []) else am_nop)) else (bif Nat.beq pc 20 then (.getfield 7, 0, 0, []) else am_nop)) else (bif Nat.ble 19 pc then (bif Nat.beq pc 19 then (.aload_n 0, 0, 0, []) else am_nop) else (bif Nat.beq pc 16 then (.invokevirtual 49, 0, 0, []) else am_nop)))) else (bif Nat.ble 11 pc then (bif Nat.ble 13 pc then (bif Nat.ble 14 pc then (bif Nat.ble 15 pc then (bif Nat.beq pc 15 then (.iconst 3, 3, 0, []) else am_nop) else (bif Nat.beq pc 14 then (.iload_n 1, 0, 1, []) else am_nop)) else (bif Nat.beq pc 13 then (.aload_n 0, 0, 0, []) else am_nop)) else (bif Nat.ble 12 pc then (bif Nat.beq pc 12 then (.istore_n 2, 0, 2, []) else am_nop) else (bif Nat.beq pc 11 then (.iconst 0, 0, 0, []) else am_nop))) else (bif Nat.ble 4 pc then (bif Nat.ble 7 pc then (bif Nat.ble 8 pc then (bif Nat.beq pc 8 then (.goto 4, 0, 12, []) else am_nop) else (bif Nat.beq pc 7 then (.iconst 1, 1, 0, []) else am_nop)) else (bif Nat.beq pc 4 then (.ifCond .le 7, 0, 11, []) else am_nop)) else (bif Nat.ble 1 pc then (bif Nat.beq pc 1 then (.invokevirtual 157, 0, 0, []) else am_nop) else (bif Nat.beq pc 0 then (.aload_n 0, 0, 0, []) else am_nop))))))
theorem lk_M_157 : am_lnk RX6 157 (d_M_spares 16) := ⟨⟨by decide, by decide⟩, am_tb 8 (by decide +kernel) rfl, Or.inr ⟨by decide, rfl, am_tb 1067 (by decide +kernel) rfl, am_tp 88 (by decide +kernel) rfl, ⟨TX6, 16, rfl⟩, Or.inl (am_tb 1065 (by decide +kernel) rfl)⟩⟩
def m_M_fails : MI := (k_M_fails, [(7, 6, 0)], [(49, d_M_of 16), (57, d_M_next 16), (64, d_M_before 16), (82, d_M_becomes 16), (157, d_M_spares 16)], [], [], [], [], 3, 66, some .int, fun _ => 0, 1)
def s_M_fails_86 (h : HP) (a1 : Int32) (v1 : Int32 × Int32 × HP) : (Int32 × Int32 × HP) ⊕ (Int32 × Int32 × HP) := (if v1.2.1 = (-1 : Int32) then (.inr (v1.1, v1.2.1, v1.2.2)) else (if ((if (v_M_spares h) ≤ 0 then (0 : Int32) else 1) : Int32) = 0 then (bnd (v_M_becomes v1.2.2 v1.2.1 5 1) fun y2 => (bnd (v_M_becomes y2 v1.2.1 6 (-1 : Int32)) fun y3 => (.inl ((v1.1 + 1), (v_M_next v1.2.2 v1.2.1), y3)))) else (if (v_M_of v1.2.2 v1.2.1 3) < ((v_M_of h a1 3) + (h.1 1 (am_ix 11))) then (bnd (v_M_becomes v1.2.2 v1.2.1 5 1) fun y4 => (bnd (v_M_becomes y4 v1.2.1 6 (-1 : Int32)) fun y5 => (.inl ((v1.1 + 1), (v_M_next v1.2.2 v1.2.1), y5)))) else (.inr (v1.1, v1.2.1, v1.2.2)))))
def ps_M_fails_86 (h : HP) (a1 : Int32) (v1 : Int32 × Int32 × HP) : Prop := ((v1.2.1 = (-1 : Int32) → True) ∧ (¬ v1.2.1 = (-1 : Int32) → ((((if (v_M_spares h) ≤ 0 then (0 : Int32) else 1) : Int32) = 0 → ((p_M_next v1.2.2 v1.2.1) ∧ ((p_M_becomes v1.2.2 v1.2.1 5 1) ∧ (∀ y2, v_M_becomes v1.2.2 v1.2.1 5 1 = y2 → (p_M_becomes y2 v1.2.1 6 (-1 : Int32)))))) ∧ (¬ ((if (v_M_spares h) ≤ 0 then (0 : Int32) else 1) : Int32) = 0 → ((p_M_of v1.2.2 v1.2.1 3) ∧ (((v_M_of v1.2.2 v1.2.1 3) < ((v_M_of h a1 3) + (h.1 1 (am_ix 11))) → ((p_M_next v1.2.2 v1.2.1) ∧ ((p_M_becomes v1.2.2 v1.2.1 5 1) ∧ (∀ y4, v_M_becomes v1.2.2 v1.2.1 5 1 = y4 → (p_M_becomes y4 v1.2.1 6 (-1 : Int32)))))) ∧ (¬ (v_M_of v1.2.2 v1.2.1 3) < ((v_M_of h a1 3) + (h.1 1 (am_ix 11))) → True)))))))
def s_M_fails_86b (h : HP) (a1 : Int32) (y6 : HP) (v1 : Int32 × Int32 × HP) : (Int32 × Int32 × HP) ⊕ (Int32 × Int32 × HP) := (if v1.2.1 = (-1 : Int32) then (.inr (v1.1, v1.2.1, v1.2.2)) else (if ((if (v_M_spares h) ≤ 0 then (0 : Int32) else 1) : Int32) = 0 then (bnd (v_M_becomes v1.2.2 v1.2.1 5 1) fun y8 => (bnd (v_M_becomes y8 v1.2.1 6 (-1 : Int32)) fun y9 => (.inl ((v1.1 + 1), (v_M_next v1.2.2 v1.2.1), y9)))) else (if (v_M_of v1.2.2 v1.2.1 3) < ((v_M_of h a1 3) + (h.1 1 (am_ix 11))) then (bnd (v_M_becomes v1.2.2 v1.2.1 5 1) fun y10 => (bnd (v_M_becomes y10 v1.2.1 6 (-1 : Int32)) fun y11 => (.inl ((v1.1 + 1), (v_M_next v1.2.2 v1.2.1), y11)))) else (.inr (v1.1, v1.2.1, v1.2.2)))))
def ps_M_fails_86b (h : HP) (a1 : Int32) (y6 : HP) (v1 : Int32 × Int32 × HP) : Prop := ((v1.2.1 = (-1 : Int32) → True) ∧ (¬ v1.2.1 = (-1 : Int32) → ((((if (v_M_spares h) ≤ 0 then (0 : Int32) else 1) : Int32) = 0 → ((p_M_next v1.2.2 v1.2.1) ∧ ((p_M_becomes v1.2.2 v1.2.1 5 1) ∧ (∀ y8, v_M_becomes v1.2.2 v1.2.1 5 1 = y8 → (p_M_becomes y8 v1.2.1 6 (-1 : Int32)))))) ∧ (¬ ((if (v_M_spares h) ≤ 0 then (0 : Int32) else 1) : Int32) = 0 → ((p_M_of v1.2.2 v1.2.1 3) ∧ (((v_M_of v1.2.2 v1.2.1 3) < ((v_M_of h a1 3) + (h.1 1 (am_ix 11))) → ((p_M_next v1.2.2 v1.2.1) ∧ ((p_M_becomes v1.2.2 v1.2.1 5 1) ∧ (∀ y10, v_M_becomes v1.2.2 v1.2.1 5 1 = y10 → (p_M_becomes y10 v1.2.1 6 (-1 : Int32)))))) ∧ (¬ (v_M_of v1.2.2 v1.2.1 3) < ((v_M_of h a1 3) + (h.1 1 (am_ix 11))) → True)))))))
def v_M_fails (h : HP) (a1 : Int32) : Int32 × HP := (if (v_M_before (am_si (am_si h 1 (am_ix 13) ((h.1 1 (am_ix 13)) + 1)) 1 (am_ix 12) (((am_si h 1 (am_ix 13) ((h.1 1 (am_ix 13)) + 1)).1 1 (am_ix 12)) + (if ((if (v_M_spares h) ≤ 0 then (0 : Int32) else 1) : Int32) = 0 then (0 : Int32) else 1))) a1) = (-1 : Int32) then (match itr (s_M_fails_86 h a1) NF (0, a1, (am_si (am_si h 1 (am_ix 13) ((h.1 1 (am_ix 13)) + 1)) 1 (am_ix 12) (((am_si h 1 (am_ix 13) ((h.1 1 (am_ix 13)) + 1)).1 1 (am_ix 12)) + (if ((if (v_M_spares h) ≤ 0 then (0 : Int32) else 1) : Int32) = 0 then (0 : Int32) else 1)))) with | some r1 => (r1.1, r1.2.2) | none => (0, h)) else (bnd (v_M_becomes (am_si (am_si h 1 (am_ix 13) ((h.1 1 (am_ix 13)) + 1)) 1 (am_ix 12) (((am_si h 1 (am_ix 13) ((h.1 1 (am_ix 13)) + 1)).1 1 (am_ix 12)) + (if ((if (v_M_spares h) ≤ 0 then (0 : Int32) else 1) : Int32) = 0 then (0 : Int32) else 1))) (v_M_before (am_si (am_si h 1 (am_ix 13) ((h.1 1 (am_ix 13)) + 1)) 1 (am_ix 12) (((am_si h 1 (am_ix 13) ((h.1 1 (am_ix 13)) + 1)).1 1 (am_ix 12)) + (if ((if (v_M_spares h) ≤ 0 then (0 : Int32) else 1) : Int32) = 0 then (0 : Int32) else 1))) a1) 6 (-1 : Int32)) fun y6 => (match itr (s_M_fails_86b h a1 y6) NF (0, a1, y6) with | some r7 => (r7.1, r7.2.2) | none => (0, h))))
def p_M_fails (h : HP) (a1 : Int32) : Prop := ((p_M_of h a1 3) ∧ ((p_M_before (am_si (am_si h 1 (am_ix 13) ((h.1 1 (am_ix 13)) + 1)) 1 (am_ix 12) (((am_si h 1 (am_ix 13) ((h.1 1 (am_ix 13)) + 1)).1 1 (am_ix 12)) + (if ((if (v_M_spares h) ≤ 0 then (0 : Int32) else 1) : Int32) = 0 then (0 : Int32) else 1))) a1) ∧ (((v_M_before (am_si (am_si h 1 (am_ix 13) ((h.1 1 (am_ix 13)) + 1)) 1 (am_ix 12) (((am_si h 1 (am_ix 13) ((h.1 1 (am_ix 13)) + 1)).1 1 (am_ix 12)) + (if ((if (v_M_spares h) ≤ 0 then (0 : Int32) else 1) : Int32) = 0 then (0 : Int32) else 1))) a1) = (-1 : Int32) → (itrp (s_M_fails_86 h a1) (ps_M_fails_86 h a1) NF (0, a1, (am_si (am_si h 1 (am_ix 13) ((h.1 1 (am_ix 13)) + 1)) 1 (am_ix 12) (((am_si h 1 (am_ix 13) ((h.1 1 (am_ix 13)) + 1)).1 1 (am_ix 12)) + (if ((if (v_M_spares h) ≤ 0 then (0 : Int32) else 1) : Int32) = 0 then (0 : Int32) else 1)))))) ∧ (¬ (v_M_before (am_si (am_si h 1 (am_ix 13) ((h.1 1 (am_ix 13)) + 1)) 1 (am_ix 12) (((am_si h 1 (am_ix 13) ((h.1 1 (am_ix 13)) + 1)).1 1 (am_ix 12)) + (if ((if (v_M_spares h) ≤ 0 then (0 : Int32) else 1) : Int32) = 0 then (0 : Int32) else 1))) a1) = (-1 : Int32) → ((p_M_becomes (am_si (am_si h 1 (am_ix 13) ((h.1 1 (am_ix 13)) + 1)) 1 (am_ix 12) (((am_si h 1 (am_ix 13) ((h.1 1 (am_ix 13)) + 1)).1 1 (am_ix 12)) + (if ((if (v_M_spares h) ≤ 0 then (0 : Int32) else 1) : Int32) = 0 then (0 : Int32) else 1))) (v_M_before (am_si (am_si h 1 (am_ix 13) ((h.1 1 (am_ix 13)) + 1)) 1 (am_ix 12) (((am_si h 1 (am_ix 13) ((h.1 1 (am_ix 13)) + 1)).1 1 (am_ix 12)) + (if ((if (v_M_spares h) ≤ 0 then (0 : Int32) else 1) : Int32) = 0 then (0 : Int32) else 1))) a1) 6 (-1 : Int32)) ∧ (∀ y6, v_M_becomes (am_si (am_si h 1 (am_ix 13) ((h.1 1 (am_ix 13)) + 1)) 1 (am_ix 12) (((am_si h 1 (am_ix 13) ((h.1 1 (am_ix 13)) + 1)).1 1 (am_ix 12)) + (if ((if (v_M_spares h) ≤ 0 then (0 : Int32) else 1) : Int32) = 0 then (0 : Int32) else 1))) (v_M_before (am_si (am_si h 1 (am_ix 13) ((h.1 1 (am_ix 13)) + 1)) 1 (am_ix 12) (((am_si h 1 (am_ix 13) ((h.1 1 (am_ix 13)) + 1)).1 1 (am_ix 12)) + (if ((if (v_M_spares h) ≤ 0 then (0 : Int32) else 1) : Int32) = 0 then (0 : Int32) else 1))) a1) 6 (-1 : Int32) = y6 → (itrp (s_M_fails_86b h a1 y6) (ps_M_fails_86b h a1 y6) NF (0, a1, y6))))))))
def g_M_fails (_ _ : List Sh) (as : List Value) (h : HP) : GR := match as with
  | [.ref o1, .int a1] => (Nat.beq o1 0, p_M_fails h a1, none, some (.int (v_M_fails h a1).1), (v_M_fails h a1).2)
  | _ => bad h
def d_M_fails (k : Nat) : CD := (k, yX6_fails, cX6_fails, 8, some .int, 2, 3, 66, 0, false, true, g_M_fails)
theorem chk_M_fails : ∀ pc, am_chk cX6_fails k_M_fails pc = true := am_chkall 145 (by decide +kernel) (fun pc h => by unfold k_M_fails; rw [Nat.ble_eq_true_of_le h]; rfl)
theorem pf_M_fails : plainFor yX6_fails = true := by decide +kernel
theorem cu_M_fails : Cond.code yX6_fails cX6_fails 8 (some .int) ∈ am_U := am_tb 1064 (by decide +kernel) rfl
set_option maxHeartbeats 20000000 in
set_option maxRecDepth 100000 in
theorem ev_M_fails {e1 ro : List Sh} {P : AR → HP → Prop} (h : HP) (a1 : Int32) (hp : p_M_fails h a1) (hP : ∀ q, v_M_fails h a1 = q → RIW P h q) : am_Ev m_M_fails (WM ++ e1) ro P (0, [.ref 0, .int a1, .retAddr 0, .retAddr 0, .retAddr 0, .retAddr 0, .retAddr 0, .retAddr 0], [], h) := by
  unfold p_M_fails at hp
  refine am_Ev_G [4] 400 _ ?_
  show am_Ev m_M_fails (WM ++ e1) ro P (4, [.ref 0, .int a1, .retAddr 0, .retAddr 0, .retAddr 0, .retAddr 0, .retAddr 0, .retAddr 0], [.int (v_M_spares h)], h)
  have key1 : am_Ev m_M_fails (WM ++ e1) ro P (12, [.ref 0, .int a1, .retAddr 0, .retAddr 0, .retAddr 0, .retAddr 0, .retAddr 0, .retAddr 0], [.int (if (v_M_spares h) ≤ 0 then (0 : Int32) else 1)], h) := by
    refine am_Ev_G [19] 400 _ ?_
    show ((p_M_of h a1 3) ∧ am_Ev m_M_fails (WM ++ e1) ro P (19, [.ref 0, .int a1, .int (if (v_M_spares h) ≤ 0 then (0 : Int32) else 1), .retAddr 0, .retAddr 0, .retAddr 0, .retAddr 0, .retAddr 0], [.int (v_M_of h a1 3)], h))
    obtain ⟨hob, hp⟩ := hp
    refine ⟨hob, ?_⟩
    refine am_Ev_G [39] 400 _ ?_
    show ((am_in 11 163) ∧ ((am_in 13 163) ∧ ((am_in 13 163) ∧ am_Ev m_M_fails (WM ++ e1) ro P (39, [.ref 0, .int a1, .int (if (v_M_spares h) ≤ 0 then (0 : Int32) else 1), .int ((v_M_of h a1 3) + (h.1 1 (am_ix 11))), .retAddr 0, .retAddr 0, .retAddr 0, .retAddr 0], [], (am_si h 1 (am_ix 13) ((h.1 1 (am_ix 13)) + 1))))))
    refine ⟨⟨by decide, by decide⟩, ?_⟩
    refine ⟨⟨by decide, by decide⟩, ?_⟩
    refine ⟨⟨by decide, by decide⟩, ?_⟩
    refine am_Ev_G [43] 400 _ ?_
    show am_Ev m_M_fails (WM ++ e1) ro P (43, [.ref 0, .int a1, .int (if (v_M_spares h) ≤ 0 then (0 : Int32) else 1), .int ((v_M_of h a1 3) + (h.1 1 (am_ix 11))), .retAddr 0, .retAddr 0, .retAddr 0, .retAddr 0], [.ref 1], (am_si h 1 (am_ix 13) ((h.1 1 (am_ix 13)) + 1)))
    refine am_Ev_G [48] 400 _ ?_
    show ((am_in 12 163) ∧ am_Ev m_M_fails (WM ++ e1) ro P (48, [.ref 0, .int a1, .int (if (v_M_spares h) ≤ 0 then (0 : Int32) else 1), .int ((v_M_of h a1 3) + (h.1 1 (am_ix 11))), .retAddr 0, .retAddr 0, .retAddr 0, .retAddr 0], [.int (if (v_M_spares h) ≤ 0 then (0 : Int32) else 1), .int ((am_si h 1 (am_ix 13) ((h.1 1 (am_ix 13)) + 1)).1 1 (am_ix 12)), .int 12, .ref 1], (am_si h 1 (am_ix 13) ((h.1 1 (am_ix 13)) + 1))))
    refine ⟨⟨by decide, by decide⟩, ?_⟩
    have key2 : am_Ev m_M_fails (WM ++ e1) ro P (56, [.ref 0, .int a1, .int (if (v_M_spares h) ≤ 0 then (0 : Int32) else 1), .int ((v_M_of h a1 3) + (h.1 1 (am_ix 11))), .retAddr 0, .retAddr 0, .retAddr 0, .retAddr 0], [.int (if ((if (v_M_spares h) ≤ 0 then (0 : Int32) else 1) : Int32) = 0 then (0 : Int32) else 1), .int ((am_si h 1 (am_ix 13) ((h.1 1 (am_ix 13)) + 1)).1 1 (am_ix 12)), .int 12, .ref 1], (am_si h 1 (am_ix 13) ((h.1 1 (am_ix 13)) + 1))) := by
      refine am_Ev_G [58] 400 _ ?_
      show ((am_in 12 163) ∧ am_Ev m_M_fails (WM ++ e1) ro P (58, [.ref 0, .int a1, .int (if (v_M_spares h) ≤ 0 then (0 : Int32) else 1), .int ((v_M_of h a1 3) + (h.1 1 (am_ix 11))), .retAddr 0, .retAddr 0, .retAddr 0, .retAddr 0], [], (am_si (am_si h 1 (am_ix 13) ((h.1 1 (am_ix 13)) + 1)) 1 (am_ix 12) (((am_si h 1 (am_ix 13) ((h.1 1 (am_ix 13)) + 1)).1 1 (am_ix 12)) + (if ((if (v_M_spares h) ≤ 0 then (0 : Int32) else 1) : Int32) = 0 then (0 : Int32) else 1)))))
      refine ⟨⟨by decide, by decide⟩, ?_⟩
      refine am_Ev_G [63] 400 _ ?_
      show ((p_M_before (am_si (am_si h 1 (am_ix 13) ((h.1 1 (am_ix 13)) + 1)) 1 (am_ix 12) (((am_si h 1 (am_ix 13) ((h.1 1 (am_ix 13)) + 1)).1 1 (am_ix 12)) + (if ((if (v_M_spares h) ≤ 0 then (0 : Int32) else 1) : Int32) = 0 then (0 : Int32) else 1))) a1) ∧ am_Ev m_M_fails (WM ++ e1) ro P (63, [.ref 0, .int a1, .int (if (v_M_spares h) ≤ 0 then (0 : Int32) else 1), .int ((v_M_of h a1 3) + (h.1 1 (am_ix 11))), .retAddr 0, .retAddr 0, .retAddr 0, .retAddr 0], [.int (v_M_before (am_si (am_si h 1 (am_ix 13) ((h.1 1 (am_ix 13)) + 1)) 1 (am_ix 12) (((am_si h 1 (am_ix 13) ((h.1 1 (am_ix 13)) + 1)).1 1 (am_ix 12)) + (if ((if (v_M_spares h) ≤ 0 then (0 : Int32) else 1) : Int32) = 0 then (0 : Int32) else 1))) a1)], (am_si (am_si h 1 (am_ix 13) ((h.1 1 (am_ix 13)) + 1)) 1 (am_ix 12) (((am_si h 1 (am_ix 13) ((h.1 1 (am_ix 13)) + 1)).1 1 (am_ix 12)) + (if ((if (v_M_spares h) ≤ 0 then (0 : Int32) else 1) : Int32) = 0 then (0 : Int32) else 1)))))
      obtain ⟨hob, hp⟩ := hp
      refine ⟨hob, ?_⟩
      refine am_Ev_G [80] 400 _ ?_
      show (((v_M_before (am_si (am_si h 1 (am_ix 13) ((h.1 1 (am_ix 13)) + 1)) 1 (am_ix 12) (((am_si h 1 (am_ix 13) ((h.1 1 (am_ix 13)) + 1)).1 1 (am_ix 12)) + (if ((if (v_M_spares h) ≤ 0 then (0 : Int32) else 1) : Int32) = 0 then (0 : Int32) else 1))) a1) = (-1 : Int32) → am_Ev m_M_fails (WM ++ e1) ro P (80, [.ref 0, .int a1, .int (if (v_M_spares h) ≤ 0 then (0 : Int32) else 1), .int ((v_M_of h a1 3) + (h.1 1 (am_ix 11))), .int (v_M_before (am_si (am_si h 1 (am_ix 13) ((h.1 1 (am_ix 13)) + 1)) 1 (am_ix 12) (((am_si h 1 (am_ix 13) ((h.1 1 (am_ix 13)) + 1)).1 1 (am_ix 12)) + (if ((if (v_M_spares h) ≤ 0 then (0 : Int32) else 1) : Int32) = 0 then (0 : Int32) else 1))) a1), .retAddr 0, .retAddr 0, .retAddr 0], [], (am_si (am_si h 1 (am_ix 13) ((h.1 1 (am_ix 13)) + 1)) 1 (am_ix 12) (((am_si h 1 (am_ix 13) ((h.1 1 (am_ix 13)) + 1)).1 1 (am_ix 12)) + (if ((if (v_M_spares h) ≤ 0 then (0 : Int32) else 1) : Int32) = 0 then (0 : Int32) else 1))))) ∧ (¬ (v_M_before (am_si (am_si h 1 (am_ix 13) ((h.1 1 (am_ix 13)) + 1)) 1 (am_ix 12) (((am_si h 1 (am_ix 13) ((h.1 1 (am_ix 13)) + 1)).1 1 (am_ix 12)) + (if ((if (v_M_spares h) ≤ 0 then (0 : Int32) else 1) : Int32) = 0 then (0 : Int32) else 1))) a1) = (-1 : Int32) → ((p_M_becomes (am_si (am_si h 1 (am_ix 13) ((h.1 1 (am_ix 13)) + 1)) 1 (am_ix 12) (((am_si h 1 (am_ix 13) ((h.1 1 (am_ix 13)) + 1)).1 1 (am_ix 12)) + (if ((if (v_M_spares h) ≤ 0 then (0 : Int32) else 1) : Int32) = 0 then (0 : Int32) else 1))) (v_M_before (am_si (am_si h 1 (am_ix 13) ((h.1 1 (am_ix 13)) + 1)) 1 (am_ix 12) (((am_si h 1 (am_ix 13) ((h.1 1 (am_ix 13)) + 1)).1 1 (am_ix 12)) + (if ((if (v_M_spares h) ≤ 0 then (0 : Int32) else 1) : Int32) = 0 then (0 : Int32) else 1))) a1) 6 (-1 : Int32)) ∧ am_Ev m_M_fails (WM ++ e1) ro P (80, [.ref 0, .int a1, .int (if (v_M_spares h) ≤ 0 then (0 : Int32) else 1), .int ((v_M_of h a1 3) + (h.1 1 (am_ix 11))), .int (v_M_before (am_si (am_si h 1 (am_ix 13) ((h.1 1 (am_ix 13)) + 1)) 1 (am_ix 12) (((am_si h 1 (am_ix 13) ((h.1 1 (am_ix 13)) + 1)).1 1 (am_ix 12)) + (if ((if (v_M_spares h) ≤ 0 then (0 : Int32) else 1) : Int32) = 0 then (0 : Int32) else 1))) a1), .retAddr 0, .retAddr 0, .retAddr 0], [], (v_M_becomes (am_si (am_si h 1 (am_ix 13) ((h.1 1 (am_ix 13)) + 1)) 1 (am_ix 12) (((am_si h 1 (am_ix 13) ((h.1 1 (am_ix 13)) + 1)).1 1 (am_ix 12)) + (if ((if (v_M_spares h) ≤ 0 then (0 : Int32) else 1) : Int32) = 0 then (0 : Int32) else 1))) (v_M_before (am_si (am_si h 1 (am_ix 13) ((h.1 1 (am_ix 13)) + 1)) 1 (am_ix 12) (((am_si h 1 (am_ix 13) ((h.1 1 (am_ix 13)) + 1)).1 1 (am_ix 12)) + (if ((if (v_M_spares h) ≤ 0 then (0 : Int32) else 1) : Int32) = 0 then (0 : Int32) else 1))) a1) 6 (-1 : Int32))))))
      refine ⟨fun c3 => ?_, fun c3 => ?_⟩
      · have hp := hp.1 c3
        refine am_Ev_G [86] 400 _ ?_
        show am_Ev m_M_fails (WM ++ e1) ro P (86, [.ref 0, .int a1, .int (if (v_M_spares h) ≤ 0 then (0 : Int32) else 1), .int ((v_M_of h a1 3) + (h.1 1 (am_ix 11))), .int (v_M_before (am_si (am_si h 1 (am_ix 13) ((h.1 1 (am_ix 13)) + 1)) 1 (am_ix 12) (((am_si h 1 (am_ix 13) ((h.1 1 (am_ix 13)) + 1)).1 1 (am_ix 12)) + (if ((if (v_M_spares h) ≤ 0 then (0 : Int32) else 1) : Int32) = 0 then (0 : Int32) else 1))) a1), .int 0, .int a1, .retAddr 0], [], (am_si (am_si h 1 (am_ix 13) ((h.1 1 (am_ix 13)) + 1)) 1 (am_ix 12) (((am_si h 1 (am_ix 13) ((h.1 1 (am_ix 13)) + 1)).1 1 (am_ix 12)) + (if ((if (v_M_spares h) ≤ 0 then (0 : Int32) else 1) : Int32) = 0 then (0 : Int32) else 1))))
        refine am_fg 1 ?_
        refine am_fg 4 ?_
        have hpl := hp
        refine am_itr (E := (fun (v1 : Int32 × Int32 × HP) => am_Ev m_M_fails (WM ++ e1) ro P (86, [.ref 0, .retAddr 0, .int (if (v_M_spares h) ≤ 0 then (0 : Int32) else 1), .int ((v_M_of h a1 3) + (h.1 1 (am_ix 11))), .retAddr 0, .int v1.1, .int v1.2.1, .retAddr 0], [], v1.2.2))) (E' := (fun (r1 : Int32 × Int32 × HP) => am_Ev m_M_fails (WM ++ e1) ro P (142, [.ref 0, .retAddr 0, .int (if (v_M_spares h) ≤ 0 then (0 : Int32) else 1), .int ((v_M_of h a1 3) + (h.1 1 (am_ix 11))), .retAddr 0, .int r1.1, .int r1.2.1, .retAddr 0], [], r1.2.2))) (s_M_fails_86 h a1) (ps_M_fails_86 h a1) ?_ NF (0, a1, (am_si (am_si h 1 (am_ix 13) ((h.1 1 (am_ix 13)) + 1)) 1 (am_ix 12) (((am_si h 1 (am_ix 13) ((h.1 1 (am_ix 13)) + 1)).1 1 (am_ix 12)) + (if ((if (v_M_spares h) ≤ 0 then (0 : Int32) else 1) : Int32) = 0 then (0 : Int32) else 1)))) hpl ?_
        · intro v1 hp hc1 hx1
          show am_Ev m_M_fails (WM ++ e1) ro P (86, [.ref 0, .retAddr 0, .int (if (v_M_spares h) ≤ 0 then (0 : Int32) else 1), .int ((v_M_of h a1 3) + (h.1 1 (am_ix 11))), .retAddr 0, .int v1.1, .int v1.2.1, .retAddr 0], [], v1.2.2)
          unfold ps_M_fails_86 at hp
          refine am_Ev_G [103, 123, 142] 400 _ ?_
          show ((v1.2.1 = (-1 : Int32) → am_Ev m_M_fails (WM ++ e1) ro P (142, [.ref 0, .retAddr 0, .int (if (v_M_spares h) ≤ 0 then (0 : Int32) else 1), .int ((v_M_of h a1 3) + (h.1 1 (am_ix 11))), .retAddr 0, .int v1.1, .int v1.2.1, .retAddr 0], [], v1.2.2)) ∧ (¬ v1.2.1 = (-1 : Int32) → ((((if (v_M_spares h) ≤ 0 then (0 : Int32) else 1) : Int32) = 0 → ((p_M_next v1.2.2 v1.2.1) ∧ ((p_M_becomes v1.2.2 v1.2.1 5 1) ∧ am_Ev m_M_fails (WM ++ e1) ro P (123, [.ref 0, .retAddr 0, .int (if (v_M_spares h) ≤ 0 then (0 : Int32) else 1), .int ((v_M_of h a1 3) + (h.1 1 (am_ix 11))), .retAddr 0, .int v1.1, .int v1.2.1, .int (v_M_next v1.2.2 v1.2.1)], [], (v_M_becomes v1.2.2 v1.2.1 5 1))))) ∧ (¬ ((if (v_M_spares h) ≤ 0 then (0 : Int32) else 1) : Int32) = 0 → ((p_M_of v1.2.2 v1.2.1 3) ∧ am_Ev m_M_fails (WM ++ e1) ro P (103, [.ref 0, .retAddr 0, .int (if (v_M_spares h) ≤ 0 then (0 : Int32) else 1), .int ((v_M_of h a1 3) + (h.1 1 (am_ix 11))), .retAddr 0, .int v1.1, .int v1.2.1, .retAddr 0], [.int (v_M_of v1.2.2 v1.2.1 3)], v1.2.2))))))
          refine ⟨fun c4 => ?_, fun c4 => ?_⟩
          · skip
            exact hx1 (v1.1, v1.2.1, v1.2.2) (by unfold s_M_fails_86; simp only [if_pos c4])
          · have hp := hp.2 c4
            refine ⟨fun c5 => ?_, fun c5 => ?_⟩
            · have hp := hp.1 c5
              obtain ⟨hob, hp⟩ := hp
              refine ⟨hob, ?_⟩
              obtain ⟨hob, hp⟩ := hp
              refine ⟨hob, ?_⟩
              obtain ⟨y2, c6⟩ : ∃ y, v_M_becomes v1.2.2 v1.2.1 5 1 = y := ⟨_, rfl⟩
              rw [c6]
              have hp := hp _ c6
              show am_Ev m_M_fails (WM ++ e1) ro P (123, [.ref 0, .retAddr 0, .int (if (v_M_spares h) ≤ 0 then (0 : Int32) else 1), .int ((v_M_of h a1 3) + (h.1 1 (am_ix 11))), .retAddr 0, .int v1.1, .int v1.2.1, .int (v_M_next v1.2.2 v1.2.1)], [], y2)
              refine am_Ev_G [132] 400 _ ?_
              show ((p_M_becomes y2 v1.2.1 6 (-1 : Int32)) ∧ am_Ev m_M_fails (WM ++ e1) ro P (132, [.ref 0, .retAddr 0, .int (if (v_M_spares h) ≤ 0 then (0 : Int32) else 1), .int ((v_M_of h a1 3) + (h.1 1 (am_ix 11))), .retAddr 0, .int v1.1, .int v1.2.1, .int (v_M_next v1.2.2 v1.2.1)], [], (v_M_becomes y2 v1.2.1 6 (-1 : Int32))))
              refine ⟨hp, ?_⟩
              obtain ⟨y3, c7⟩ : ∃ y, v_M_becomes y2 v1.2.1 6 (-1 : Int32) = y := ⟨_, rfl⟩
              rw [c7]
              show am_Ev m_M_fails (WM ++ e1) ro P (132, [.ref 0, .retAddr 0, .int (if (v_M_spares h) ≤ 0 then (0 : Int32) else 1), .int ((v_M_of h a1 3) + (h.1 1 (am_ix 11))), .retAddr 0, .int v1.1, .int v1.2.1, .int (v_M_next v1.2.2 v1.2.1)], [], y3)
              refine am_Ev_G [86] 400 _ ?_
              show am_Ev m_M_fails (WM ++ e1) ro P (86, [.ref 0, .retAddr 0, .int (if (v_M_spares h) ≤ 0 then (0 : Int32) else 1), .int ((v_M_of h a1 3) + (h.1 1 (am_ix 11))), .retAddr 0, .int (v1.1 + 1), .int (v_M_next v1.2.2 v1.2.1), .int (v_M_next v1.2.2 v1.2.1)], [], y3)
              refine am_fg 7 ?_
              exact hc1 ((v1.1 + 1), (v_M_next v1.2.2 v1.2.1), y3) (by unfold s_M_fails_86; simp only [if_neg c4, if_pos c5, bnd, c6, bnd, c7])
            · have hp := hp.2 c5
              obtain ⟨hob, hp⟩ := hp
              refine ⟨hob, ?_⟩
              refine am_Ev_G [123, 142] 400 _ ?_
              show ((¬ (v_M_of v1.2.2 v1.2.1 3) < ((v_M_of h a1 3) + (h.1 1 (am_ix 11))) → am_Ev m_M_fails (WM ++ e1) ro P (142, [.ref 0, .retAddr 0, .int (if (v_M_spares h) ≤ 0 then (0 : Int32) else 1), .int ((v_M_of h a1 3) + (h.1 1 (am_ix 11))), .retAddr 0, .int v1.1, .int v1.2.1, .retAddr 0], [], v1.2.2)) ∧ ((v_M_of v1.2.2 v1.2.1 3) < ((v_M_of h a1 3) + (h.1 1 (am_ix 11))) → ((p_M_next v1.2.2 v1.2.1) ∧ ((p_M_becomes v1.2.2 v1.2.1 5 1) ∧ am_Ev m_M_fails (WM ++ e1) ro P (123, [.ref 0, .retAddr 0, .int (if (v_M_spares h) ≤ 0 then (0 : Int32) else 1), .int ((v_M_of h a1 3) + (h.1 1 (am_ix 11))), .retAddr 0, .int v1.1, .int v1.2.1, .int (v_M_next v1.2.2 v1.2.1)], [], (v_M_becomes v1.2.2 v1.2.1 5 1))))))
              refine ⟨fun c8 => ?_, fun c8 => ?_⟩
              · skip
                exact hx1 (v1.1, v1.2.1, v1.2.2) (by unfold s_M_fails_86; simp only [if_neg c4, if_neg c5, if_neg c8])
              · have hp := hp.1 c8
                obtain ⟨hob, hp⟩ := hp
                refine ⟨hob, ?_⟩
                obtain ⟨hob, hp⟩ := hp
                refine ⟨hob, ?_⟩
                obtain ⟨y4, c9⟩ : ∃ y, v_M_becomes v1.2.2 v1.2.1 5 1 = y := ⟨_, rfl⟩
                rw [c9]
                have hp := hp _ c9
                show am_Ev m_M_fails (WM ++ e1) ro P (123, [.ref 0, .retAddr 0, .int (if (v_M_spares h) ≤ 0 then (0 : Int32) else 1), .int ((v_M_of h a1 3) + (h.1 1 (am_ix 11))), .retAddr 0, .int v1.1, .int v1.2.1, .int (v_M_next v1.2.2 v1.2.1)], [], y4)
                refine am_Ev_G [132] 400 _ ?_
                show ((p_M_becomes y4 v1.2.1 6 (-1 : Int32)) ∧ am_Ev m_M_fails (WM ++ e1) ro P (132, [.ref 0, .retAddr 0, .int (if (v_M_spares h) ≤ 0 then (0 : Int32) else 1), .int ((v_M_of h a1 3) + (h.1 1 (am_ix 11))), .retAddr 0, .int v1.1, .int v1.2.1, .int (v_M_next v1.2.2 v1.2.1)], [], (v_M_becomes y4 v1.2.1 6 (-1 : Int32))))
                refine ⟨hp, ?_⟩
                obtain ⟨y5, c10⟩ : ∃ y, v_M_becomes y4 v1.2.1 6 (-1 : Int32) = y := ⟨_, rfl⟩
                rw [c10]
                show am_Ev m_M_fails (WM ++ e1) ro P (132, [.ref 0, .retAddr 0, .int (if (v_M_spares h) ≤ 0 then (0 : Int32) else 1), .int ((v_M_of h a1 3) + (h.1 1 (am_ix 11))), .retAddr 0, .int v1.1, .int v1.2.1, .int (v_M_next v1.2.2 v1.2.1)], [], y5)
                refine am_Ev_G [86] 400 _ ?_
                show am_Ev m_M_fails (WM ++ e1) ro P (86, [.ref 0, .retAddr 0, .int (if (v_M_spares h) ≤ 0 then (0 : Int32) else 1), .int ((v_M_of h a1 3) + (h.1 1 (am_ix 11))), .retAddr 0, .int (v1.1 + 1), .int (v_M_next v1.2.2 v1.2.1), .int (v_M_next v1.2.2 v1.2.1)], [], y5)
                refine am_fg 7 ?_
                exact hc1 ((v1.1 + 1), (v_M_next v1.2.2 v1.2.1), y5) (by unfold s_M_fails_86; simp only [if_neg c4, if_neg c5, if_pos c8, bnd, c9, bnd, c10])
        · intro r1 hr11
          show am_Ev m_M_fails (WM ++ e1) ro P (142, [.ref 0, .retAddr 0, .int (if (v_M_spares h) ≤ 0 then (0 : Int32) else 1), .int ((v_M_of h a1 3) + (h.1 1 (am_ix 11))), .retAddr 0, .int r1.1, .int r1.2.1, .retAddr 0], [], r1.2.2)
          refine am_Ev_G [] 400 _ ?_
          show P (.inl (some (.int r1.1))) r1.2.2
          exact hP (r1.1, r1.2.2) (by unfold v_M_fails; simp only [if_pos c3, hr11])
      · have hp := hp.2 c3
        obtain ⟨hob, hp⟩ := hp
        refine ⟨hob, ?_⟩
        obtain ⟨y6, c12⟩ : ∃ y, v_M_becomes (am_si (am_si h 1 (am_ix 13) ((h.1 1 (am_ix 13)) + 1)) 1 (am_ix 12) (((am_si h 1 (am_ix 13) ((h.1 1 (am_ix 13)) + 1)).1 1 (am_ix 12)) + (if ((if (v_M_spares h) ≤ 0 then (0 : Int32) else 1) : Int32) = 0 then (0 : Int32) else 1))) (v_M_before (am_si (am_si h 1 (am_ix 13) ((h.1 1 (am_ix 13)) + 1)) 1 (am_ix 12) (((am_si h 1 (am_ix 13) ((h.1 1 (am_ix 13)) + 1)).1 1 (am_ix 12)) + (if ((if (v_M_spares h) ≤ 0 then (0 : Int32) else 1) : Int32) = 0 then (0 : Int32) else 1))) a1) 6 (-1 : Int32) = y := ⟨_, rfl⟩
        rw [c12]
        have hp := hp _ c12
        show am_Ev m_M_fails (WM ++ e1) ro P (80, [.ref 0, .int a1, .int (if (v_M_spares h) ≤ 0 then (0 : Int32) else 1), .int ((v_M_of h a1 3) + (h.1 1 (am_ix 11))), .int (v_M_before (am_si (am_si h 1 (am_ix 13) ((h.1 1 (am_ix 13)) + 1)) 1 (am_ix 12) (((am_si h 1 (am_ix 13) ((h.1 1 (am_ix 13)) + 1)).1 1 (am_ix 12)) + (if ((if (v_M_spares h) ≤ 0 then (0 : Int32) else 1) : Int32) = 0 then (0 : Int32) else 1))) a1), .retAddr 0, .retAddr 0, .retAddr 0], [], y6)
        refine am_Ev_G [86] 400 _ ?_
        show am_Ev m_M_fails (WM ++ e1) ro P (86, [.ref 0, .int a1, .int (if (v_M_spares h) ≤ 0 then (0 : Int32) else 1), .int ((v_M_of h a1 3) + (h.1 1 (am_ix 11))), .int (v_M_before (am_si (am_si h 1 (am_ix 13) ((h.1 1 (am_ix 13)) + 1)) 1 (am_ix 12) (((am_si h 1 (am_ix 13) ((h.1 1 (am_ix 13)) + 1)).1 1 (am_ix 12)) + (if ((if (v_M_spares h) ≤ 0 then (0 : Int32) else 1) : Int32) = 0 then (0 : Int32) else 1))) a1), .int 0, .int a1, .retAddr 0], [], y6)
        refine am_fg 1 ?_
        refine am_fg 4 ?_
        have hpl := hp
        refine am_itr (E := (fun (v1 : Int32 × Int32 × HP) => am_Ev m_M_fails (WM ++ e1) ro P (86, [.ref 0, .retAddr 0, .int (if (v_M_spares h) ≤ 0 then (0 : Int32) else 1), .int ((v_M_of h a1 3) + (h.1 1 (am_ix 11))), .retAddr 0, .int v1.1, .int v1.2.1, .retAddr 0], [], v1.2.2))) (E' := (fun (r7 : Int32 × Int32 × HP) => am_Ev m_M_fails (WM ++ e1) ro P (142, [.ref 0, .retAddr 0, .int (if (v_M_spares h) ≤ 0 then (0 : Int32) else 1), .int ((v_M_of h a1 3) + (h.1 1 (am_ix 11))), .retAddr 0, .int r7.1, .int r7.2.1, .retAddr 0], [], r7.2.2))) (s_M_fails_86b h a1 y6) (ps_M_fails_86b h a1 y6) ?_ NF (0, a1, y6) hpl ?_
        · intro v1 hp hc1 hx1
          show am_Ev m_M_fails (WM ++ e1) ro P (86, [.ref 0, .retAddr 0, .int (if (v_M_spares h) ≤ 0 then (0 : Int32) else 1), .int ((v_M_of h a1 3) + (h.1 1 (am_ix 11))), .retAddr 0, .int v1.1, .int v1.2.1, .retAddr 0], [], v1.2.2)
          unfold ps_M_fails_86b at hp
          refine am_Ev_G [103, 123, 142] 400 _ ?_
          show ((v1.2.1 = (-1 : Int32) → am_Ev m_M_fails (WM ++ e1) ro P (142, [.ref 0, .retAddr 0, .int (if (v_M_spares h) ≤ 0 then (0 : Int32) else 1), .int ((v_M_of h a1 3) + (h.1 1 (am_ix 11))), .retAddr 0, .int v1.1, .int v1.2.1, .retAddr 0], [], v1.2.2)) ∧ (¬ v1.2.1 = (-1 : Int32) → ((((if (v_M_spares h) ≤ 0 then (0 : Int32) else 1) : Int32) = 0 → ((p_M_next v1.2.2 v1.2.1) ∧ ((p_M_becomes v1.2.2 v1.2.1 5 1) ∧ am_Ev m_M_fails (WM ++ e1) ro P (123, [.ref 0, .retAddr 0, .int (if (v_M_spares h) ≤ 0 then (0 : Int32) else 1), .int ((v_M_of h a1 3) + (h.1 1 (am_ix 11))), .retAddr 0, .int v1.1, .int v1.2.1, .int (v_M_next v1.2.2 v1.2.1)], [], (v_M_becomes v1.2.2 v1.2.1 5 1))))) ∧ (¬ ((if (v_M_spares h) ≤ 0 then (0 : Int32) else 1) : Int32) = 0 → ((p_M_of v1.2.2 v1.2.1 3) ∧ am_Ev m_M_fails (WM ++ e1) ro P (103, [.ref 0, .retAddr 0, .int (if (v_M_spares h) ≤ 0 then (0 : Int32) else 1), .int ((v_M_of h a1 3) + (h.1 1 (am_ix 11))), .retAddr 0, .int v1.1, .int v1.2.1, .retAddr 0], [.int (v_M_of v1.2.2 v1.2.1 3)], v1.2.2))))))
          refine ⟨fun c13 => ?_, fun c13 => ?_⟩
          · skip
            exact hx1 (v1.1, v1.2.1, v1.2.2) (by unfold s_M_fails_86b; simp only [if_pos c13])
          · have hp := hp.2 c13
            refine ⟨fun c14 => ?_, fun c14 => ?_⟩
            · have hp := hp.1 c14
              obtain ⟨hob, hp⟩ := hp
              refine ⟨hob, ?_⟩
              obtain ⟨hob, hp⟩ := hp
              refine ⟨hob, ?_⟩
              obtain ⟨y8, c15⟩ : ∃ y, v_M_becomes v1.2.2 v1.2.1 5 1 = y := ⟨_, rfl⟩
              rw [c15]
              have hp := hp _ c15
              show am_Ev m_M_fails (WM ++ e1) ro P (123, [.ref 0, .retAddr 0, .int (if (v_M_spares h) ≤ 0 then (0 : Int32) else 1), .int ((v_M_of h a1 3) + (h.1 1 (am_ix 11))), .retAddr 0, .int v1.1, .int v1.2.1, .int (v_M_next v1.2.2 v1.2.1)], [], y8)
              refine am_Ev_G [132] 400 _ ?_
              show ((p_M_becomes y8 v1.2.1 6 (-1 : Int32)) ∧ am_Ev m_M_fails (WM ++ e1) ro P (132, [.ref 0, .retAddr 0, .int (if (v_M_spares h) ≤ 0 then (0 : Int32) else 1), .int ((v_M_of h a1 3) + (h.1 1 (am_ix 11))), .retAddr 0, .int v1.1, .int v1.2.1, .int (v_M_next v1.2.2 v1.2.1)], [], (v_M_becomes y8 v1.2.1 6 (-1 : Int32))))
              refine ⟨hp, ?_⟩
              obtain ⟨y9, c16⟩ : ∃ y, v_M_becomes y8 v1.2.1 6 (-1 : Int32) = y := ⟨_, rfl⟩
              rw [c16]
              show am_Ev m_M_fails (WM ++ e1) ro P (132, [.ref 0, .retAddr 0, .int (if (v_M_spares h) ≤ 0 then (0 : Int32) else 1), .int ((v_M_of h a1 3) + (h.1 1 (am_ix 11))), .retAddr 0, .int v1.1, .int v1.2.1, .int (v_M_next v1.2.2 v1.2.1)], [], y9)
              refine am_Ev_G [86] 400 _ ?_
              show am_Ev m_M_fails (WM ++ e1) ro P (86, [.ref 0, .retAddr 0, .int (if (v_M_spares h) ≤ 0 then (0 : Int32) else 1), .int ((v_M_of h a1 3) + (h.1 1 (am_ix 11))), .retAddr 0, .int (v1.1 + 1), .int (v_M_next v1.2.2 v1.2.1), .int (v_M_next v1.2.2 v1.2.1)], [], y9)
              refine am_fg 7 ?_
              exact hc1 ((v1.1 + 1), (v_M_next v1.2.2 v1.2.1), y9) (by unfold s_M_fails_86b; simp only [if_neg c13, if_pos c14, bnd, c15, bnd, c16])
            · have hp := hp.2 c14
              obtain ⟨hob, hp⟩ := hp
              refine ⟨hob, ?_⟩
              refine am_Ev_G [123, 142] 400 _ ?_
              show ((¬ (v_M_of v1.2.2 v1.2.1 3) < ((v_M_of h a1 3) + (h.1 1 (am_ix 11))) → am_Ev m_M_fails (WM ++ e1) ro P (142, [.ref 0, .retAddr 0, .int (if (v_M_spares h) ≤ 0 then (0 : Int32) else 1), .int ((v_M_of h a1 3) + (h.1 1 (am_ix 11))), .retAddr 0, .int v1.1, .int v1.2.1, .retAddr 0], [], v1.2.2)) ∧ ((v_M_of v1.2.2 v1.2.1 3) < ((v_M_of h a1 3) + (h.1 1 (am_ix 11))) → ((p_M_next v1.2.2 v1.2.1) ∧ ((p_M_becomes v1.2.2 v1.2.1 5 1) ∧ am_Ev m_M_fails (WM ++ e1) ro P (123, [.ref 0, .retAddr 0, .int (if (v_M_spares h) ≤ 0 then (0 : Int32) else 1), .int ((v_M_of h a1 3) + (h.1 1 (am_ix 11))), .retAddr 0, .int v1.1, .int v1.2.1, .int (v_M_next v1.2.2 v1.2.1)], [], (v_M_becomes v1.2.2 v1.2.1 5 1))))))
              refine ⟨fun c17 => ?_, fun c17 => ?_⟩
              · skip
                exact hx1 (v1.1, v1.2.1, v1.2.2) (by unfold s_M_fails_86b; simp only [if_neg c13, if_neg c14, if_neg c17])
              · have hp := hp.1 c17
                obtain ⟨hob, hp⟩ := hp
                refine ⟨hob, ?_⟩
                obtain ⟨hob, hp⟩ := hp
                refine ⟨hob, ?_⟩
                obtain ⟨y10, c18⟩ : ∃ y, v_M_becomes v1.2.2 v1.2.1 5 1 = y := ⟨_, rfl⟩
                rw [c18]
                have hp := hp _ c18
                show am_Ev m_M_fails (WM ++ e1) ro P (123, [.ref 0, .retAddr 0, .int (if (v_M_spares h) ≤ 0 then (0 : Int32) else 1), .int ((v_M_of h a1 3) + (h.1 1 (am_ix 11))), .retAddr 0, .int v1.1, .int v1.2.1, .int (v_M_next v1.2.2 v1.2.1)], [], y10)
                refine am_Ev_G [132] 400 _ ?_
                show ((p_M_becomes y10 v1.2.1 6 (-1 : Int32)) ∧ am_Ev m_M_fails (WM ++ e1) ro P (132, [.ref 0, .retAddr 0, .int (if (v_M_spares h) ≤ 0 then (0 : Int32) else 1), .int ((v_M_of h a1 3) + (h.1 1 (am_ix 11))), .retAddr 0, .int v1.1, .int v1.2.1, .int (v_M_next v1.2.2 v1.2.1)], [], (v_M_becomes y10 v1.2.1 6 (-1 : Int32))))
                refine ⟨hp, ?_⟩
                obtain ⟨y11, c19⟩ : ∃ y, v_M_becomes y10 v1.2.1 6 (-1 : Int32) = y := ⟨_, rfl⟩
                rw [c19]
                show am_Ev m_M_fails (WM ++ e1) ro P (132, [.ref 0, .retAddr 0, .int (if (v_M_spares h) ≤ 0 then (0 : Int32) else 1), .int ((v_M_of h a1 3) + (h.1 1 (am_ix 11))), .retAddr 0, .int v1.1, .int v1.2.1, .int (v_M_next v1.2.2 v1.2.1)], [], y11)
                refine am_Ev_G [86] 400 _ ?_
                show am_Ev m_M_fails (WM ++ e1) ro P (86, [.ref 0, .retAddr 0, .int (if (v_M_spares h) ≤ 0 then (0 : Int32) else 1), .int ((v_M_of h a1 3) + (h.1 1 (am_ix 11))), .retAddr 0, .int (v1.1 + 1), .int (v_M_next v1.2.2 v1.2.1), .int (v_M_next v1.2.2 v1.2.1)], [], y11)
                refine am_fg 7 ?_
                exact hc1 ((v1.1 + 1), (v_M_next v1.2.2 v1.2.1), y11) (by unfold s_M_fails_86b; simp only [if_neg c13, if_neg c14, if_pos c17, bnd, c18, bnd, c19])
        · intro r7 hr20
          show am_Ev m_M_fails (WM ++ e1) ro P (142, [.ref 0, .retAddr 0, .int (if (v_M_spares h) ≤ 0 then (0 : Int32) else 1), .int ((v_M_of h a1 3) + (h.1 1 (am_ix 11))), .retAddr 0, .int r7.1, .int r7.2.1, .retAddr 0], [], r7.2.2)
          refine am_Ev_G [] 400 _ ?_
          show P (.inl (some (.int r7.1))) r7.2.2
          exact hP (r7.1, r7.2.2) (by unfold v_M_fails; simp only [if_neg c3, bnd, c12, hr20])
    refine am_Ev_G [56] 400 _ ?_
    show ((((if (v_M_spares h) ≤ 0 then (0 : Int32) else 1) : Int32) = 0 → am_Ev m_M_fails (WM ++ e1) ro P (56, [.ref 0, .int a1, .int (if (v_M_spares h) ≤ 0 then (0 : Int32) else 1), .int ((v_M_of h a1 3) + (h.1 1 (am_ix 11))), .retAddr 0, .retAddr 0, .retAddr 0, .retAddr 0], [.int 0, .int ((am_si h 1 (am_ix 13) ((h.1 1 (am_ix 13)) + 1)).1 1 (am_ix 12)), .int 12, .ref 1], (am_si h 1 (am_ix 13) ((h.1 1 (am_ix 13)) + 1)))) ∧ (¬ ((if (v_M_spares h) ≤ 0 then (0 : Int32) else 1) : Int32) = 0 → am_Ev m_M_fails (WM ++ e1) ro P (56, [.ref 0, .int a1, .int (if (v_M_spares h) ≤ 0 then (0 : Int32) else 1), .int ((v_M_of h a1 3) + (h.1 1 (am_ix 11))), .retAddr 0, .retAddr 0, .retAddr 0, .retAddr 0], [.int 1, .int ((am_si h 1 (am_ix 13) ((h.1 1 (am_ix 13)) + 1)).1 1 (am_ix 12)), .int 12, .ref 1], (am_si h 1 (am_ix 13) ((h.1 1 (am_ix 13)) + 1)))))
    refine ⟨fun c21 => ?_, fun c21 => ?_⟩
    · skip
      simpa only [if_pos c21] using key2
    · skip
      simpa only [if_neg c21] using key2
  refine am_Ev_G [12] 400 _ ?_
  show (((v_M_spares h) ≤ 0 → am_Ev m_M_fails (WM ++ e1) ro P (12, [.ref 0, .int a1, .retAddr 0, .retAddr 0, .retAddr 0, .retAddr 0, .retAddr 0, .retAddr 0], [.int 0], h)) ∧ (¬ (v_M_spares h) ≤ 0 → am_Ev m_M_fails (WM ++ e1) ro P (12, [.ref 0, .int a1, .retAddr 0, .retAddr 0, .retAddr 0, .retAddr 0, .retAddr 0, .retAddr 0], [.int 1], h)))
  refine ⟨fun c22 => ?_, fun c22 => ?_⟩
  · skip
    simpa only [if_pos c22] using key1
  · skip
    simpa only [if_neg c22] using key1
theorem ok_M_fails {l : Launch} (hl : l.stackTraces = false) (e1 ro : List Sh) (k : Nat) : am_Ok l (WM ++ e1) ro (d_M_fails k) := by
  refine am_met hl (own := RX6) (M := m_M_fails) rfl pf_M_fails cu_M_fails rfl rfl rfl rfl (fun _ => rfl) rfl ⟨chk_M_fails, (am_c (fl_M_7) am_n), (am_c (lk_M_49) (am_c (lk_M_57) (am_c (lk_M_64) (am_c (lk_M_82) (am_c (lk_M_157) am_n))))), (am_n), (am_n)⟩ (am_n) (am_c (ok_M_of hl e1 _ 16) (am_c (ok_M_next hl e1 _ 16) (am_c (ok_M_before hl e1 _ 16) (am_c (ok_M_becomes hl e1 _ 16) (am_c (ok_M_spares hl e1 _ 16) am_n))))) (fun z => nomatch z) ?_ ?_
  · intro _ as h hg
    show g_thr (g_M_fails (WM ++ e1) ro as h) = none
    unfold g_M_fails
    split <;> rfl
  · intro as h hg hp
    revert hg hp
    show g_ok (g_M_fails (WM ++ e1) ro as h) = true → g_pre (g_M_fails (WM ++ e1) ro as h) → _ ∧ am_Ev m_M_fails (WM ++ e1) ro (am_eq (g_M_fails (WM ++ e1) ro as h)) (0, am_ent as 8, [], h)
    unfold g_M_fails
    split
    · rename_i o1 a1
      intro hc hp
      change (Nat.beq o1 0) = true at hc
      obtain rfl := am_beq hc
      exact ⟨Nat.le_of_ble_eq_true rfl, ev_M_fails h a1 hp eqRIW⟩
    · exact fun z => nomatch z
def k_M_fail (pc : Nat) : Ent := bif Nat.ble 43 pc then am_nop else bif Nat.ble 20 pc then (bif Nat.ble 32 pc then (bif Nat.ble 37 pc then (bif Nat.ble 39 pc then (bif Nat.ble 42 pc then (bif Nat.beq pc 42 then (.ireturn, 0, 0, []) else am_nop) else (bif Nat.beq pc 39 then (.invokevirtual 160, 0, 0, []) else am_nop)) else (bif Nat.ble 38 pc then (bif Nat.beq pc 38 then (.iload_n 1, 0, 1, []) else am_nop) else (bif Nat.beq pc 37 then (.aload_n 0, 0, 0, []) else am_nop))) else (bif Nat.ble 33 pc then (bif Nat.ble 34 pc then (bif Nat.beq pc 34 then (.invokevirtual 137, 0, 0, []) else am_nop) else (bif Nat.beq pc 33 then (.aload_n 0, 0, 0, []) else am_nop)) else (bif Nat.beq pc 32 then (.ireturn, 0, 0, []) else am_nop))) else (bif Nat.ble 27 pc then (bif Nat.ble 28 pc then (bif Nat.ble 29 pc then (bif Nat.beq pc 29 then (.invokevirtual 134, 0, 0, []) else am_nop) else (bif Nat.beq pc 28 then (.iconst 2, 2, 0, []) else am_nop)) else (bif Nat.beq pc 27 then (.aload_n 0, 0, 0, []) else am_nop)) else (bif Nat.ble 21 pc then (bif Nat.ble 24 pc then (bif Nat.beq pc 24 then (.ifCond .ne 9, 0, 33, []) else am_nop) else (bif Nat.beq pc 21 then (.invokevirtual 60, 0, 0, []) else am_nop)) else (bif Nat.beq pc 20 then (.iload_n 1, 0, 1, []) else am_nop)))) else (bif Nat.ble 10 pc then (bif Nat.ble 15 pc then (bif Nat.ble 18 pc then (bif Nat.ble 19 pc then (bif Nat.beq pc 19 then (.aload_n 0, 0, 0, []) else am_nop) else (bif Nat.beq pc 18 then (.ireturn, 0, 0, []) else am_nop)) else (bif Nat.beq pc 15 then (.invokevirtual 134, 0, 0, []) else am_nop)) else (bif Nat.ble 13 pc then (bif Nat.ble 14 pc then (bif Nat.beq pc 14 then (.iconst 1, 1, 0, []) else am_nop) else (bif Nat.beq pc 13 then (.aload_n 0, 0, 0, []) else am_nop)) else (bif Nat.beq pc 10 then (.ifCond .ne 9, 0, 19, []) else am_nop))) else (bif Nat.ble 5 pc then (bif Nat.ble 6 pc then (bif Nat.ble 7 pc then (bif Nat.beq pc 7 then (.invokevirtual 148, 0, 0, []) else am_nop) else (bif Nat.beq pc 6 then (.iload_n 1, 0, 1, []) else am_nop)) else (bif Nat.beq pc 5 then (.aload_n 0, 0, 0, []) else am_nop)) else (bif Nat.ble 1 pc then (bif Nat.ble 2 pc then (bif Nat.beq pc 2 then (.putfield 38, 0, 0, []) else am_nop) else (bif Nat.beq pc 1 then (.iconst 0, 0, 0, []) else am_nop)) else (bif Nat.beq pc 0 then (.aload_n 0, 0, 0, []) else am_nop))))
theorem lk_M_160 : am_lnk RX6 160 (d_M_fails 16) := ⟨⟨by decide, by decide⟩, am_tb 8 (by decide +kernel) rfl, Or.inr ⟨by decide, rfl, am_tb 1063 (by decide +kernel) rfl, am_tp 87 (by decide +kernel) rfl, ⟨TX6, 16, rfl⟩, Or.inl (am_tb 1061 (by decide +kernel) rfl)⟩⟩
def m_M_fail : MI := (k_M_fail, [(38, 6, 8)], [(60, d_M_isRun 16), (134, d_M_refuses 16), (137, d_M_saves 16), (148, d_M_isTrip 16), (160, d_M_fails 16)], [], [], [], [], 4, 93, some .int, fun _ => 0, 1)
def v_M_fail (h : HP) (a1 : Int32) : Int32 × HP := (if (v_M_isTrip (am_si h 0 8 0) a1) = 0 then (bnd (v_M_refuses (am_si h 0 8 0) 1) fun y4 => (y4.1, y4.2)) else (if (v_M_isRun (am_si h 0 8 0) a1) = 0 then (bnd (v_M_refuses (am_si h 0 8 0) 2) fun y3 => (y3.1, y3.2)) else (bnd (v_M_saves (am_si h 0 8 0)) fun y1 => (bnd (v_M_fails y1 a1) fun y2 => (y2.1, y2.2)))))
def p_M_fail (h : HP) (a1 : Int32) : Prop := ((p_M_isTrip (am_si h 0 8 0) a1) ∧ (((v_M_isTrip (am_si h 0 8 0) a1) = 0 → True) ∧ (¬ (v_M_isTrip (am_si h 0 8 0) a1) = 0 → ((p_M_isRun (am_si h 0 8 0) a1) ∧ (((v_M_isRun (am_si h 0 8 0) a1) = 0 → True) ∧ (¬ (v_M_isRun (am_si h 0 8 0) a1) = 0 → ((p_M_saves (am_si h 0 8 0)) ∧ (∀ y1, v_M_saves (am_si h 0 8 0) = y1 → (p_M_fails y1 a1)))))))))
def g_M_fail (_ _ : List Sh) (as : List Value) (h : HP) : GR := match as with
  | [.ref o1, .int a1] => (Nat.beq o1 0, p_M_fail h a1, none, some (.int (v_M_fail h a1).1), (v_M_fail h a1).2)
  | _ => bad h
def d_M_fail (k : Nat) : CD := (k, yX6_fail, cX6_fail, 2, some .int, 2, 4, 93, 0, false, true, g_M_fail)
theorem chk_M_fail : ∀ pc, am_chk cX6_fail k_M_fail pc = true := am_chkall 43 (by decide +kernel) (fun pc h => by unfold k_M_fail; rw [Nat.ble_eq_true_of_le h]; rfl)
theorem pf_M_fail : plainFor yX6_fail = true := by decide +kernel
theorem cu_M_fail : Cond.code yX6_fail cX6_fail 2 (some .int) ∈ am_U := am_tb 1060 (by decide +kernel) rfl
set_option maxHeartbeats 20000000 in
set_option maxRecDepth 100000 in
theorem ev_M_fail {e1 ro : List Sh} {P : AR → HP → Prop} (h : HP) (a1 : Int32) (hp : p_M_fail h a1) (hP : ∀ q, v_M_fail h a1 = q → RIW P h q) : am_Ev m_M_fail (WM ++ e1) ro P (0, [.ref 0, .int a1], [], h) := by
  unfold p_M_fail at hp
  refine am_Ev_G [5] 400 _ ?_
  show am_Ev m_M_fail (WM ++ e1) ro P (5, [.ref 0, .int a1], [], (am_si h 0 8 0))
  refine am_Ev_G [18, 32, 37] 400 _ ?_
  show ((p_M_isTrip (am_si h 0 8 0) a1) ∧ ((¬ (v_M_isTrip (am_si h 0 8 0) a1) = 0 → ((p_M_isRun (am_si h 0 8 0) a1) ∧ ((¬ (v_M_isRun (am_si h 0 8 0) a1) = 0 → ((g_pre (g_M_saves (WM ++ e1) ro [.ref 0] (am_si h 0 8 0))) ∧ am_Ev m_M_fail (WM ++ e1) ro P (37, [.ref 0, .int a1], [], (g_hp (g_M_saves (WM ++ e1) ro [.ref 0] (am_si h 0 8 0)))))) ∧ ((v_M_isRun (am_si h 0 8 0) a1) = 0 → am_Ev m_M_fail (WM ++ e1) ro P (32, [.ref 0, .int a1], [.int ((v_M_refuses (am_si h 0 8 0) 2).1)], ((v_M_refuses (am_si h 0 8 0) 2).2)))))) ∧ ((v_M_isTrip (am_si h 0 8 0) a1) = 0 → am_Ev m_M_fail (WM ++ e1) ro P (18, [.ref 0, .int a1], [.int ((v_M_refuses (am_si h 0 8 0) 1).1)], ((v_M_refuses (am_si h 0 8 0) 1).2)))))
  show ((p_M_isTrip (am_si h 0 8 0) a1) ∧ ((¬ (v_M_isTrip (am_si h 0 8 0) a1) = 0 → ((p_M_isRun (am_si h 0 8 0) a1) ∧ ((¬ (v_M_isRun (am_si h 0 8 0) a1) = 0 → ((p_M_saves (am_si h 0 8 0)) ∧ am_Ev m_M_fail (WM ++ e1) ro P (37, [.ref 0, .int a1], [], (v_M_saves (am_si h 0 8 0))))) ∧ ((v_M_isRun (am_si h 0 8 0) a1) = 0 → am_Ev m_M_fail (WM ++ e1) ro P (32, [.ref 0, .int a1], [.int ((v_M_refuses (am_si h 0 8 0) 2).1)], ((v_M_refuses (am_si h 0 8 0) 2).2)))))) ∧ ((v_M_isTrip (am_si h 0 8 0) a1) = 0 → am_Ev m_M_fail (WM ++ e1) ro P (18, [.ref 0, .int a1], [.int ((v_M_refuses (am_si h 0 8 0) 1).1)], ((v_M_refuses (am_si h 0 8 0) 1).2)))))
  obtain ⟨hob, hp⟩ := hp
  refine ⟨hob, ?_⟩
  refine ⟨fun c1 => ?_, fun c1 => ?_⟩
  · have hp := hp.2 c1
    obtain ⟨hob, hp⟩ := hp
    refine ⟨hob, ?_⟩
    refine ⟨fun c2 => ?_, fun c2 => ?_⟩
    · have hp := hp.2 c2
      obtain ⟨hob, hp⟩ := hp
      refine ⟨hob, ?_⟩
      obtain ⟨y1, c3⟩ : ∃ y, v_M_saves (am_si h 0 8 0) = y := ⟨_, rfl⟩
      rw [c3]
      have hp := hp _ c3
      show am_Ev m_M_fail (WM ++ e1) ro P (37, [.ref 0, .int a1], [], y1)
      refine am_Ev_G [42] 400 _ ?_
      show ((p_M_fails y1 a1) ∧ am_Ev m_M_fail (WM ++ e1) ro P (42, [.ref 0, .int a1], [.int ((v_M_fails y1 a1).1)], ((v_M_fails y1 a1).2)))
      refine ⟨hp, ?_⟩
      obtain ⟨y2, c4⟩ : ∃ y, v_M_fails y1 a1 = y := ⟨_, rfl⟩
      rw [c4]
      show am_Ev m_M_fail (WM ++ e1) ro P (42, [.ref 0, .int a1], [.int y2.1], y2.2)
      refine am_Ev_G [] 400 _ ?_
      show P (.inl (some (.int y2.1))) y2.2
      exact hP (y2.1, y2.2) (by unfold v_M_fail; simp only [if_neg c1, if_neg c2, bnd, c3, bnd, c4])
    · skip
      obtain ⟨y3, c5⟩ : ∃ y, v_M_refuses (am_si h 0 8 0) 2 = y := ⟨_, rfl⟩
      rw [c5]
      show am_Ev m_M_fail (WM ++ e1) ro P (32, [.ref 0, .int a1], [.int y3.1], y3.2)
      refine am_Ev_G [] 400 _ ?_
      show P (.inl (some (.int y3.1))) y3.2
      exact hP (y3.1, y3.2) (by unfold v_M_fail; simp only [if_neg c1, if_pos c2, bnd, c5])
  · skip
    obtain ⟨y4, c6⟩ : ∃ y, v_M_refuses (am_si h 0 8 0) 1 = y := ⟨_, rfl⟩
    rw [c6]
    show am_Ev m_M_fail (WM ++ e1) ro P (18, [.ref 0, .int a1], [.int y4.1], y4.2)
    refine am_Ev_G [] 400 _ ?_
    show P (.inl (some (.int y4.1))) y4.2
    exact hP (y4.1, y4.2) (by unfold v_M_fail; simp only [if_pos c1, bnd, c6])
theorem ok_M_fail {l : Launch} (hl : l.stackTraces = false) (e1 ro : List Sh) (k : Nat) : am_Ok l (WM ++ e1) ro (d_M_fail k) := by
  refine am_met hl (own := RX6) (M := m_M_fail) rfl pf_M_fail cu_M_fail rfl rfl rfl rfl (fun _ => rfl) rfl ⟨chk_M_fail, (am_c (fl_M_38) am_n), (am_c (lk_M_60) (am_c (lk_M_134) (am_c (lk_M_137) (am_c (lk_M_148) (am_c (lk_M_160) am_n))))), (am_n), (am_n)⟩ (am_n) (am_c (ok_M_isRun hl e1 _ 16) (am_c (ok_M_refuses hl e1 _ 16) (am_c (ok_M_saves hl e1 _ 16) (am_c (ok_M_isTrip hl e1 _ 16) (am_c (ok_M_fails hl e1 _ 16) am_n))))) (fun z => nomatch z) ?_ ?_
  · intro _ as h hg
    show g_thr (g_M_fail (WM ++ e1) ro as h) = none
    unfold g_M_fail
    split <;> rfl
  · intro as h hg hp
    revert hg hp
    show g_ok (g_M_fail (WM ++ e1) ro as h) = true → g_pre (g_M_fail (WM ++ e1) ro as h) → _ ∧ am_Ev m_M_fail (WM ++ e1) ro (am_eq (g_M_fail (WM ++ e1) ro as h)) (0, am_ent as 2, [], h)
    unfold g_M_fail
    split
    · rename_i o1 a1
      intro hc hp
      change (Nat.beq o1 0) = true at hc
      obtain rfl := am_beq hc
      exact ⟨Nat.le_of_ble_eq_true rfl, ev_M_fail h a1 hp eqRIW⟩
    · exact fun z => nomatch z
end
