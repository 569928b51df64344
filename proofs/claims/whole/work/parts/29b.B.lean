/-! BusBlocks, out of its code (written by gen/meth.py). -/
noncomputable section
def k_B_digest (pc : Nat) : Ent := bif Nat.ble 187 pc then am_nop else bif Nat.ble 93 pc then (bif Nat.ble 141 pc then (bif Nat.ble 163 pc then (bif Nat.ble 174 pc then (bif Nat.ble 181 pc then (bif Nat.ble 183 pc then (bif Nat.ble 186 pc then (bif Nat.beq pc 186 then (.lreturn, 0, 0, []) else am_nop) else (bif Nat.beq pc 183 then (.invokevirtual 329, 0, 0, []) else am_nop)) else (bif Nat.ble 182 pc then (bif Nat.beq pc 182 then (.lload_n 1, 0, 1, []) else am_nop) else (bif Nat.beq pc 181 then (.aload_n 0, 0, 0, []) else am_nop))) else (bif Nat.ble 175 pc then (bif Nat.ble 178 pc then (bif Nat.beq pc 178 then (.goto (-24), 0, 154, []) else am_nop) else (bif Nat.beq pc 175 then (.iinc 3 1, 1, 3, []) else am_nop)) else (bif Nat.beq pc 174 then (.lstore_n 1, 0, 1, []) else am_nop))) else (bif Nat.ble 168 pc then (bif Nat.ble 172 pc then (bif Nat.ble 173 pc then (bif Nat.beq pc 173 then (.ladd, 0, 0, []) else am_nop) else (bif Nat.beq pc 172 then (.i2l, 0, 0, []) else am_nop)) else (bif Nat.ble 169 pc then (bif Nat.beq pc 169 then (.invokestatic 78, 0, 0, []) else am_nop) else (bif Nat.beq pc 168 then (.iload_n 3, 0, 3, []) else am_nop))) else (bif Nat.ble 164 pc then (bif Nat.ble 165 pc then (bif Nat.beq pc 165 then (.getfield 54, 0, 0, []) else am_nop) else (bif Nat.beq pc 164 then (.aload_n 0, 0, 0, []) else am_nop)) else (bif Nat.beq pc 163 then (.lmul, 0, 0, []) else am_nop)))) else (bif Nat.ble 152 pc then (bif Nat.ble 155 pc then (bif Nat.ble 159 pc then (bif Nat.ble 162 pc then (bif Nat.beq pc 162 then (.lload_n 1, 0, 1, []) else am_nop) else (bif Nat.beq pc 159 then (.ldc2_w 303, 0, 0, []) else am_nop)) else (bif Nat.ble 156 pc then (bif Nat.beq pc 156 then (.if_icmp .ge 25, 0, 181, []) else am_nop) else (bif Nat.beq pc 155 then (.iconst 2, 2, 0, []) else am_nop))) else (bif Nat.ble 153 pc then (bif Nat.ble 154 pc then (bif Nat.beq pc 154 then (.iload_n 3, 0, 3, []) else am_nop) else (bif Nat.beq pc 153 then (.istore_n 3, 0, 3, []) else am_nop)) else (bif Nat.beq pc 152 then (.iconst 0, 0, 0, []) else am_nop))) else (bif Nat.ble 144 pc then (bif Nat.ble 150 pc then (bif Nat.ble 151 pc then (bif Nat.beq pc 151 then (.lstore_n 1, 0, 1, []) else am_nop) else (bif Nat.beq pc 150 then (.ladd, 0, 0, []) else am_nop)) else (bif Nat.ble 147 pc then (bif Nat.beq pc 147 then (.invokestatic 325, 0, 0, []) else am_nop) else (bif Nat.beq pc 144 then (.invokevirtual 321, 0, 0, []) else am_nop))) else (bif Nat.ble 142 pc then (bif Nat.ble 143 pc then (bif Nat.beq pc 143 then (.aload_n 0, 0, 0, []) else am_nop) else (bif Nat.beq pc 142 then (.lmul, 0, 0, []) else am_nop)) else (bif Nat.beq pc 141 then (.lload_n 1, 0, 1, []) else am_nop))))) else (bif Nat.ble 118 pc then (bif Nat.ble 127 pc then (bif Nat.ble 135 pc then (bif Nat.ble 137 pc then (bif Nat.ble 138 pc then (bif Nat.beq pc 138 then (.ldc2_w 303, 0, 0, []) else am_nop) else (bif Nat.beq pc 137 then (.lstore_n 1, 0, 1, []) else am_nop)) else (bif Nat.ble 136 pc then (bif Nat.beq pc 136 then (.ladd, 0, 0, []) else am_nop) else (bif Nat.beq pc 135 then (.i2l, 0, 0, []) else am_nop))) else (bif Nat.ble 130 pc then (bif Nat.ble 132 pc then (bif Nat.beq pc 132 then (.invokevirtual 318, 0, 0, []) else am_nop) else (bif Nat.beq pc 130 then (.bipush 30, 30, 0, []) else am_nop)) else (bif Nat.beq pc 127 then (.sipush 600, 600, 0, []) else am_nop))) else (bif Nat.ble 123 pc then (bif Nat.ble 125 pc then (bif Nat.ble 126 pc then (bif Nat.beq pc 126 then (.iconst 1, 1, 0, []) else am_nop) else (bif Nat.beq pc 125 then (.iconst 0, 0, 0, []) else am_nop)) else (bif Nat.ble 124 pc then (bif Nat.beq pc 124 then (.iconst 0, 0, 0, []) else am_nop) else (bif Nat.beq pc 123 then (.aload_n 0, 0, 0, []) else am_nop))) else (bif Nat.ble 121 pc then (bif Nat.ble 122 pc then (bif Nat.beq pc 122 then (.lmul, 0, 0, []) else am_nop) else (bif Nat.beq pc 121 then (.lload_n 1, 0, 1, []) else am_nop)) else (bif Nat.beq pc 118 then (.ldc2_w 303, 0, 0, []) else am_nop)))) else (bif Nat.ble 107 pc then (bif Nat.ble 112 pc then (bif Nat.ble 114 pc then (bif Nat.ble 117 pc then (bif Nat.beq pc 117 then (.lstore_n 1, 0, 1, []) else am_nop) else (bif Nat.beq pc 114 then (.invokevirtual 315, 0, 0, []) else am_nop)) else (bif Nat.ble 113 pc then (bif Nat.beq pc 113 then (.lload_n 1, 0, 1, []) else am_nop) else (bif Nat.beq pc 112 then (.aload_n 0, 0, 0, []) else am_nop))) else (bif Nat.ble 108 pc then (bif Nat.ble 111 pc then (bif Nat.beq pc 111 then (.lstore_n 1, 0, 1, []) else am_nop) else (bif Nat.beq pc 108 then (.invokevirtual 311, 0, 0, []) else am_nop)) else (bif Nat.beq pc 107 then (.lload_n 1, 0, 1, []) else am_nop))) else (bif Nat.ble 100 pc then (bif Nat.ble 103 pc then (bif Nat.ble 106 pc then (bif Nat.beq pc 106 then (.aload_n 0, 0, 0, []) else am_nop) else (bif Nat.beq pc 103 then (.goto (-38), 0, 65, []) else am_nop)) else (bif Nat.beq pc 100 then (.iinc 3 1, 1, 3, []) else am_nop)) else (bif Nat.ble 94 pc then (bif Nat.ble 97 pc then (bif Nat.beq pc 97 then (.goto (-24), 0, 73, []) else am_nop) else (bif Nat.beq pc 94 then (.iinc 4 1, 1, 4, []) else am_nop)) else (bif Nat.beq pc 93 then (.lstore_n 1, 0, 1, []) else am_nop)))))) else (bif Nat.ble 44 pc then (bif Nat.ble 70 pc then (bif Nat.ble 83 pc then (bif Nat.ble 86 pc then (bif Nat.ble 91 pc then (bif Nat.ble 92 pc then (bif Nat.beq pc 92 then (.ladd, 0, 0, []) else am_nop) else (bif Nat.beq pc 91 then (.i2l, 0, 0, []) else am_nop)) else (bif Nat.ble 88 pc then (bif Nat.beq pc 88 then (.invokevirtual 308, 0, 0, []) else am_nop) else (bif Nat.beq pc 86 then (.iload 4, 0, 4, []) else am_nop))) else (bif Nat.ble 84 pc then (bif Nat.ble 85 pc then (bif Nat.beq pc 85 then (.iload_n 3, 0, 3, []) else am_nop) else (bif Nat.beq pc 84 then (.aload_n 0, 0, 0, []) else am_nop)) else (bif Nat.beq pc 83 then (.lmul, 0, 0, []) else am_nop))) else (bif Nat.ble 75 pc then (bif Nat.ble 79 pc then (bif Nat.ble 82 pc then (bif Nat.beq pc 82 then (.lload_n 1, 0, 1, []) else am_nop) else (bif Nat.beq pc 79 then (.ldc2_w 303, 0, 0, []) else am_nop)) else (bif Nat.ble 76 pc then (bif Nat.beq pc 76 then (.if_icmp .gt 24, 0, 100, []) else am_nop) else (bif Nat.beq pc 75 then (.iconst 4, 4, 0, []) else am_nop))) else (bif Nat.ble 71 pc then (bif Nat.ble 73 pc then (bif Nat.beq pc 73 then (.iload 4, 0, 4, []) else am_nop) else (bif Nat.beq pc 71 then (.istore 4, 0, 4, []) else am_nop)) else (bif Nat.beq pc 70 then (.iconst 0, 0, 0, []) else am_nop)))) else (bif Nat.ble 57 pc then (bif Nat.ble 64 pc then (bif Nat.ble 66 pc then (bif Nat.ble 67 pc then (bif Nat.beq pc 67 then (.if_icmp .ge 39, 0, 106, []) else am_nop) else (bif Nat.beq pc 66 then (.iconst 4, 4, 0, []) else am_nop)) else (bif Nat.ble 65 pc then (bif Nat.beq pc 65 then (.iload_n 3, 0, 3, []) else am_nop) else (bif Nat.beq pc 64 then (.istore_n 3, 0, 3, []) else am_nop))) else (bif Nat.ble 60 pc then (bif Nat.ble 63 pc then (bif Nat.beq pc 63 then (.iconst 0, 0, 0, []) else am_nop) else (bif Nat.beq pc 60 then (.goto (-27), 0, 33, []) else am_nop)) else (bif Nat.beq pc 57 then (.iinc 3 1, 1, 3, []) else am_nop))) else (bif Nat.ble 51 pc then (bif Nat.ble 55 pc then (bif Nat.ble 56 pc then (bif Nat.beq pc 56 then (.lstore_n 1, 0, 1, []) else am_nop) else (bif Nat.beq pc 55 then (.ladd, 0, 0, []) else am_nop)) else (bif Nat.ble 54 pc then (bif Nat.beq pc 54 then (.i2l, 0, 0, []) else am_nop) else (bif Nat.beq pc 51 then (.invokestatic 78, 0, 0, []) else am_nop))) else (bif Nat.ble 47 pc then (bif Nat.ble 50 pc then (bif Nat.beq pc 50 then (.iload_n 3, 0, 3, []) else am_nop) else (bif Nat.beq pc 47 then (.getfield 131, 0, 0, []) else am_nop)) else (bif Nat.beq pc 44 then (.getfield 10, 0, 0, []) else am_nop))))) else (bif Nat.ble 22 pc then (bif Nat.ble 33 pc then (bif Nat.ble 38 pc then (bif Nat.ble 42 pc then (bif Nat.ble 43 pc then (bif Nat.beq pc 43 then (.aload_n 0, 0, 0, []) else am_nop) else (bif Nat.beq pc 42 then (.lmul, 0, 0, []) else am_nop)) else (bif Nat.ble 41 pc then (bif Nat.beq pc 41 then (.lload_n 1, 0, 1, []) else am_nop) else (bif Nat.beq pc 38 then (.ldc2_w 303, 0, 0, []) else am_nop))) else (bif Nat.ble 34 pc then (bif Nat.ble 35 pc then (bif Nat.beq pc 35 then (.if_icmp .ge 28, 0, 63, []) else am_nop) else (bif Nat.beq pc 34 then (.iconst 4, 4, 0, []) else am_nop)) else (bif Nat.beq pc 33 then (.iload_n 3, 0, 3, []) else am_nop))) else (bif Nat.ble 25 pc then (bif Nat.ble 31 pc then (bif Nat.ble 32 pc then (bif Nat.beq pc 32 then (.istore_n 3, 0, 3, []) else am_nop) else (bif Nat.beq pc 31 then (.iconst 0, 0, 0, []) else am_nop)) else (bif Nat.ble 28 pc then (bif Nat.beq pc 28 then (.goto (-22), 0, 6, []) else am_nop) else (bif Nat.beq pc 25 then (.iinc 3 1, 1, 3, []) else am_nop))) else (bif Nat.ble 23 pc then (bif Nat.ble 24 pc then (bif Nat.beq pc 24 then (.lstore_n 1, 0, 1, []) else am_nop) else (bif Nat.beq pc 23 then (.ladd, 0, 0, []) else am_nop)) else (bif Nat.beq pc 22 then (.i2l, 0, 0, []) else am_nop)))) else (bif Nat.ble 9 pc then (bif Nat.ble 16 pc then (bif Nat.ble 18 pc then (bif Nat.ble 19 pc then (bif Nat.beq pc 19 then (.invokevirtual 305, 0, 0, []) else am_nop) else (bif Nat.beq pc 18 then (.iload_n 3, 0, 3, []) else am_nop)) else (bif Nat.ble 17 pc then (bif Nat.beq pc 17 then (.aload_n 0, 0, 0, []) else am_nop) else (bif Nat.beq pc 16 then (.lmul, 0, 0, []) else am_nop))) else (bif Nat.ble 12 pc then (bif Nat.ble 15 pc then (bif Nat.beq pc 15 then (.lload_n 1, 0, 1, []) else am_nop) else (bif Nat.beq pc 12 then (.ldc2_w 303, 0, 0, []) else am_nop)) else (bif Nat.beq pc 9 then (.if_icmp .gt 22, 0, 31, []) else am_nop))) else (bif Nat.ble 5 pc then (bif Nat.ble 6 pc then (bif Nat.ble 7 pc then (bif Nat.beq pc 7 then (.bipush 10, 10, 0, []) else am_nop) else (bif Nat.beq pc 6 then (.iload_n 3, 0, 3, []) else am_nop)) else (bif Nat.beq pc 5 then (.istore_n 3, 0, 3, []) else am_nop)) else (bif Nat.ble 3 pc then (bif Nat.ble 4 pc then (bif Nat.beq pc 4 then (.iconst 0, 0, 0, []) else am_nop) else (bif Nat.beq pc 3 then (.lstore_n 1, 0, 1, []) else am_nop)) else (bif Nat.beq pc 0 then (.ldc2_w 301, 0, 0, []) else am_nop))))))
theorem lk_B_305 : am_lnk RX5 305 (d_B_count 15) := ⟨⟨by decide, by decide⟩, am_tb 1 (by decide +kernel) rfl, Or.inr ⟨by decide, rfl, am_tb 366 (by decide +kernel) rfl, am_tb 367 (by decide +kernel) rfl, ⟨TX5, 10, rfl⟩, Or.inl (am_tb 365 (by decide +kernel) rfl)⟩⟩
theorem lk_B_308 : am_lnk RX5 308 (d_B_terminalOf 15) := ⟨⟨by decide, by decide⟩, am_tb 1 (by decide +kernel) rfl, Or.inr ⟨by decide, rfl, am_tb 525 (by decide +kernel) rfl, am_tb 526 (by decide +kernel) rfl, ⟨TX5, 10, rfl⟩, Or.inl (am_tb 524 (by decide +kernel) rfl)⟩⟩
theorem lk_B_311 : am_lnk RX5 311 (d_B_hashTrips 15) := ⟨⟨by decide, by decide⟩, am_tb 1 (by decide +kernel) rfl, Or.inr ⟨by decide, rfl, am_tb 557 (by decide +kernel) rfl, am_tp 45 (by decide +kernel) rfl, ⟨TX5, 10, rfl⟩, Or.inl (am_tb 555 (by decide +kernel) rfl)⟩⟩
theorem lk_B_315 : am_lnk RX5 315 (d_B_hashBlocks 15) := ⟨⟨by decide, by decide⟩, am_tb 1 (by decide +kernel) rfl, Or.inr ⟨by decide, rfl, am_tb 613 (by decide +kernel) rfl, am_tp 51 (by decide +kernel) rfl, ⟨TX5, 10, rfl⟩, Or.inl (am_tb 611 (by decide +kernel) rfl)⟩⟩
theorem lk_B_318 : am_lnk RX5 318 (d_B_ifTrip 15) := ⟨⟨by decide, by decide⟩, am_tb 1 (by decide +kernel) rfl, Or.inr ⟨by decide, rfl, am_tb 657 (by decide +kernel) rfl, am_tb 658 (by decide +kernel) rfl, ⟨TX5, 10, rfl⟩, Or.inl (am_tb 656 (by decide +kernel) rfl)⟩⟩
theorem lk_B_321 : am_lnk RX5 321 (d_B_drivenShare 15) := ⟨⟨by decide, by decide⟩, am_tb 1 (by decide +kernel) rfl, Or.inr ⟨by decide, rfl, am_tb 343 (by decide +kernel) rfl, am_tb 344 (by decide +kernel) rfl, ⟨TX5, 10, rfl⟩, Or.inl (am_tb 663 (by decide +kernel) rfl)⟩⟩
theorem lk_B_325 : am_lnk RX5 325 (d_B_bitsOf 0) := ⟨⟨by decide, by decide⟩, am_tb 1 (by decide +kernel) rfl, Or.inl ⟨by decide, rfl, am_tb 665 (by decide +kernel) rfl, Or.inl ⟨by decide, am_tb 664 (by decide +kernel) rfl⟩⟩⟩
theorem lk_B_329 : am_lnk RX5 329 (d_B_hashBuffer 15) := ⟨⟨by decide, by decide⟩, am_tb 1 (by decide +kernel) rfl, Or.inr ⟨by decide, rfl, am_tb 673 (by decide +kernel) rfl, am_tp 58 (by decide +kernel) rfl, ⟨TX5, 10, rfl⟩, Or.inl (am_tb 671 (by decide +kernel) rfl)⟩⟩
theorem ck_B_301 : am_cok RX5 301 (.long 3457) := am_tb 363 (by decide +kernel) rfl
def m_B_digest : MI := (k_B_digest, [(10, 5, 0), (54, 5, 7), (131, 4, 10)], [(78, d_B_at 0), (305, d_B_count 15), (308, d_B_terminalOf 15), (311, d_B_hashTrips 15), (315, d_B_hashBlocks 15), (318, d_B_ifTrip 15), (321, d_B_drivenShare 15), (325, d_B_bitsOf 0), (329, d_B_hashBuffer 15)], [(301, .long 3457), (303, .long 31)], [], [], [], 9, 170, some .long, fun _ => 0, 1)
def s_B_digest_6 (h : HP) (v1 : Int64 × Int32 × HP) : (Int64 × Int32 × HP) ⊕ (Int64 × Int32 × HP) := (if v1.2.1 ≤ 10 then (match v_B_count v1.2.2 v1.2.1 with | .inl _ => .inl v1 | .inr y2 => (.inl (((31 * v1.1) + ((y2.1).toInt64)), (v1.2.1 + 1), y2.2))) else (.inr (v1.1, v1.2.1, v1.2.2)))
def ps_B_digest_6 (h : HP) (v1 : Int64 × Int32 × HP) : Prop := ((v1.2.1 ≤ 10 → ((p_B_count v1.2.2 v1.2.1) ∧ (∃ y, v_B_count v1.2.2 v1.2.1 = .inr y))) ∧ (¬ v1.2.1 ≤ 10 → True))
def s_B_digest_33 (h : HP) (r1 : Int64 × Int32 × HP) (v1 : Int64 × Int32) : (Int64 × Int32) ⊕ (Int64 × Int32) := (if v1.2 < 4 then (.inl (((31 * v1.1) + (((v_at 4 (r1.2.2.1 11) v1.2)).toInt64)), (v1.2 + 1))) else (.inr (v1.1, v1.2)))
def ps_B_digest_33 (h : HP) (r1 : Int64 × Int32 × HP) (v1 : Int64 × Int32) : Prop := True
def s_B_digest_73 (h : HP) (r1 : Int64 × Int32 × HP) (r3 : Int64 × Int32) (v1 : Int64 × Int32 × HP) (v2 : Int64 × Int32 × HP) : (Int64 × Int32 × HP) ⊕ (Int64 × Int32 × HP) := (if v2.2.1 ≤ 4 then (match v_B_terminalOf v2.2.2 v1.2.1 v2.2.1 with | .inl _ => .inl v2 | .inr y6 => (.inl (((31 * v2.1) + ((y6.1).toInt64)), (v2.2.1 + 1), y6.2))) else (.inr (v2.1, v2.2.1, v2.2.2)))
def ps_B_digest_73 (h : HP) (r1 : Int64 × Int32 × HP) (r3 : Int64 × Int32) (v1 : Int64 × Int32 × HP) (v2 : Int64 × Int32 × HP) : Prop := ((v2.2.1 ≤ 4 → ((p_B_terminalOf v2.2.2 v1.2.1 v2.2.1) ∧ (∃ y, v_B_terminalOf v2.2.2 v1.2.1 v2.2.1 = .inr y))) ∧ (¬ v2.2.1 ≤ 4 → True))
def s_B_digest_65 (h : HP) (r1 : Int64 × Int32 × HP) (r3 : Int64 × Int32) (v1 : Int64 × Int32 × HP) : (Int64 × Int32 × HP) ⊕ (Int64 × Int32 × HP) := (if v1.2.1 < 4 then (match itr (s_B_digest_73 h r1 r3 v1) NF (v1.1, 0, v1.2.2) with | some r5 => (.inl (r5.1, (v1.2.1 + 1), r5.2.2)) | none => .inl v1) else (.inr (v1.1, v1.2.1, v1.2.2)))
def ps_B_digest_65 (h : HP) (r1 : Int64 × Int32 × HP) (r3 : Int64 × Int32) (v1 : Int64 × Int32 × HP) : Prop := ((v1.2.1 < 4 → (itrp (s_B_digest_73 h r1 r3 v1) (ps_B_digest_73 h r1 r3 v1) NF (v1.1, 0, v1.2.2))) ∧ (¬ v1.2.1 < 4 → True))
def s_B_digest_154 (h : HP) (r1 : Int64 × Int32 × HP) (r3 : Int64 × Int32) (r4 : Int64 × Int32 × HP) (y7 : Int64 × HP) (y8 : Int64 × HP) (y9 : Int32 × HP) (v1 : Int64 × Int32) : (Int64 × Int32) ⊕ (Int64 × Int32) := (if v1.2 < 2 then (.inl (((31 * v1.1) + (((v_at 2 (y9.2.1 37) v1.2)).toInt64)), (v1.2 + 1))) else (.inr (v1.1, v1.2)))
def ps_B_digest_154 (h : HP) (r1 : Int64 × Int32 × HP) (r3 : Int64 × Int32) (r4 : Int64 × Int32 × HP) (y7 : Int64 × HP) (y8 : Int64 × HP) (y9 : Int32 × HP) (v1 : Int64 × Int32) : Prop := True
def v_B_digest (h : HP) : Int64 × HP := (match itr (s_B_digest_6 h) NF (3457, 0, h) with | some r1 => (match itr (s_B_digest_33 h r1) NF (r1.1, 0) with | some r3 => (match itr (s_B_digest_65 h r1 r3) NF (r3.1, 0, r1.2.2) with | some r4 => (bnd (v_B_hashTrips r4.2.2 r4.1) fun y7 => (bnd (v_B_hashBlocks y7.2 y7.1) fun y8 => (match v_B_ifTrip y8.2 0 0 1 600 30 with | .inl _ => (0, h) | .inr y9 => (match itr (s_B_digest_154 h r1 r3 r4 y7 y8 y9) NF (((31 * ((31 * y8.1) + ((y9.1).toInt64))) + (v_B_bitsOf y9.2 (v_B_drivenShare y9.2))), 0) with | some r10 => ((v_B_hashBuffer y9.2 r10.1), y9.2) | none => (0, h))))) | none => (0, h)) | none => (0, h)) | none => (0, h))
def p_B_digest (h : HP) : Prop := (itrp (s_B_digest_6 h) (ps_B_digest_6 h) NF (3457, 0, h) ∧ ∀ r1, itr (s_B_digest_6 h) NF (3457, 0, h) = some r1 → (itrp (s_B_digest_33 h r1) (ps_B_digest_33 h r1) NF (r1.1, 0) ∧ ∀ r3, itr (s_B_digest_33 h r1) NF (r1.1, 0) = some r3 → (itrp (s_B_digest_65 h r1 r3) (ps_B_digest_65 h r1 r3) NF (r3.1, 0, r1.2.2) ∧ ∀ r4, itr (s_B_digest_65 h r1 r3) NF (r3.1, 0, r1.2.2) = some r4 → ((p_B_hashTrips r4.2.2 r4.1) ∧ (∀ y7, v_B_hashTrips r4.2.2 r4.1 = y7 → ((p_B_hashBlocks y7.2 y7.1) ∧ (∀ y8, v_B_hashBlocks y7.2 y7.1 = y8 → ((p_B_ifTrip y8.2 0 0 1 600 30) ∧ ((∃ y, v_B_ifTrip y8.2 0 0 1 600 30 = .inr y) ∧ ∀ y9, v_B_ifTrip y8.2 0 0 1 600 30 = .inr y9 → ((p_B_drivenShare y9.2) ∧ ((p_B_bitsOf y9.2 (v_B_drivenShare y9.2)) ∧ (itrp (s_B_digest_154 h r1 r3 r4 y7 y8 y9) (ps_B_digest_154 h r1 r3 r4 y7 y8 y9) NF (((31 * ((31 * y8.1) + ((y9.1).toInt64))) + (v_B_bitsOf y9.2 (v_B_drivenShare y9.2))), 0) ∧ ∀ r10, itr (s_B_digest_154 h r1 r3 r4 y7 y8 y9) NF (((31 * ((31 * y8.1) + ((y9.1).toInt64))) + (v_B_bitsOf y9.2 (v_B_drivenShare y9.2))), 0) = some r10 → (p_B_hashBuffer y9.2 r10.1)))))))))))))
def g_B_digest (_ _ : List Sh) (as : List Value) (h : HP) : GR := match as with
  | [.ref o1] => (Nat.beq o1 38, p_B_digest h, none, some (.long (v_B_digest h).1), (v_B_digest h).2)
  | _ => bad h
def d_B_digest (k : Nat) : CD := (k, yX5_digest, cX5_digest, 5, some .long, 1, 9, 170, 0, false, true, g_B_digest)
theorem chk_B_digest : ∀ pc, am_chk cX5_digest k_B_digest pc = true := am_chkall 187 (by decide +kernel) (fun pc h => by unfold k_B_digest; rw [Nat.ble_eq_true_of_le h]; rfl)
theorem pf_B_digest : plainFor yX5_digest = true := by decide +kernel
theorem cu_B_digest : Cond.code yX5_digest cX5_digest 5 (some .long) ∈ am_U := am_tb 362 (by decide +kernel) rfl
set_option maxHeartbeats 20000000 in
set_option maxRecDepth 100000 in
theorem ev_B_digest {e1 e2 : List Sh} {P : AR → HP → Prop} (h : HP) (hp : p_B_digest h) (hP : ∀ q, v_B_digest h = q → RJW P h q) : am_Ev m_B_digest (WB ++ e1) (RO ++ e2) P (0, [.ref 38, .retAddr 0, .retAddr 0, .retAddr 0, .retAddr 0], [], h) := by
  unfold p_B_digest at hp
  refine am_Ev_G [6] 400 _ ?_
  show am_Ev m_B_digest (WB ++ e1) (RO ++ e2) P (6, [.ref 38, .long 3457, .retAddr 0, .int 0, .retAddr 0], [], h)
  obtain ⟨hpl, hp⟩ := hp
  refine am_itr (E := (fun (v1 : Int64 × Int32 × HP) => am_Ev m_B_digest (WB ++ e1) (RO ++ e2) P (6, [.ref 38, .long v1.1, .retAddr 0, .int v1.2.1, .retAddr 0], [], v1.2.2))) (E' := (fun (r1 : Int64 × Int32 × HP) => am_Ev m_B_digest (WB ++ e1) (RO ++ e2) P (31, [.ref 38, .long r1.1, .retAddr 0, .int r1.2.1, .retAddr 0], [], r1.2.2))) (s_B_digest_6 h) (ps_B_digest_6 h) ?_ NF (3457, 0, h) hpl ?_
  · intro v1 hp hc1 hx1
    show am_Ev m_B_digest (WB ++ e1) (RO ++ e2) P (6, [.ref 38, .long v1.1, .retAddr 0, .int v1.2.1, .retAddr 0], [], v1.2.2)
    unfold ps_B_digest_6 at hp
    refine am_Ev_G [22, 31] 400 _ ?_
    show ((¬ v1.2.1 ≤ 10 → am_Ev m_B_digest (WB ++ e1) (RO ++ e2) P (31, [.ref 38, .long v1.1, .retAddr 0, .int v1.2.1, .retAddr 0], [], v1.2.2)) ∧ (v1.2.1 ≤ 10 → ((p_B_count v1.2.2 v1.2.1) ∧ ((∀ E, rthr (v_B_count v1.2.2 v1.2.1) = some E → P (.inr E) (rhpI v1.2.2 (v_B_count v1.2.2 v1.2.1))) ∧ (rthr (v_B_count v1.2.2 v1.2.1) = none → am_Ev m_B_digest (WB ++ e1) (RO ++ e2) P (22, [.ref 38, .long v1.1, .retAddr 0, .int v1.2.1, .retAddr 0], (rvIW (v_B_count v1.2.2 v1.2.1)).toList ++ [.long (31 * v1.1)], (rhpI v1.2.2 (v_B_count v1.2.2 v1.2.1))))))))
    refine ⟨fun c1 => ?_, fun c1 => ?_⟩
    · skip
      exact hx1 (v1.1, v1.2.1, v1.2.2) (by unfold s_B_digest_6; simp only [if_neg c1])
    · have hp := hp.1 c1
      obtain ⟨hob, hp⟩ := hp
      refine ⟨hob, ?_⟩
      refine ⟨fun E2 h2 => ?_, fun h2 => ?_⟩
      · obtain ⟨y, hy⟩ := hp
        rw [hy] at h2
        cases h2
      · rcases c2 : v_B_count v1.2.2 v1.2.1 with E | y2
        · rw [c2] at h2
          cases h2
        · skip
          show am_Ev m_B_digest (WB ++ e1) (RO ++ e2) P (22, [.ref 38, .long v1.1, .retAddr 0, .int v1.2.1, .retAddr 0], [.int y2.1, .long (31 * v1.1)], y2.2)
          refine am_Ev_G [6] 400 _ ?_
          show am_Ev m_B_digest (WB ++ e1) (RO ++ e2) P (6, [.ref 38, .long ((31 * v1.1) + ((y2.1).toInt64)), .retAddr 0, .int (v1.2.1 + 1), .retAddr 0], [], y2.2)
          exact hc1 (((31 * v1.1) + ((y2.1).toInt64)), (v1.2.1 + 1), y2.2) (by unfold s_B_digest_6; simp only [if_pos c1, c2])
  · intro r1 hr3
    have hp := hp _ hr3
    show am_Ev m_B_digest (WB ++ e1) (RO ++ e2) P (31, [.ref 38, .long r1.1, .retAddr 0, .int r1.2.1, .retAddr 0], [], r1.2.2)
    refine am_Ev_G [33] 400 _ ?_
    show am_Ev m_B_digest (WB ++ e1) (RO ++ e2) P (33, [.ref 38, .long r1.1, .retAddr 0, .int 0, .retAddr 0], [], r1.2.2)
    obtain ⟨hpl, hp⟩ := hp
    refine am_itr (E := (fun (v1 : Int64 × Int32) => am_Ev m_B_digest (WB ++ e1) (RO ++ e2) P (33, [.ref 38, .long v1.1, .retAddr 0, .int v1.2, .retAddr 0], [], r1.2.2))) (E' := (fun (r3 : Int64 × Int32) => am_Ev m_B_digest (WB ++ e1) (RO ++ e2) P (63, [.ref 38, .long r3.1, .retAddr 0, .int r3.2, .retAddr 0], [], r1.2.2))) (s_B_digest_33 h r1) (ps_B_digest_33 h r1) ?_ NF (r1.1, 0) hpl ?_
    · intro v1 hp hc1 hx1
      show am_Ev m_B_digest (WB ++ e1) (RO ++ e2) P (33, [.ref 38, .long v1.1, .retAddr 0, .int v1.2, .retAddr 0], [], r1.2.2)
      refine am_Ev_G [50, 63] 400 _ ?_
      show ((¬ v1.2 < 4 → am_Ev m_B_digest (WB ++ e1) (RO ++ e2) P (63, [.ref 38, .long v1.1, .retAddr 0, .int v1.2, .retAddr 0], [], r1.2.2)) ∧ (v1.2 < 4 → am_Ev m_B_digest (WB ++ e1) (RO ++ e2) P (50, [.ref 38, .long v1.1, .retAddr 0, .int v1.2, .retAddr 0], [.ref 11, .long (31 * v1.1)], r1.2.2)))
      refine ⟨fun c4 => ?_, fun c4 => ?_⟩
      · skip
        exact hx1 (v1.1, v1.2) (by unfold s_B_digest_33; simp only [if_neg c4])
      · skip
        refine am_Ev_G [33] 400 _ ?_
        show am_Ev m_B_digest (WB ++ e1) (RO ++ e2) P (33, [.ref 38, .long ((31 * v1.1) + (((v_at 4 (r1.2.2.1 11) v1.2)).toInt64)), .retAddr 0, .int (v1.2 + 1), .retAddr 0], [], r1.2.2)
        exact hc1 (((31 * v1.1) + (((v_at 4 (r1.2.2.1 11) v1.2)).toInt64)), (v1.2 + 1)) (by unfold s_B_digest_33; simp only [if_pos c4])
    · intro r3 hr5
      have hp := hp _ hr5
      show am_Ev m_B_digest (WB ++ e1) (RO ++ e2) P (63, [.ref 38, .long r3.1, .retAddr 0, .int r3.2, .retAddr 0], [], r1.2.2)
      refine am_Ev_G [65] 400 _ ?_
      show am_Ev m_B_digest (WB ++ e1) (RO ++ e2) P (65, [.ref 38, .long r3.1, .retAddr 0, .int 0, .retAddr 0], [], r1.2.2)
      obtain ⟨hpl, hp⟩ := hp
      refine am_itr (E := (fun (v1 : Int64 × Int32 × HP) => am_Ev m_B_digest (WB ++ e1) (RO ++ e2) P (65, [.ref 38, .long v1.1, .retAddr 0, .int v1.2.1, .retAddr 0], [], v1.2.2))) (E' := (fun (r4 : Int64 × Int32 × HP) => am_Ev m_B_digest (WB ++ e1) (RO ++ e2) P (106, [.ref 38, .long r4.1, .retAddr 0, .int r4.2.1, .retAddr 0], [], r4.2.2))) (s_B_digest_65 h r1 r3) (ps_B_digest_65 h r1 r3) ?_ NF (r3.1, 0, r1.2.2) hpl ?_
      · intro v1 hp hc1 hx1
        show am_Ev m_B_digest (WB ++ e1) (RO ++ e2) P (65, [.ref 38, .long v1.1, .retAddr 0, .int v1.2.1, .retAddr 0], [], v1.2.2)
        unfold ps_B_digest_65 at hp
        refine am_Ev_G [73, 106] 400 _ ?_
        show ((¬ v1.2.1 < 4 → am_Ev m_B_digest (WB ++ e1) (RO ++ e2) P (106, [.ref 38, .long v1.1, .retAddr 0, .int v1.2.1, .retAddr 0], [], v1.2.2)) ∧ (v1.2.1 < 4 → am_Ev m_B_digest (WB ++ e1) (RO ++ e2) P (73, [.ref 38, .long v1.1, .retAddr 0, .int v1.2.1, .int 0], [], v1.2.2)))
        refine ⟨fun c6 => ?_, fun c6 => ?_⟩
        · skip
          exact hx1 (v1.1, v1.2.1, v1.2.2) (by unfold s_B_digest_65; simp only [if_neg c6])
        · have hp := hp.1 c6
          have hpl := hp
          refine am_itr (E := (fun (v2 : Int64 × Int32 × HP) => am_Ev m_B_digest (WB ++ e1) (RO ++ e2) P (73, [.ref 38, .long v2.1, .retAddr 0, .int v1.2.1, .int v2.2.1], [], v2.2.2))) (E' := (fun (r5 : Int64 × Int32 × HP) => am_Ev m_B_digest (WB ++ e1) (RO ++ e2) P (100, [.ref 38, .long r5.1, .retAddr 0, .int v1.2.1, .int r5.2.1], [], r5.2.2))) (s_B_digest_73 h r1 r3 v1) (ps_B_digest_73 h r1 r3 v1) ?_ NF (v1.1, 0, v1.2.2) hpl ?_
          · intro v2 hp hc2 hx2
            show am_Ev m_B_digest (WB ++ e1) (RO ++ e2) P (73, [.ref 38, .long v2.1, .retAddr 0, .int v1.2.1, .int v2.2.1], [], v2.2.2)
            unfold ps_B_digest_73 at hp
            refine am_Ev_G [76] 400 _ ?_
            show am_Ev m_B_digest (WB ++ e1) (RO ++ e2) P (76, [.ref 38, .long v2.1, .retAddr 0, .int v1.2.1, .int v2.2.1], [.int 4, .int v2.2.1], v2.2.2)
            refine am_Ev_G [91, 100] 400 _ ?_
            show ((¬ v2.2.1 ≤ 4 → am_Ev m_B_digest (WB ++ e1) (RO ++ e2) P (100, [.ref 38, .long v2.1, .retAddr 0, .int v1.2.1, .int v2.2.1], [], v2.2.2)) ∧ (v2.2.1 ≤ 4 → ((p_B_terminalOf v2.2.2 v1.2.1 v2.2.1) ∧ ((∀ E, rthr (v_B_terminalOf v2.2.2 v1.2.1 v2.2.1) = some E → P (.inr E) (rhpI v2.2.2 (v_B_terminalOf v2.2.2 v1.2.1 v2.2.1))) ∧ (rthr (v_B_terminalOf v2.2.2 v1.2.1 v2.2.1) = none → am_Ev m_B_digest (WB ++ e1) (RO ++ e2) P (91, [.ref 38, .long v2.1, .retAddr 0, .int v1.2.1, .int v2.2.1], (rvIW (v_B_terminalOf v2.2.2 v1.2.1 v2.2.1)).toList ++ [.long (31 * v2.1)], (rhpI v2.2.2 (v_B_terminalOf v2.2.2 v1.2.1 v2.2.1))))))))
            refine ⟨fun c7 => ?_, fun c7 => ?_⟩
            · skip
              exact hx2 (v2.1, v2.2.1, v2.2.2) (by unfold s_B_digest_73; simp only [if_neg c7])
            · have hp := hp.1 c7
              obtain ⟨hob, hp⟩ := hp
              refine ⟨hob, ?_⟩
              refine ⟨fun E2 h2 => ?_, fun h2 => ?_⟩
              · obtain ⟨y, hy⟩ := hp
                rw [hy] at h2
                cases h2
              · rcases c8 : v_B_terminalOf v2.2.2 v1.2.1 v2.2.1 with E | y6
                · rw [c8] at h2
                  cases h2
                · skip
                  show am_Ev m_B_digest (WB ++ e1) (RO ++ e2) P (91, [.ref 38, .long v2.1, .retAddr 0, .int v1.2.1, .int v2.2.1], [.int y6.1, .long (31 * v2.1)], y6.2)
                  refine am_Ev_G [73] 400 _ ?_
                  show am_Ev m_B_digest (WB ++ e1) (RO ++ e2) P (73, [.ref 38, .long ((31 * v2.1) + ((y6.1).toInt64)), .retAddr 0, .int v1.2.1, .int (v2.2.1 + 1)], [], y6.2)
                  exact hc2 (((31 * v2.1) + ((y6.1).toInt64)), (v2.2.1 + 1), y6.2) (by unfold s_B_digest_73; simp only [if_pos c7, c8])
          · intro r5 hr9
            show am_Ev m_B_digest (WB ++ e1) (RO ++ e2) P (100, [.ref 38, .long r5.1, .retAddr 0, .int v1.2.1, .int r5.2.1], [], r5.2.2)
            refine am_Ev_G [65] 400 _ ?_
            show am_Ev m_B_digest (WB ++ e1) (RO ++ e2) P (65, [.ref 38, .long r5.1, .retAddr 0, .int (v1.2.1 + 1), .int r5.2.1], [], r5.2.2)
            refine am_fg 4 ?_
            exact hc1 (r5.1, (v1.2.1 + 1), r5.2.2) (by unfold s_B_digest_65; simp only [if_pos c6, hr9])
      · intro r4 hr10
        have hp := hp _ hr10
        show am_Ev m_B_digest (WB ++ e1) (RO ++ e2) P (106, [.ref 38, .long r4.1, .retAddr 0, .int r4.2.1, .retAddr 0], [], r4.2.2)
        refine am_Ev_G [111] 400 _ ?_
        show ((p_B_hashTrips r4.2.2 r4.1) ∧ am_Ev m_B_digest (WB ++ e1) (RO ++ e2) P (111, [.ref 38, .long r4.1, .retAddr 0, .int r4.2.1, .retAddr 0], [.long ((v_B_hashTrips r4.2.2 r4.1).1)], ((v_B_hashTrips r4.2.2 r4.1).2)))
        obtain ⟨hob, hp⟩ := hp
        refine ⟨hob, ?_⟩
        obtain ⟨y7, c11⟩ : ∃ y, v_B_hashTrips r4.2.2 r4.1 = y := ⟨_, rfl⟩
        rw [c11]
        have hp := hp _ c11
        show am_Ev m_B_digest (WB ++ e1) (RO ++ e2) P (111, [.ref 38, .long r4.1, .retAddr 0, .int r4.2.1, .retAddr 0], [.long y7.1], y7.2)
        refine am_Ev_G [117] 400 _ ?_
        show ((p_B_hashBlocks y7.2 y7.1) ∧ am_Ev m_B_digest (WB ++ e1) (RO ++ e2) P (117, [.ref 38, .long y7.1, .retAddr 0, .int r4.2.1, .retAddr 0], [.long ((v_B_hashBlocks y7.2 y7.1).1)], ((v_B_hashBlocks y7.2 y7.1).2)))
        obtain ⟨hob, hp⟩ := hp
        refine ⟨hob, ?_⟩
        obtain ⟨y8, c12⟩ : ∃ y, v_B_hashBlocks y7.2 y7.1 = y := ⟨_, rfl⟩
        rw [c12]
        have hp := hp _ c12
        show am_Ev m_B_digest (WB ++ e1) (RO ++ e2) P (117, [.ref 38, .long y7.1, .retAddr 0, .int r4.2.1, .retAddr 0], [.long y8.1], y8.2)
        refine am_Ev_G [135] 400 _ ?_
        show ((p_B_ifTrip y8.2 0 0 1 600 30) ∧ ((∀ E, rthr (v_B_ifTrip y8.2 0 0 1 600 30) = some E → P (.inr E) (rhpI y8.2 (v_B_ifTrip y8.2 0 0 1 600 30))) ∧ (rthr (v_B_ifTrip y8.2 0 0 1 600 30) = none → am_Ev m_B_digest (WB ++ e1) (RO ++ e2) P (135, [.ref 38, .long y8.1, .retAddr 0, .int r4.2.1, .retAddr 0], (rvIW (v_B_ifTrip y8.2 0 0 1 600 30)).toList ++ [.long (31 * y8.1)], (rhpI y8.2 (v_B_ifTrip y8.2 0 0 1 600 30))))))
        obtain ⟨hob, hp⟩ := hp
        refine ⟨hob, ?_⟩
        refine ⟨fun E2 h2 => ?_, fun h2 => ?_⟩
        · obtain ⟨⟨y, hy⟩, -⟩ := hp
          rw [hy] at h2
          cases h2
        · rcases c13 : v_B_ifTrip y8.2 0 0 1 600 30 with E | y9
          · rw [c13] at h2
            cases h2
          · skip
            have hp := hp.2 _ c13
            show am_Ev m_B_digest (WB ++ e1) (RO ++ e2) P (135, [.ref 38, .long y8.1, .retAddr 0, .int r4.2.1, .retAddr 0], [.int y9.1, .long (31 * y8.1)], y9.2)
            refine am_Ev_G [147] 400 _ ?_
            show ((p_B_drivenShare y9.2) ∧ am_Ev m_B_digest (WB ++ e1) (RO ++ e2) P (147, [.ref 38, .long ((31 * y8.1) + ((y9.1).toInt64)), .retAddr 0, .int r4.2.1, .retAddr 0], [.double (v_B_drivenShare y9.2), .long (31 * ((31 * y8.1) + ((y9.1).toInt64)))], y9.2))
            obtain ⟨hob, hp⟩ := hp
            refine ⟨hob, ?_⟩
            refine am_Ev_G [154] 400 _ ?_
            show ((p_B_bitsOf y9.2 (v_B_drivenShare y9.2)) ∧ am_Ev m_B_digest (WB ++ e1) (RO ++ e2) P (154, [.ref 38, .long ((31 * ((31 * y8.1) + ((y9.1).toInt64))) + (v_B_bitsOf y9.2 (v_B_drivenShare y9.2))), .retAddr 0, .int 0, .retAddr 0], [], y9.2))
            obtain ⟨hob, hp⟩ := hp
            refine ⟨hob, ?_⟩
            obtain ⟨hpl, hp⟩ := hp
            refine am_itr (E := (fun (v1 : Int64 × Int32) => am_Ev m_B_digest (WB ++ e1) (RO ++ e2) P (154, [.ref 38, .long v1.1, .retAddr 0, .int v1.2, .retAddr 0], [], y9.2))) (E' := (fun (r10 : Int64 × Int32) => am_Ev m_B_digest (WB ++ e1) (RO ++ e2) P (181, [.ref 38, .long r10.1, .retAddr 0, .int r10.2, .retAddr 0], [], y9.2))) (s_B_digest_154 h r1 r3 r4 y7 y8 y9) (ps_B_digest_154 h r1 r3 r4 y7 y8 y9) ?_ NF (((31 * ((31 * y8.1) + ((y9.1).toInt64))) + (v_B_bitsOf y9.2 (v_B_drivenShare y9.2))), 0) hpl ?_
            · intro v1 hp hc1 hx1
              show am_Ev m_B_digest (WB ++ e1) (RO ++ e2) P (154, [.ref 38, .long v1.1, .retAddr 0, .int v1.2, .retAddr 0], [], y9.2)
              refine am_Ev_G [172, 181] 400 _ ?_
              show ((¬ v1.2 < 2 → am_Ev m_B_digest (WB ++ e1) (RO ++ e2) P (181, [.ref 38, .long v1.1, .retAddr 0, .int v1.2, .retAddr 0], [], y9.2)) ∧ (v1.2 < 2 → am_Ev m_B_digest (WB ++ e1) (RO ++ e2) P (172, [.ref 38, .long v1.1, .retAddr 0, .int v1.2, .retAddr 0], [.int (v_at 2 (y9.2.1 37) v1.2), .long (31 * v1.1)], y9.2)))
              refine ⟨fun c14 => ?_, fun c14 => ?_⟩
              · skip
                exact hx1 (v1.1, v1.2) (by unfold s_B_digest_154; simp only [if_neg c14])
              · skip
                refine am_Ev_G [154] 400 _ ?_
                show am_Ev m_B_digest (WB ++ e1) (RO ++ e2) P (154, [.ref 38, .long ((31 * v1.1) + (((v_at 2 (y9.2.1 37) v1.2)).toInt64)), .retAddr 0, .int (v1.2 + 1), .retAddr 0], [], y9.2)
                exact hc1 (((31 * v1.1) + (((v_at 2 (y9.2.1 37) v1.2)).toInt64)), (v1.2 + 1)) (by unfold s_B_digest_154; simp only [if_pos c14])
            · intro r10 hr15
              have hp := hp _ hr15
              show am_Ev m_B_digest (WB ++ e1) (RO ++ e2) P (181, [.ref 38, .long r10.1, .retAddr 0, .int r10.2, .retAddr 0], [], y9.2)
              refine am_Ev_G [186] 400 _ ?_
              show ((p_B_hashBuffer y9.2 r10.1) ∧ am_Ev m_B_digest (WB ++ e1) (RO ++ e2) P (186, [.ref 38, .long r10.1, .retAddr 0, .int r10.2, .retAddr 0], [.long (v_B_hashBuffer y9.2 r10.1)], y9.2))
              refine ⟨hp, ?_⟩
              refine am_Ev_G [] 400 _ ?_
              show P (.inl (some (.long (v_B_hashBuffer y9.2 r10.1)))) y9.2
              exact hP ((v_B_hashBuffer y9.2 r10.1), y9.2) (by unfold v_B_digest; simp only [hr3, hr5, hr10, bnd, c11, bnd, c12, c13, hr15])
theorem ok_B_digest {l : Launch} (hl : l.stackTraces = false) (e1 e2 : List Sh) (k : Nat) : am_Ok l (WB ++ e1) (RO ++ e2) (d_B_digest k) := by
  refine am_met hl (own := RX5) (M := m_B_digest) rfl pf_B_digest cu_B_digest rfl rfl rfl rfl (fun _ => rfl) rfl ⟨chk_B_digest, (am_c (fl_B_10) (am_c (fl_B_54) (am_c (fl_B_131) am_n))), (am_c (lk_B_78) (am_c (lk_B_305) (am_c (lk_B_308) (am_c (lk_B_311) (am_c (lk_B_315) (am_c (lk_B_318) (am_c (lk_B_321) (am_c (lk_B_325) (am_c (lk_B_329) am_n))))))))), (am_c (ck_B_301) (am_c (ck_B_303) am_n)), (am_n)⟩ (am_n) (am_c (ok_B_at hl _ _ 0) (am_c (ok_B_count hl e1 _ 15) (am_c (ok_B_terminalOf hl e1 _ 15) (am_c (ok_B_hashTrips hl e1 _ 15) (am_c (ok_B_hashBlocks hl e1 _ 15) (am_c (ok_B_ifTrip hl e1 _ 15) (am_c (ok_B_drivenShare hl e1 _ 15) (am_c (ok_B_bitsOf hl e1 _ 0) (am_c (ok_B_hashBuffer hl e1 _ 15) am_n))))))))) (fun z => nomatch z) ?_ ?_
  · intro _ as h hg
    show g_thr (g_B_digest (WB ++ e1) (RO ++ e2) as h) = none
    unfold g_B_digest
    split <;> rfl
  · intro as h hg hp
    revert hg hp
    show g_ok (g_B_digest (WB ++ e1) (RO ++ e2) as h) = true → g_pre (g_B_digest (WB ++ e1) (RO ++ e2) as h) → _ ∧ am_Ev m_B_digest (WB ++ e1) (RO ++ e2) (am_eq (g_B_digest (WB ++ e1) (RO ++ e2) as h)) (0, am_ent as 5, [], h)
    unfold g_B_digest
    split
    · rename_i o1
      intro hc hp
      change (Nat.beq o1 38) = true at hc
      obtain rfl := am_beq hc
      exact ⟨Nat.le_of_ble_eq_true rfl, ev_B_digest h hp eqRJW⟩
    · exact fun z => nomatch z

end
