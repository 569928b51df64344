/-! THE LAW'S run many, on. -/
set_option maxRecDepth 100000 in
theorem many_c3 {H : HP} (ha : At H qM23 201) : am_Ev m_L_many WB RO RQ (324, [.ref 38, .int 20], [], H) := by
  refine am_Ev_G [326] 4 _ ?_
  show am_Ev m_L_many WB RO RQ (326, [.ref 38, .int 20], [.int 0, .ref 38], H)
  refine act true (i := 93) (cd := d_B_ifFailed 15) (x := 0) (g := 201) (r := [.int 0]) (v := .int 11) rfl rfl rfl rfl rfl (Nat.le_of_ble_eq_true rfl) (fun _ => rfl) (Nat.le_of_ble_eq_true rfl) (Nat.le_of_ble_eq_true rfl) (dz_ifFailed 0 (by decide +kernel)) ha ?_
  clear ha
  intro H ha _
  show am_Ev m_L_many WB RO RQ (329, [.ref 38, .int 20], [.int 11], H)
  refine am_Ev_G [331] 3 _ ?_
  show am_Ev m_L_many WB RO RQ (331, [.ref 38, .int 20], [.int 11, .int 11], H)
  refine wk_ne rfl rfl ?_
  show am_Ev m_L_many WB RO RQ (334, [.ref 38, .int 20], [], H)
  refine am_Ev_G [336] 4 _ ?_
  show am_Ev m_L_many WB RO RQ (336, [.ref 38, .int 20], [.int 5, .ref 38], H)
  refine act true (i := 93) (cd := d_B_ifFailed 15) (x := 0) (g := 201) (r := [.int 5]) (v := .int 6) rfl rfl rfl rfl rfl (Nat.le_of_ble_eq_true rfl) (fun _ => rfl) (Nat.le_of_ble_eq_true rfl) (Nat.le_of_ble_eq_true rfl) (dz_ifFailed 5 (by decide +kernel)) ha ?_
  clear ha
  intro H ha _
  show am_Ev m_L_many WB RO RQ (339, [.ref 38, .int 20], [.int 6], H)
  refine am_Ev_G [341] 3 _ ?_
  show am_Ev m_L_many WB RO RQ (341, [.ref 38, .int 20], [.int 6, .int 6], H)
  refine wk_ne rfl rfl ?_
  show am_Ev m_L_many WB RO RQ (344, [.ref 38, .int 20], [], H)
  refine am_Ev_G [346] 4 _ ?_
  show am_Ev m_L_many WB RO RQ (346, [.ref 38, .int 20], [.int 5, .ref 38], H)
  refine act true (i := 47) (cd := d_B_fail 15) (x := 0) (g := 201) (r := [.int 5]) (v := .int 6) rfl rfl rfl rfl rfl (Nat.le_of_ble_eq_true rfl) (fun _ => rfl) (Nat.le_of_ble_eq_true rfl) (Nat.le_of_ble_eq_true rfl) (dz_fail 5 (by decide +kernel)) ha ?_
  clear ha
  intro H ha _
  have ha : At H qM24 201 := ha.nrm (by decide +kernel)
  show am_Ev m_L_many WB RO RQ (349, [.ref 38, .int 20], [.int 6], H)
  refine am_Ev_G [351] 3 _ ?_
  show am_Ev m_L_many WB RO RQ (351, [.ref 38, .int 20], [.int 6, .int 6], H)
  refine wk_ne rfl rfl ?_
  show am_Ev m_L_many WB RO RQ (354, [.ref 38, .int 20], [], H)
  refine am_Ev_G [357] 5 _ ?_
  show am_Ev m_L_many WB RO RQ (357, [.ref 38, .int 20], [.int 1, .int 0, .ref 38], H)
  refine act true (i := 71) (cd := d_B_blockOf 15) (x := 0) (g := 201) (r := [.int 0, .int 1]) (v := .int 5) rfl rfl rfl rfl rfl (Nat.le_of_ble_eq_true rfl) (fun _ => rfl) (Nat.le_of_ble_eq_true rfl) (Nat.le_of_ble_eq_true rfl) (dz_blockOf 0 1 (by decide +kernel)) ha ?_
  clear ha
  intro H ha _
  show am_Ev m_L_many WB RO RQ (360, [.ref 38, .int 20], [.int 5], H)
  refine am_Ev_G [361] 3 _ ?_
  show am_Ev m_L_many WB RO RQ (361, [.ref 38, .int 20], [.int 5, .int 5], H)
  refine wk_ne rfl rfl ?_
  show am_Ev m_L_many WB RO RQ (364, [.ref 38, .int 20], [], H)
  refine am_Ev_G [366] 4 _ ?_
  show am_Ev m_L_many WB RO RQ (366, [.ref 38, .int 20], [.int 1, .ref 38], H)
  refine act true (i := 78) (cd := d_B_count 15) (x := 0) (g := 201) (r := [.int 1]) (v := .int 14) rfl rfl rfl rfl rfl (Nat.le_of_ble_eq_true rfl) (fun _ => rfl) (Nat.le_of_ble_eq_true rfl) (Nat.le_of_ble_eq_true rfl) (dz_count 1 (by decide +kernel)) ha ?_
  clear ha
  intro H ha _
  show am_Ev m_L_many WB RO RQ (369, [.ref 38, .int 20], [.int 14], H)
  refine am_Ev_G [371] 3 _ ?_
  show am_Ev m_L_many WB RO RQ (371, [.ref 38, .int 20], [.int 14, .int 14], H)
  refine wk_ne rfl rfl ?_
  show am_Ev m_L_many WB RO RQ (374, [.ref 38, .int 20], [], H)
  refine am_Ev_G [379] 4 _ ?_
  show am_Ev m_L_many WB RO RQ (379, [.ref 38, .int 20], [.int 1], H)
  exact wk_ret rfl rfl (.inr rfl) ⟨rfl, by rw [ha.2, nI_clamp (by omega)]; omega⟩
set_option maxRecDepth 100000 in
theorem many_c2 {H : HP} (ha : At H qM21 201) : am_Ev m_L_many WB RO RQ (166, [.ref 38, .int 20], [], H) := by
  refine am_Ev_G [170] 5 _ ?_
  show am_Ev m_L_many WB RO RQ (170, [.ref 38, .int 20], [.int 5, .int 10, .ref 38], H)
  refine act true (i := 68) (cd := d_B_tripOf 15) (x := 0) (g := 201) (r := [.int 10, .int 5]) (v := .int 9) rfl rfl rfl rfl rfl (Nat.le_of_ble_eq_true rfl) (fun _ => rfl) (Nat.le_of_ble_eq_true rfl) (Nat.le_of_ble_eq_true rfl) (dz_tripOf 10 5 (by decide +kernel)) ha ?_
  clear ha
  intro H ha _
  show am_Ev m_L_many WB RO RQ (173, [.ref 38, .int 20], [.int 9], H)
  refine am_Ev_G [175] 3 _ ?_
  show am_Ev m_L_many WB RO RQ (175, [.ref 38, .int 20], [.int 9, .int 9], H)
  refine wk_ne rfl rfl ?_
  show am_Ev m_L_many WB RO RQ (178, [.ref 38, .int 20], [], H)
  refine am_Ev_G [181] 5 _ ?_
  show am_Ev m_L_many WB RO RQ (181, [.ref 38, .int 20], [.int 0, .int 1, .ref 38], H)
  refine act true (i := 71) (cd := d_B_blockOf 15) (x := 0) (g := 201) (r := [.int 1, .int 0]) (v := .int 11) rfl rfl rfl rfl rfl (Nat.le_of_ble_eq_true rfl) (fun _ => rfl) (Nat.le_of_ble_eq_true rfl) (Nat.le_of_ble_eq_true rfl) (dz_blockOf 1 0 (by decide +kernel)) ha ?_
  clear ha
  intro H ha _
  show am_Ev m_L_many WB RO RQ (184, [.ref 38, .int 20], [.int 11], H)
  refine am_Ev_G [186] 3 _ ?_
  show am_Ev m_L_many WB RO RQ (186, [.ref 38, .int 20], [.int 11, .int 11], H)
  refine wk_ne rfl rfl ?_
  show am_Ev m_L_many WB RO RQ (189, [.ref 38, .int 20], [], H)
  refine am_Ev_G [193] 5 _ ?_
  show am_Ev m_L_many WB RO RQ (193, [.ref 38, .int 20], [.int 4, .int 19, .ref 38], H)
  refine act true (i := 68) (cd := d_B_tripOf 15) (x := 0) (g := 201) (r := [.int 19, .int 4]) (v := .int 940) rfl rfl rfl rfl rfl (Nat.le_of_ble_eq_true rfl) (fun _ => rfl) (Nat.le_of_ble_eq_true rfl) (Nat.le_of_ble_eq_true rfl) (dz_tripOf 19 4 (by decide +kernel)) ha ?_
  clear ha
  intro H ha _
  show am_Ev m_L_many WB RO RQ (196, [.ref 38, .int 20], [.int 940], H)
  refine am_Ev_G [199] 3 _ ?_
  show am_Ev m_L_many WB RO RQ (199, [.ref 38, .int 20], [.int 940, .int 940], H)
  refine wk_ne rfl rfl ?_
  show am_Ev m_L_many WB RO RQ (202, [.ref 38, .int 20], [], H)
  refine am_Ev_G [205] 5 _ ?_
  show am_Ev m_L_many WB RO RQ (205, [.ref 38, .int 20], [.int 2, .int 0, .ref 38], H)
  refine act true (i := 71) (cd := d_B_blockOf 15) (x := 0) (g := 201) (r := [.int 0, .int 2]) (v := .int 940) rfl rfl rfl rfl rfl (Nat.le_of_ble_eq_true rfl) (fun _ => rfl) (Nat.le_of_ble_eq_true rfl) (Nat.le_of_ble_eq_true rfl) (dz_blockOf 0 2 (by decide +kernel)) ha ?_
  clear ha
  intro H ha _
  show am_Ev m_L_many WB RO RQ (208, [.ref 38, .int 20], [.int 940], H)
  refine am_Ev_G [211] 3 _ ?_
  show am_Ev m_L_many WB RO RQ (211, [.ref 38, .int 20], [.int 940, .int 940], H)
  refine wk_ne rfl rfl ?_
  show am_Ev m_L_many WB RO RQ (214, [.ref 38, .int 20], [], H)
  refine am_Ev_G [217] 5 _ ?_
  show am_Ev m_L_many WB RO RQ (217, [.ref 38, .int 20], [.int 5, .int 0, .ref 38], H)
  refine act true (i := 71) (cd := d_B_blockOf 15) (x := 0) (g := 201) (r := [.int 0, .int 5]) (v := .int 2) rfl rfl rfl rfl rfl (Nat.le_of_ble_eq_true rfl) (fun _ => rfl) (Nat.le_of_ble_eq_true rfl) (Nat.le_of_ble_eq_true rfl) (dz_blockOf 0 5 (by decide +kernel)) ha ?_
  clear ha
  intro H ha _
  show am_Ev m_L_many WB RO RQ (220, [.ref 38, .int 20], [.int 2], H)
  refine am_Ev_G [221] 3 _ ?_
  show am_Ev m_L_many WB RO RQ (221, [.ref 38, .int 20], [.int 2, .int 2], H)
  refine wk_ne rfl rfl ?_
  show am_Ev m_L_many WB RO RQ (224, [.ref 38, .int 20], [], H)
  refine am_Ev_G [228] 6 _ ?_
  show am_Ev m_L_many WB RO RQ (228, [.ref 38, .int 20], [.int 1, .int 0, .int 0, .ref 38], H)
  refine act true (i := 74) (cd := d_B_duty 15) (x := 0) (g := 201) (r := [.int 0, .int 0, .int 1]) (v := .int 7) rfl rfl rfl rfl rfl (Nat.le_of_ble_eq_true rfl) (fun _ => rfl) (Nat.le_of_ble_eq_true rfl) (Nat.le_of_ble_eq_true rfl) (dz_duty 0 0 1 (by decide +kernel)) ha ?_
  clear ha
  intro H ha _
  show am_Ev m_L_many WB RO RQ (231, [.ref 38, .int 20], [.int 7], H)
  refine am_Ev_G [233] 3 _ ?_
  show am_Ev m_L_many WB RO RQ (233, [.ref 38, .int 20], [.int 7, .int 7], H)
  refine wk_ne rfl rfl ?_
  show am_Ev m_L_many WB RO RQ (236, [.ref 38, .int 20], [], H)
  refine am_Ev_G [240] 6 _ ?_
  show am_Ev m_L_many WB RO RQ (240, [.ref 38, .int 20], [.int 2, .int 0, .int 0, .ref 38], H)
  refine act true (i := 74) (cd := d_B_duty 15) (x := 0) (g := 201) (r := [.int 0, .int 0, .int 2]) (v := .int 475) rfl rfl rfl rfl rfl (Nat.le_of_ble_eq_true rfl) (fun _ => rfl) (Nat.le_of_ble_eq_true rfl) (Nat.le_of_ble_eq_true rfl) (dz_duty 0 0 2 (by decide +kernel)) ha ?_
  clear ha
  intro H ha _
  show am_Ev m_L_many WB RO RQ (243, [.ref 38, .int 20], [.int 475], H)
  refine am_Ev_G [246] 3 _ ?_
  show am_Ev m_L_many WB RO RQ (246, [.ref 38, .int 20], [.int 475, .int 475], H)
  refine wk_ne rfl rfl ?_
  show am_Ev m_L_many WB RO RQ (249, [.ref 38, .int 20], [], H)
  refine am_Ev_G [253] 6 _ ?_
  show am_Ev m_L_many WB RO RQ (253, [.ref 38, .int 20], [.int 2, .int 1, .int 0, .ref 38], H)
  refine act true (i := 74) (cd := d_B_duty 15) (x := 0) (g := 201) (r := [.int 0, .int 1, .int 2]) (v := .int 460) rfl rfl rfl rfl rfl (Nat.le_of_ble_eq_true rfl) (fun _ => rfl) (Nat.le_of_ble_eq_true rfl) (Nat.le_of_ble_eq_true rfl) (dz_duty 0 1 2 (by decide +kernel)) ha ?_
  clear ha
  intro H ha _
  show am_Ev m_L_many WB RO RQ (256, [.ref 38, .int 20], [.int 460], H)
  refine am_Ev_G [259] 3 _ ?_
  show am_Ev m_L_many WB RO RQ (259, [.ref 38, .int 20], [.int 460, .int 460], H)
  refine wk_ne rfl rfl ?_
  show am_Ev m_L_many WB RO RQ (262, [.ref 38, .int 20], [], H)
  refine am_Ev_G [265] 4 _ ?_
  show am_Ev m_L_many WB RO RQ (265, [.ref 38, .int 20], [.int 9, .ref 38], H)
  refine act true (i := 78) (cd := d_B_count 15) (x := 0) (g := 201) (r := [.int 9]) (v := .int 11) rfl rfl rfl rfl rfl (Nat.le_of_ble_eq_true rfl) (fun _ => rfl) (Nat.le_of_ble_eq_true rfl) (Nat.le_of_ble_eq_true rfl) (dz_count 9 (by decide +kernel)) ha ?_
  clear ha
  intro H ha _
  show am_Ev m_L_many WB RO RQ (268, [.ref 38, .int 20], [.int 11], H)
  refine am_Ev_G [270] 3 _ ?_
  show am_Ev m_L_many WB RO RQ (270, [.ref 38, .int 20], [.int 11, .int 11], H)
  refine wk_eq1 rfl rfl ?_
  show am_Ev m_L_many WB RO RQ (275, [.ref 38, .int 20], [], H)
  refine am_Ev_G [278] 5 _ ?_
  show am_Ev m_L_many WB RO RQ (278, [.ref 38, .int 20], [.int 0, .int 0, .ref 38], H)
  refine act true (i := 34) (cd := d_B_set 15) (x := 0) (g := 201) (r := [.int 0, .int 0]) (v := .int 1) rfl rfl rfl rfl rfl (Nat.le_of_ble_eq_true rfl) (fun _ => rfl) (Nat.le_of_ble_eq_true rfl) (Nat.le_of_ble_eq_true rfl) (dz_set 0 0 (by decide +kernel)) ha ?_
  clear ha
  intro H ha _
  have ha : At H qM22 201 := ha.nrm (by decide +kernel)
  show am_Ev m_L_many WB RO RQ (281, [.ref 38, .int 20], [.int 1], H)
  refine am_Ev_G [282] 3 _ ?_
  show am_Ev m_L_many WB RO RQ (282, [.ref 38, .int 20], [.int 1, .int 1], H)
  refine wk_ne rfl rfl ?_
  show am_Ev m_L_many WB RO RQ (285, [.ref 38, .int 20], [], H)
  refine am_Ev_G [287] 4 _ ?_
  show am_Ev m_L_many WB RO RQ (287, [.ref 38, .int 20], [.int 4, .ref 38], H)
  refine act true (i := 78) (cd := d_B_count 15) (x := 0) (g := 201) (r := [.int 4]) (v := .int 10) rfl rfl rfl rfl rfl (Nat.le_of_ble_eq_true rfl) (fun _ => rfl) (Nat.le_of_ble_eq_true rfl) (Nat.le_of_ble_eq_true rfl) (dz_count 4 (by decide +kernel)) ha ?_
  clear ha
  intro H ha _
  show am_Ev m_L_many WB RO RQ (290, [.ref 38, .int 20], [.int 10], H)
  refine am_Ev_G [292] 3 _ ?_
  show am_Ev m_L_many WB RO RQ (292, [.ref 38, .int 20], [.int 10, .int 10], H)
  refine wk_ne rfl rfl ?_
  show am_Ev m_L_many WB RO RQ (295, [.ref 38, .int 20], [], H)
  refine am_Ev_G [297] 4 _ ?_
  show am_Ev m_L_many WB RO RQ (297, [.ref 38, .int 20], [.int 3, .ref 38], H)
  refine act true (i := 78) (cd := d_B_count 15) (x := 0) (g := 201) (r := [.int 3]) (v := .int 10) rfl rfl rfl rfl rfl (Nat.le_of_ble_eq_true rfl) (fun _ => rfl) (Nat.le_of_ble_eq_true rfl) (Nat.le_of_ble_eq_true rfl) (dz_count 3 (by decide +kernel)) ha ?_
  clear ha
  intro H ha _
  show am_Ev m_L_many WB RO RQ (300, [.ref 38, .int 20], [.int 10], H)
  refine am_Ev_G [302] 3 _ ?_
  show am_Ev m_L_many WB RO RQ (302, [.ref 38, .int 20], [.int 10, .int 10], H)
  refine wk_ne rfl rfl ?_
  show am_Ev m_L_many WB RO RQ (305, [.ref 38, .int 20], [], H)
  refine am_Ev_G [307] 4 _ ?_
  show am_Ev m_L_many WB RO RQ (307, [.ref 38, .int 20], [.int 0, .ref 38], H)
  refine act true (i := 93) (cd := d_B_ifFailed 15) (x := 0) (g := 201) (r := [.int 0]) (v := .int 1) rfl rfl rfl rfl rfl (Nat.le_of_ble_eq_true rfl) (fun _ => rfl) (Nat.le_of_ble_eq_true rfl) (Nat.le_of_ble_eq_true rfl) (dz_ifFailed 0 (by decide +kernel)) ha ?_
  clear ha
  intro H ha _
  show am_Ev m_L_many WB RO RQ (310, [.ref 38, .int 20], [.int 1], H)
  refine am_Ev_G [311] 3 _ ?_
  show am_Ev m_L_many WB RO RQ (311, [.ref 38, .int 20], [.int 1, .int 1], H)
  refine wk_ne rfl rfl ?_
  show am_Ev m_L_many WB RO RQ (314, [.ref 38, .int 20], [], H)
  refine am_Ev_G [317] 5 _ ?_
  show am_Ev m_L_many WB RO RQ (317, [.ref 38, .int 20], [.int 0, .int 2, .ref 38], H)
  refine act true (i := 34) (cd := d_B_set 15) (x := 0) (g := 201) (r := [.int 2, .int 0]) (v := .int 1) rfl rfl rfl rfl rfl (Nat.le_of_ble_eq_true rfl) (fun _ => rfl) (Nat.le_of_ble_eq_true rfl) (Nat.le_of_ble_eq_true rfl) (dz_set 2 0 (by decide +kernel)) ha ?_
  clear ha
  intro H ha _
  have ha : At H qM23 201 := ha.nrm (by decide +kernel)
  show am_Ev m_L_many WB RO RQ (320, [.ref 38, .int 20], [.int 1], H)
  refine am_Ev_G [321] 3 _ ?_
  show am_Ev m_L_many WB RO RQ (321, [.ref 38, .int 20], [.int 1, .int 1], H)
  refine wk_ne rfl rfl ?_
  show am_Ev m_L_many WB RO RQ (324, [.ref 38, .int 20], [], H)
  exact many_c3 ha
set_option maxRecDepth 100000 in
theorem many_c1 {H : HP} (ha : At H qM14 200) : am_Ev m_L_many WB RO RQ (71, [.ref 38, .int 13], [], H) := by
  refine wk_iinc (z := 14) rfl rfl rfl (by decide) ?_
  show am_Ev m_L_many WB RO RQ (74, [.ref 38, .int 14], [], H)
  refine am_Ev_G [13] 5 _ ?_
  show am_Ev m_L_many WB RO RQ (13, [.ref 38, .int 14], [.int 20, .int 14], H)
  refine wk_ge rfl (by decide) ?_
  show am_Ev m_L_many WB RO RQ (16, [.ref 38, .int 14], [], H)
  refine am_Ev_G [19] 5 _ ?_
  show am_Ev m_L_many WB RO RQ (19, [.ref 38, .int 14], [.int 4, .int 14, .ref 38], H)
  refine wk_irem (z := 2) rfl (by decide) (by decide) ?_
  show am_Ev m_L_many WB RO RQ (20, [.ref 38, .int 14], [.int 2, .ref 38], H)
  refine am_Ev_G [24] 5 _ ?_
  show am_Ev m_L_many WB RO RQ (24, [.ref 38, .int 14], [.int 10, .int 14, .int 0, .int 2, .ref 38], H)
  refine wk_ge1 rfl (by decide) ?_
  show am_Ev m_L_many WB RO RQ (31, [.ref 38, .int 14], [.int 0, .int 2, .ref 38], H)
  refine am_Ev_G [35] 5 _ ?_
  show am_Ev m_L_many WB RO RQ (35, [.ref 38, .int 14], [.int 10, .int 14, .int 1, .int 0, .int 2, .ref 38], H)
  refine wk_ge1 rfl (by decide) ?_
  show am_Ev m_L_many WB RO RQ (45, [.ref 38, .int 14], [.int 1, .int 0, .int 2, .ref 38], H)
  refine am_Ev_G [51] 5 _ ?_
  show am_Ev m_L_many WB RO RQ (51, [.ref 38, .int 14], [.int 10, .int 14, .int 700, .int 1, .int 0, .int 2, .ref 38], H)
  refine wk_ge1 rfl (by decide) ?_
  show am_Ev m_L_many WB RO RQ (59, [.ref 38, .int 14], [.int 700, .int 1, .int 0, .int 2, .ref 38], H)
  refine am_Ev_G [62] 3 _ ?_
  show am_Ev m_L_many WB RO RQ (62, [.ref 38, .int 14], [.int 240, .int 700, .int 1, .int 0, .int 2, .ref 38], H)
  refine act true (i := 27) (cd := d_B_trip 15) (x := 0) (g := 200) (r := [.int 2, .int 0, .int 1, .int 700, .int 240]) (v := .int 14) rfl rfl rfl rfl rfl (Nat.le_of_ble_eq_true rfl) (fun _ => rfl) (Nat.le_of_ble_eq_true rfl) (Nat.le_of_ble_eq_true rfl) (dz_trip 2 0 1 700 240 (by decide +kernel)) ha ?_
  clear ha
  intro H ha _
  have ha : At H qM15 200 := ha.nrm (by decide +kernel)
  show am_Ev m_L_many WB RO RQ (65, [.ref 38, .int 14], [.int 14], H)
  refine am_Ev_G [66] 3 _ ?_
  show am_Ev m_L_many WB RO RQ (66, [.ref 38, .int 14], [.int 14, .int 14], H)
  refine wk_eq1 rfl rfl ?_
  show am_Ev m_L_many WB RO RQ (71, [.ref 38, .int 14], [], H)
  refine wk_iinc (z := 15) rfl rfl rfl (by decide) ?_
  show am_Ev m_L_many WB RO RQ (74, [.ref 38, .int 15], [], H)
  refine am_Ev_G [13] 5 _ ?_
  show am_Ev m_L_many WB RO RQ (13, [.ref 38, .int 15], [.int 20, .int 15], H)
  refine wk_ge rfl (by decide) ?_
  show am_Ev m_L_many WB RO RQ (16, [.ref 38, .int 15], [], H)
  refine am_Ev_G [19] 5 _ ?_
  show am_Ev m_L_many WB RO RQ (19, [.ref 38, .int 15], [.int 4, .int 15, .ref 38], H)
  refine wk_irem (z := 3) rfl (by decide) (by decide) ?_
  show am_Ev m_L_many WB RO RQ (20, [.ref 38, .int 15], [.int 3, .ref 38], H)
  refine am_Ev_G [24] 5 _ ?_
  show am_Ev m_L_many WB RO RQ (24, [.ref 38, .int 15], [.int 10, .int 15, .int 0, .int 3, .ref 38], H)
  refine wk_ge1 rfl (by decide) ?_
  show am_Ev m_L_many WB RO RQ (31, [.ref 38, .int 15], [.int 0, .int 3, .ref 38], H)
  refine am_Ev_G [35] 5 _ ?_
  show am_Ev m_L_many WB RO RQ (35, [.ref 38, .int 15], [.int 10, .int 15, .int 1, .int 0, .int 3, .ref 38], H)
  refine wk_ge1 rfl (by decide) ?_
  show am_Ev m_L_many WB RO RQ (45, [.ref 38, .int 15], [.int 1, .int 0, .int 3, .ref 38], H)
  refine am_Ev_G [51] 5 _ ?_
  show am_Ev m_L_many WB RO RQ (51, [.ref 38, .int 15], [.int 10, .int 15, .int 700, .int 1, .int 0, .int 3, .ref 38], H)
  refine wk_ge1 rfl (by decide) ?_
  show am_Ev m_L_many WB RO RQ (59, [.ref 38, .int 15], [.int 700, .int 1, .int 0, .int 3, .ref 38], H)
  refine am_Ev_G [62] 3 _ ?_
  show am_Ev m_L_many WB RO RQ (62, [.ref 38, .int 15], [.int 240, .int 700, .int 1, .int 0, .int 3, .ref 38], H)
  refine act true (i := 27) (cd := d_B_trip 15) (x := 0) (g := 200) (r := [.int 3, .int 0, .int 1, .int 700, .int 240]) (v := .int 15) rfl rfl rfl rfl rfl (Nat.le_of_ble_eq_true rfl) (fun _ => rfl) (Nat.le_of_ble_eq_true rfl) (Nat.le_of_ble_eq_true rfl) (dz_trip 3 0 1 700 240 (by decide +kernel)) ha ?_
  clear ha
  intro H ha _
  have ha : At H qM16 200 := ha.nrm (by decide +kernel)
  show am_Ev m_L_many WB RO RQ (65, [.ref 38, .int 15], [.int 15], H)
  refine am_Ev_G [66] 3 _ ?_
  show am_Ev m_L_many WB RO RQ (66, [.ref 38, .int 15], [.int 15, .int 15], H)
  refine wk_eq1 rfl rfl ?_
  show am_Ev m_L_many WB RO RQ (71, [.ref 38, .int 15], [], H)
  refine wk_iinc (z := 16) rfl rfl rfl (by decide) ?_
  show am_Ev m_L_many WB RO RQ (74, [.ref 38, .int 16], [], H)
  refine am_Ev_G [13] 5 _ ?_
  show am_Ev m_L_many WB RO RQ (13, [.ref 38, .int 16], [.int 20, .int 16], H)
  refine wk_ge rfl (by decide) ?_
  show am_Ev m_L_many WB RO RQ (16, [.ref 38, .int 16], [], H)
  refine am_Ev_G [19] 5 _ ?_
  show am_Ev m_L_many WB RO RQ (19, [.ref 38, .int 16], [.int 4, .int 16, .ref 38], H)
  refine wk_irem (z := 0) rfl (by decide) (by decide) ?_
  show am_Ev m_L_many WB RO RQ (20, [.ref 38, .int 16], [.int 0, .ref 38], H)
  refine am_Ev_G [24] 5 _ ?_
  show am_Ev m_L_many WB RO RQ (24, [.ref 38, .int 16], [.int 10, .int 16, .int 0, .int 0, .ref 38], H)
  refine wk_ge1 rfl (by decide) ?_
  show am_Ev m_L_many WB RO RQ (31, [.ref 38, .int 16], [.int 0, .int 0, .ref 38], H)
  refine am_Ev_G [35] 5 _ ?_
  show am_Ev m_L_many WB RO RQ (35, [.ref 38, .int 16], [.int 10, .int 16, .int 1, .int 0, .int 0, .ref 38], H)
  refine wk_ge1 rfl (by decide) ?_
  show am_Ev m_L_many WB RO RQ (45, [.ref 38, .int 16], [.int 1, .int 0, .int 0, .ref 38], H)
  refine am_Ev_G [51] 5 _ ?_
  show am_Ev m_L_many WB RO RQ (51, [.ref 38, .int 16], [.int 10, .int 16, .int 700, .int 1, .int 0, .int 0, .ref 38], H)
  refine wk_ge1 rfl (by decide) ?_
  show am_Ev m_L_many WB RO RQ (59, [.ref 38, .int 16], [.int 700, .int 1, .int 0, .int 0, .ref 38], H)
  refine am_Ev_G [62] 3 _ ?_
  show am_Ev m_L_many WB RO RQ (62, [.ref 38, .int 16], [.int 240, .int 700, .int 1, .int 0, .int 0, .ref 38], H)
  refine act true (i := 27) (cd := d_B_trip 15) (x := 0) (g := 200) (r := [.int 0, .int 0, .int 1, .int 700, .int 240]) (v := .int 16) rfl rfl rfl rfl rfl (Nat.le_of_ble_eq_true rfl) (fun _ => rfl) (Nat.le_of_ble_eq_true rfl) (Nat.le_of_ble_eq_true rfl) (dz_trip 0 0 1 700 240 (by decide +kernel)) ha ?_
  clear ha
  intro H ha _
  have ha : At H qM17 200 := ha.nrm (by decide +kernel)
  show am_Ev m_L_many WB RO RQ (65, [.ref 38, .int 16], [.int 16], H)
  refine am_Ev_G [66] 3 _ ?_
  show am_Ev m_L_many WB RO RQ (66, [.ref 38, .int 16], [.int 16, .int 16], H)
  refine wk_eq1 rfl rfl ?_
  show am_Ev m_L_many WB RO RQ (71, [.ref 38, .int 16], [], H)
  refine wk_iinc (z := 17) rfl rfl rfl (by decide) ?_
  show am_Ev m_L_many WB RO RQ (74, [.ref 38, .int 17], [], H)
  refine am_Ev_G [13] 5 _ ?_
  show am_Ev m_L_many WB RO RQ (13, [.ref 38, .int 17], [.int 20, .int 17], H)
  refine wk_ge rfl (by decide) ?_
  show am_Ev m_L_many WB RO RQ (16, [.ref 38, .int 17], [], H)
  refine am_Ev_G [19] 5 _ ?_
  show am_Ev m_L_many WB RO RQ (19, [.ref 38, .int 17], [.int 4, .int 17, .ref 38], H)
  refine wk_irem (z := 1) rfl (by decide) (by decide) ?_
  show am_Ev m_L_many WB RO RQ (20, [.ref 38, .int 17], [.int 1, .ref 38], H)
  refine am_Ev_G [24] 5 _ ?_
  show am_Ev m_L_many WB RO RQ (24, [.ref 38, .int 17], [.int 10, .int 17, .int 0, .int 1, .ref 38], H)
  refine wk_ge1 rfl (by decide) ?_
  show am_Ev m_L_many WB RO RQ (31, [.ref 38, .int 17], [.int 0, .int 1, .ref 38], H)
  refine am_Ev_G [35] 5 _ ?_
  show am_Ev m_L_many WB RO RQ (35, [.ref 38, .int 17], [.int 10, .int 17, .int 1, .int 0, .int 1, .ref 38], H)
  refine wk_ge1 rfl (by decide) ?_
  show am_Ev m_L_many WB RO RQ (45, [.ref 38, .int 17], [.int 1, .int 0, .int 1, .ref 38], H)
  refine am_Ev_G [51] 5 _ ?_
  show am_Ev m_L_many WB RO RQ (51, [.ref 38, .int 17], [.int 10, .int 17, .int 700, .int 1, .int 0, .int 1, .ref 38], H)
  refine wk_ge1 rfl (by decide) ?_
  show am_Ev m_L_many WB RO RQ (59, [.ref 38, .int 17], [.int 700, .int 1, .int 0, .int 1, .ref 38], H)
  refine am_Ev_G [62] 3 _ ?_
  show am_Ev m_L_many WB RO RQ (62, [.ref 38, .int 17], [.int 240, .int 700, .int 1, .int 0, .int 1, .ref 38], H)
  refine act true (i := 27) (cd := d_B_trip 15) (x := 0) (g := 200) (r := [.int 1, .int 0, .int 1, .int 700, .int 240]) (v := .int 17) rfl rfl rfl rfl rfl (Nat.le_of_ble_eq_true rfl) (fun _ => rfl) (Nat.le_of_ble_eq_true rfl) (Nat.le_of_ble_eq_true rfl) (dz_trip 1 0 1 700 240 (by decide +kernel)) ha ?_
  clear ha
  intro H ha _
  have ha : At H qM18 200 := ha.nrm (by decide +kernel)
  show am_Ev m_L_many WB RO RQ (65, [.ref 38, .int 17], [.int 17], H)
  refine am_Ev_G [66] 3 _ ?_
  show am_Ev m_L_many WB RO RQ (66, [.ref 38, .int 17], [.int 17, .int 17], H)
  refine wk_eq1 rfl rfl ?_
  show am_Ev m_L_many WB RO RQ (71, [.ref 38, .int 17], [], H)
  refine wk_iinc (z := 18) rfl rfl rfl (by decide) ?_
  show am_Ev m_L_many WB RO RQ (74, [.ref 38, .int 18], [], H)
  refine am_Ev_G [13] 5 _ ?_
  show am_Ev m_L_many WB RO RQ (13, [.ref 38, .int 18], [.int 20, .int 18], H)
  refine wk_ge rfl (by decide) ?_
  show am_Ev m_L_many WB RO RQ (16, [.ref 38, .int 18], [], H)
  refine am_Ev_G [19] 5 _ ?_
  show am_Ev m_L_many WB RO RQ (19, [.ref 38, .int 18], [.int 4, .int 18, .ref 38], H)
  refine wk_irem (z := 2) rfl (by decide) (by decide) ?_
  show am_Ev m_L_many WB RO RQ (20, [.ref 38, .int 18], [.int 2, .ref 38], H)
  refine am_Ev_G [24] 5 _ ?_
  show am_Ev m_L_many WB RO RQ (24, [.ref 38, .int 18], [.int 10, .int 18, .int 0, .int 2, .ref 38], H)
  refine wk_ge1 rfl (by decide) ?_
  show am_Ev m_L_many WB RO RQ (31, [.ref 38, .int 18], [.int 0, .int 2, .ref 38], H)
  refine am_Ev_G [35] 5 _ ?_
  show am_Ev m_L_many WB RO RQ (35, [.ref 38, .int 18], [.int 10, .int 18, .int 1, .int 0, .int 2, .ref 38], H)
  refine wk_ge1 rfl (by decide) ?_
  show am_Ev m_L_many WB RO RQ (45, [.ref 38, .int 18], [.int 1, .int 0, .int 2, .ref 38], H)
  refine am_Ev_G [51] 5 _ ?_
  show am_Ev m_L_many WB RO RQ (51, [.ref 38, .int 18], [.int 10, .int 18, .int 700, .int 1, .int 0, .int 2, .ref 38], H)
  refine wk_ge1 rfl (by decide) ?_
  show am_Ev m_L_many WB RO RQ (59, [.ref 38, .int 18], [.int 700, .int 1, .int 0, .int 2, .ref 38], H)
  refine am_Ev_G [62] 3 _ ?_
  show am_Ev m_L_many WB RO RQ (62, [.ref 38, .int 18], [.int 240, .int 700, .int 1, .int 0, .int 2, .ref 38], H)
  refine act true (i := 27) (cd := d_B_trip 15) (x := 0) (g := 200) (r := [.int 2, .int 0, .int 1, .int 700, .int 240]) (v := .int 18) rfl rfl rfl rfl rfl (Nat.le_of_ble_eq_true rfl) (fun _ => rfl) (Nat.le_of_ble_eq_true rfl) (Nat.le_of_ble_eq_true rfl) (dz_trip 2 0 1 700 240 (by decide +kernel)) ha ?_
  clear ha
  intro H ha _
  have ha : At H qM19 200 := ha.nrm (by decide +kernel)
  show am_Ev m_L_many WB RO RQ (65, [.ref 38, .int 18], [.int 18], H)
  refine am_Ev_G [66] 3 _ ?_
  show am_Ev m_L_many WB RO RQ (66, [.ref 38, .int 18], [.int 18, .int 18], H)
  refine wk_eq1 rfl rfl ?_
  show am_Ev m_L_many WB RO RQ (71, [.ref 38, .int 18], [], H)
  refine wk_iinc (z := 19) rfl rfl rfl (by decide) ?_
  show am_Ev m_L_many WB RO RQ (74, [.ref 38, .int 19], [], H)
  refine am_Ev_G [13] 5 _ ?_
  show am_Ev m_L_many WB RO RQ (13, [.ref 38, .int 19], [.int 20, .int 19], H)
  refine wk_ge rfl (by decide) ?_
  show am_Ev m_L_many WB RO RQ (16, [.ref 38, .int 19], [], H)
  refine am_Ev_G [19] 5 _ ?_
  show am_Ev m_L_many WB RO RQ (19, [.ref 38, .int 19], [.int 4, .int 19, .ref 38], H)
  refine wk_irem (z := 3) rfl (by decide) (by decide) ?_
  show am_Ev m_L_many WB RO RQ (20, [.ref 38, .int 19], [.int 3, .ref 38], H)
  refine am_Ev_G [24] 5 _ ?_
  show am_Ev m_L_many WB RO RQ (24, [.ref 38, .int 19], [.int 10, .int 19, .int 0, .int 3, .ref 38], H)
  refine wk_ge1 rfl (by decide) ?_
  show am_Ev m_L_many WB RO RQ (31, [.ref 38, .int 19], [.int 0, .int 3, .ref 38], H)
  refine am_Ev_G [35] 5 _ ?_
  show am_Ev m_L_many WB RO RQ (35, [.ref 38, .int 19], [.int 10, .int 19, .int 1, .int 0, .int 3, .ref 38], H)
  refine wk_ge1 rfl (by decide) ?_
  show am_Ev m_L_many WB RO RQ (45, [.ref 38, .int 19], [.int 1, .int 0, .int 3, .ref 38], H)
  refine am_Ev_G [51] 5 _ ?_
  show am_Ev m_L_many WB RO RQ (51, [.ref 38, .int 19], [.int 10, .int 19, .int 700, .int 1, .int 0, .int 3, .ref 38], H)
  refine wk_ge1 rfl (by decide) ?_
  show am_Ev m_L_many WB RO RQ (59, [.ref 38, .int 19], [.int 700, .int 1, .int 0, .int 3, .ref 38], H)
  refine am_Ev_G [62] 3 _ ?_
  show am_Ev m_L_many WB RO RQ (62, [.ref 38, .int 19], [.int 240, .int 700, .int 1, .int 0, .int 3, .ref 38], H)
  refine act true (i := 27) (cd := d_B_trip 15) (x := 0) (g := 200) (r := [.int 3, .int 0, .int 1, .int 700, .int 240]) (v := .int 19) rfl rfl rfl rfl rfl (Nat.le_of_ble_eq_true rfl) (fun _ => rfl) (Nat.le_of_ble_eq_true rfl) (Nat.le_of_ble_eq_true rfl) (dz_trip 3 0 1 700 240 (by decide +kernel)) ha ?_
  clear ha
  intro H ha _
  have ha : At H qM20 200 := ha.nrm (by decide +kernel)
  show am_Ev m_L_many WB RO RQ (65, [.ref 38, .int 19], [.int 19], H)
  refine am_Ev_G [66] 3 _ ?_
  show am_Ev m_L_many WB RO RQ (66, [.ref 38, .int 19], [.int 19, .int 19], H)
  refine wk_eq1 rfl rfl ?_
  show am_Ev m_L_many WB RO RQ (71, [.ref 38, .int 19], [], H)
  refine wk_iinc (z := 20) rfl rfl rfl (by decide) ?_
  show am_Ev m_L_many WB RO RQ (74, [.ref 38, .int 20], [], H)
  refine am_Ev_G [13] 5 _ ?_
  show am_Ev m_L_many WB RO RQ (13, [.ref 38, .int 20], [.int 20, .int 20], H)
  refine wk_ge1 rfl (by decide) ?_
  show am_Ev m_L_many WB RO RQ (77, [.ref 38, .int 20], [], H)
  refine am_Ev_G [84] 7 _ ?_
  show am_Ev m_L_many WB RO RQ (84, [.ref 38, .int 20], [.long 1001, .int 0, .int 0, .int 2, .ref 38], H)
  refine act false (i := 112) (cd := d_L_call) (x := 1) (g := 200) (r := [.int 2, .int 0, .int 0, .long 1001]) (v := .int (-13 : Int32)) rfl rfl rfl rfl rfl (Nat.le_of_ble_eq_true rfl) (fun _ => rfl) (Nat.le_of_ble_eq_true rfl) (Nat.le_of_ble_eq_true rfl) (dz_callT 2 0 0 1001 (by decide +kernel) (by decide +kernel)) ha ?_
  clear ha
  intro H ha _
  show am_Ev m_L_many WB RO RQ (87, [.ref 38, .int 20], [.int (-13 : Int32)], H)
  refine am_Ev_G [89] 3 _ ?_
  show am_Ev m_L_many WB RO RQ (89, [.ref 38, .int 20], [.int (-13 : Int32), .int (-13 : Int32)], H)
  refine wk_ne rfl rfl ?_
  show am_Ev m_L_many WB RO RQ (92, [.ref 38, .int 20], [], H)
  refine am_Ev_G [95] 4 _ ?_
  show am_Ev m_L_many WB RO RQ (95, [.ref 38, .int 20], [.int 8, .ref 38], H)
  refine act true (i := 78) (cd := d_B_count 15) (x := 0) (g := 201) (r := [.int 8]) (v := .int 10) rfl rfl rfl rfl rfl (Nat.le_of_ble_eq_true rfl) (fun _ => rfl) (Nat.le_of_ble_eq_true rfl) (Nat.le_of_ble_eq_true rfl) (dz_count 8 (by decide +kernel)) ha ?_
  clear ha
  intro H ha _
  show am_Ev m_L_many WB RO RQ (98, [.ref 38, .int 20], [.int 10], H)
  refine am_Ev_G [100] 3 _ ?_
  show am_Ev m_L_many WB RO RQ (100, [.ref 38, .int 20], [.int 10, .int 10], H)
  refine wk_ne rfl rfl ?_
  show am_Ev m_L_many WB RO RQ (103, [.ref 38, .int 20], [], H)
  refine am_Ev_G [105] 4 _ ?_
  show am_Ev m_L_many WB RO RQ (105, [.ref 38, .int 20], [.int 3, .ref 38], H)
  refine act true (i := 78) (cd := d_B_count 15) (x := 0) (g := 201) (r := [.int 3]) (v := .int 10) rfl rfl rfl rfl rfl (Nat.le_of_ble_eq_true rfl) (fun _ => rfl) (Nat.le_of_ble_eq_true rfl) (Nat.le_of_ble_eq_true rfl) (dz_count 3 (by decide +kernel)) ha ?_
  clear ha
  intro H ha _
  show am_Ev m_L_many WB RO RQ (108, [.ref 38, .int 20], [.int 10], H)
  refine am_Ev_G [110] 3 _ ?_
  show am_Ev m_L_many WB RO RQ (110, [.ref 38, .int 20], [.int 10, .int 10], H)
  refine wk_ne rfl rfl ?_
  show am_Ev m_L_many WB RO RQ (113, [.ref 38, .int 20], [], H)
  refine am_Ev_G [115] 4 _ ?_
  show am_Ev m_L_many WB RO RQ (115, [.ref 38, .int 20], [.int 4, .ref 38], H)
  refine act true (i := 78) (cd := d_B_count 15) (x := 0) (g := 201) (r := [.int 4]) (v := .int 10) rfl rfl rfl rfl rfl (Nat.le_of_ble_eq_true rfl) (fun _ => rfl) (Nat.le_of_ble_eq_true rfl) (Nat.le_of_ble_eq_true rfl) (dz_count 4 (by decide +kernel)) ha ?_
  clear ha
  intro H ha _
  show am_Ev m_L_many WB RO RQ (118, [.ref 38, .int 20], [.int 10], H)
  refine am_Ev_G [120] 3 _ ?_
  show am_Ev m_L_many WB RO RQ (120, [.ref 38, .int 20], [.int 10, .int 10], H)
  refine wk_ne rfl rfl ?_
  show am_Ev m_L_many WB RO RQ (123, [.ref 38, .int 20], [], H)
  refine am_Ev_G [124] 3 _ ?_
  show am_Ev m_L_many WB RO RQ (124, [.ref 38, .int 20], [.ref 38], H)
  refine act true (i := 43) (cd := d_B_blockAll 15) (x := 0) (g := 201) (r := []) (v := .int 10) rfl rfl rfl rfl rfl (Nat.le_of_ble_eq_true rfl) (fun _ => rfl) (Nat.le_of_ble_eq_true rfl) (Nat.le_of_ble_eq_true rfl) (dz_blockAll (by decide +kernel)) ha ?_
  clear ha
  intro H ha _
  have ha : At H qM21 201 := ha.nrm (by decide +kernel)
  show am_Ev m_L_many WB RO RQ (127, [.ref 38, .int 20], [.int 10], H)
  refine am_Ev_G [129] 3 _ ?_
  show am_Ev m_L_many WB RO RQ (129, [.ref 38, .int 20], [.int 10, .int 10], H)
  refine wk_ne rfl rfl ?_
  show am_Ev m_L_many WB RO RQ (132, [.ref 38, .int 20], [], H)
  refine am_Ev_G [135] 5 _ ?_
  show am_Ev m_L_many WB RO RQ (135, [.ref 38, .int 20], [.int 1, .int 0, .ref 38], H)
  refine act true (i := 71) (cd := d_B_blockOf 15) (x := 0) (g := 201) (r := [.int 0, .int 1]) (v := .int 11) rfl rfl rfl rfl rfl (Nat.le_of_ble_eq_true rfl) (fun _ => rfl) (Nat.le_of_ble_eq_true rfl) (Nat.le_of_ble_eq_true rfl) (dz_blockOf 0 1 (by decide +kernel)) ha ?_
  clear ha
  intro H ha _
  show am_Ev m_L_many WB RO RQ (138, [.ref 38, .int 20], [.int 11], H)
  refine am_Ev_G [140] 3 _ ?_
  show am_Ev m_L_many WB RO RQ (140, [.ref 38, .int 20], [.int 11, .int 11], H)
  refine wk_ne rfl rfl ?_
  show am_Ev m_L_many WB RO RQ (143, [.ref 38, .int 20], [], H)
  refine am_Ev_G [146] 5 _ ?_
  show am_Ev m_L_many WB RO RQ (146, [.ref 38, .int 20], [.int 3, .int 0, .ref 38], H)
  refine act true (i := 71) (cd := d_B_blockOf 15) (x := 0) (g := 201) (r := [.int 0, .int 3]) (v := .int 150) rfl rfl rfl rfl rfl (Nat.le_of_ble_eq_true rfl) (fun _ => rfl) (Nat.le_of_ble_eq_true rfl) (Nat.le_of_ble_eq_true rfl) (dz_blockOf 0 3 (by decide +kernel)) ha ?_
  clear ha
  intro H ha _
  show am_Ev m_L_many WB RO RQ (149, [.ref 38, .int 20], [.int 150], H)
  refine am_Ev_G [152] 3 _ ?_
  show am_Ev m_L_many WB RO RQ (152, [.ref 38, .int 20], [.int 150, .int 150], H)
  refine wk_ne rfl rfl ?_
  show am_Ev m_L_many WB RO RQ (155, [.ref 38, .int 20], [], H)
  refine am_Ev_G [158] 5 _ ?_
  show am_Ev m_L_many WB RO RQ (158, [.ref 38, .int 20], [.int 4, .int 0, .ref 38], H)
  refine act true (i := 71) (cd := d_B_blockOf 15) (x := 0) (g := 201) (r := [.int 0, .int 4]) (v := .int 10) rfl rfl rfl rfl rfl (Nat.le_of_ble_eq_true rfl) (fun _ => rfl) (Nat.le_of_ble_eq_true rfl) (Nat.le_of_ble_eq_true rfl) (dz_blockOf 0 4 (by decide +kernel)) ha ?_
  clear ha
  intro H ha _
  show am_Ev m_L_many WB RO RQ (161, [.ref 38, .int 20], [.int 10], H)
  refine am_Ev_G [163] 3 _ ?_
  show am_Ev m_L_many WB RO RQ (163, [.ref 38, .int 20], [.int 10, .int 10], H)
  refine wk_ne rfl rfl ?_
  show am_Ev m_L_many WB RO RQ (166, [.ref 38, .int 20], [], H)
  exact many_c2 ha
set_option maxRecDepth 100000 in
theorem many_c0 {H : HP} (ha : At H qM0 200) : am_Ev m_L_many WB RO RQ (8, [.ref 38, .retAddr 0], [], H) := by
  refine am_Ev_G [13] 6 _ ?_
  show am_Ev m_L_many WB RO RQ (13, [.ref 38, .int 0], [.int 20, .int 0], H)
  refine wk_ge rfl (by decide) ?_
  show am_Ev m_L_many WB RO RQ (16, [.ref 38, .int 0], [], H)
  refine am_Ev_G [19] 5 _ ?_
  show am_Ev m_L_many WB RO RQ (19, [.ref 38, .int 0], [.int 4, .int 0, .ref 38], H)
  refine wk_irem (z := 0) rfl (by decide) (by decide) ?_
  show am_Ev m_L_many WB RO RQ (20, [.ref 38, .int 0], [.int 0, .ref 38], H)
  refine am_Ev_G [24] 5 _ ?_
  show am_Ev m_L_many WB RO RQ (24, [.ref 38, .int 0], [.int 10, .int 0, .int 0, .int 0, .ref 38], H)
  refine wk_ge rfl (by decide) ?_
  show am_Ev m_L_many WB RO RQ (27, [.ref 38, .int 0], [.int 0, .int 0, .ref 38], H)
  refine am_Ev_G [35] 6 _ ?_
  show am_Ev m_L_many WB RO RQ (35, [.ref 38, .int 0], [.int 10, .int 0, .int 0, .int 0, .int 0, .ref 38], H)
  refine wk_ge rfl (by decide) ?_
  show am_Ev m_L_many WB RO RQ (38, [.ref 38, .int 0], [.int 0, .int 0, .int 0, .ref 38], H)
  refine am_Ev_G [41] 4 _ ?_
  show am_Ev m_L_many WB RO RQ (41, [.ref 38, .int 0], [.int 0, .int 60, .int 0, .int 0, .int 0, .ref 38], H)
  refine wk_imul (z := 0) rfl (by decide) ?_
  show am_Ev m_L_many WB RO RQ (42, [.ref 38, .int 0], [.int 0, .int 0, .int 0, .int 0, .ref 38], H)
  refine am_Ev_G [51] 5 _ ?_
  show am_Ev m_L_many WB RO RQ (51, [.ref 38, .int 0], [.int 10, .int 0, .int 0, .int 0, .int 0, .int 0, .ref 38], H)
  refine wk_ge rfl (by decide) ?_
  show am_Ev m_L_many WB RO RQ (54, [.ref 38, .int 0], [.int 0, .int 0, .int 0, .int 0, .ref 38], H)
  refine am_Ev_G [62] 4 _ ?_
  show am_Ev m_L_many WB RO RQ (62, [.ref 38, .int 0], [.int 55, .int 0, .int 0, .int 0, .int 0, .ref 38], H)
  refine act true (i := 27) (cd := d_B_trip 15) (x := 0) (g := 200) (r := [.int 0, .int 0, .int 0, .int 0, .int 55]) (v := .int 0) rfl rfl rfl rfl rfl (Nat.le_of_ble_eq_true rfl) (fun _ => rfl) (Nat.le_of_ble_eq_true rfl) (Nat.le_of_ble_eq_true rfl) (dz_trip 0 0 0 0 55 (by decide +kernel)) ha ?_
  clear ha
  intro H ha _
  have ha : At H qM1 200 := ha.nrm (by decide +kernel)
  show am_Ev m_L_many WB RO RQ (65, [.ref 38, .int 0], [.int 0], H)
  refine am_Ev_G [66] 3 _ ?_
  show am_Ev m_L_many WB RO RQ (66, [.ref 38, .int 0], [.int 0, .int 0], H)
  refine wk_eq1 rfl rfl ?_
  show am_Ev m_L_many WB RO RQ (71, [.ref 38, .int 0], [], H)
  refine wk_iinc (z := 1) rfl rfl rfl (by decide) ?_
  show am_Ev m_L_many WB RO RQ (74, [.ref 38, .int 1], [], H)
  refine am_Ev_G [13] 5 _ ?_
  show am_Ev m_L_many WB RO RQ (13, [.ref 38, .int 1], [.int 20, .int 1], H)
  refine wk_ge rfl (by decide) ?_
  show am_Ev m_L_many WB RO RQ (16, [.ref 38, .int 1], [], H)
  refine am_Ev_G [19] 5 _ ?_
  show am_Ev m_L_many WB RO RQ (19, [.ref 38, .int 1], [.int 4, .int 1, .ref 38], H)
  refine wk_irem (z := 1) rfl (by decide) (by decide) ?_
  show am_Ev m_L_many WB RO RQ (20, [.ref 38, .int 1], [.int 1, .ref 38], H)
  refine am_Ev_G [24] 5 _ ?_
  show am_Ev m_L_many WB RO RQ (24, [.ref 38, .int 1], [.int 10, .int 1, .int 0, .int 1, .ref 38], H)
  refine wk_ge rfl (by decide) ?_
  show am_Ev m_L_many WB RO RQ (27, [.ref 38, .int 1], [.int 0, .int 1, .ref 38], H)
  refine am_Ev_G [35] 6 _ ?_
  show am_Ev m_L_many WB RO RQ (35, [.ref 38, .int 1], [.int 10, .int 1, .int 0, .int 0, .int 1, .ref 38], H)
  refine wk_ge rfl (by decide) ?_
  show am_Ev m_L_many WB RO RQ (38, [.ref 38, .int 1], [.int 0, .int 0, .int 1, .ref 38], H)
  refine am_Ev_G [41] 4 _ ?_
  show am_Ev m_L_many WB RO RQ (41, [.ref 38, .int 1], [.int 1, .int 60, .int 0, .int 0, .int 1, .ref 38], H)
  refine wk_imul (z := 60) rfl (by decide) ?_
  show am_Ev m_L_many WB RO RQ (42, [.ref 38, .int 1], [.int 60, .int 0, .int 0, .int 1, .ref 38], H)
  refine am_Ev_G [51] 5 _ ?_
  show am_Ev m_L_many WB RO RQ (51, [.ref 38, .int 1], [.int 10, .int 1, .int 60, .int 0, .int 0, .int 1, .ref 38], H)
  refine wk_ge rfl (by decide) ?_
  show am_Ev m_L_many WB RO RQ (54, [.ref 38, .int 1], [.int 60, .int 0, .int 0, .int 1, .ref 38], H)
  refine am_Ev_G [62] 4 _ ?_
  show am_Ev m_L_many WB RO RQ (62, [.ref 38, .int 1], [.int 55, .int 60, .int 0, .int 0, .int 1, .ref 38], H)
  refine act true (i := 27) (cd := d_B_trip 15) (x := 0) (g := 200) (r := [.int 1, .int 0, .int 0, .int 60, .int 55]) (v := .int 1) rfl rfl rfl rfl rfl (Nat.le_of_ble_eq_true rfl) (fun _ => rfl) (Nat.le_of_ble_eq_true rfl) (Nat.le_of_ble_eq_true rfl) (dz_trip 1 0 0 60 55 (by decide +kernel)) ha ?_
  clear ha
  intro H ha _
  have ha : At H qM2 200 := ha.nrm (by decide +kernel)
  show am_Ev m_L_many WB RO RQ (65, [.ref 38, .int 1], [.int 1], H)
  refine am_Ev_G [66] 3 _ ?_
  show am_Ev m_L_many WB RO RQ (66, [.ref 38, .int 1], [.int 1, .int 1], H)
  refine wk_eq1 rfl rfl ?_
  show am_Ev m_L_many WB RO RQ (71, [.ref 38, .int 1], [], H)
  refine wk_iinc (z := 2) rfl rfl rfl (by decide) ?_
  show am_Ev m_L_many WB RO RQ (74, [.ref 38, .int 2], [], H)
  refine am_Ev_G [13] 5 _ ?_
  show am_Ev m_L_many WB RO RQ (13, [.ref 38, .int 2], [.int 20, .int 2], H)
  refine wk_ge rfl (by decide) ?_
  show am_Ev m_L_many WB RO RQ (16, [.ref 38, .int 2], [], H)
  refine am_Ev_G [19] 5 _ ?_
  show am_Ev m_L_many WB RO RQ (19, [.ref 38, .int 2], [.int 4, .int 2, .ref 38], H)
  refine wk_irem (z := 2) rfl (by decide) (by decide) ?_
  show am_Ev m_L_many WB RO RQ (20, [.ref 38, .int 2], [.int 2, .ref 38], H)
  refine am_Ev_G [24] 5 _ ?_
  show am_Ev m_L_many WB RO RQ (24, [.ref 38, .int 2], [.int 10, .int 2, .int 0, .int 2, .ref 38], H)
  refine wk_ge rfl (by decide) ?_
  show am_Ev m_L_many WB RO RQ (27, [.ref 38, .int 2], [.int 0, .int 2, .ref 38], H)
  refine am_Ev_G [35] 6 _ ?_
  show am_Ev m_L_many WB RO RQ (35, [.ref 38, .int 2], [.int 10, .int 2, .int 0, .int 0, .int 2, .ref 38], H)
  refine wk_ge rfl (by decide) ?_
  show am_Ev m_L_many WB RO RQ (38, [.ref 38, .int 2], [.int 0, .int 0, .int 2, .ref 38], H)
  refine am_Ev_G [41] 4 _ ?_
  show am_Ev m_L_many WB RO RQ (41, [.ref 38, .int 2], [.int 2, .int 60, .int 0, .int 0, .int 2, .ref 38], H)
  refine wk_imul (z := 120) rfl (by decide) ?_
  show am_Ev m_L_many WB RO RQ (42, [.ref 38, .int 2], [.int 120, .int 0, .int 0, .int 2, .ref 38], H)
  refine am_Ev_G [51] 5 _ ?_
  show am_Ev m_L_many WB RO RQ (51, [.ref 38, .int 2], [.int 10, .int 2, .int 120, .int 0, .int 0, .int 2, .ref 38], H)
  refine wk_ge rfl (by decide) ?_
  show am_Ev m_L_many WB RO RQ (54, [.ref 38, .int 2], [.int 120, .int 0, .int 0, .int 2, .ref 38], H)
  refine am_Ev_G [62] 4 _ ?_
  show am_Ev m_L_many WB RO RQ (62, [.ref 38, .int 2], [.int 55, .int 120, .int 0, .int 0, .int 2, .ref 38], H)
  refine act true (i := 27) (cd := d_B_trip 15) (x := 0) (g := 200) (r := [.int 2, .int 0, .int 0, .int 120, .int 55]) (v := .int 2) rfl rfl rfl rfl rfl (Nat.le_of_ble_eq_true rfl) (fun _ => rfl) (Nat.le_of_ble_eq_true rfl) (Nat.le_of_ble_eq_true rfl) (dz_trip 2 0 0 120 55 (by decide +kernel)) ha ?_
  clear ha
  intro H ha _
  have ha : At H qM3 200 := ha.nrm (by decide +kernel)
  show am_Ev m_L_many WB RO RQ (65, [.ref 38, .int 2], [.int 2], H)
  refine am_Ev_G [66] 3 _ ?_
  show am_Ev m_L_many WB RO RQ (66, [.ref 38, .int 2], [.int 2, .int 2], H)
  refine wk_eq1 rfl rfl ?_
  show am_Ev m_L_many WB RO RQ (71, [.ref 38, .int 2], [], H)
  refine wk_iinc (z := 3) rfl rfl rfl (by decide) ?_
  show am_Ev m_L_many WB RO RQ (74, [.ref 38, .int 3], [], H)
  refine am_Ev_G [13] 5 _ ?_
  show am_Ev m_L_many WB RO RQ (13, [.ref 38, .int 3], [.int 20, .int 3], H)
  refine wk_ge rfl (by decide) ?_
  show am_Ev m_L_many WB RO RQ (16, [.ref 38, .int 3], [], H)
  refine am_Ev_G [19] 5 _ ?_
  show am_Ev m_L_many WB RO RQ (19, [.ref 38, .int 3], [.int 4, .int 3, .ref 38], H)
  refine wk_irem (z := 3) rfl (by decide) (by decide) ?_
  show am_Ev m_L_many WB RO RQ (20, [.ref 38, .int 3], [.int 3, .ref 38], H)
  refine am_Ev_G [24] 5 _ ?_
  show am_Ev m_L_many WB RO RQ (24, [.ref 38, .int 3], [.int 10, .int 3, .int 0, .int 3, .ref 38], H)
  refine wk_ge rfl (by decide) ?_
  show am_Ev m_L_many WB RO RQ (27, [.ref 38, .int 3], [.int 0, .int 3, .ref 38], H)
  refine am_Ev_G [35] 6 _ ?_
  show am_Ev m_L_many WB RO RQ (35, [.ref 38, .int 3], [.int 10, .int 3, .int 0, .int 0, .int 3, .ref 38], H)
  refine wk_ge rfl (by decide) ?_
  show am_Ev m_L_many WB RO RQ (38, [.ref 38, .int 3], [.int 0, .int 0, .int 3, .ref 38], H)
  refine am_Ev_G [41] 4 _ ?_
  show am_Ev m_L_many WB RO RQ (41, [.ref 38, .int 3], [.int 3, .int 60, .int 0, .int 0, .int 3, .ref 38], H)
  refine wk_imul (z := 180) rfl (by decide) ?_
  show am_Ev m_L_many WB RO RQ (42, [.ref 38, .int 3], [.int 180, .int 0, .int 0, .int 3, .ref 38], H)
  refine am_Ev_G [51] 5 _ ?_
  show am_Ev m_L_many WB RO RQ (51, [.ref 38, .int 3], [.int 10, .int 3, .int 180, .int 0, .int 0, .int 3, .ref 38], H)
  refine wk_ge rfl (by decide) ?_
  show am_Ev m_L_many WB RO RQ (54, [.ref 38, .int 3], [.int 180, .int 0, .int 0, .int 3, .ref 38], H)
  refine am_Ev_G [62] 4 _ ?_
  show am_Ev m_L_many WB RO RQ (62, [.ref 38, .int 3], [.int 55, .int 180, .int 0, .int 0, .int 3, .ref 38], H)
  refine act true (i := 27) (cd := d_B_trip 15) (x := 0) (g := 200) (r := [.int 3, .int 0, .int 0, .int 180, .int 55]) (v := .int 3) rfl rfl rfl rfl rfl (Nat.le_of_ble_eq_true rfl) (fun _ => rfl) (Nat.le_of_ble_eq_true rfl) (Nat.le_of_ble_eq_true rfl) (dz_trip 3 0 0 180 55 (by decide +kernel)) ha ?_
  clear ha
  intro H ha _
  have ha : At H qM4 200 := ha.nrm (by decide +kernel)
  show am_Ev m_L_many WB RO RQ (65, [.ref 38, .int 3], [.int 3], H)
  refine am_Ev_G [66] 3 _ ?_
  show am_Ev m_L_many WB RO RQ (66, [.ref 38, .int 3], [.int 3, .int 3], H)
  refine wk_eq1 rfl rfl ?_
  show am_Ev m_L_many WB RO RQ (71, [.ref 38, .int 3], [], H)
  refine wk_iinc (z := 4) rfl rfl rfl (by decide) ?_
  show am_Ev m_L_many WB RO RQ (74, [.ref 38, .int 4], [], H)
  refine am_Ev_G [13] 5 _ ?_
  show am_Ev m_L_many WB RO RQ (13, [.ref 38, .int 4], [.int 20, .int 4], H)
  refine wk_ge rfl (by decide) ?_
  show am_Ev m_L_many WB RO RQ (16, [.ref 38, .int 4], [], H)
  refine am_Ev_G [19] 5 _ ?_
  show am_Ev m_L_many WB RO RQ (19, [.ref 38, .int 4], [.int 4, .int 4, .ref 38], H)
  refine wk_irem (z := 0) rfl (by decide) (by decide) ?_
  show am_Ev m_L_many WB RO RQ (20, [.ref 38, .int 4], [.int 0, .ref 38], H)
  refine am_Ev_G [24] 5 _ ?_
  show am_Ev m_L_many WB RO RQ (24, [.ref 38, .int 4], [.int 10, .int 4, .int 0, .int 0, .ref 38], H)
  refine wk_ge rfl (by decide) ?_
  show am_Ev m_L_many WB RO RQ (27, [.ref 38, .int 4], [.int 0, .int 0, .ref 38], H)
  refine am_Ev_G [35] 6 _ ?_
  show am_Ev m_L_many WB RO RQ (35, [.ref 38, .int 4], [.int 10, .int 4, .int 0, .int 0, .int 0, .ref 38], H)
  refine wk_ge rfl (by decide) ?_
  show am_Ev m_L_many WB RO RQ (38, [.ref 38, .int 4], [.int 0, .int 0, .int 0, .ref 38], H)
  refine am_Ev_G [41] 4 _ ?_
  show am_Ev m_L_many WB RO RQ (41, [.ref 38, .int 4], [.int 4, .int 60, .int 0, .int 0, .int 0, .ref 38], H)
  refine wk_imul (z := 240) rfl (by decide) ?_
  show am_Ev m_L_many WB RO RQ (42, [.ref 38, .int 4], [.int 240, .int 0, .int 0, .int 0, .ref 38], H)
  refine am_Ev_G [51] 5 _ ?_
  show am_Ev m_L_many WB RO RQ (51, [.ref 38, .int 4], [.int 10, .int 4, .int 240, .int 0, .int 0, .int 0, .ref 38], H)
  refine wk_ge rfl (by decide) ?_
  show am_Ev m_L_many WB RO RQ (54, [.ref 38, .int 4], [.int 240, .int 0, .int 0, .int 0, .ref 38], H)
  refine am_Ev_G [62] 4 _ ?_
  show am_Ev m_L_many WB RO RQ (62, [.ref 38, .int 4], [.int 55, .int 240, .int 0, .int 0, .int 0, .ref 38], H)
  refine act true (i := 27) (cd := d_B_trip 15) (x := 0) (g := 200) (r := [.int 0, .int 0, .int 0, .int 240, .int 55]) (v := .int 4) rfl rfl rfl rfl rfl (Nat.le_of_ble_eq_true rfl) (fun _ => rfl) (Nat.le_of_ble_eq_true rfl) (Nat.le_of_ble_eq_true rfl) (dz_trip 0 0 0 240 55 (by decide +kernel)) ha ?_
  clear ha
  intro H ha _
  have ha : At H qM5 200 := ha.nrm (by decide +kernel)
  show am_Ev m_L_many WB RO RQ (65, [.ref 38, .int 4], [.int 4], H)
  refine am_Ev_G [66] 3 _ ?_
  show am_Ev m_L_many WB RO RQ (66, [.ref 38, .int 4], [.int 4, .int 4], H)
  refine wk_eq1 rfl rfl ?_
  show am_Ev m_L_many WB RO RQ (71, [.ref 38, .int 4], [], H)
  refine wk_iinc (z := 5) rfl rfl rfl (by decide) ?_
  show am_Ev m_L_many WB RO RQ (74, [.ref 38, .int 5], [], H)
  refine am_Ev_G [13] 5 _ ?_
  show am_Ev m_L_many WB RO RQ (13, [.ref 38, .int 5], [.int 20, .int 5], H)
  refine wk_ge rfl (by decide) ?_
  show am_Ev m_L_many WB RO RQ (16, [.ref 38, .int 5], [], H)
  refine am_Ev_G [19] 5 _ ?_
  show am_Ev m_L_many WB RO RQ (19, [.ref 38, .int 5], [.int 4, .int 5, .ref 38], H)
  refine wk_irem (z := 1) rfl (by decide) (by decide) ?_
  show am_Ev m_L_many WB RO RQ (20, [.ref 38, .int 5], [.int 1, .ref 38], H)
  refine am_Ev_G [24] 5 _ ?_
  show am_Ev m_L_many WB RO RQ (24, [.ref 38, .int 5], [.int 10, .int 5, .int 0, .int 1, .ref 38], H)
  refine wk_ge rfl (by decide) ?_
  show am_Ev m_L_many WB RO RQ (27, [.ref 38, .int 5], [.int 0, .int 1, .ref 38], H)
  refine am_Ev_G [35] 6 _ ?_
  show am_Ev m_L_many WB RO RQ (35, [.ref 38, .int 5], [.int 10, .int 5, .int 0, .int 0, .int 1, .ref 38], H)
  refine wk_ge rfl (by decide) ?_
  show am_Ev m_L_many WB RO RQ (38, [.ref 38, .int 5], [.int 0, .int 0, .int 1, .ref 38], H)
  refine am_Ev_G [41] 4 _ ?_
  show am_Ev m_L_many WB RO RQ (41, [.ref 38, .int 5], [.int 5, .int 60, .int 0, .int 0, .int 1, .ref 38], H)
  refine wk_imul (z := 300) rfl (by decide) ?_
  show am_Ev m_L_many WB RO RQ (42, [.ref 38, .int 5], [.int 300, .int 0, .int 0, .int 1, .ref 38], H)
  refine am_Ev_G [51] 5 _ ?_
  show am_Ev m_L_many WB RO RQ (51, [.ref 38, .int 5], [.int 10, .int 5, .int 300, .int 0, .int 0, .int 1, .ref 38], H)
  refine wk_ge rfl (by decide) ?_
  show am_Ev m_L_many WB RO RQ (54, [.ref 38, .int 5], [.int 300, .int 0, .int 0, .int 1, .ref 38], H)
  refine am_Ev_G [62] 4 _ ?_
  show am_Ev m_L_many WB RO RQ (62, [.ref 38, .int 5], [.int 55, .int 300, .int 0, .int 0, .int 1, .ref 38], H)
  refine act true (i := 27) (cd := d_B_trip 15) (x := 0) (g := 200) (r := [.int 1, .int 0, .int 0, .int 300, .int 55]) (v := .int 5) rfl rfl rfl rfl rfl (Nat.le_of_ble_eq_true rfl) (fun _ => rfl) (Nat.le_of_ble_eq_true rfl) (Nat.le_of_ble_eq_true rfl) (dz_trip 1 0 0 300 55 (by decide +kernel)) ha ?_
  clear ha
  intro H ha _
  have ha : At H qM6 200 := ha.nrm (by decide +kernel)
  show am_Ev m_L_many WB RO RQ (65, [.ref 38, .int 5], [.int 5], H)
  refine am_Ev_G [66] 3 _ ?_
  show am_Ev m_L_many WB RO RQ (66, [.ref 38, .int 5], [.int 5, .int 5], H)
  refine wk_eq1 rfl rfl ?_
  show am_Ev m_L_many WB RO RQ (71, [.ref 38, .int 5], [], H)
  refine wk_iinc (z := 6) rfl rfl rfl (by decide) ?_
  show am_Ev m_L_many WB RO RQ (74, [.ref 38, .int 6], [], H)
  refine am_Ev_G [13] 5 _ ?_
  show am_Ev m_L_many WB RO RQ (13, [.ref 38, .int 6], [.int 20, .int 6], H)
  refine wk_ge rfl (by decide) ?_
  show am_Ev m_L_many WB RO RQ (16, [.ref 38, .int 6], [], H)
  refine am_Ev_G [19] 5 _ ?_
  show am_Ev m_L_many WB RO RQ (19, [.ref 38, .int 6], [.int 4, .int 6, .ref 38], H)
  refine wk_irem (z := 2) rfl (by decide) (by decide) ?_
  show am_Ev m_L_many WB RO RQ (20, [.ref 38, .int 6], [.int 2, .ref 38], H)
  refine am_Ev_G [24] 5 _ ?_
  show am_Ev m_L_many WB RO RQ (24, [.ref 38, .int 6], [.int 10, .int 6, .int 0, .int 2, .ref 38], H)
  refine wk_ge rfl (by decide) ?_
  show am_Ev m_L_many WB RO RQ (27, [.ref 38, .int 6], [.int 0, .int 2, .ref 38], H)
  refine am_Ev_G [35] 6 _ ?_
  show am_Ev m_L_many WB RO RQ (35, [.ref 38, .int 6], [.int 10, .int 6, .int 0, .int 0, .int 2, .ref 38], H)
  refine wk_ge rfl (by decide) ?_
  show am_Ev m_L_many WB RO RQ (38, [.ref 38, .int 6], [.int 0, .int 0, .int 2, .ref 38], H)
  refine am_Ev_G [41] 4 _ ?_
  show am_Ev m_L_many WB RO RQ (41, [.ref 38, .int 6], [.int 6, .int 60, .int 0, .int 0, .int 2, .ref 38], H)
  refine wk_imul (z := 360) rfl (by decide) ?_
  show am_Ev m_L_many WB RO RQ (42, [.ref 38, .int 6], [.int 360, .int 0, .int 0, .int 2, .ref 38], H)
  refine am_Ev_G [51] 5 _ ?_
  show am_Ev m_L_many WB RO RQ (51, [.ref 38, .int 6], [.int 10, .int 6, .int 360, .int 0, .int 0, .int 2, .ref 38], H)
  refine wk_ge rfl (by decide) ?_
  show am_Ev m_L_many WB RO RQ (54, [.ref 38, .int 6], [.int 360, .int 0, .int 0, .int 2, .ref 38], H)
  refine am_Ev_G [62] 4 _ ?_
  show am_Ev m_L_many WB RO RQ (62, [.ref 38, .int 6], [.int 55, .int 360, .int 0, .int 0, .int 2, .ref 38], H)
  refine act true (i := 27) (cd := d_B_trip 15) (x := 0) (g := 200) (r := [.int 2, .int 0, .int 0, .int 360, .int 55]) (v := .int 6) rfl rfl rfl rfl rfl (Nat.le_of_ble_eq_true rfl) (fun _ => rfl) (Nat.le_of_ble_eq_true rfl) (Nat.le_of_ble_eq_true rfl) (dz_trip 2 0 0 360 55 (by decide +kernel)) ha ?_
  clear ha
  intro H ha _
  have ha : At H qM7 200 := ha.nrm (by decide +kernel)
  show am_Ev m_L_many WB RO RQ (65, [.ref 38, .int 6], [.int 6], H)
  refine am_Ev_G [66] 3 _ ?_
  show am_Ev m_L_many WB RO RQ (66, [.ref 38, .int 6], [.int 6, .int 6], H)
  refine wk_eq1 rfl rfl ?_
  show am_Ev m_L_many WB RO RQ (71, [.ref 38, .int 6], [], H)
  refine wk_iinc (z := 7) rfl rfl rfl (by decide) ?_
  show am_Ev m_L_many WB RO RQ (74, [.ref 38, .int 7], [], H)
  refine am_Ev_G [13] 5 _ ?_
  show am_Ev m_L_many WB RO RQ (13, [.ref 38, .int 7], [.int 20, .int 7], H)
  refine wk_ge rfl (by decide) ?_
  show am_Ev m_L_many WB RO RQ (16, [.ref 38, .int 7], [], H)
  refine am_Ev_G [19] 5 _ ?_
  show am_Ev m_L_many WB RO RQ (19, [.ref 38, .int 7], [.int 4, .int 7, .ref 38], H)
  refine wk_irem (z := 3) rfl (by decide) (by decide) ?_
  show am_Ev m_L_many WB RO RQ (20, [.ref 38, .int 7], [.int 3, .ref 38], H)
  refine am_Ev_G [24] 5 _ ?_
  show am_Ev m_L_many WB RO RQ (24, [.ref 38, .int 7], [.int 10, .int 7, .int 0, .int 3, .ref 38], H)
  refine wk_ge rfl (by decide) ?_
  show am_Ev m_L_many WB RO RQ (27, [.ref 38, .int 7], [.int 0, .int 3, .ref 38], H)
  refine am_Ev_G [35] 6 _ ?_
  show am_Ev m_L_many WB RO RQ (35, [.ref 38, .int 7], [.int 10, .int 7, .int 0, .int 0, .int 3, .ref 38], H)
  refine wk_ge rfl (by decide) ?_
  show am_Ev m_L_many WB RO RQ (38, [.ref 38, .int 7], [.int 0, .int 0, .int 3, .ref 38], H)
  refine am_Ev_G [41] 4 _ ?_
  show am_Ev m_L_many WB RO RQ (41, [.ref 38, .int 7], [.int 7, .int 60, .int 0, .int 0, .int 3, .ref 38], H)
  refine wk_imul (z := 420) rfl (by decide) ?_
  show am_Ev m_L_many WB RO RQ (42, [.ref 38, .int 7], [.int 420, .int 0, .int 0, .int 3, .ref 38], H)
  refine am_Ev_G [51] 5 _ ?_
  show am_Ev m_L_many WB RO RQ (51, [.ref 38, .int 7], [.int 10, .int 7, .int 420, .int 0, .int 0, .int 3, .ref 38], H)
  refine wk_ge rfl (by decide) ?_
  show am_Ev m_L_many WB RO RQ (54, [.ref 38, .int 7], [.int 420, .int 0, .int 0, .int 3, .ref 38], H)
  refine am_Ev_G [62] 4 _ ?_
  show am_Ev m_L_many WB RO RQ (62, [.ref 38, .int 7], [.int 55, .int 420, .int 0, .int 0, .int 3, .ref 38], H)
  refine act true (i := 27) (cd := d_B_trip 15) (x := 0) (g := 200) (r := [.int 3, .int 0, .int 0, .int 420, .int 55]) (v := .int 7) rfl rfl rfl rfl rfl (Nat.le_of_ble_eq_true rfl) (fun _ => rfl) (Nat.le_of_ble_eq_true rfl) (Nat.le_of_ble_eq_true rfl) (dz_trip 3 0 0 420 55 (by decide +kernel)) ha ?_
  clear ha
  intro H ha _
  have ha : At H qM8 200 := ha.nrm (by decide +kernel)
  show am_Ev m_L_many WB RO RQ (65, [.ref 38, .int 7], [.int 7], H)
  refine am_Ev_G [66] 3 _ ?_
  show am_Ev m_L_many WB RO RQ (66, [.ref 38, .int 7], [.int 7, .int 7], H)
  refine wk_eq1 rfl rfl ?_
  show am_Ev m_L_many WB RO RQ (71, [.ref 38, .int 7], [], H)
  refine wk_iinc (z := 8) rfl rfl rfl (by decide) ?_
  show am_Ev m_L_many WB RO RQ (74, [.ref 38, .int 8], [], H)
  refine am_Ev_G [13] 5 _ ?_
  show am_Ev m_L_many WB RO RQ (13, [.ref 38, .int 8], [.int 20, .int 8], H)
  refine wk_ge rfl (by decide) ?_
  show am_Ev m_L_many WB RO RQ (16, [.ref 38, .int 8], [], H)
  refine am_Ev_G [19] 5 _ ?_
  show am_Ev m_L_many WB RO RQ (19, [.ref 38, .int 8], [.int 4, .int 8, .ref 38], H)
  refine wk_irem (z := 0) rfl (by decide) (by decide) ?_
  show am_Ev m_L_many WB RO RQ (20, [.ref 38, .int 8], [.int 0, .ref 38], H)
  refine am_Ev_G [24] 5 _ ?_
  show am_Ev m_L_many WB RO RQ (24, [.ref 38, .int 8], [.int 10, .int 8, .int 0, .int 0, .ref 38], H)
  refine wk_ge rfl (by decide) ?_
  show am_Ev m_L_many WB RO RQ (27, [.ref 38, .int 8], [.int 0, .int 0, .ref 38], H)
  refine am_Ev_G [35] 6 _ ?_
  show am_Ev m_L_many WB RO RQ (35, [.ref 38, .int 8], [.int 10, .int 8, .int 0, .int 0, .int 0, .ref 38], H)
  refine wk_ge rfl (by decide) ?_
  show am_Ev m_L_many WB RO RQ (38, [.ref 38, .int 8], [.int 0, .int 0, .int 0, .ref 38], H)
  refine am_Ev_G [41] 4 _ ?_
  show am_Ev m_L_many WB RO RQ (41, [.ref 38, .int 8], [.int 8, .int 60, .int 0, .int 0, .int 0, .ref 38], H)
  refine wk_imul (z := 480) rfl (by decide) ?_
  show am_Ev m_L_many WB RO RQ (42, [.ref 38, .int 8], [.int 480, .int 0, .int 0, .int 0, .ref 38], H)
  refine am_Ev_G [51] 5 _ ?_
  show am_Ev m_L_many WB RO RQ (51, [.ref 38, .int 8], [.int 10, .int 8, .int 480, .int 0, .int 0, .int 0, .ref 38], H)
  refine wk_ge rfl (by decide) ?_
  show am_Ev m_L_many WB RO RQ (54, [.ref 38, .int 8], [.int 480, .int 0, .int 0, .int 0, .ref 38], H)
  refine am_Ev_G [62] 4 _ ?_
  show am_Ev m_L_many WB RO RQ (62, [.ref 38, .int 8], [.int 55, .int 480, .int 0, .int 0, .int 0, .ref 38], H)
  refine act true (i := 27) (cd := d_B_trip 15) (x := 0) (g := 200) (r := [.int 0, .int 0, .int 0, .int 480, .int 55]) (v := .int 8) rfl rfl rfl rfl rfl (Nat.le_of_ble_eq_true rfl) (fun _ => rfl) (Nat.le_of_ble_eq_true rfl) (Nat.le_of_ble_eq_true rfl) (dz_trip 0 0 0 480 55 (by decide +kernel)) ha ?_
  clear ha
  intro H ha _
  have ha : At H qM9 200 := ha.nrm (by decide +kernel)
  show am_Ev m_L_many WB RO RQ (65, [.ref 38, .int 8], [.int 8], H)
  refine am_Ev_G [66] 3 _ ?_
  show am_Ev m_L_many WB RO RQ (66, [.ref 38, .int 8], [.int 8, .int 8], H)
  refine wk_eq1 rfl rfl ?_
  show am_Ev m_L_many WB RO RQ (71, [.ref 38, .int 8], [], H)
  refine wk_iinc (z := 9) rfl rfl rfl (by decide) ?_
  show am_Ev m_L_many WB RO RQ (74, [.ref 38, .int 9], [], H)
  refine am_Ev_G [13] 5 _ ?_
  show am_Ev m_L_many WB RO RQ (13, [.ref 38, .int 9], [.int 20, .int 9], H)
  refine wk_ge rfl (by decide) ?_
  show am_Ev m_L_many WB RO RQ (16, [.ref 38, .int 9], [], H)
  refine am_Ev_G [19] 5 _ ?_
  show am_Ev m_L_many WB RO RQ (19, [.ref 38, .int 9], [.int 4, .int 9, .ref 38], H)
  refine wk_irem (z := 1) rfl (by decide) (by decide) ?_
  show am_Ev m_L_many WB RO RQ (20, [.ref 38, .int 9], [.int 1, .ref 38], H)
  refine am_Ev_G [24] 5 _ ?_
  show am_Ev m_L_many WB RO RQ (24, [.ref 38, .int 9], [.int 10, .int 9, .int 0, .int 1, .ref 38], H)
  refine wk_ge rfl (by decide) ?_
  show am_Ev m_L_many WB RO RQ (27, [.ref 38, .int 9], [.int 0, .int 1, .ref 38], H)
  refine am_Ev_G [35] 6 _ ?_
  show am_Ev m_L_many WB RO RQ (35, [.ref 38, .int 9], [.int 10, .int 9, .int 0, .int 0, .int 1, .ref 38], H)
  refine wk_ge rfl (by decide) ?_
  show am_Ev m_L_many WB RO RQ (38, [.ref 38, .int 9], [.int 0, .int 0, .int 1, .ref 38], H)
  refine am_Ev_G [41] 4 _ ?_
  show am_Ev m_L_many WB RO RQ (41, [.ref 38, .int 9], [.int 9, .int 60, .int 0, .int 0, .int 1, .ref 38], H)
  refine wk_imul (z := 540) rfl (by decide) ?_
  show am_Ev m_L_many WB RO RQ (42, [.ref 38, .int 9], [.int 540, .int 0, .int 0, .int 1, .ref 38], H)
  refine am_Ev_G [51] 5 _ ?_
  show am_Ev m_L_many WB RO RQ (51, [.ref 38, .int 9], [.int 10, .int 9, .int 540, .int 0, .int 0, .int 1, .ref 38], H)
  refine wk_ge rfl (by decide) ?_
  show am_Ev m_L_many WB RO RQ (54, [.ref 38, .int 9], [.int 540, .int 0, .int 0, .int 1, .ref 38], H)
  refine am_Ev_G [62] 4 _ ?_
  show am_Ev m_L_many WB RO RQ (62, [.ref 38, .int 9], [.int 55, .int 540, .int 0, .int 0, .int 1, .ref 38], H)
  refine act true (i := 27) (cd := d_B_trip 15) (x := 0) (g := 200) (r := [.int 1, .int 0, .int 0, .int 540, .int 55]) (v := .int 9) rfl rfl rfl rfl rfl (Nat.le_of_ble_eq_true rfl) (fun _ => rfl) (Nat.le_of_ble_eq_true rfl) (Nat.le_of_ble_eq_true rfl) (dz_trip 1 0 0 540 55 (by decide +kernel)) ha ?_
  clear ha
  intro H ha _
  have ha : At H qM10 200 := ha.nrm (by decide +kernel)
  show am_Ev m_L_many WB RO RQ (65, [.ref 38, .int 9], [.int 9], H)
  refine am_Ev_G [66] 3 _ ?_
  show am_Ev m_L_many WB RO RQ (66, [.ref 38, .int 9], [.int 9, .int 9], H)
  refine wk_eq1 rfl rfl ?_
  show am_Ev m_L_many WB RO RQ (71, [.ref 38, .int 9], [], H)
  refine wk_iinc (z := 10) rfl rfl rfl (by decide) ?_
  show am_Ev m_L_many WB RO RQ (74, [.ref 38, .int 10], [], H)
  refine am_Ev_G [13] 5 _ ?_
  show am_Ev m_L_many WB RO RQ (13, [.ref 38, .int 10], [.int 20, .int 10], H)
  refine wk_ge rfl (by decide) ?_
  show am_Ev m_L_many WB RO RQ (16, [.ref 38, .int 10], [], H)
  refine am_Ev_G [19] 5 _ ?_
  show am_Ev m_L_many WB RO RQ (19, [.ref 38, .int 10], [.int 4, .int 10, .ref 38], H)
  refine wk_irem (z := 2) rfl (by decide) (by decide) ?_
  show am_Ev m_L_many WB RO RQ (20, [.ref 38, .int 10], [.int 2, .ref 38], H)
  refine am_Ev_G [24] 5 _ ?_
  show am_Ev m_L_many WB RO RQ (24, [.ref 38, .int 10], [.int 10, .int 10, .int 0, .int 2, .ref 38], H)
  refine wk_ge1 rfl (by decide) ?_
  show am_Ev m_L_many WB RO RQ (31, [.ref 38, .int 10], [.int 0, .int 2, .ref 38], H)
  refine am_Ev_G [35] 5 _ ?_
  show am_Ev m_L_many WB RO RQ (35, [.ref 38, .int 10], [.int 10, .int 10, .int 1, .int 0, .int 2, .ref 38], H)
  refine wk_ge1 rfl (by decide) ?_
  show am_Ev m_L_many WB RO RQ (45, [.ref 38, .int 10], [.int 1, .int 0, .int 2, .ref 38], H)
  refine am_Ev_G [51] 5 _ ?_
  show am_Ev m_L_many WB RO RQ (51, [.ref 38, .int 10], [.int 10, .int 10, .int 700, .int 1, .int 0, .int 2, .ref 38], H)
  refine wk_ge1 rfl (by decide) ?_
  show am_Ev m_L_many WB RO RQ (59, [.ref 38, .int 10], [.int 700, .int 1, .int 0, .int 2, .ref 38], H)
  refine am_Ev_G [62] 3 _ ?_
  show am_Ev m_L_many WB RO RQ (62, [.ref 38, .int 10], [.int 240, .int 700, .int 1, .int 0, .int 2, .ref 38], H)
  refine act true (i := 27) (cd := d_B_trip 15) (x := 0) (g := 200) (r := [.int 2, .int 0, .int 1, .int 700, .int 240]) (v := .int 10) rfl rfl rfl rfl rfl (Nat.le_of_ble_eq_true rfl) (fun _ => rfl) (Nat.le_of_ble_eq_true rfl) (Nat.le_of_ble_eq_true rfl) (dz_trip 2 0 1 700 240 (by decide +kernel)) ha ?_
  clear ha
  intro H ha _
  have ha : At H qM11 200 := ha.nrm (by decide +kernel)
  show am_Ev m_L_many WB RO RQ (65, [.ref 38, .int 10], [.int 10], H)
  refine am_Ev_G [66] 3 _ ?_
  show am_Ev m_L_many WB RO RQ (66, [.ref 38, .int 10], [.int 10, .int 10], H)
  refine wk_eq1 rfl rfl ?_
  show am_Ev m_L_many WB RO RQ (71, [.ref 38, .int 10], [], H)
  refine wk_iinc (z := 11) rfl rfl rfl (by decide) ?_
  show am_Ev m_L_many WB RO RQ (74, [.ref 38, .int 11], [], H)
  refine am_Ev_G [13] 5 _ ?_
  show am_Ev m_L_many WB RO RQ (13, [.ref 38, .int 11], [.int 20, .int 11], H)
  refine wk_ge rfl (by decide) ?_
  show am_Ev m_L_many WB RO RQ (16, [.ref 38, .int 11], [], H)
  refine am_Ev_G [19] 5 _ ?_
  show am_Ev m_L_many WB RO RQ (19, [.ref 38, .int 11], [.int 4, .int 11, .ref 38], H)
  refine wk_irem (z := 3) rfl (by decide) (by decide) ?_
  show am_Ev m_L_many WB RO RQ (20, [.ref 38, .int 11], [.int 3, .ref 38], H)
  refine am_Ev_G [24] 5 _ ?_
  show am_Ev m_L_many WB RO RQ (24, [.ref 38, .int 11], [.int 10, .int 11, .int 0, .int 3, .ref 38], H)
  refine wk_ge1 rfl (by decide) ?_
  show am_Ev m_L_many WB RO RQ (31, [.ref 38, .int 11], [.int 0, .int 3, .ref 38], H)
  refine am_Ev_G [35] 5 _ ?_
  show am_Ev m_L_many WB RO RQ (35, [.ref 38, .int 11], [.int 10, .int 11, .int 1, .int 0, .int 3, .ref 38], H)
  refine wk_ge1 rfl (by decide) ?_
  show am_Ev m_L_many WB RO RQ (45, [.ref 38, .int 11], [.int 1, .int 0, .int 3, .ref 38], H)
  refine am_Ev_G [51] 5 _ ?_
  show am_Ev m_L_many WB RO RQ (51, [.ref 38, .int 11], [.int 10, .int 11, .int 700, .int 1, .int 0, .int 3, .ref 38], H)
  refine wk_ge1 rfl (by decide) ?_
  show am_Ev m_L_many WB RO RQ (59, [.ref 38, .int 11], [.int 700, .int 1, .int 0, .int 3, .ref 38], H)
  refine am_Ev_G [62] 3 _ ?_
  show am_Ev m_L_many WB RO RQ (62, [.ref 38, .int 11], [.int 240, .int 700, .int 1, .int 0, .int 3, .ref 38], H)
  refine act true (i := 27) (cd := d_B_trip 15) (x := 0) (g := 200) (r := [.int 3, .int 0, .int 1, .int 700, .int 240]) (v := .int 11) rfl rfl rfl rfl rfl (Nat.le_of_ble_eq_true rfl) (fun _ => rfl) (Nat.le_of_ble_eq_true rfl) (Nat.le_of_ble_eq_true rfl) (dz_trip 3 0 1 700 240 (by decide +kernel)) ha ?_
  clear ha
  intro H ha _
  have ha : At H qM12 200 := ha.nrm (by decide +kernel)
  show am_Ev m_L_many WB RO RQ (65, [.ref 38, .int 11], [.int 11], H)
  refine am_Ev_G [66] 3 _ ?_
  show am_Ev m_L_many WB RO RQ (66, [.ref 38, .int 11], [.int 11, .int 11], H)
  refine wk_eq1 rfl rfl ?_
  show am_Ev m_L_many WB RO RQ (71, [.ref 38, .int 11], [], H)
  refine wk_iinc (z := 12) rfl rfl rfl (by decide) ?_
  show am_Ev m_L_many WB RO RQ (74, [.ref 38, .int 12], [], H)
  refine am_Ev_G [13] 5 _ ?_
  show am_Ev m_L_many WB RO RQ (13, [.ref 38, .int 12], [.int 20, .int 12], H)
  refine wk_ge rfl (by decide) ?_
  show am_Ev m_L_many WB RO RQ (16, [.ref 38, .int 12], [], H)
  refine am_Ev_G [19] 5 _ ?_
  show am_Ev m_L_many WB RO RQ (19, [.ref 38, .int 12], [.int 4, .int 12, .ref 38], H)
  refine wk_irem (z := 0) rfl (by decide) (by decide) ?_
  show am_Ev m_L_many WB RO RQ (20, [.ref 38, .int 12], [.int 0, .ref 38], H)
  refine am_Ev_G [24] 5 _ ?_
  show am_Ev m_L_many WB RO RQ (24, [.ref 38, .int 12], [.int 10, .int 12, .int 0, .int 0, .ref 38], H)
  refine wk_ge1 rfl (by decide) ?_
  show am_Ev m_L_many WB RO RQ (31, [.ref 38, .int 12], [.int 0, .int 0, .ref 38], H)
  refine am_Ev_G [35] 5 _ ?_
  show am_Ev m_L_many WB RO RQ (35, [.ref 38, .int 12], [.int 10, .int 12, .int 1, .int 0, .int 0, .ref 38], H)
  refine wk_ge1 rfl (by decide) ?_
  show am_Ev m_L_many WB RO RQ (45, [.ref 38, .int 12], [.int 1, .int 0, .int 0, .ref 38], H)
  refine am_Ev_G [51] 5 _ ?_
  show am_Ev m_L_many WB RO RQ (51, [.ref 38, .int 12], [.int 10, .int 12, .int 700, .int 1, .int 0, .int 0, .ref 38], H)
  refine wk_ge1 rfl (by decide) ?_
  show am_Ev m_L_many WB RO RQ (59, [.ref 38, .int 12], [.int 700, .int 1, .int 0, .int 0, .ref 38], H)
  refine am_Ev_G [62] 3 _ ?_
  show am_Ev m_L_many WB RO RQ (62, [.ref 38, .int 12], [.int 240, .int 700, .int 1, .int 0, .int 0, .ref 38], H)
  refine act true (i := 27) (cd := d_B_trip 15) (x := 0) (g := 200) (r := [.int 0, .int 0, .int 1, .int 700, .int 240]) (v := .int 12) rfl rfl rfl rfl rfl (Nat.le_of_ble_eq_true rfl) (fun _ => rfl) (Nat.le_of_ble_eq_true rfl) (Nat.le_of_ble_eq_true rfl) (dz_trip 0 0 1 700 240 (by decide +kernel)) ha ?_
  clear ha
  intro H ha _
  have ha : At H qM13 200 := ha.nrm (by decide +kernel)
  show am_Ev m_L_many WB RO RQ (65, [.ref 38, .int 12], [.int 12], H)
  refine am_Ev_G [66] 3 _ ?_
  show am_Ev m_L_many WB RO RQ (66, [.ref 38, .int 12], [.int 12, .int 12], H)
  refine wk_eq1 rfl rfl ?_
  show am_Ev m_L_many WB RO RQ (71, [.ref 38, .int 12], [], H)
  refine wk_iinc (z := 13) rfl rfl rfl (by decide) ?_
  show am_Ev m_L_many WB RO RQ (74, [.ref 38, .int 13], [], H)
  refine am_Ev_G [13] 5 _ ?_
  show am_Ev m_L_many WB RO RQ (13, [.ref 38, .int 13], [.int 20, .int 13], H)
  refine wk_ge rfl (by decide) ?_
  show am_Ev m_L_many WB RO RQ (16, [.ref 38, .int 13], [], H)
  refine am_Ev_G [19] 5 _ ?_
  show am_Ev m_L_many WB RO RQ (19, [.ref 38, .int 13], [.int 4, .int 13, .ref 38], H)
  refine wk_irem (z := 1) rfl (by decide) (by decide) ?_
  show am_Ev m_L_many WB RO RQ (20, [.ref 38, .int 13], [.int 1, .ref 38], H)
  refine am_Ev_G [24] 5 _ ?_
  show am_Ev m_L_many WB RO RQ (24, [.ref 38, .int 13], [.int 10, .int 13, .int 0, .int 1, .ref 38], H)
  refine wk_ge1 rfl (by decide) ?_
  show am_Ev m_L_many WB RO RQ (31, [.ref 38, .int 13], [.int 0, .int 1, .ref 38], H)
  refine am_Ev_G [35] 5 _ ?_
  show am_Ev m_L_many WB RO RQ (35, [.ref 38, .int 13], [.int 10, .int 13, .int 1, .int 0, .int 1, .ref 38], H)
  refine wk_ge1 rfl (by decide) ?_
  show am_Ev m_L_many WB RO RQ (45, [.ref 38, .int 13], [.int 1, .int 0, .int 1, .ref 38], H)
  refine am_Ev_G [51] 5 _ ?_
  show am_Ev m_L_many WB RO RQ (51, [.ref 38, .int 13], [.int 10, .int 13, .int 700, .int 1, .int 0, .int 1, .ref 38], H)
  refine wk_ge1 rfl (by decide) ?_
  show am_Ev m_L_many WB RO RQ (59, [.ref 38, .int 13], [.int 700, .int 1, .int 0, .int 1, .ref 38], H)
  refine am_Ev_G [62] 3 _ ?_
  show am_Ev m_L_many WB RO RQ (62, [.ref 38, .int 13], [.int 240, .int 700, .int 1, .int 0, .int 1, .ref 38], H)
  refine act true (i := 27) (cd := d_B_trip 15) (x := 0) (g := 200) (r := [.int 1, .int 0, .int 1, .int 700, .int 240]) (v := .int 13) rfl rfl rfl rfl rfl (Nat.le_of_ble_eq_true rfl) (fun _ => rfl) (Nat.le_of_ble_eq_true rfl) (Nat.le_of_ble_eq_true rfl) (dz_trip 1 0 1 700 240 (by decide +kernel)) ha ?_
  clear ha
  intro H ha _
  have ha : At H qM14 200 := ha.nrm (by decide +kernel)
  show am_Ev m_L_many WB RO RQ (65, [.ref 38, .int 13], [.int 13], H)
  refine am_Ev_G [66] 3 _ ?_
  show am_Ev m_L_many WB RO RQ (66, [.ref 38, .int 13], [.int 13, .int 13], H)
  refine wk_eq1 rfl rfl ?_
  show am_Ev m_L_many WB RO RQ (71, [.ref 38, .int 13], [], H)
  exact many_c1 ha
