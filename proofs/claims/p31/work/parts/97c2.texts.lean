/-! THE LAW'S run texts, on. -/
set_option maxRecDepth 100000 in
theorem texts_c0 {H : HP} (ha : At H qT0 200) : am_Ev m_L_texts WB RO RQ (8, [.ref 38, .retAddr 0], [], H) := by
  refine am_Ev_G [14] 6 _ ?_
  show am_Ev m_L_texts WB RO RQ (14, [.ref 38, .retAddr 0], [.int 0, .long 0, .long 52, .ref 38], H)
  refine act false (i := 161) (cd := d_L_isError 0) (x := 0) (g := 200) (r := [.long 52, .long 0, .int 0]) (v := .int 1) rfl rfl rfl rfl rfl (Nat.le_of_ble_eq_true rfl) (fun _ => rfl) (Nat.le_of_ble_eq_true rfl) (Nat.le_of_ble_eq_true rfl) (dz_isError (s1 := [52]) (s2 := [52]) (by decide +kernel) (by decide +kernel) (by decide +kernel)) ha ?_
  clear ha
  intro H ha _
  have ha : At H qT1 200 := ha
  show am_Ev m_L_texts WB RO RQ (17, [.ref 38, .retAddr 0], [.int 1], H)
  refine wk_ifeq rfl (by decide) ?_
  show am_Ev m_L_texts WB RO RQ (20, [.ref 38, .retAddr 0], [], H)
  refine am_Ev_G [26] 6 _ ?_
  show am_Ev m_L_texts WB RO RQ (26, [.ref 38, .retAddr 0], [.int 2, .long 0, .long 52983793462065, .ref 38], H)
  refine act false (i := 161) (cd := d_L_isError 0) (x := 0) (g := 200) (r := [.long 52983793462065, .long 0, .int 2]) (v := .int 1) rfl rfl rfl rfl rfl (Nat.le_of_ble_eq_true rfl) (fun _ => rfl) (Nat.le_of_ble_eq_true rfl) (Nat.le_of_ble_eq_true rfl) (dz_isError (s1 := [48, 48, 64, 48, 43, 49]) (s2 := [48, 48, 64, 48, 43, 49]) (by decide +kernel) (by decide +kernel) (by decide +kernel)) ha ?_
  clear ha
  intro H ha _
  have ha : At H qT2 200 := ha
  show am_Ev m_L_texts WB RO RQ (29, [.ref 38, .retAddr 0], [.int 1], H)
  refine wk_ifeq rfl (by decide) ?_
  show am_Ev m_L_texts WB RO RQ (32, [.ref 38, .retAddr 0], [], H)
  refine am_Ev_G [38] 6 _ ?_
  show am_Ev m_L_texts WB RO RQ (38, [.ref 38, .retAddr 0], [.int 5, .long 0, .long 52983526076465, .ref 38], H)
  refine act false (i := 161) (cd := d_L_isError 0) (x := 0) (g := 200) (r := [.long 52983526076465, .long 0, .int 5]) (v := .int 1) rfl rfl rfl rfl rfl (Nat.le_of_ble_eq_true rfl) (fun _ => rfl) (Nat.le_of_ble_eq_true rfl) (Nat.le_of_ble_eq_true rfl) (dz_isError (s1 := [48, 48, 48, 64, 48, 49]) (s2 := [48, 48, 48, 64, 48, 49]) (by decide +kernel) (by decide +kernel) (by decide +kernel)) ha ?_
  clear ha
  intro H ha _
  have ha : At H qT3 200 := ha
  show am_Ev m_L_texts WB RO RQ (41, [.ref 38, .retAddr 0], [.int 1], H)
  refine wk_ifeq rfl (by decide) ?_
  show am_Ev m_L_texts WB RO RQ (44, [.ref 38, .retAddr 0], [], H)
  refine am_Ev_G [51] 6 _ ?_
  show am_Ev m_L_texts WB RO RQ (51, [.ref 38, .retAddr 0], [.int 7, .long 0, .long 3472328364964197424, .ref 38], H)
  refine act false (i := 161) (cd := d_L_isError 0) (x := 0) (g := 200) (r := [.long 3472328364964197424, .long 0, .int 7]) (v := .int 1) rfl rfl rfl rfl rfl (Nat.le_of_ble_eq_true rfl) (fun _ => rfl) (Nat.le_of_ble_eq_true rfl) (Nat.le_of_ble_eq_true rfl) (dz_isError (s1 := [48, 48, 48, 64, 49, 52, 52, 48]) (s2 := [48, 48, 48, 64, 49, 52, 52, 48]) (by decide +kernel) (by decide +kernel) (by decide +kernel)) ha ?_
  clear ha
  intro H ha _
  have ha : At H qT4 200 := ha
  show am_Ev m_L_texts WB RO RQ (54, [.ref 38, .retAddr 0], [.int 1], H)
  refine wk_ifeq rfl (by decide) ?_
  show am_Ev m_L_texts WB RO RQ (57, [.ref 38, .retAddr 0], [], H)
  refine am_Ev_G [64] 6 _ ?_
  show am_Ev m_L_texts WB RO RQ (64, [.ref 38, .retAddr 0], [.int 6, .long 0, .long 13563782675901232, .ref 38], H)
  refine act false (i := 161) (cd := d_L_isError 0) (x := 0) (g := 200) (r := [.long 13563782675901232, .long 0, .int 6]) (v := .int 1) rfl rfl rfl rfl rfl (Nat.le_of_ble_eq_true rfl) (fun _ => rfl) (Nat.le_of_ble_eq_true rfl) (Nat.le_of_ble_eq_true rfl) (dz_isError (s1 := [48, 48, 48, 64, 53, 43, 48]) (s2 := [48, 48, 48, 64, 53, 43, 48]) (by decide +kernel) (by decide +kernel) (by decide +kernel)) ha ?_
  clear ha
  intro H ha _
  have ha : At H qT5 200 := ha
  show am_Ev m_L_texts WB RO RQ (67, [.ref 38, .retAddr 0], [.int 1], H)
  refine wk_ifeq rfl (by decide) ?_
  show am_Ev m_L_texts WB RO RQ (70, [.ref 38, .retAddr 0], [], H)
  refine am_Ev_G [79] 6 _ ?_
  show am_Ev m_L_texts WB RO RQ (79, [.ref 38, .retAddr 0], [.int 8, .long 49, .long 3472328365030715956, .ref 38], H)
  refine act false (i := 161) (cd := d_L_isError 0) (x := 0) (g := 200) (r := [.long 3472328365030715956, .long 49, .int 8]) (v := .int 1) rfl rfl rfl rfl rfl (Nat.le_of_ble_eq_true rfl) (fun _ => rfl) (Nat.le_of_ble_eq_true rfl) (Nat.le_of_ble_eq_true rfl) (dz_isError (s1 := [48, 48, 48, 64, 53, 43, 50, 52]) (s2 := [48, 48, 48, 64, 53, 43, 50, 52, 49]) (by decide +kernel) (by decide +kernel) (by decide +kernel)) ha ?_
  clear ha
  intro H ha _
  have ha : At H qT6 200 := ha
  show am_Ev m_L_texts WB RO RQ (82, [.ref 38, .retAddr 0], [.int 1], H)
  refine wk_ifeq rfl (by decide) ?_
  show am_Ev m_L_texts WB RO RQ (85, [.ref 38, .retAddr 0], [], H)
  refine am_Ev_G [91] 6 _ ?_
  show am_Ev m_L_texts WB RO RQ (91, [.ref 38, .retAddr 0], [.int 5, .long 0, .long 206966898741, .ref 38], H)
  refine act false (i := 161) (cd := d_L_isError 0) (x := 0) (g := 200) (r := [.long 206966898741, .long 0, .int 5]) (v := .int 1) rfl rfl rfl rfl rfl (Nat.le_of_ble_eq_true rfl) (fun _ => rfl) (Nat.le_of_ble_eq_true rfl) (Nat.le_of_ble_eq_true rfl) (dz_isError (s1 := [48, 48, 48, 64, 53]) (s2 := [48, 48, 48, 64, 53]) (by decide +kernel) (by decide +kernel) (by decide +kernel)) ha ?_
  clear ha
  intro H ha _
  have ha : At H qT7 200 := ha
  show am_Ev m_L_texts WB RO RQ (94, [.ref 38, .retAddr 0], [.int 1], H)
  refine wk_ifeq rfl (by decide) ?_
  show am_Ev m_L_texts WB RO RQ (97, [.ref 38, .retAddr 0], [], H)
  refine am_Ev_G [104] 6 _ ?_
  show am_Ev m_L_texts WB RO RQ (104, [.ref 38, .retAddr 0], [.int 8, .long 0, .long 3472328365030715707, .ref 38], H)
  refine act false (i := 161) (cd := d_L_isError 0) (x := 0) (g := 200) (r := [.long 3472328365030715707, .long 0, .int 8]) (v := .int 1) rfl rfl rfl rfl rfl (Nat.le_of_ble_eq_true rfl) (fun _ => rfl) (Nat.le_of_ble_eq_true rfl) (Nat.le_of_ble_eq_true rfl) (dz_isError (s1 := [48, 48, 48, 64, 53, 43, 49, 59]) (s2 := [48, 48, 48, 64, 53, 43, 49, 59]) (by decide +kernel) (by decide +kernel) (by decide +kernel)) ha ?_
  clear ha
  intro H ha _
  have ha : At H qT8 200 := ha
  show am_Ev m_L_texts WB RO RQ (107, [.ref 38, .retAddr 0], [.int 1], H)
  refine wk_ifeq rfl (by decide) ?_
  show am_Ev m_L_texts WB RO RQ (110, [.ref 38, .retAddr 0], [], H)
  refine am_Ev_G [114] 6 _ ?_
  show am_Ev m_L_texts WB RO RQ (114, [.ref 38, .retAddr 0], [.int 0, .long 0, .long 0, .ref 38], H)
  refine act false (i := 161) (cd := d_L_isError 0) (x := 0) (g := 200) (r := [.long 0, .long 0, .int 0]) (v := .int 1) rfl rfl rfl rfl rfl (Nat.le_of_ble_eq_true rfl) (fun _ => rfl) (Nat.le_of_ble_eq_true rfl) (Nat.le_of_ble_eq_true rfl) (dz_isError (s1 := []) (s2 := []) (by decide +kernel) (by decide +kernel) (by decide +kernel)) ha ?_
  clear ha
  intro H ha _
  have ha : At H qT9 200 := ha
  show am_Ev m_L_texts WB RO RQ (117, [.ref 38, .retAddr 0], [.int 1], H)
  refine wk_ifne1 rfl (by decide) ?_
  show am_Ev m_L_texts WB RO RQ (122, [.ref 38, .retAddr 0], [], H)
  refine am_Ev_G [129] 6 _ ?_
  show am_Ev m_L_texts WB RO RQ (129, [.ref 38, .retAddr 0], [.int 7, .long 0, .long 13563782675573553, .ref 38], H)
  refine act false (i := 161) (cd := d_L_isError 0) (x := 0) (g := 200) (r := [.long 13563782675573553, .long 0, .int 7]) (v := .int 1) rfl rfl rfl rfl rfl (Nat.le_of_ble_eq_true rfl) (fun _ => rfl) (Nat.le_of_ble_eq_true rfl) (Nat.le_of_ble_eq_true rfl) (dz_isError (s1 := [48, 48, 48, 64, 48, 43, 49]) (s2 := [48, 48, 48, 64, 48, 43, 49]) (by decide +kernel) (by decide +kernel) (by decide +kernel)) ha ?_
  clear ha
  intro H ha _
  have ha : At H qT10 200 := ha
  show am_Ev m_L_texts WB RO RQ (132, [.ref 38, .retAddr 0], [.int 1], H)
  refine wk_ifeq rfl (by decide) ?_
  show am_Ev m_L_texts WB RO RQ (135, [.ref 38, .retAddr 0], [], H)
  refine am_Ev_G [144] 6 _ ?_
  show am_Ev m_L_texts WB RO RQ (144, [.ref 38, .retAddr 0], [.int 12, .long 724710448, .long 3689348870542996281, .ref 38], H)
  refine act false (i := 161) (cd := d_L_isError 0) (x := 0) (g := 200) (r := [.long 3689348870542996281, .long 724710448, .int 12]) (v := .int 1) rfl rfl rfl rfl rfl (Nat.le_of_ble_eq_true rfl) (fun _ => rfl) (Nat.le_of_ble_eq_true rfl) (Nat.le_of_ble_eq_true rfl) (dz_isError (s1 := [51, 51, 51, 64, 49, 52, 51, 57]) (s2 := [51, 51, 51, 64, 49, 52, 51, 57, 43, 50, 52, 48]) (by decide +kernel) (by decide +kernel) (by decide +kernel)) ha ?_
  clear ha
  intro H ha _
  have ha : At H qT11 200 := ha
  show am_Ev m_L_texts WB RO RQ (147, [.ref 38, .retAddr 0], [.int 1], H)
  refine wk_ifeq rfl (by decide) ?_
  show am_Ev m_L_texts WB RO RQ (150, [.ref 38, .retAddr 0], [], H)
  refine am_Ev_G [156] 6 _ ?_
  show am_Ev m_L_texts WB RO RQ (156, [.ref 38, .retAddr 0], [.int 2, .long 0, .long 207017492529, .ref 38], H)
  refine act false (i := 161) (cd := d_L_isError 0) (x := 0) (g := 200) (r := [.long 207017492529, .long 0, .int 2]) (v := .int 1) rfl rfl rfl rfl rfl (Nat.le_of_ble_eq_true rfl) (fun _ => rfl) (Nat.le_of_ble_eq_true rfl) (Nat.le_of_ble_eq_true rfl) (dz_isError (s1 := [48, 51, 52, 64, 49]) (s2 := [48, 51, 52, 64, 49]) (by decide +kernel) (by decide +kernel) (by decide +kernel)) ha ?_
  clear ha
  intro H ha _
  have ha : At H qT12 200 := ha
  show am_Ev m_L_texts WB RO RQ (159, [.ref 38, .retAddr 0], [.int 1], H)
  refine wk_ifeq rfl (by decide) ?_
  show am_Ev m_L_texts WB RO RQ (162, [.ref 38, .retAddr 0], [], H)
  refine am_Ev_G [168] 6 _ ?_
  show am_Ev m_L_texts WB RO RQ (168, [.ref 38, .retAddr 0], [.int 3, .long 0, .long 808464427, .ref 38], H)
  refine act false (i := 161) (cd := d_L_isError 0) (x := 0) (g := 200) (r := [.long 808464427, .long 0, .int 3]) (v := .int 1) rfl rfl rfl rfl rfl (Nat.le_of_ble_eq_true rfl) (fun _ => rfl) (Nat.le_of_ble_eq_true rfl) (Nat.le_of_ble_eq_true rfl) (dz_isError (s1 := [48, 48, 48, 43]) (s2 := [48, 48, 48, 43]) (by decide +kernel) (by decide +kernel) (by decide +kernel)) ha ?_
  clear ha
  intro H ha _
  have ha : At H qT13 200 := ha
  show am_Ev m_L_texts WB RO RQ (171, [.ref 38, .retAddr 0], [.int 1], H)
  refine wk_ifeq rfl (by decide) ?_
  show am_Ev m_L_texts WB RO RQ (174, [.ref 38, .retAddr 0], [], H)
  refine am_Ev_G [180] 6 _ ?_
  show am_Ev m_L_texts WB RO RQ (180, [.ref 38, .retAddr 0], [.int 4, .long 0, .long 206966898731, .ref 38], H)
  refine act false (i := 161) (cd := d_L_isError 0) (x := 0) (g := 200) (r := [.long 206966898731, .long 0, .int 4]) (v := .int 1) rfl rfl rfl rfl rfl (Nat.le_of_ble_eq_true rfl) (fun _ => rfl) (Nat.le_of_ble_eq_true rfl) (Nat.le_of_ble_eq_true rfl) (dz_isError (s1 := [48, 48, 48, 64, 43]) (s2 := [48, 48, 48, 64, 43]) (by decide +kernel) (by decide +kernel) (by decide +kernel)) ha ?_
  clear ha
  intro H ha _
  have ha : At H qT14 200 := ha
  show am_Ev m_L_texts WB RO RQ (183, [.ref 38, .retAddr 0], [.int 1], H)
  refine wk_ifeq rfl (by decide) ?_
  show am_Ev m_L_texts WB RO RQ (186, [.ref 38, .retAddr 0], [], H)
  exact texts_c1 ha
