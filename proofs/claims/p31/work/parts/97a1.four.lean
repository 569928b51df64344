/-! THE LAW'S run four, on. -/
set_option maxRecDepth 100000 in
theorem four_c9 {H : HP} (ha : At H qF31 699) : am_Ev m_L_four WB RO RQ (1357, [.ref 38], [], H) := by
  refine am_Ev_G [1361] 5 _ ?_
  show am_Ev m_L_four WB RO RQ (1361, [.ref 38], [.int 6, .int 0, .ref 38], H)
  refine act true (i := 68) (cd := d_B_tripOf 15) (x := 0) (g := 699) (r := [.int 0, .int 6]) (v := .int (-1 : Int32)) rfl rfl rfl rfl rfl (Nat.le_of_ble_eq_true rfl) (fun _ => rfl) (Nat.le_of_ble_eq_true rfl) (Nat.le_of_ble_eq_true rfl) (dz_tripOf 0 6 (by decide +kernel)) ha ?_
  clear ha
  intro H ha _
  show am_Ev m_L_four WB RO RQ (1364, [.ref 38], [.int (-1 : Int32)], H)
  refine am_Ev_G [1365] 3 _ ?_
  show am_Ev m_L_four WB RO RQ (1365, [.ref 38], [.int (-1 : Int32), .int (-1 : Int32)], H)
  refine wk_ne rfl rfl ?_
  show am_Ev m_L_four WB RO RQ (1368, [.ref 38], [], H)
  refine am_Ev_G [1370] 4 _ ?_
  show am_Ev m_L_four WB RO RQ (1370, [.ref 38], [.int 2, .ref 38], H)
  refine act true (i := 78) (cd := d_B_count 15) (x := 0) (g := 699) (r := [.int 2]) (v := .int 4) rfl rfl rfl rfl rfl (Nat.le_of_ble_eq_true rfl) (fun _ => rfl) (Nat.le_of_ble_eq_true rfl) (Nat.le_of_ble_eq_true rfl) (dz_count 2 (by decide +kernel)) ha ?_
  clear ha
  intro H ha _
  show am_Ev m_L_four WB RO RQ (1373, [.ref 38], [.int 4], H)
  refine am_Ev_G [1374] 3 _ ?_
  show am_Ev m_L_four WB RO RQ (1374, [.ref 38], [.int 4, .int 4], H)
  refine wk_ne rfl rfl ?_
  show am_Ev m_L_four WB RO RQ (1377, [.ref 38], [], H)
  refine am_Ev_G [1378] 3 _ ?_
  show am_Ev m_L_four WB RO RQ (1378, [.ref 38], [.ref 38], H)
  refine act true (i := 62) (cd := d_B_undo 15) (x := 0) (g := 699) (r := []) (v := .int 5) rfl rfl rfl rfl rfl (Nat.le_of_ble_eq_true rfl) (fun _ => rfl) (Nat.le_of_ble_eq_true rfl) (Nat.le_of_ble_eq_true rfl) (dz_undo (by decide +kernel)) ha ?_
  clear ha
  intro H ha _
  have ha : At H qF32 699 := ha
  show am_Ev m_L_four WB RO RQ (1381, [.ref 38], [.int 5], H)
  refine am_Ev_G [1382] 3 _ ?_
  show am_Ev m_L_four WB RO RQ (1382, [.ref 38], [.int 5, .int 5], H)
  refine wk_ne rfl rfl ?_
  show am_Ev m_L_four WB RO RQ (1385, [.ref 38], [], H)
  refine am_Ev_G [1387] 4 _ ?_
  show am_Ev m_L_four WB RO RQ (1387, [.ref 38], [.int 1, .ref 38], H)
  refine act true (i := 40) (cd := d_B_part 15) (x := 0) (g := 699) (r := [.int 1]) (v := .int 3) rfl rfl rfl rfl rfl (Nat.le_of_ble_eq_true rfl) (fun _ => rfl) (Nat.le_of_ble_eq_true rfl) (Nat.le_of_ble_eq_true rfl) (dz_part 1 (by decide +kernel)) ha ?_
  clear ha
  intro H ha _
  have ha : At H qF33 699 := ha.nrm (by decide +kernel)
  show am_Ev m_L_four WB RO RQ (1390, [.ref 38], [.int 3], H)
  refine am_Ev_G [1391] 3 _ ?_
  show am_Ev m_L_four WB RO RQ (1391, [.ref 38], [.int 3, .int 3], H)
  refine wk_ne rfl rfl ?_
  show am_Ev m_L_four WB RO RQ (1394, [.ref 38], [], H)
  refine am_Ev_G [1396] 4 _ ?_
  show am_Ev m_L_four WB RO RQ (1396, [.ref 38], [.int 2, .ref 38], H)
  refine act true (i := 78) (cd := d_B_count 15) (x := 0) (g := 699) (r := [.int 2]) (v := .int 3) rfl rfl rfl rfl rfl (Nat.le_of_ble_eq_true rfl) (fun _ => rfl) (Nat.le_of_ble_eq_true rfl) (Nat.le_of_ble_eq_true rfl) (dz_count 2 (by decide +kernel)) ha ?_
  clear ha
  intro H ha _
  show am_Ev m_L_four WB RO RQ (1399, [.ref 38], [.int 3], H)
  refine am_Ev_G [1400] 3 _ ?_
  show am_Ev m_L_four WB RO RQ (1400, [.ref 38], [.int 3, .int 3], H)
  refine wk_ne rfl rfl ?_
  show am_Ev m_L_four WB RO RQ (1403, [.ref 38], [], H)
  refine am_Ev_G [1408] 4 _ ?_
  show am_Ev m_L_four WB RO RQ (1408, [.ref 38], [.int 1], H)
  exact wk_ret rfl rfl (.inr rfl) ⟨rfl, by rw [ha.2, nI_clamp (by omega)]; omega⟩
set_option maxRecDepth 100000 in
theorem four_c8 {H : HP} (ha : At H qF27 699) : am_Ev m_L_four WB RO RQ (1200, [.ref 38], [], H) := by
  refine am_Ev_G [1204] 5 _ ?_
  show am_Ev m_L_four WB RO RQ (1204, [.ref 38], [.int 120, .int 4, .ref 38], H)
  refine act true (i := 90) (cd := d_B_bestTime 15) (x := 0) (g := 699) (r := [.int 4, .int 120]) (v := .int 635) rfl rfl rfl rfl rfl (Nat.le_of_ble_eq_true rfl) (fun _ => rfl) (Nat.le_of_ble_eq_true rfl) (Nat.le_of_ble_eq_true rfl) (dz_bestTime 4 120 (by decide +kernel)) ha ?_
  clear ha
  intro H ha _
  show am_Ev m_L_four WB RO RQ (1207, [.ref 38], [.int 635], H)
  refine am_Ev_G [1210] 3 _ ?_
  show am_Ev m_L_four WB RO RQ (1210, [.ref 38], [.int 635, .int 635], H)
  refine wk_ne rfl rfl ?_
  show am_Ev m_L_four WB RO RQ (1213, [.ref 38], [], H)
  refine am_Ev_G [1217] 5 _ ?_
  show am_Ev m_L_four WB RO RQ (1217, [.ref 38], [.int 60, .int 1, .ref 38], H)
  refine act true (i := 17) (cd := d_B_layover 15) (x := 0) (g := 699) (r := [.int 1, .int 60]) (v := .int 5) rfl rfl rfl rfl rfl (Nat.le_of_ble_eq_true rfl) (fun _ => rfl) (Nat.le_of_ble_eq_true rfl) (Nat.le_of_ble_eq_true rfl) (dz_layover 1 60 (by decide +kernel)) ha ?_
  clear ha
  intro H ha _
  have ha : At H qF28 699 := ha.nrm (by decide +kernel)
  show am_Ev m_L_four WB RO RQ (1220, [.ref 38], [.int 5], H)
  refine am_Ev_G [1221] 3 _ ?_
  show am_Ev m_L_four WB RO RQ (1221, [.ref 38], [.int 5, .int 5], H)
  refine wk_ne rfl rfl ?_
  show am_Ev m_L_four WB RO RQ (1224, [.ref 38], [], H)
  refine am_Ev_G [1228] 5 _ ?_
  show am_Ev m_L_four WB RO RQ (1228, [.ref 38], [.int 40, .int 4, .ref 38], H)
  refine act true (i := 90) (cd := d_B_bestTime 15) (x := 0) (g := 699) (r := [.int 4, .int 40]) (v := .int 634) rfl rfl rfl rfl rfl (Nat.le_of_ble_eq_true rfl) (fun _ => rfl) (Nat.le_of_ble_eq_true rfl) (Nat.le_of_ble_eq_true rfl) (dz_bestTime 4 40 (by decide +kernel)) ha ?_
  clear ha
  intro H ha _
  show am_Ev m_L_four WB RO RQ (1231, [.ref 38], [.int 634], H)
  refine am_Ev_G [1234] 3 _ ?_
  show am_Ev m_L_four WB RO RQ (1234, [.ref 38], [.int 634, .int 634], H)
  refine wk_ne rfl rfl ?_
  show am_Ev m_L_four WB RO RQ (1237, [.ref 38], [], H)
  refine am_Ev_G [1241] 5 _ ?_
  show am_Ev m_L_four WB RO RQ (1241, [.ref 38], [.int 60, .int 4, .ref 38], H)
  refine act true (i := 90) (cd := d_B_bestTime 15) (x := 0) (g := 699) (r := [.int 4, .int 60]) (v := .int 585) rfl rfl rfl rfl rfl (Nat.le_of_ble_eq_true rfl) (fun _ => rfl) (Nat.le_of_ble_eq_true rfl) (Nat.le_of_ble_eq_true rfl) (dz_bestTime 4 60 (by decide +kernel)) ha ?_
  clear ha
  intro H ha _
  show am_Ev m_L_four WB RO RQ (1244, [.ref 38], [.int 585], H)
  refine am_Ev_G [1247] 3 _ ?_
  show am_Ev m_L_four WB RO RQ (1247, [.ref 38], [.int 585, .int 585], H)
  refine wk_ne rfl rfl ?_
  show am_Ev m_L_four WB RO RQ (1250, [.ref 38], [], H)
  refine am_Ev_G [1253] 5 _ ?_
  show am_Ev m_L_four WB RO RQ (1253, [.ref 38], [.int 0, .int 1, .ref 38], H)
  refine act true (i := 17) (cd := d_B_layover 15) (x := 0) (g := 699) (r := [.int 1, .int 0]) (v := .int 60) rfl rfl rfl rfl rfl (Nat.le_of_ble_eq_true rfl) (fun _ => rfl) (Nat.le_of_ble_eq_true rfl) (Nat.le_of_ble_eq_true rfl) (dz_layover 1 0 (by decide +kernel)) ha ?_
  clear ha
  intro H ha _
  have ha : At H qF29 699 := ha.nrm (by decide +kernel)
  show am_Ev m_L_four WB RO RQ (1256, [.ref 38], [.int 60], H)
  refine am_Ev_G [1258] 3 _ ?_
  show am_Ev m_L_four WB RO RQ (1258, [.ref 38], [.int 60, .int 60], H)
  refine wk_ne rfl rfl ?_
  show am_Ev m_L_four WB RO RQ (1261, [.ref 38], [], H)
  refine am_Ev_G [1265] 5 _ ?_
  show am_Ev m_L_four WB RO RQ (1265, [.ref 38], [.int 60, .int 4, .ref 38], H)
  refine act true (i := 90) (cd := d_B_bestTime 15) (x := 0) (g := 699) (r := [.int 4, .int 60]) (v := .int 634) rfl rfl rfl rfl rfl (Nat.le_of_ble_eq_true rfl) (fun _ => rfl) (Nat.le_of_ble_eq_true rfl) (Nat.le_of_ble_eq_true rfl) (dz_bestTime 4 60 (by decide +kernel)) ha ?_
  clear ha
  intro H ha _
  show am_Ev m_L_four WB RO RQ (1268, [.ref 38], [.int 634], H)
  refine am_Ev_G [1271] 3 _ ?_
  show am_Ev m_L_four WB RO RQ (1271, [.ref 38], [.int 634, .int 634], H)
  refine wk_ne rfl rfl ?_
  show am_Ev m_L_four WB RO RQ (1274, [.ref 38], [], H)
  refine am_Ev_G [1276] 4 _ ?_
  show am_Ev m_L_four WB RO RQ (1276, [.ref 38], [.int 4, .ref 38], H)
  refine act true (i := 78) (cd := d_B_count 15) (x := 0) (g := 699) (r := [.int 4]) (v := .int 1) rfl rfl rfl rfl rfl (Nat.le_of_ble_eq_true rfl) (fun _ => rfl) (Nat.le_of_ble_eq_true rfl) (Nat.le_of_ble_eq_true rfl) (dz_count 4 (by decide +kernel)) ha ?_
  clear ha
  intro H ha _
  show am_Ev m_L_four WB RO RQ (1279, [.ref 38], [.int 1], H)
  refine am_Ev_G [1280] 3 _ ?_
  show am_Ev m_L_four WB RO RQ (1280, [.ref 38], [.int 1, .int 1], H)
  refine wk_eq1 rfl rfl ?_
  show am_Ev m_L_four WB RO RQ (1285, [.ref 38], [], H)
  refine am_Ev_G [1287] 4 _ ?_
  show am_Ev m_L_four WB RO RQ (1287, [.ref 38], [.int 1, .ref 38], H)
  refine act true (i := 59) (cd := d_B_goBack 15) (x := 0) (g := 699) (r := [.int 1]) (v := .int 4) rfl rfl rfl rfl rfl (Nat.le_of_ble_eq_true rfl) (fun _ => rfl) (Nat.le_of_ble_eq_true rfl) (Nat.le_of_ble_eq_true rfl) (dz_goBack 1 (by decide +kernel)) ha ?_
  clear ha
  intro H ha _
  have ha : At H qF30 699 := ha
  show am_Ev m_L_four WB RO RQ (1290, [.ref 38], [.int 4], H)
  refine am_Ev_G [1291] 3 _ ?_
  show am_Ev m_L_four WB RO RQ (1291, [.ref 38], [.int 4, .int 4], H)
  refine wk_ne rfl rfl ?_
  show am_Ev m_L_four WB RO RQ (1294, [.ref 38], [], H)
  refine am_Ev_G [1297] 4 _ ?_
  show am_Ev m_L_four WB RO RQ (1297, [.ref 38], [.int 6, .ref 38], H)
  refine act true (i := 78) (cd := d_B_count 15) (x := 0) (g := 699) (r := [.int 6]) (v := .int 0) rfl rfl rfl rfl rfl (Nat.le_of_ble_eq_true rfl) (fun _ => rfl) (Nat.le_of_ble_eq_true rfl) (Nat.le_of_ble_eq_true rfl) (dz_count 6 (by decide +kernel)) ha ?_
  clear ha
  intro H ha _
  show am_Ev m_L_four WB RO RQ (1300, [.ref 38], [.int 0], H)
  refine wk_ifne rfl rfl ?_
  show am_Ev m_L_four WB RO RQ (1303, [.ref 38], [], H)
  refine am_Ev_G [1305] 4 _ ?_
  show am_Ev m_L_four WB RO RQ (1305, [.ref 38], [.int 5, .ref 38], H)
  refine act true (i := 78) (cd := d_B_count 15) (x := 0) (g := 699) (r := [.int 5]) (v := .int 1) rfl rfl rfl rfl rfl (Nat.le_of_ble_eq_true rfl) (fun _ => rfl) (Nat.le_of_ble_eq_true rfl) (Nat.le_of_ble_eq_true rfl) (dz_count 5 (by decide +kernel)) ha ?_
  clear ha
  intro H ha _
  show am_Ev m_L_four WB RO RQ (1308, [.ref 38], [.int 1], H)
  refine am_Ev_G [1309] 3 _ ?_
  show am_Ev m_L_four WB RO RQ (1309, [.ref 38], [.int 1, .int 1], H)
  refine wk_ne rfl rfl ?_
  show am_Ev m_L_four WB RO RQ (1312, [.ref 38], [], H)
  refine am_Ev_G [1315] 5 _ ?_
  show am_Ev m_L_four WB RO RQ (1315, [.ref 38], [.int 5, .int 3, .ref 38], H)
  refine act true (i := 68) (cd := d_B_tripOf 15) (x := 0) (g := 699) (r := [.int 3, .int 5]) (v := .int 1) rfl rfl rfl rfl rfl (Nat.le_of_ble_eq_true rfl) (fun _ => rfl) (Nat.le_of_ble_eq_true rfl) (Nat.le_of_ble_eq_true rfl) (dz_tripOf 3 5 (by decide +kernel)) ha ?_
  clear ha
  intro H ha _
  show am_Ev m_L_four WB RO RQ (1318, [.ref 38], [.int 1], H)
  refine am_Ev_G [1319] 3 _ ?_
  show am_Ev m_L_four WB RO RQ (1319, [.ref 38], [.int 1, .int 1], H)
  refine wk_ne rfl rfl ?_
  show am_Ev m_L_four WB RO RQ (1322, [.ref 38], [], H)
  refine am_Ev_G [1327] 5 _ ?_
  show am_Ev m_L_four WB RO RQ (1327, [.ref 38], [.int 640, .int 1, .ref 38], H)
  refine act true (i := 31) (cd := d_B_shift 15) (x := 0) (g := 699) (r := [.int 1, .int 640]) (v := .int 640) rfl rfl rfl rfl rfl (Nat.le_of_ble_eq_true rfl) (fun _ => rfl) (Nat.le_of_ble_eq_true rfl) (Nat.le_of_ble_eq_true rfl) (dz_shift 1 640 (by decide +kernel)) ha ?_
  clear ha
  intro H ha _
  have ha : At H qF31 699 := ha.nrm (by decide +kernel)
  show am_Ev m_L_four WB RO RQ (1330, [.ref 38], [.int 640], H)
  refine am_Ev_G [1333] 3 _ ?_
  show am_Ev m_L_four WB RO RQ (1333, [.ref 38], [.int 640, .int 640], H)
  refine wk_ne rfl rfl ?_
  show am_Ev m_L_four WB RO RQ (1336, [.ref 38], [], H)
  refine am_Ev_G [1339] 5 _ ?_
  show am_Ev m_L_four WB RO RQ (1339, [.ref 38], [.int 5, .int 1, .ref 38], H)
  refine act true (i := 68) (cd := d_B_tripOf 15) (x := 0) (g := 699) (r := [.int 1, .int 5]) (v := .int (-1 : Int32)) rfl rfl rfl rfl rfl (Nat.le_of_ble_eq_true rfl) (fun _ => rfl) (Nat.le_of_ble_eq_true rfl) (Nat.le_of_ble_eq_true rfl) (dz_tripOf 1 5 (by decide +kernel)) ha ?_
  clear ha
  intro H ha _
  show am_Ev m_L_four WB RO RQ (1342, [.ref 38], [.int (-1 : Int32)], H)
  refine am_Ev_G [1343] 3 _ ?_
  show am_Ev m_L_four WB RO RQ (1343, [.ref 38], [.int (-1 : Int32), .int (-1 : Int32)], H)
  refine wk_ne rfl rfl ?_
  show am_Ev m_L_four WB RO RQ (1346, [.ref 38], [], H)
  refine am_Ev_G [1350] 5 _ ?_
  show am_Ev m_L_four WB RO RQ (1350, [.ref 38], [.int 6, .int 1, .ref 38], H)
  refine act true (i := 68) (cd := d_B_tripOf 15) (x := 0) (g := 699) (r := [.int 1, .int 6]) (v := .int (-1 : Int32)) rfl rfl rfl rfl rfl (Nat.le_of_ble_eq_true rfl) (fun _ => rfl) (Nat.le_of_ble_eq_true rfl) (Nat.le_of_ble_eq_true rfl) (dz_tripOf 1 6 (by decide +kernel)) ha ?_
  clear ha
  intro H ha _
  show am_Ev m_L_four WB RO RQ (1353, [.ref 38], [.int (-1 : Int32)], H)
  refine am_Ev_G [1354] 3 _ ?_
  show am_Ev m_L_four WB RO RQ (1354, [.ref 38], [.int (-1 : Int32), .int (-1 : Int32)], H)
  refine wk_ne rfl rfl ?_
  show am_Ev m_L_four WB RO RQ (1357, [.ref 38], [], H)
  exact four_c9 ha
set_option maxRecDepth 100000 in
theorem four_c7 {H : HP} (ha : At H qF24 535) : am_Ev m_L_four WB RO RQ (1037, [.ref 38], [], H) := by
  refine am_Ev_G [1040] 4 _ ?_
  show am_Ev m_L_four WB RO RQ (1040, [.ref 38], [.int 6, .ref 38], H)
  refine act true (i := 78) (cd := d_B_count 15) (x := 0) (g := 535) (r := [.int 6]) (v := .int 2) rfl rfl rfl rfl rfl (Nat.le_of_ble_eq_true rfl) (fun _ => rfl) (Nat.le_of_ble_eq_true rfl) (Nat.le_of_ble_eq_true rfl) (dz_count 6 (by decide +kernel)) ha ?_
  clear ha
  intro H ha _
  show am_Ev m_L_four WB RO RQ (1043, [.ref 38], [.int 2], H)
  refine am_Ev_G [1044] 3 _ ?_
  show am_Ev m_L_four WB RO RQ (1044, [.ref 38], [.int 2, .int 2], H)
  refine wk_ne rfl rfl ?_
  show am_Ev m_L_four WB RO RQ (1047, [.ref 38], [], H)
  refine am_Ev_G [1049] 4 _ ?_
  show am_Ev m_L_four WB RO RQ (1049, [.ref 38], [.int 1, .ref 38], H)
  refine act true (i := 78) (cd := d_B_count 15) (x := 0) (g := 535) (r := [.int 1]) (v := .int 1) rfl rfl rfl rfl rfl (Nat.le_of_ble_eq_true rfl) (fun _ => rfl) (Nat.le_of_ble_eq_true rfl) (Nat.le_of_ble_eq_true rfl) (dz_count 1 (by decide +kernel)) ha ?_
  clear ha
  intro H ha _
  show am_Ev m_L_four WB RO RQ (1052, [.ref 38], [.int 1], H)
  refine am_Ev_G [1053] 3 _ ?_
  show am_Ev m_L_four WB RO RQ (1053, [.ref 38], [.int 1, .int 1], H)
  refine wk_ne rfl rfl ?_
  show am_Ev m_L_four WB RO RQ (1056, [.ref 38], [], H)
  refine am_Ev_G [1058] 4 _ ?_
  show am_Ev m_L_four WB RO RQ (1058, [.ref 38], [.int 2, .ref 38], H)
  refine act true (i := 78) (cd := d_B_count 15) (x := 0) (g := 535) (r := [.int 2]) (v := .int 1) rfl rfl rfl rfl rfl (Nat.le_of_ble_eq_true rfl) (fun _ => rfl) (Nat.le_of_ble_eq_true rfl) (Nat.le_of_ble_eq_true rfl) (dz_count 2 (by decide +kernel)) ha ?_
  clear ha
  intro H ha _
  show am_Ev m_L_four WB RO RQ (1061, [.ref 38], [.int 1], H)
  refine am_Ev_G [1062] 3 _ ?_
  show am_Ev m_L_four WB RO RQ (1062, [.ref 38], [.int 1, .int 1], H)
  refine wk_ne rfl rfl ?_
  show am_Ev m_L_four WB RO RQ (1065, [.ref 38], [], H)
  refine am_Ev_G [1069] 5 _ ?_
  show am_Ev m_L_four WB RO RQ (1069, [.ref 38], [.int 9, .int 2, .ref 38], H)
  refine act true (i := 34) (cd := d_B_set 15) (x := 0) (g := 535) (r := [.int 2, .int 9]) (v := .int 1) rfl rfl rfl rfl rfl (Nat.le_of_ble_eq_true rfl) (fun _ => rfl) (Nat.le_of_ble_eq_true rfl) (Nat.le_of_ble_eq_true rfl) (dz_set 2 9 (by decide +kernel)) ha ?_
  clear ha
  intro H ha _
  have ha : At H qF25 535 := ha.nrm (by decide +kernel)
  show am_Ev m_L_four WB RO RQ (1072, [.ref 38], [.int 1], H)
  refine am_Ev_G [1073] 3 _ ?_
  show am_Ev m_L_four WB RO RQ (1073, [.ref 38], [.int 1, .int 1], H)
  refine wk_ne rfl rfl ?_
  show am_Ev m_L_four WB RO RQ (1076, [.ref 38], [], H)
  refine am_Ev_G [1078] 4 _ ?_
  show am_Ev m_L_four WB RO RQ (1078, [.ref 38], [.int 5, .ref 38], H)
  refine act true (i := 78) (cd := d_B_count 15) (x := 0) (g := 535) (r := [.int 5]) (v := .int 8) rfl rfl rfl rfl rfl (Nat.le_of_ble_eq_true rfl) (fun _ => rfl) (Nat.le_of_ble_eq_true rfl) (Nat.le_of_ble_eq_true rfl) (dz_count 5 (by decide +kernel)) ha ?_
  clear ha
  intro H ha _
  show am_Ev m_L_four WB RO RQ (1081, [.ref 38], [.int 8], H)
  refine am_Ev_G [1083] 3 _ ?_
  show am_Ev m_L_four WB RO RQ (1083, [.ref 38], [.int 8, .int 8], H)
  refine wk_ne rfl rfl ?_
  show am_Ev m_L_four WB RO RQ (1086, [.ref 38], [], H)
  refine am_Ev_G [1089] 5 _ ?_
  show am_Ev m_L_four WB RO RQ (1089, [.ref 38], [.int 0, .int 2, .ref 38], H)
  refine act true (i := 34) (cd := d_B_set 15) (x := 0) (g := 535) (r := [.int 2, .int 0]) (v := .int 9) rfl rfl rfl rfl rfl (Nat.le_of_ble_eq_true rfl) (fun _ => rfl) (Nat.le_of_ble_eq_true rfl) (Nat.le_of_ble_eq_true rfl) (dz_set 2 0 (by decide +kernel)) ha ?_
  clear ha
  intro H ha _
  have ha : At H qF26 535 := ha.nrm (by decide +kernel)
  show am_Ev m_L_four WB RO RQ (1092, [.ref 38], [.int 9], H)
  refine am_Ev_G [1094] 3 _ ?_
  show am_Ev m_L_four WB RO RQ (1094, [.ref 38], [.int 9, .int 9], H)
  refine wk_ne rfl rfl ?_
  show am_Ev m_L_four WB RO RQ (1097, [.ref 38], [], H)
  refine am_Ev_G [1099] 4 _ ?_
  show am_Ev m_L_four WB RO RQ (1099, [.ref 38], [.int 5, .ref 38], H)
  refine act true (i := 78) (cd := d_B_count 15) (x := 0) (g := 535) (r := [.int 5]) (v := .int 0) rfl rfl rfl rfl rfl (Nat.le_of_ble_eq_true rfl) (fun _ => rfl) (Nat.le_of_ble_eq_true rfl) (Nat.le_of_ble_eq_true rfl) (dz_count 5 (by decide +kernel)) ha ?_
  clear ha
  intro H ha _
  show am_Ev m_L_four WB RO RQ (1102, [.ref 38], [.int 0], H)
  refine wk_ifne rfl rfl ?_
  show am_Ev m_L_four WB RO RQ (1105, [.ref 38], [], H)
  refine am_Ev_G [1106] 3 _ ?_
  show am_Ev m_L_four WB RO RQ (1106, [.ref 38], [.ref 38], H)
  refine act false (i := 139) (cd := d_L_refused 0) (x := 164) (g := 535) (r := []) (v := .int 1) rfl rfl rfl rfl rfl (Nat.le_of_ble_eq_true rfl) (fun _ => rfl) (Nat.le_of_ble_eq_true rfl) (Nat.le_of_ble_eq_true rfl) (dz_refused rfl) ha ?_
  clear ha
  intro H ha _
  show am_Ev m_L_four WB RO RQ (1109, [.ref 38], [.int 1], H)
  refine wk_ifne1 rfl (by decide) ?_
  show am_Ev m_L_four WB RO RQ (1114, [.ref 38], [], H)
  refine am_Ev_G [1123] 8 _ ?_
  show am_Ev m_L_four WB RO RQ (1123, [.ref 38], [.int 30, .int 600, .int 1, .int 0, .int 0, .ref 38], H)
  refine act true (i := 87) (cd := d_B_ifTrip 15) (x := 0) (g := 699) (r := [.int 0, .int 0, .int 1, .int 600, .int 30]) (v := .int 2) rfl rfl rfl rfl rfl (Nat.le_of_ble_eq_true rfl) (fun _ => rfl) (Nat.le_of_ble_eq_true rfl) (Nat.le_of_ble_eq_true rfl) (dz_ifTrip 0 0 1 600 30 (by decide +kernel)) ha ?_
  clear ha
  intro H ha _
  show am_Ev m_L_four WB RO RQ (1126, [.ref 38], [.int 2], H)
  refine am_Ev_G [1127] 3 _ ?_
  show am_Ev m_L_four WB RO RQ (1127, [.ref 38], [.int 2, .int 2], H)
  refine wk_ne rfl rfl ?_
  show am_Ev m_L_four WB RO RQ (1130, [.ref 38], [], H)
  refine am_Ev_G [1138] 8 _ ?_
  show am_Ev m_L_four WB RO RQ (1138, [.ref 38], [.int 5, .int 640, .int 0, .int 1, .int 0, .ref 38], H)
  refine act true (i := 87) (cd := d_B_ifTrip 15) (x := 0) (g := 699) (r := [.int 0, .int 1, .int 0, .int 640, .int 5]) (v := .int 1) rfl rfl rfl rfl rfl (Nat.le_of_ble_eq_true rfl) (fun _ => rfl) (Nat.le_of_ble_eq_true rfl) (Nat.le_of_ble_eq_true rfl) (dz_ifTrip 0 1 0 640 5 (by decide +kernel)) ha ?_
  clear ha
  intro H ha _
  show am_Ev m_L_four WB RO RQ (1141, [.ref 38], [.int 1], H)
  refine am_Ev_G [1142] 3 _ ?_
  show am_Ev m_L_four WB RO RQ (1142, [.ref 38], [.int 1, .int 1], H)
  refine wk_ne rfl rfl ?_
  show am_Ev m_L_four WB RO RQ (1145, [.ref 38], [], H)
  refine am_Ev_G [1153] 8 _ ?_
  show am_Ev m_L_four WB RO RQ (1153, [.ref 38], [.int 5, .int 634, .int 0, .int 1, .int 0, .ref 38], H)
  refine act true (i := 87) (cd := d_B_ifTrip 15) (x := 0) (g := 699) (r := [.int 0, .int 1, .int 0, .int 634, .int 5]) (v := .int 2) rfl rfl rfl rfl rfl (Nat.le_of_ble_eq_true rfl) (fun _ => rfl) (Nat.le_of_ble_eq_true rfl) (Nat.le_of_ble_eq_true rfl) (dz_ifTrip 0 1 0 634 5 (by decide +kernel)) ha ?_
  clear ha
  intro H ha _
  show am_Ev m_L_four WB RO RQ (1156, [.ref 38], [.int 2], H)
  refine am_Ev_G [1157] 3 _ ?_
  show am_Ev m_L_four WB RO RQ (1157, [.ref 38], [.int 2, .int 2], H)
  refine wk_ne rfl rfl ?_
  show am_Ev m_L_four WB RO RQ (1160, [.ref 38], [], H)
  refine am_Ev_G [1169] 8 _ ?_
  show am_Ev m_L_four WB RO RQ (1169, [.ref 38], [.int 10, .int 634, .int 0, .int 1, .int 0, .ref 38], H)
  refine act true (i := 27) (cd := d_B_trip 15) (x := 0) (g := 699) (r := [.int 0, .int 1, .int 0, .int 634, .int 10]) (v := .int 4) rfl rfl rfl rfl rfl (Nat.le_of_ble_eq_true rfl) (fun _ => rfl) (Nat.le_of_ble_eq_true rfl) (Nat.le_of_ble_eq_true rfl) (dz_trip 0 1 0 634 10 (by decide +kernel)) ha ?_
  clear ha
  intro H ha _
  have ha : At H qF27 699 := ha.nrm (by decide +kernel)
  show am_Ev m_L_four WB RO RQ (1172, [.ref 38], [.int 4], H)
  refine am_Ev_G [1173] 3 _ ?_
  show am_Ev m_L_four WB RO RQ (1173, [.ref 38], [.int 4, .int 4], H)
  refine wk_ne rfl rfl ?_
  show am_Ev m_L_four WB RO RQ (1176, [.ref 38], [], H)
  refine am_Ev_G [1179] 5 _ ?_
  show am_Ev m_L_four WB RO RQ (1179, [.ref 38], [.int 0, .int 4, .ref 38], H)
  refine act true (i := 90) (cd := d_B_bestTime 15) (x := 0) (g := 699) (r := [.int 4, .int 0]) (v := .int 634) rfl rfl rfl rfl rfl (Nat.le_of_ble_eq_true rfl) (fun _ => rfl) (Nat.le_of_ble_eq_true rfl) (Nat.le_of_ble_eq_true rfl) (dz_bestTime 4 0 (by decide +kernel)) ha ?_
  clear ha
  intro H ha _
  show am_Ev m_L_four WB RO RQ (1182, [.ref 38], [.int 634], H)
  refine am_Ev_G [1185] 3 _ ?_
  show am_Ev m_L_four WB RO RQ (1185, [.ref 38], [.int 634, .int 634], H)
  refine wk_ne rfl rfl ?_
  show am_Ev m_L_four WB RO RQ (1188, [.ref 38], [], H)
  refine am_Ev_G [1191] 5 _ ?_
  show am_Ev m_L_four WB RO RQ (1191, [.ref 38], [.int 1, .int 4, .ref 38], H)
  refine act true (i := 90) (cd := d_B_bestTime 15) (x := 0) (g := 699) (r := [.int 4, .int 1]) (v := .int 635) rfl rfl rfl rfl rfl (Nat.le_of_ble_eq_true rfl) (fun _ => rfl) (Nat.le_of_ble_eq_true rfl) (Nat.le_of_ble_eq_true rfl) (dz_bestTime 4 1 (by decide +kernel)) ha ?_
  clear ha
  intro H ha _
  show am_Ev m_L_four WB RO RQ (1194, [.ref 38], [.int 635], H)
  refine am_Ev_G [1197] 3 _ ?_
  show am_Ev m_L_four WB RO RQ (1197, [.ref 38], [.int 635, .int 635], H)
  refine wk_ne rfl rfl ?_
  show am_Ev m_L_four WB RO RQ (1200, [.ref 38], [], H)
  exact four_c8 ha
set_option maxRecDepth 100000 in
theorem four_c6 {H : HP} (ha : At H qF22 530) : am_Ev m_L_four WB RO RQ (880, [.ref 38], [], H) := by
  refine am_Ev_G [884] 5 _ ?_
  show am_Ev m_L_four WB RO RQ (884, [.ref 38], [.int 7, .int 1, .ref 38], H)
  refine act true (i := 68) (cd := d_B_tripOf 15) (x := 0) (g := 530) (r := [.int 1, .int 7]) (v := .int (-1 : Int32)) rfl rfl rfl rfl rfl (Nat.le_of_ble_eq_true rfl) (fun _ => rfl) (Nat.le_of_ble_eq_true rfl) (Nat.le_of_ble_eq_true rfl) (dz_tripOf 1 7 (by decide +kernel)) ha ?_
  clear ha
  intro H ha _
  show am_Ev m_L_four WB RO RQ (887, [.ref 38], [.int (-1 : Int32)], H)
  refine am_Ev_G [888] 3 _ ?_
  show am_Ev m_L_four WB RO RQ (888, [.ref 38], [.int (-1 : Int32), .int (-1 : Int32)], H)
  refine wk_ne rfl rfl ?_
  show am_Ev m_L_four WB RO RQ (891, [.ref 38], [], H)
  refine am_Ev_G [895] 5 _ ?_
  show am_Ev m_L_four WB RO RQ (895, [.ref 38], [.int 7, .int 3, .ref 38], H)
  refine act true (i := 68) (cd := d_B_tripOf 15) (x := 0) (g := 530) (r := [.int 3, .int 7]) (v := .int 2) rfl rfl rfl rfl rfl (Nat.le_of_ble_eq_true rfl) (fun _ => rfl) (Nat.le_of_ble_eq_true rfl) (Nat.le_of_ble_eq_true rfl) (dz_tripOf 3 7 (by decide +kernel)) ha ?_
  clear ha
  intro H ha _
  show am_Ev m_L_four WB RO RQ (898, [.ref 38], [.int 2], H)
  refine am_Ev_G [899] 3 _ ?_
  show am_Ev m_L_four WB RO RQ (899, [.ref 38], [.int 2, .int 2], H)
  refine wk_ne rfl rfl ?_
  show am_Ev m_L_four WB RO RQ (902, [.ref 38], [], H)
  refine am_Ev_G [904] 4 _ ?_
  show am_Ev m_L_four WB RO RQ (904, [.ref 38], [.int 5, .ref 38], H)
  refine act true (i := 78) (cd := d_B_count 15) (x := 0) (g := 530) (r := [.int 5]) (v := .int 0) rfl rfl rfl rfl rfl (Nat.le_of_ble_eq_true rfl) (fun _ => rfl) (Nat.le_of_ble_eq_true rfl) (Nat.le_of_ble_eq_true rfl) (dz_count 5 (by decide +kernel)) ha ?_
  clear ha
  intro H ha _
  show am_Ev m_L_four WB RO RQ (907, [.ref 38], [.int 0], H)
  refine wk_ifne rfl rfl ?_
  show am_Ev m_L_four WB RO RQ (910, [.ref 38], [], H)
  refine am_Ev_G [913] 4 _ ?_
  show am_Ev m_L_four WB RO RQ (913, [.ref 38], [.int 6, .ref 38], H)
  refine act true (i := 78) (cd := d_B_count 15) (x := 0) (g := 530) (r := [.int 6]) (v := .int 1) rfl rfl rfl rfl rfl (Nat.le_of_ble_eq_true rfl) (fun _ => rfl) (Nat.le_of_ble_eq_true rfl) (Nat.le_of_ble_eq_true rfl) (dz_count 6 (by decide +kernel)) ha ?_
  clear ha
  intro H ha _
  show am_Ev m_L_four WB RO RQ (916, [.ref 38], [.int 1], H)
  refine am_Ev_G [917] 3 _ ?_
  show am_Ev m_L_four WB RO RQ (917, [.ref 38], [.int 1, .int 1], H)
  refine wk_ne rfl rfl ?_
  show am_Ev m_L_four WB RO RQ (920, [.ref 38], [], H)
  refine am_Ev_G [922] 4 _ ?_
  show am_Ev m_L_four WB RO RQ (922, [.ref 38], [.int 1, .ref 38], H)
  refine act true (i := 78) (cd := d_B_count 15) (x := 0) (g := 530) (r := [.int 1]) (v := .int 3) rfl rfl rfl rfl rfl (Nat.le_of_ble_eq_true rfl) (fun _ => rfl) (Nat.le_of_ble_eq_true rfl) (Nat.le_of_ble_eq_true rfl) (dz_count 1 (by decide +kernel)) ha ?_
  clear ha
  intro H ha _
  show am_Ev m_L_four WB RO RQ (925, [.ref 38], [.int 3], H)
  refine am_Ev_G [926] 3 _ ?_
  show am_Ev m_L_four WB RO RQ (926, [.ref 38], [.int 3, .int 3], H)
  refine wk_ne rfl rfl ?_
  show am_Ev m_L_four WB RO RQ (929, [.ref 38], [], H)
  refine am_Ev_G [935] 7 _ ?_
  show am_Ev m_L_four WB RO RQ (935, [.ref 38], [.long 0, .int 0, .int 1, .int 8, .ref 38], H)
  refine act false (i := 112) (cd := d_L_call) (x := 1) (g := 530) (r := [.int 8, .int 1, .int 0, .long 0]) (v := .int (-13 : Int32)) rfl rfl rfl rfl rfl (Nat.le_of_ble_eq_true rfl) (fun _ => rfl) (Nat.le_of_ble_eq_true rfl) (Nat.le_of_ble_eq_true rfl) (dz_callT 8 1 0 0 (by decide +kernel) (by decide +kernel)) ha ?_
  clear ha
  intro H ha _
  show am_Ev m_L_four WB RO RQ (938, [.ref 38], [.int (-13 : Int32)], H)
  refine am_Ev_G [940] 3 _ ?_
  show am_Ev m_L_four WB RO RQ (940, [.ref 38], [.int (-13 : Int32), .int (-13 : Int32)], H)
  refine wk_ne rfl rfl ?_
  show am_Ev m_L_four WB RO RQ (943, [.ref 38], [], H)
  refine am_Ev_G [950] 7 _ ?_
  show am_Ev m_L_four WB RO RQ (950, [.ref 38], [.long 0, .int 600, .int 1, .int 3, .ref 38], H)
  refine act false (i := 112) (cd := d_L_call) (x := 1) (g := 531) (r := [.int 3, .int 1, .int 600, .long 0]) (v := .int (-13 : Int32)) rfl rfl rfl rfl rfl (Nat.le_of_ble_eq_true rfl) (fun _ => rfl) (Nat.le_of_ble_eq_true rfl) (Nat.le_of_ble_eq_true rfl) (dz_callT 3 1 600 0 (by decide +kernel) (by decide +kernel)) ha ?_
  clear ha
  intro H ha _
  show am_Ev m_L_four WB RO RQ (953, [.ref 38], [.int (-13 : Int32)], H)
  refine am_Ev_G [955] 3 _ ?_
  show am_Ev m_L_four WB RO RQ (955, [.ref 38], [.int (-13 : Int32), .int (-13 : Int32)], H)
  refine wk_ne rfl rfl ?_
  show am_Ev m_L_four WB RO RQ (958, [.ref 38], [], H)
  refine am_Ev_G [964] 7 _ ?_
  show am_Ev m_L_four WB RO RQ (964, [.ref 38], [.long 0, .int 0, .int 0, .int 6, .ref 38], H)
  refine act false (i := 112) (cd := d_L_call) (x := 1) (g := 532) (r := [.int 6, .int 0, .int 0, .long 0]) (v := .int (-13 : Int32)) rfl rfl rfl rfl rfl (Nat.le_of_ble_eq_true rfl) (fun _ => rfl) (Nat.le_of_ble_eq_true rfl) (Nat.le_of_ble_eq_true rfl) (dz_callT 6 0 0 0 (by decide +kernel) (by decide +kernel)) ha ?_
  clear ha
  intro H ha _
  show am_Ev m_L_four WB RO RQ (967, [.ref 38], [.int (-13 : Int32)], H)
  refine am_Ev_G [969] 3 _ ?_
  show am_Ev m_L_four WB RO RQ (969, [.ref 38], [.int (-13 : Int32), .int (-13 : Int32)], H)
  refine wk_ne rfl rfl ?_
  show am_Ev m_L_four WB RO RQ (972, [.ref 38], [], H)
  refine am_Ev_G [978] 7 _ ?_
  show am_Ev m_L_four WB RO RQ (978, [.ref 38], [.long 0, .int 5, .int 1, .int 22, .ref 38], H)
  refine act false (i := 112) (cd := d_L_call) (x := 1) (g := 533) (r := [.int 22, .int 1, .int 5, .long 0]) (v := .int (-13 : Int32)) rfl rfl rfl rfl rfl (Nat.le_of_ble_eq_true rfl) (fun _ => rfl) (Nat.le_of_ble_eq_true rfl) (Nat.le_of_ble_eq_true rfl) (dz_callT 22 1 5 0 (by decide +kernel) (by decide +kernel)) ha ?_
  clear ha
  intro H ha _
  show am_Ev m_L_four WB RO RQ (981, [.ref 38], [.int (-13 : Int32)], H)
  refine am_Ev_G [983] 3 _ ?_
  show am_Ev m_L_four WB RO RQ (983, [.ref 38], [.int (-13 : Int32), .int (-13 : Int32)], H)
  refine wk_ne rfl rfl ?_
  show am_Ev m_L_four WB RO RQ (986, [.ref 38], [], H)
  refine am_Ev_G [992] 7 _ ?_
  show am_Ev m_L_four WB RO RQ (992, [.ref 38], [.long 0, .int 0, .int 1, .int 23, .ref 38], H)
  refine act false (i := 112) (cd := d_L_call) (x := 1) (g := 534) (r := [.int 23, .int 1, .int 0, .long 0]) (v := .int (-13 : Int32)) rfl rfl rfl rfl rfl (Nat.le_of_ble_eq_true rfl) (fun _ => rfl) (Nat.le_of_ble_eq_true rfl) (Nat.le_of_ble_eq_true rfl) (dz_callT 23 1 0 0 (by decide +kernel) (by decide +kernel)) ha ?_
  clear ha
  intro H ha _
  show am_Ev m_L_four WB RO RQ (995, [.ref 38], [.int (-13 : Int32)], H)
  refine am_Ev_G [997] 3 _ ?_
  show am_Ev m_L_four WB RO RQ (997, [.ref 38], [.int (-13 : Int32), .int (-13 : Int32)], H)
  refine wk_ne rfl rfl ?_
  show am_Ev m_L_four WB RO RQ (1000, [.ref 38], [], H)
  refine am_Ev_G [1003] 5 _ ?_
  show am_Ev m_L_four WB RO RQ (1003, [.ref 38], [.int 0, .int 1, .ref 38], H)
  refine act true (i := 84) (cd := d_B_whyNot 15) (x := 0) (g := 535) (r := [.int 1, .int 0]) (v := .int 1) rfl rfl rfl rfl rfl (Nat.le_of_ble_eq_true rfl) (fun _ => rfl) (Nat.le_of_ble_eq_true rfl) (Nat.le_of_ble_eq_true rfl) (dz_whyNot 1 0 (by decide +kernel)) ha ?_
  clear ha
  intro H ha _
  show am_Ev m_L_four WB RO RQ (1006, [.ref 38], [.int 1], H)
  refine am_Ev_G [1007] 3 _ ?_
  show am_Ev m_L_four WB RO RQ (1007, [.ref 38], [.int 1, .int 1], H)
  refine wk_ne rfl rfl ?_
  show am_Ev m_L_four WB RO RQ (1010, [.ref 38], [], H)
  refine am_Ev_G [1013] 5 _ ?_
  show am_Ev m_L_four WB RO RQ (1013, [.ref 38], [.int 2, .int 3, .ref 38], H)
  refine act true (i := 37) (cd := d_B_follow 15) (x := 0) (g := 535) (r := [.int 3, .int 2]) (v := .int 0) rfl rfl rfl rfl rfl (Nat.le_of_ble_eq_true rfl) (fun _ => rfl) (Nat.le_of_ble_eq_true rfl) (Nat.le_of_ble_eq_true rfl) (dz_follow 3 2 (by decide +kernel)) ha ?_
  clear ha
  intro H ha _
  have ha : At H qF23 535 := ha.nrm (by decide +kernel)
  show am_Ev m_L_four WB RO RQ (1016, [.ref 38], [.int 0], H)
  refine wk_ifne rfl rfl ?_
  show am_Ev m_L_four WB RO RQ (1019, [.ref 38], [], H)
  refine am_Ev_G [1021] 4 _ ?_
  show am_Ev m_L_four WB RO RQ (1021, [.ref 38], [.int 3, .ref 38], H)
  refine act true (i := 93) (cd := d_B_ifFailed 15) (x := 0) (g := 535) (r := [.int 3]) (v := .int 1) rfl rfl rfl rfl rfl (Nat.le_of_ble_eq_true rfl) (fun _ => rfl) (Nat.le_of_ble_eq_true rfl) (Nat.le_of_ble_eq_true rfl) (dz_ifFailed 3 (by decide +kernel)) ha ?_
  clear ha
  intro H ha _
  show am_Ev m_L_four WB RO RQ (1024, [.ref 38], [.int 1], H)
  refine am_Ev_G [1025] 3 _ ?_
  show am_Ev m_L_four WB RO RQ (1025, [.ref 38], [.int 1, .int 1], H)
  refine wk_ne rfl rfl ?_
  show am_Ev m_L_four WB RO RQ (1028, [.ref 38], [], H)
  refine am_Ev_G [1030] 4 _ ?_
  show am_Ev m_L_four WB RO RQ (1030, [.ref 38], [.int 2, .ref 38], H)
  refine act true (i := 47) (cd := d_B_fail 15) (x := 0) (g := 535) (r := [.int 2]) (v := .int 2) rfl rfl rfl rfl rfl (Nat.le_of_ble_eq_true rfl) (fun _ => rfl) (Nat.le_of_ble_eq_true rfl) (Nat.le_of_ble_eq_true rfl) (dz_fail 2 (by decide +kernel)) ha ?_
  clear ha
  intro H ha _
  have ha : At H qF24 535 := ha.nrm (by decide +kernel)
  show am_Ev m_L_four WB RO RQ (1033, [.ref 38], [.int 2], H)
  refine am_Ev_G [1034] 3 _ ?_
  show am_Ev m_L_four WB RO RQ (1034, [.ref 38], [.int 2, .int 2], H)
  refine wk_ne rfl rfl ?_
  show am_Ev m_L_four WB RO RQ (1037, [.ref 38], [], H)
  exact four_c7 ha
set_option maxRecDepth 100000 in
theorem four_c5 {H : HP} (ha : At H qF16 530) : am_Ev m_L_four WB RO RQ (737, [.ref 38], [], H) := by
  refine am_Ev_G [742] 5 _ ?_
  show am_Ev m_L_four WB RO RQ (742, [.ref 38], [.int 480, .int 1, .ref 38], H)
  refine act true (i := 34) (cd := d_B_set 15) (x := 0) (g := 530) (r := [.int 1, .int 480]) (v := .int 60) rfl rfl rfl rfl rfl (Nat.le_of_ble_eq_true rfl) (fun _ => rfl) (Nat.le_of_ble_eq_true rfl) (Nat.le_of_ble_eq_true rfl) (dz_set 1 480 (by decide +kernel)) ha ?_
  clear ha
  intro H ha _
  have ha : At H qF17 530 := ha.nrm (by decide +kernel)
  show am_Ev m_L_four WB RO RQ (745, [.ref 38], [.int 60], H)
  refine am_Ev_G [747] 3 _ ?_
  show am_Ev m_L_four WB RO RQ (747, [.ref 38], [.int 60, .int 60], H)
  refine wk_ne rfl rfl ?_
  show am_Ev m_L_four WB RO RQ (750, [.ref 38], [], H)
  refine am_Ev_G [753] 4 _ ?_
  show am_Ev m_L_four WB RO RQ (753, [.ref 38], [.int 9, .ref 38], H)
  refine act true (i := 78) (cd := d_B_count 15) (x := 0) (g := 530) (r := [.int 9]) (v := .int 2) rfl rfl rfl rfl rfl (Nat.le_of_ble_eq_true rfl) (fun _ => rfl) (Nat.le_of_ble_eq_true rfl) (Nat.le_of_ble_eq_true rfl) (dz_count 9 (by decide +kernel)) ha ?_
  clear ha
  intro H ha _
  show am_Ev m_L_four WB RO RQ (756, [.ref 38], [.int 2], H)
  refine am_Ev_G [757] 3 _ ?_
  show am_Ev m_L_four WB RO RQ (757, [.ref 38], [.int 2, .int 2], H)
  refine wk_ne rfl rfl ?_
  show am_Ev m_L_four WB RO RQ (760, [.ref 38], [], H)
  refine am_Ev_G [762] 4 _ ?_
  show am_Ev m_L_four WB RO RQ (762, [.ref 38], [.int 1, .ref 38], H)
  refine act true (i := 56) (cd := d_B_keep 15) (x := 0) (g := 530) (r := [.int 1]) (v := .int 4) rfl rfl rfl rfl rfl (Nat.le_of_ble_eq_true rfl) (fun _ => rfl) (Nat.le_of_ble_eq_true rfl) (Nat.le_of_ble_eq_true rfl) (dz_keep 1 (by decide +kernel)) ha ?_
  clear ha
  intro H ha _
  have ha : At H qF18 530 := ha
  show am_Ev m_L_four WB RO RQ (765, [.ref 38], [.int 4], H)
  refine am_Ev_G [766] 3 _ ?_
  show am_Ev m_L_four WB RO RQ (766, [.ref 38], [.int 4, .int 4], H)
  refine wk_eq1 rfl rfl ?_
  show am_Ev m_L_four WB RO RQ (771, [.ref 38], [], H)
  refine am_Ev_G [773] 4 _ ?_
  show am_Ev m_L_four WB RO RQ (773, [.ref 38], [.int 1, .ref 38], H)
  refine act true (i := 93) (cd := d_B_ifFailed 15) (x := 0) (g := 530) (r := [.int 1]) (v := .int 1) rfl rfl rfl rfl rfl (Nat.le_of_ble_eq_true rfl) (fun _ => rfl) (Nat.le_of_ble_eq_true rfl) (Nat.le_of_ble_eq_true rfl) (dz_ifFailed 1 (by decide +kernel)) ha ?_
  clear ha
  intro H ha _
  show am_Ev m_L_four WB RO RQ (776, [.ref 38], [.int 1], H)
  refine am_Ev_G [777] 3 _ ?_
  show am_Ev m_L_four WB RO RQ (777, [.ref 38], [.int 1, .int 1], H)
  refine wk_ne rfl rfl ?_
  show am_Ev m_L_four WB RO RQ (780, [.ref 38], [], H)
  refine am_Ev_G [782] 4 _ ?_
  show am_Ev m_L_four WB RO RQ (782, [.ref 38], [.int 0, .ref 38], H)
  refine act true (i := 93) (cd := d_B_ifFailed 15) (x := 0) (g := 530) (r := [.int 0]) (v := .int 1) rfl rfl rfl rfl rfl (Nat.le_of_ble_eq_true rfl) (fun _ => rfl) (Nat.le_of_ble_eq_true rfl) (Nat.le_of_ble_eq_true rfl) (dz_ifFailed 0 (by decide +kernel)) ha ?_
  clear ha
  intro H ha _
  show am_Ev m_L_four WB RO RQ (785, [.ref 38], [.int 1], H)
  refine am_Ev_G [786] 3 _ ?_
  show am_Ev m_L_four WB RO RQ (786, [.ref 38], [.int 1, .int 1], H)
  refine wk_ne rfl rfl ?_
  show am_Ev m_L_four WB RO RQ (789, [.ref 38], [], H)
  refine am_Ev_G [792] 5 _ ?_
  show am_Ev m_L_four WB RO RQ (792, [.ref 38], [.int 0, .int 3, .ref 38], H)
  refine act true (i := 34) (cd := d_B_set 15) (x := 0) (g := 530) (r := [.int 3, .int 0]) (v := .int 30) rfl rfl rfl rfl rfl (Nat.le_of_ble_eq_true rfl) (fun _ => rfl) (Nat.le_of_ble_eq_true rfl) (Nat.le_of_ble_eq_true rfl) (dz_set 3 0 (by decide +kernel)) ha ?_
  clear ha
  intro H ha _
  have ha : At H qF19 530 := ha.nrm (by decide +kernel)
  show am_Ev m_L_four WB RO RQ (795, [.ref 38], [.int 30], H)
  refine am_Ev_G [797] 3 _ ?_
  show am_Ev m_L_four WB RO RQ (797, [.ref 38], [.int 30, .int 30], H)
  refine wk_ne rfl rfl ?_
  show am_Ev m_L_four WB RO RQ (800, [.ref 38], [], H)
  refine am_Ev_G [802] 4 _ ?_
  show am_Ev m_L_four WB RO RQ (802, [.ref 38], [.int 1, .ref 38], H)
  refine act true (i := 93) (cd := d_B_ifFailed 15) (x := 0) (g := 530) (r := [.int 1]) (v := .int 0) rfl rfl rfl rfl rfl (Nat.le_of_ble_eq_true rfl) (fun _ => rfl) (Nat.le_of_ble_eq_true rfl) (Nat.le_of_ble_eq_true rfl) (dz_ifFailed 1 (by decide +kernel)) ha ?_
  clear ha
  intro H ha _
  show am_Ev m_L_four WB RO RQ (805, [.ref 38], [.int 0], H)
  refine wk_ifne rfl rfl ?_
  show am_Ev m_L_four WB RO RQ (808, [.ref 38], [], H)
  refine am_Ev_G [812] 5 _ ?_
  show am_Ev m_L_four WB RO RQ (812, [.ref 38], [.int 31, .int 3, .ref 38], H)
  refine act true (i := 34) (cd := d_B_set 15) (x := 0) (g := 530) (r := [.int 3, .int 31]) (v := .int 0) rfl rfl rfl rfl rfl (Nat.le_of_ble_eq_true rfl) (fun _ => rfl) (Nat.le_of_ble_eq_true rfl) (Nat.le_of_ble_eq_true rfl) (dz_set 3 31 (by decide +kernel)) ha ?_
  clear ha
  intro H ha _
  have ha : At H qF20 530 := ha.nrm (by decide +kernel)
  show am_Ev m_L_four WB RO RQ (815, [.ref 38], [.int 0], H)
  refine wk_ifne rfl rfl ?_
  show am_Ev m_L_four WB RO RQ (818, [.ref 38], [], H)
  refine am_Ev_G [820] 4 _ ?_
  show am_Ev m_L_four WB RO RQ (820, [.ref 38], [.int 1, .ref 38], H)
  refine act true (i := 93) (cd := d_B_ifFailed 15) (x := 0) (g := 530) (r := [.int 1]) (v := .int 2) rfl rfl rfl rfl rfl (Nat.le_of_ble_eq_true rfl) (fun _ => rfl) (Nat.le_of_ble_eq_true rfl) (Nat.le_of_ble_eq_true rfl) (dz_ifFailed 1 (by decide +kernel)) ha ?_
  clear ha
  intro H ha _
  show am_Ev m_L_four WB RO RQ (823, [.ref 38], [.int 2], H)
  refine am_Ev_G [824] 3 _ ?_
  show am_Ev m_L_four WB RO RQ (824, [.ref 38], [.int 2, .int 2], H)
  refine wk_ne rfl rfl ?_
  show am_Ev m_L_four WB RO RQ (827, [.ref 38], [], H)
  refine am_Ev_G [831] 5 _ ?_
  show am_Ev m_L_four WB RO RQ (831, [.ref 38], [.int 30, .int 3, .ref 38], H)
  refine act true (i := 34) (cd := d_B_set 15) (x := 0) (g := 530) (r := [.int 3, .int 30]) (v := .int 31) rfl rfl rfl rfl rfl (Nat.le_of_ble_eq_true rfl) (fun _ => rfl) (Nat.le_of_ble_eq_true rfl) (Nat.le_of_ble_eq_true rfl) (dz_set 3 30 (by decide +kernel)) ha ?_
  clear ha
  intro H ha _
  have ha : At H qF21 530 := ha.nrm (by decide +kernel)
  show am_Ev m_L_four WB RO RQ (834, [.ref 38], [.int 31], H)
  refine am_Ev_G [836] 3 _ ?_
  show am_Ev m_L_four WB RO RQ (836, [.ref 38], [.int 31, .int 31], H)
  refine wk_ne rfl rfl ?_
  show am_Ev m_L_four WB RO RQ (839, [.ref 38], [], H)
  refine am_Ev_G [841] 4 _ ?_
  show am_Ev m_L_four WB RO RQ (841, [.ref 38], [.int 1, .ref 38], H)
  refine act true (i := 47) (cd := d_B_fail 15) (x := 0) (g := 530) (r := [.int 1]) (v := .int 1) rfl rfl rfl rfl rfl (Nat.le_of_ble_eq_true rfl) (fun _ => rfl) (Nat.le_of_ble_eq_true rfl) (Nat.le_of_ble_eq_true rfl) (dz_fail 1 (by decide +kernel)) ha ?_
  clear ha
  intro H ha _
  have ha : At H qF22 530 := ha.nrm (by decide +kernel)
  show am_Ev m_L_four WB RO RQ (844, [.ref 38], [.int 1], H)
  refine am_Ev_G [845] 3 _ ?_
  show am_Ev m_L_four WB RO RQ (845, [.ref 38], [.int 1, .int 1], H)
  refine wk_ne rfl rfl ?_
  show am_Ev m_L_four WB RO RQ (848, [.ref 38], [], H)
  refine am_Ev_G [851] 5 _ ?_
  show am_Ev m_L_four WB RO RQ (851, [.ref 38], [.int 5, .int 3, .ref 38], H)
  refine act true (i := 68) (cd := d_B_tripOf 15) (x := 0) (g := 530) (r := [.int 3, .int 5]) (v := .int (-1 : Int32)) rfl rfl rfl rfl rfl (Nat.le_of_ble_eq_true rfl) (fun _ => rfl) (Nat.le_of_ble_eq_true rfl) (Nat.le_of_ble_eq_true rfl) (dz_tripOf 3 5 (by decide +kernel)) ha ?_
  clear ha
  intro H ha _
  show am_Ev m_L_four WB RO RQ (854, [.ref 38], [.int (-1 : Int32)], H)
  refine am_Ev_G [855] 3 _ ?_
  show am_Ev m_L_four WB RO RQ (855, [.ref 38], [.int (-1 : Int32), .int (-1 : Int32)], H)
  refine wk_ne rfl rfl ?_
  show am_Ev m_L_four WB RO RQ (858, [.ref 38], [], H)
  refine am_Ev_G [862] 5 _ ?_
  show am_Ev m_L_four WB RO RQ (862, [.ref 38], [.int 6, .int 0, .ref 38], H)
  refine act true (i := 68) (cd := d_B_tripOf 15) (x := 0) (g := 530) (r := [.int 0, .int 6]) (v := .int (-1 : Int32)) rfl rfl rfl rfl rfl (Nat.le_of_ble_eq_true rfl) (fun _ => rfl) (Nat.le_of_ble_eq_true rfl) (Nat.le_of_ble_eq_true rfl) (dz_tripOf 0 6 (by decide +kernel)) ha ?_
  clear ha
  intro H ha _
  show am_Ev m_L_four WB RO RQ (865, [.ref 38], [.int (-1 : Int32)], H)
  refine am_Ev_G [866] 3 _ ?_
  show am_Ev m_L_four WB RO RQ (866, [.ref 38], [.int (-1 : Int32), .int (-1 : Int32)], H)
  refine wk_ne rfl rfl ?_
  show am_Ev m_L_four WB RO RQ (869, [.ref 38], [], H)
  refine am_Ev_G [873] 5 _ ?_
  show am_Ev m_L_four WB RO RQ (873, [.ref 38], [.int 8, .int 1, .ref 38], H)
  refine act true (i := 68) (cd := d_B_tripOf 15) (x := 0) (g := 530) (r := [.int 1, .int 8]) (v := .int 1) rfl rfl rfl rfl rfl (Nat.le_of_ble_eq_true rfl) (fun _ => rfl) (Nat.le_of_ble_eq_true rfl) (Nat.le_of_ble_eq_true rfl) (dz_tripOf 1 8 (by decide +kernel)) ha ?_
  clear ha
  intro H ha _
  show am_Ev m_L_four WB RO RQ (876, [.ref 38], [.int 1], H)
  refine am_Ev_G [877] 3 _ ?_
  show am_Ev m_L_four WB RO RQ (877, [.ref 38], [.int 1, .int 1], H)
  refine wk_ne rfl rfl ?_
  show am_Ev m_L_four WB RO RQ (880, [.ref 38], [], H)
  exact four_c6 ha
set_option maxRecDepth 100000 in
theorem four_c4 {H : HP} (ha : At H qF14 530) : am_Ev m_L_four WB RO RQ (589, [.ref 38], [], H) := by
  refine am_Ev_G [593] 6 _ ?_
  show am_Ev m_L_four WB RO RQ (593, [.ref 38], [.int 0, .int 0, .int 0, .ref 38], H)
  refine act true (i := 74) (cd := d_B_duty 15) (x := 0) (g := 530) (r := [.int 0, .int 0, .int 0]) (v := .int 0) rfl rfl rfl rfl rfl (Nat.le_of_ble_eq_true rfl) (fun _ => rfl) (Nat.le_of_ble_eq_true rfl) (Nat.le_of_ble_eq_true rfl) (dz_duty 0 0 0 (by decide +kernel)) ha ?_
  clear ha
  intro H ha _
  show am_Ev m_L_four WB RO RQ (596, [.ref 38], [.int 0], H)
  refine wk_ifne rfl rfl ?_
  show am_Ev m_L_four WB RO RQ (599, [.ref 38], [], H)
  refine am_Ev_G [603] 6 _ ?_
  show am_Ev m_L_four WB RO RQ (603, [.ref 38], [.int 1, .int 0, .int 0, .ref 38], H)
  refine act true (i := 74) (cd := d_B_duty 15) (x := 0) (g := 530) (r := [.int 0, .int 0, .int 1]) (v := .int 1) rfl rfl rfl rfl rfl (Nat.le_of_ble_eq_true rfl) (fun _ => rfl) (Nat.le_of_ble_eq_true rfl) (Nat.le_of_ble_eq_true rfl) (dz_duty 0 0 1 (by decide +kernel)) ha ?_
  clear ha
  intro H ha _
  show am_Ev m_L_four WB RO RQ (606, [.ref 38], [.int 1], H)
  refine am_Ev_G [607] 3 _ ?_
  show am_Ev m_L_four WB RO RQ (607, [.ref 38], [.int 1, .int 1], H)
  refine wk_ne rfl rfl ?_
  show am_Ev m_L_four WB RO RQ (610, [.ref 38], [], H)
  refine am_Ev_G [614] 6 _ ?_
  show am_Ev m_L_four WB RO RQ (614, [.ref 38], [.int 2, .int 0, .int 0, .ref 38], H)
  refine act true (i := 74) (cd := d_B_duty 15) (x := 0) (g := 530) (r := [.int 0, .int 0, .int 2]) (v := .int 60) rfl rfl rfl rfl rfl (Nat.le_of_ble_eq_true rfl) (fun _ => rfl) (Nat.le_of_ble_eq_true rfl) (Nat.le_of_ble_eq_true rfl) (dz_duty 0 0 2 (by decide +kernel)) ha ?_
  clear ha
  intro H ha _
  show am_Ev m_L_four WB RO RQ (617, [.ref 38], [.int 60], H)
  refine am_Ev_G [619] 3 _ ?_
  show am_Ev m_L_four WB RO RQ (619, [.ref 38], [.int 60, .int 60], H)
  refine wk_ne rfl rfl ?_
  show am_Ev m_L_four WB RO RQ (622, [.ref 38], [], H)
  refine am_Ev_G [626] 6 _ ?_
  show am_Ev m_L_four WB RO RQ (626, [.ref 38], [.int 0, .int 1, .int 0, .ref 38], H)
  refine act true (i := 74) (cd := d_B_duty 15) (x := 0) (g := 530) (r := [.int 0, .int 1, .int 0]) (v := .int 3) rfl rfl rfl rfl rfl (Nat.le_of_ble_eq_true rfl) (fun _ => rfl) (Nat.le_of_ble_eq_true rfl) (Nat.le_of_ble_eq_true rfl) (dz_duty 0 1 0 (by decide +kernel)) ha ?_
  clear ha
  intro H ha _
  show am_Ev m_L_four WB RO RQ (629, [.ref 38], [.int 3], H)
  refine am_Ev_G [630] 3 _ ?_
  show am_Ev m_L_four WB RO RQ (630, [.ref 38], [.int 3, .int 3], H)
  refine wk_ne rfl rfl ?_
  show am_Ev m_L_four WB RO RQ (633, [.ref 38], [], H)
  refine am_Ev_G [637] 6 _ ?_
  show am_Ev m_L_four WB RO RQ (637, [.ref 38], [.int 2, .int 1, .int 0, .ref 38], H)
  refine act true (i := 74) (cd := d_B_duty 15) (x := 0) (g := 530) (r := [.int 0, .int 1, .int 2]) (v := .int 60) rfl rfl rfl rfl rfl (Nat.le_of_ble_eq_true rfl) (fun _ => rfl) (Nat.le_of_ble_eq_true rfl) (Nat.le_of_ble_eq_true rfl) (dz_duty 0 1 2 (by decide +kernel)) ha ?_
  clear ha
  intro H ha _
  show am_Ev m_L_four WB RO RQ (640, [.ref 38], [.int 60], H)
  refine am_Ev_G [642] 3 _ ?_
  show am_Ev m_L_four WB RO RQ (642, [.ref 38], [.int 60, .int 60], H)
  refine wk_ne rfl rfl ?_
  show am_Ev m_L_four WB RO RQ (645, [.ref 38], [], H)
  refine am_Ev_G [649] 6 _ ?_
  show am_Ev m_L_four WB RO RQ (649, [.ref 38], [.int 0, .int 2, .int 0, .ref 38], H)
  refine act true (i := 74) (cd := d_B_duty 15) (x := 0) (g := 530) (r := [.int 0, .int 2, .int 0]) (v := .int (-1 : Int32)) rfl rfl rfl rfl rfl (Nat.le_of_ble_eq_true rfl) (fun _ => rfl) (Nat.le_of_ble_eq_true rfl) (Nat.le_of_ble_eq_true rfl) (dz_duty 0 2 0 (by decide +kernel)) ha ?_
  clear ha
  intro H ha _
  show am_Ev m_L_four WB RO RQ (652, [.ref 38], [.int (-1 : Int32)], H)
  refine am_Ev_G [653] 3 _ ?_
  show am_Ev m_L_four WB RO RQ (653, [.ref 38], [.int (-1 : Int32), .int (-1 : Int32)], H)
  refine wk_ne rfl rfl ?_
  show am_Ev m_L_four WB RO RQ (656, [.ref 38], [], H)
  refine am_Ev_G [659] 4 _ ?_
  show am_Ev m_L_four WB RO RQ (659, [.ref 38], [.int 9, .ref 38], H)
  refine act true (i := 78) (cd := d_B_count 15) (x := 0) (g := 530) (r := [.int 9]) (v := .int 3) rfl rfl rfl rfl rfl (Nat.le_of_ble_eq_true rfl) (fun _ => rfl) (Nat.le_of_ble_eq_true rfl) (Nat.le_of_ble_eq_true rfl) (dz_count 9 (by decide +kernel)) ha ?_
  clear ha
  intro H ha _
  show am_Ev m_L_four WB RO RQ (662, [.ref 38], [.int 3], H)
  refine am_Ev_G [663] 3 _ ?_
  show am_Ev m_L_four WB RO RQ (663, [.ref 38], [.int 3, .int 3], H)
  refine wk_ne rfl rfl ?_
  show am_Ev m_L_four WB RO RQ (666, [.ref 38], [], H)
  refine am_Ev_G [668] 4 _ ?_
  show am_Ev m_L_four WB RO RQ (668, [.ref 38], [.int 0, .ref 38], H)
  refine act true (i := 23) (cd := d_B_relief 15) (x := 0) (g := 530) (r := [.int 0]) (v := .int 0) rfl rfl rfl rfl rfl (Nat.le_of_ble_eq_true rfl) (fun _ => rfl) (Nat.le_of_ble_eq_true rfl) (Nat.le_of_ble_eq_true rfl) (dz_relief 0 (by decide +kernel)) ha ?_
  clear ha
  intro H ha _
  have ha : At H qF15 530 := ha.nrm (by decide +kernel)
  show am_Ev m_L_four WB RO RQ (671, [.ref 38], [.int 0], H)
  refine wk_ifne rfl rfl ?_
  show am_Ev m_L_four WB RO RQ (674, [.ref 38], [], H)
  refine am_Ev_G [677] 5 _ ?_
  show am_Ev m_L_four WB RO RQ (677, [.ref 38], [.int 5, .int 0, .ref 38], H)
  refine act true (i := 71) (cd := d_B_blockOf 15) (x := 0) (g := 530) (r := [.int 0, .int 5]) (v := .int (-1 : Int32)) rfl rfl rfl rfl rfl (Nat.le_of_ble_eq_true rfl) (fun _ => rfl) (Nat.le_of_ble_eq_true rfl) (Nat.le_of_ble_eq_true rfl) (dz_blockOf 0 5 (by decide +kernel)) ha ?_
  clear ha
  intro H ha _
  show am_Ev m_L_four WB RO RQ (680, [.ref 38], [.int (-1 : Int32)], H)
  refine am_Ev_G [681] 3 _ ?_
  show am_Ev m_L_four WB RO RQ (681, [.ref 38], [.int (-1 : Int32), .int (-1 : Int32)], H)
  refine wk_ne rfl rfl ?_
  show am_Ev m_L_four WB RO RQ (684, [.ref 38], [], H)
  refine am_Ev_G [688] 5 _ ?_
  show am_Ev m_L_four WB RO RQ (688, [.ref 38], [.int 6, .int 0, .ref 38], H)
  refine act true (i := 71) (cd := d_B_blockOf 15) (x := 0) (g := 530) (r := [.int 0, .int 6]) (v := .int (-1 : Int32)) rfl rfl rfl rfl rfl (Nat.le_of_ble_eq_true rfl) (fun _ => rfl) (Nat.le_of_ble_eq_true rfl) (Nat.le_of_ble_eq_true rfl) (dz_blockOf 0 6 (by decide +kernel)) ha ?_
  clear ha
  intro H ha _
  show am_Ev m_L_four WB RO RQ (691, [.ref 38], [.int (-1 : Int32)], H)
  refine am_Ev_G [692] 3 _ ?_
  show am_Ev m_L_four WB RO RQ (692, [.ref 38], [.int (-1 : Int32), .int (-1 : Int32)], H)
  refine wk_ne rfl rfl ?_
  show am_Ev m_L_four WB RO RQ (695, [.ref 38], [], H)
  refine am_Ev_G [699] 6 _ ?_
  show am_Ev m_L_four WB RO RQ (699, [.ref 38], [.int 0, .int 0, .int 0, .ref 38], H)
  refine act true (i := 74) (cd := d_B_duty 15) (x := 0) (g := 530) (r := [.int 0, .int 0, .int 0]) (v := .int (-1 : Int32)) rfl rfl rfl rfl rfl (Nat.le_of_ble_eq_true rfl) (fun _ => rfl) (Nat.le_of_ble_eq_true rfl) (Nat.le_of_ble_eq_true rfl) (dz_duty 0 0 0 (by decide +kernel)) ha ?_
  clear ha
  intro H ha _
  show am_Ev m_L_four WB RO RQ (702, [.ref 38], [.int (-1 : Int32)], H)
  refine am_Ev_G [703] 3 _ ?_
  show am_Ev m_L_four WB RO RQ (703, [.ref 38], [.int (-1 : Int32), .int (-1 : Int32)], H)
  refine wk_ne rfl rfl ?_
  show am_Ev m_L_four WB RO RQ (706, [.ref 38], [], H)
  refine am_Ev_G [710] 6 _ ?_
  show am_Ev m_L_four WB RO RQ (710, [.ref 38], [.int 2, .int 0, .int 1, .ref 38], H)
  refine act true (i := 74) (cd := d_B_duty 15) (x := 0) (g := 530) (r := [.int 1, .int 0, .int 2]) (v := .int 10) rfl rfl rfl rfl rfl (Nat.le_of_ble_eq_true rfl) (fun _ => rfl) (Nat.le_of_ble_eq_true rfl) (Nat.le_of_ble_eq_true rfl) (dz_duty 1 0 2 (by decide +kernel)) ha ?_
  clear ha
  intro H ha _
  show am_Ev m_L_four WB RO RQ (713, [.ref 38], [.int 10], H)
  refine am_Ev_G [715] 3 _ ?_
  show am_Ev m_L_four WB RO RQ (715, [.ref 38], [.int 10, .int 10], H)
  refine wk_ne rfl rfl ?_
  show am_Ev m_L_four WB RO RQ (718, [.ref 38], [], H)
  refine am_Ev_G [721] 4 _ ?_
  show am_Ev m_L_four WB RO RQ (721, [.ref 38], [.int 9, .ref 38], H)
  refine act true (i := 78) (cd := d_B_count 15) (x := 0) (g := 530) (r := [.int 9]) (v := .int (-1 : Int32)) rfl rfl rfl rfl rfl (Nat.le_of_ble_eq_true rfl) (fun _ => rfl) (Nat.le_of_ble_eq_true rfl) (Nat.le_of_ble_eq_true rfl) (dz_count 9 (by decide +kernel)) ha ?_
  clear ha
  intro H ha _
  show am_Ev m_L_four WB RO RQ (724, [.ref 38], [.int (-1 : Int32)], H)
  refine am_Ev_G [725] 3 _ ?_
  show am_Ev m_L_four WB RO RQ (725, [.ref 38], [.int (-1 : Int32), .int (-1 : Int32)], H)
  refine wk_ne rfl rfl ?_
  show am_Ev m_L_four WB RO RQ (728, [.ref 38], [], H)
  refine am_Ev_G [730] 4 _ ?_
  show am_Ev m_L_four WB RO RQ (730, [.ref 38], [.int 0, .ref 38], H)
  refine act true (i := 23) (cd := d_B_relief 15) (x := 0) (g := 530) (r := [.int 0]) (v := .int 1) rfl rfl rfl rfl rfl (Nat.le_of_ble_eq_true rfl) (fun _ => rfl) (Nat.le_of_ble_eq_true rfl) (Nat.le_of_ble_eq_true rfl) (dz_relief 0 (by decide +kernel)) ha ?_
  clear ha
  intro H ha _
  have ha : At H qF16 530 := ha.nrm (by decide +kernel)
  show am_Ev m_L_four WB RO RQ (733, [.ref 38], [.int 1], H)
  refine am_Ev_G [734] 3 _ ?_
  show am_Ev m_L_four WB RO RQ (734, [.ref 38], [.int 1, .int 1], H)
  refine wk_ne rfl rfl ?_
  show am_Ev m_L_four WB RO RQ (737, [.ref 38], [], H)
  exact four_c5 ha
