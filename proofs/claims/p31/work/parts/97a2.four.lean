/-! THE LAW'S run four, on. -/
set_option maxRecDepth 100000 in
theorem four_c3 {H : HP} (ha : At H qF12 366) : am_Ev m_L_four WB RO RQ (444, [.ref 38], [], H) := by
  refine am_Ev_G [447] 5 _ ?_
  show am_Ev m_L_four WB RO RQ (447, [.ref 38], [.int 1, .int 3, .ref 38], H)
  refine act true (i := 37) (cd := d_B_follow 15) (x := 0) (g := 366) (r := [.int 3, .int 1]) (v := .int 0) rfl rfl rfl rfl rfl (Nat.le_of_ble_eq_true rfl) (fun _ => rfl) (Nat.le_of_ble_eq_true rfl) (Nat.le_of_ble_eq_true rfl) (dz_follow 3 1 (by decide +kernel)) ha ?_
  clear ha
  intro H ha _
  have ha : At H qF13 366 := ha.nrm (by decide +kernel)
  show am_Ev m_L_four WB RO RQ (450, [.ref 38], [.int 0], H)
  refine wk_ifne rfl rfl ?_
  show am_Ev m_L_four WB RO RQ (453, [.ref 38], [], H)
  refine am_Ev_G [456] 4 _ ?_
  show am_Ev m_L_four WB RO RQ (456, [.ref 38], [.int 7, .ref 38], H)
  refine act true (i := 78) (cd := d_B_count 15) (x := 0) (g := 366) (r := [.int 7]) (v := .int 2) rfl rfl rfl rfl rfl (Nat.le_of_ble_eq_true rfl) (fun _ => rfl) (Nat.le_of_ble_eq_true rfl) (Nat.le_of_ble_eq_true rfl) (dz_count 7 (by decide +kernel)) ha ?_
  clear ha
  intro H ha _
  show am_Ev m_L_four WB RO RQ (459, [.ref 38], [.int 2], H)
  refine am_Ev_G [460] 3 _ ?_
  show am_Ev m_L_four WB RO RQ (460, [.ref 38], [.int 2, .int 2], H)
  refine wk_ne rfl rfl ?_
  show am_Ev m_L_four WB RO RQ (463, [.ref 38], [], H)
  refine am_Ev_G [465] 4 _ ?_
  show am_Ev m_L_four WB RO RQ (465, [.ref 38], [.int 2, .ref 38], H)
  refine act true (i := 78) (cd := d_B_count 15) (x := 0) (g := 366) (r := [.int 2]) (v := .int 2) rfl rfl rfl rfl rfl (Nat.le_of_ble_eq_true rfl) (fun _ => rfl) (Nat.le_of_ble_eq_true rfl) (Nat.le_of_ble_eq_true rfl) (dz_count 2 (by decide +kernel)) ha ?_
  clear ha
  intro H ha _
  show am_Ev m_L_four WB RO RQ (468, [.ref 38], [.int 2], H)
  refine am_Ev_G [469] 3 _ ?_
  show am_Ev m_L_four WB RO RQ (469, [.ref 38], [.int 2, .int 2], H)
  refine wk_ne rfl rfl ?_
  show am_Ev m_L_four WB RO RQ (472, [.ref 38], [], H)
  refine am_Ev_G [476] 5 _ ?_
  show am_Ev m_L_four WB RO RQ (476, [.ref 38], [.int 7, .int 3, .ref 38], H)
  refine act true (i := 68) (cd := d_B_tripOf 15) (x := 0) (g := 366) (r := [.int 3, .int 7]) (v := .int 0) rfl rfl rfl rfl rfl (Nat.le_of_ble_eq_true rfl) (fun _ => rfl) (Nat.le_of_ble_eq_true rfl) (Nat.le_of_ble_eq_true rfl) (dz_tripOf 3 7 (by decide +kernel)) ha ?_
  clear ha
  intro H ha _
  show am_Ev m_L_four WB RO RQ (479, [.ref 38], [.int 0], H)
  refine wk_ifne rfl rfl ?_
  show am_Ev m_L_four WB RO RQ (482, [.ref 38], [], H)
  refine am_Ev_G [486] 5 _ ?_
  show am_Ev m_L_four WB RO RQ (486, [.ref 38], [.int 7, .int 2, .ref 38], H)
  refine act true (i := 68) (cd := d_B_tripOf 15) (x := 0) (g := 366) (r := [.int 2, .int 7]) (v := .int 1) rfl rfl rfl rfl rfl (Nat.le_of_ble_eq_true rfl) (fun _ => rfl) (Nat.le_of_ble_eq_true rfl) (Nat.le_of_ble_eq_true rfl) (dz_tripOf 2 7 (by decide +kernel)) ha ?_
  clear ha
  intro H ha _
  show am_Ev m_L_four WB RO RQ (489, [.ref 38], [.int 1], H)
  refine am_Ev_G [490] 3 _ ?_
  show am_Ev m_L_four WB RO RQ (490, [.ref 38], [.int 1, .int 1], H)
  refine wk_ne rfl rfl ?_
  show am_Ev m_L_four WB RO RQ (493, [.ref 38], [], H)
  refine am_Ev_G [496] 5 _ ?_
  show am_Ev m_L_four WB RO RQ (496, [.ref 38], [.int 1, .int 0, .ref 38], H)
  refine act true (i := 71) (cd := d_B_blockOf 15) (x := 0) (g := 366) (r := [.int 0, .int 1]) (v := .int 3) rfl rfl rfl rfl rfl (Nat.le_of_ble_eq_true rfl) (fun _ => rfl) (Nat.le_of_ble_eq_true rfl) (Nat.le_of_ble_eq_true rfl) (dz_blockOf 0 1 (by decide +kernel)) ha ?_
  clear ha
  intro H ha _
  show am_Ev m_L_four WB RO RQ (499, [.ref 38], [.int 3], H)
  refine am_Ev_G [500] 3 _ ?_
  show am_Ev m_L_four WB RO RQ (500, [.ref 38], [.int 3, .int 3], H)
  refine wk_ne rfl rfl ?_
  show am_Ev m_L_four WB RO RQ (503, [.ref 38], [], H)
  refine am_Ev_G [506] 5 _ ?_
  show am_Ev m_L_four WB RO RQ (506, [.ref 38], [.int 2, .int 0, .ref 38], H)
  refine act true (i := 71) (cd := d_B_blockOf 15) (x := 0) (g := 366) (r := [.int 0, .int 2]) (v := .int 130) rfl rfl rfl rfl rfl (Nat.le_of_ble_eq_true rfl) (fun _ => rfl) (Nat.le_of_ble_eq_true rfl) (Nat.le_of_ble_eq_true rfl) (dz_blockOf 0 2 (by decide +kernel)) ha ?_
  clear ha
  intro H ha _
  show am_Ev m_L_four WB RO RQ (509, [.ref 38], [.int 130], H)
  refine am_Ev_G [512] 3 _ ?_
  show am_Ev m_L_four WB RO RQ (512, [.ref 38], [.int 130, .int 130], H)
  refine wk_ne rfl rfl ?_
  show am_Ev m_L_four WB RO RQ (515, [.ref 38], [], H)
  refine am_Ev_G [518] 5 _ ?_
  show am_Ev m_L_four WB RO RQ (518, [.ref 38], [.int 3, .int 0, .ref 38], H)
  refine act true (i := 71) (cd := d_B_blockOf 15) (x := 0) (g := 366) (r := [.int 0, .int 3]) (v := .int 20) rfl rfl rfl rfl rfl (Nat.le_of_ble_eq_true rfl) (fun _ => rfl) (Nat.le_of_ble_eq_true rfl) (Nat.le_of_ble_eq_true rfl) (dz_blockOf 0 3 (by decide +kernel)) ha ?_
  clear ha
  intro H ha _
  show am_Ev m_L_four WB RO RQ (521, [.ref 38], [.int 20], H)
  refine am_Ev_G [523] 3 _ ?_
  show am_Ev m_L_four WB RO RQ (523, [.ref 38], [.int 20, .int 20], H)
  refine wk_ne rfl rfl ?_
  show am_Ev m_L_four WB RO RQ (526, [.ref 38], [], H)
  refine am_Ev_G [529] 5 _ ?_
  show am_Ev m_L_four WB RO RQ (529, [.ref 38], [.int 4, .int 0, .ref 38], H)
  refine act true (i := 71) (cd := d_B_blockOf 15) (x := 0) (g := 366) (r := [.int 0, .int 4]) (v := .int 0) rfl rfl rfl rfl rfl (Nat.le_of_ble_eq_true rfl) (fun _ => rfl) (Nat.le_of_ble_eq_true rfl) (Nat.le_of_ble_eq_true rfl) (dz_blockOf 0 4 (by decide +kernel)) ha ?_
  clear ha
  intro H ha _
  show am_Ev m_L_four WB RO RQ (532, [.ref 38], [.int 0], H)
  refine wk_ifne rfl rfl ?_
  show am_Ev m_L_four WB RO RQ (535, [.ref 38], [], H)
  refine am_Ev_G [536] 3 _ ?_
  show am_Ev m_L_four WB RO RQ (536, [.ref 38], [.ref 38], H)
  refine act true (i := 135) (cd := d_B_drivenShare 15) (x := 0) (g := 366) (r := []) (v := .double (FP.ddiv (FP.i2d 120) (FP.i2d 140))) rfl rfl rfl rfl rfl (Nat.le_of_ble_eq_true rfl) (fun _ => rfl) (Nat.le_of_ble_eq_true rfl) (Nat.le_of_ble_eq_true rfl) (dz_share (u := FP.ddiv (FP.i2d 120) (FP.i2d 140)) (by decide +kernel)) ha ?_
  clear ha
  intro H ha _
  show am_Ev m_L_four WB RO RQ (539, [.ref 38], [.double (FP.ddiv (FP.i2d 120) (FP.i2d 140))], H)
  refine am_Ev_G [542] 3 _ ?_
  show am_Ev m_L_four WB RO RQ (542, [.ref 38], [.double 4605895676049340123, .double (FP.ddiv (FP.i2d 120) (FP.i2d 140))], H)
  refine am_Ev_G [543] 3 _ ?_
  show am_Ev m_L_four WB RO RQ (543, [.ref 38], [.int (Op.cmpValue (FP.dcmp ((FP.ddiv (FP.i2d 120) (FP.i2d 140))) (4605895676049340123)) .l)], H)
  refine wk_ifne rfl (by decide +kernel) ?_
  show am_Ev m_L_four WB RO RQ (546, [.ref 38], [], H)
  refine am_Ev_G [547] 3 _ ?_
  show am_Ev m_L_four WB RO RQ (547, [.ref 38], [.ref 38], H)
  refine act false (i := 139) (cd := d_L_refused 0) (x := 164) (g := 366) (r := []) (v := .int 1) rfl rfl rfl rfl rfl (Nat.le_of_ble_eq_true rfl) (fun _ => rfl) (Nat.le_of_ble_eq_true rfl) (Nat.le_of_ble_eq_true rfl) (dz_refused rfl) ha ?_
  clear ha
  intro H ha _
  show am_Ev m_L_four WB RO RQ (550, [.ref 38], [.int 1], H)
  refine wk_ifne1 rfl (by decide) ?_
  show am_Ev m_L_four WB RO RQ (555, [.ref 38], [], H)
  refine am_Ev_G [559] 5 _ ?_
  show am_Ev m_L_four WB RO RQ (559, [.ref 38], [.int 60, .int 1, .ref 38], H)
  refine act true (i := 34) (cd := d_B_set 15) (x := 0) (g := 530) (r := [.int 1, .int 60]) (v := .int 480) rfl rfl rfl rfl rfl (Nat.le_of_ble_eq_true rfl) (fun _ => rfl) (Nat.le_of_ble_eq_true rfl) (Nat.le_of_ble_eq_true rfl) (dz_set 1 60 (by decide +kernel)) ha ?_
  clear ha
  intro H ha _
  have ha : At H qF14 530 := ha.nrm (by decide +kernel)
  show am_Ev m_L_four WB RO RQ (562, [.ref 38], [.int 480], H)
  refine am_Ev_G [565] 3 _ ?_
  show am_Ev m_L_four WB RO RQ (565, [.ref 38], [.int 480, .int 480], H)
  refine wk_ne rfl rfl ?_
  show am_Ev m_L_four WB RO RQ (568, [.ref 38], [], H)
  refine am_Ev_G [571] 5 _ ?_
  show am_Ev m_L_four WB RO RQ (571, [.ref 38], [.int 5, .int 0, .ref 38], H)
  refine act true (i := 71) (cd := d_B_blockOf 15) (x := 0) (g := 530) (r := [.int 0, .int 5]) (v := .int 2) rfl rfl rfl rfl rfl (Nat.le_of_ble_eq_true rfl) (fun _ => rfl) (Nat.le_of_ble_eq_true rfl) (Nat.le_of_ble_eq_true rfl) (dz_blockOf 0 5 (by decide +kernel)) ha ?_
  clear ha
  intro H ha _
  show am_Ev m_L_four WB RO RQ (574, [.ref 38], [.int 2], H)
  refine am_Ev_G [575] 3 _ ?_
  show am_Ev m_L_four WB RO RQ (575, [.ref 38], [.int 2, .int 2], H)
  refine wk_ne rfl rfl ?_
  show am_Ev m_L_four WB RO RQ (578, [.ref 38], [], H)
  refine am_Ev_G [582] 5 _ ?_
  show am_Ev m_L_four WB RO RQ (582, [.ref 38], [.int 6, .int 0, .ref 38], H)
  refine act true (i := 71) (cd := d_B_blockOf 15) (x := 0) (g := 530) (r := [.int 0, .int 6]) (v := .int 2) rfl rfl rfl rfl rfl (Nat.le_of_ble_eq_true rfl) (fun _ => rfl) (Nat.le_of_ble_eq_true rfl) (Nat.le_of_ble_eq_true rfl) (dz_blockOf 0 6 (by decide +kernel)) ha ?_
  clear ha
  intro H ha _
  show am_Ev m_L_four WB RO RQ (585, [.ref 38], [.int 2], H)
  refine am_Ev_G [586] 3 _ ?_
  show am_Ev m_L_four WB RO RQ (586, [.ref 38], [.int 2, .int 2], H)
  refine wk_ne rfl rfl ?_
  show am_Ev m_L_four WB RO RQ (589, [.ref 38], [], H)
  exact four_c4 ha
set_option maxRecDepth 100000 in
theorem four_c2 {H : HP} (ha : At H qF7 366) : am_Ev m_L_four WB RO RQ (309, [.ref 38], [], H) := by
  refine am_Ev_G [312] 5 _ ?_
  show am_Ev m_L_four WB RO RQ (312, [.ref 38], [.int 4, .int 2, .ref 38], H)
  refine act true (i := 65) (cd := d_B_terminalOf 15) (x := 0) (g := 366) (r := [.int 2, .int 4]) (v := .int 0) rfl rfl rfl rfl rfl (Nat.le_of_ble_eq_true rfl) (fun _ => rfl) (Nat.le_of_ble_eq_true rfl) (Nat.le_of_ble_eq_true rfl) (dz_terminalOf 2 4 (by decide +kernel)) ha ?_
  clear ha
  intro H ha _
  show am_Ev m_L_four WB RO RQ (315, [.ref 38], [.int 0], H)
  refine wk_ifne rfl rfl ?_
  show am_Ev m_L_four WB RO RQ (318, [.ref 38], [], H)
  refine am_Ev_G [321] 5 _ ?_
  show am_Ev m_L_four WB RO RQ (321, [.ref 38], [.int 2, .int 0, .ref 38], H)
  refine act true (i := 65) (cd := d_B_terminalOf 15) (x := 0) (g := 366) (r := [.int 0, .int 2]) (v := .int 2) rfl rfl rfl rfl rfl (Nat.le_of_ble_eq_true rfl) (fun _ => rfl) (Nat.le_of_ble_eq_true rfl) (Nat.le_of_ble_eq_true rfl) (dz_terminalOf 0 2 (by decide +kernel)) ha ?_
  clear ha
  intro H ha _
  show am_Ev m_L_four WB RO RQ (324, [.ref 38], [.int 2], H)
  refine am_Ev_G [325] 3 _ ?_
  show am_Ev m_L_four WB RO RQ (325, [.ref 38], [.int 2, .int 2], H)
  refine wk_ne rfl rfl ?_
  show am_Ev m_L_four WB RO RQ (328, [.ref 38], [], H)
  refine am_Ev_G [331] 5 _ ?_
  show am_Ev m_L_four WB RO RQ (331, [.ref 38], [.int 3, .int 0, .ref 38], H)
  refine act true (i := 65) (cd := d_B_terminalOf 15) (x := 0) (g := 366) (r := [.int 0, .int 3]) (v := .int 2) rfl rfl rfl rfl rfl (Nat.le_of_ble_eq_true rfl) (fun _ => rfl) (Nat.le_of_ble_eq_true rfl) (Nat.le_of_ble_eq_true rfl) (dz_terminalOf 0 3 (by decide +kernel)) ha ?_
  clear ha
  intro H ha _
  show am_Ev m_L_four WB RO RQ (334, [.ref 38], [.int 2], H)
  refine am_Ev_G [335] 3 _ ?_
  show am_Ev m_L_four WB RO RQ (335, [.ref 38], [.int 2, .int 2], H)
  refine wk_ne rfl rfl ?_
  show am_Ev m_L_four WB RO RQ (338, [.ref 38], [], H)
  refine am_Ev_G [341] 4 _ ?_
  show am_Ev m_L_four WB RO RQ (341, [.ref 38], [.int 8, .ref 38], H)
  refine act true (i := 78) (cd := d_B_count 15) (x := 0) (g := 366) (r := [.int 8]) (v := .int 2) rfl rfl rfl rfl rfl (Nat.le_of_ble_eq_true rfl) (fun _ => rfl) (Nat.le_of_ble_eq_true rfl) (Nat.le_of_ble_eq_true rfl) (dz_count 8 (by decide +kernel)) ha ?_
  clear ha
  intro H ha _
  show am_Ev m_L_four WB RO RQ (344, [.ref 38], [.int 2], H)
  refine am_Ev_G [345] 3 _ ?_
  show am_Ev m_L_four WB RO RQ (345, [.ref 38], [.int 2, .int 2], H)
  refine wk_eq1 rfl rfl ?_
  show am_Ev m_L_four WB RO RQ (350, [.ref 38], [], H)
  refine am_Ev_G [351] 3 _ ?_
  show am_Ev m_L_four WB RO RQ (351, [.ref 38], [.ref 38], H)
  refine act true (i := 43) (cd := d_B_blockAll 15) (x := 0) (g := 366) (r := []) (v := .int 2) rfl rfl rfl rfl rfl (Nat.le_of_ble_eq_true rfl) (fun _ => rfl) (Nat.le_of_ble_eq_true rfl) (Nat.le_of_ble_eq_true rfl) (dz_blockAll (by decide +kernel)) ha ?_
  clear ha
  intro H ha _
  have ha : At H qF8 366 := ha.nrm (by decide +kernel)
  show am_Ev m_L_four WB RO RQ (354, [.ref 38], [.int 2], H)
  refine am_Ev_G [355] 3 _ ?_
  show am_Ev m_L_four WB RO RQ (355, [.ref 38], [.int 2, .int 2], H)
  refine wk_ne rfl rfl ?_
  show am_Ev m_L_four WB RO RQ (358, [.ref 38], [], H)
  refine am_Ev_G [361] 5 _ ?_
  show am_Ev m_L_four WB RO RQ (361, [.ref 38], [.int 5, .int 1, .ref 38], H)
  refine act true (i := 68) (cd := d_B_tripOf 15) (x := 0) (g := 366) (r := [.int 1, .int 5]) (v := .int 0) rfl rfl rfl rfl rfl (Nat.le_of_ble_eq_true rfl) (fun _ => rfl) (Nat.le_of_ble_eq_true rfl) (Nat.le_of_ble_eq_true rfl) (dz_tripOf 1 5 (by decide +kernel)) ha ?_
  clear ha
  intro H ha _
  show am_Ev m_L_four WB RO RQ (364, [.ref 38], [.int 0], H)
  refine wk_ifne rfl rfl ?_
  show am_Ev m_L_four WB RO RQ (367, [.ref 38], [], H)
  refine am_Ev_G [370] 5 _ ?_
  show am_Ev m_L_four WB RO RQ (370, [.ref 38], [.int 5, .int 3, .ref 38], H)
  refine act true (i := 68) (cd := d_B_tripOf 15) (x := 0) (g := 366) (r := [.int 3, .int 5]) (v := .int 2) rfl rfl rfl rfl rfl (Nat.le_of_ble_eq_true rfl) (fun _ => rfl) (Nat.le_of_ble_eq_true rfl) (Nat.le_of_ble_eq_true rfl) (dz_tripOf 3 5 (by decide +kernel)) ha ?_
  clear ha
  intro H ha _
  show am_Ev m_L_four WB RO RQ (373, [.ref 38], [.int 2], H)
  refine am_Ev_G [374] 3 _ ?_
  show am_Ev m_L_four WB RO RQ (374, [.ref 38], [.int 2, .int 2], H)
  refine wk_ne rfl rfl ?_
  show am_Ev m_L_four WB RO RQ (377, [.ref 38], [], H)
  refine am_Ev_G [381] 5 _ ?_
  show am_Ev m_L_four WB RO RQ (381, [.ref 38], [.int 7, .int 3, .ref 38], H)
  refine act true (i := 68) (cd := d_B_tripOf 15) (x := 0) (g := 366) (r := [.int 3, .int 7]) (v := .int 1) rfl rfl rfl rfl rfl (Nat.le_of_ble_eq_true rfl) (fun _ => rfl) (Nat.le_of_ble_eq_true rfl) (Nat.le_of_ble_eq_true rfl) (dz_tripOf 3 7 (by decide +kernel)) ha ?_
  clear ha
  intro H ha _
  show am_Ev m_L_four WB RO RQ (384, [.ref 38], [.int 1], H)
  refine am_Ev_G [385] 3 _ ?_
  show am_Ev m_L_four WB RO RQ (385, [.ref 38], [.int 1, .int 1], H)
  refine wk_ne rfl rfl ?_
  show am_Ev m_L_four WB RO RQ (388, [.ref 38], [], H)
  refine am_Ev_G [391] 5 _ ?_
  show am_Ev m_L_four WB RO RQ (391, [.ref 38], [.int 4, .int 1, .ref 38], H)
  refine act true (i := 71) (cd := d_B_blockOf 15) (x := 0) (g := 366) (r := [.int 1, .int 4]) (v := .int 1) rfl rfl rfl rfl rfl (Nat.le_of_ble_eq_true rfl) (fun _ => rfl) (Nat.le_of_ble_eq_true rfl) (Nat.le_of_ble_eq_true rfl) (dz_blockOf 1 4 (by decide +kernel)) ha ?_
  clear ha
  intro H ha _
  show am_Ev m_L_four WB RO RQ (394, [.ref 38], [.int 1], H)
  refine am_Ev_G [395] 3 _ ?_
  show am_Ev m_L_four WB RO RQ (395, [.ref 38], [.int 1, .int 1], H)
  refine wk_ne rfl rfl ?_
  show am_Ev m_L_four WB RO RQ (398, [.ref 38], [], H)
  refine am_Ev_G [399] 3 _ ?_
  show am_Ev m_L_four WB RO RQ (399, [.ref 38], [.ref 38], H)
  refine act true (i := 62) (cd := d_B_undo 15) (x := 0) (g := 366) (r := []) (v := .int 5) rfl rfl rfl rfl rfl (Nat.le_of_ble_eq_true rfl) (fun _ => rfl) (Nat.le_of_ble_eq_true rfl) (Nat.le_of_ble_eq_true rfl) (dz_undo (by decide +kernel)) ha ?_
  clear ha
  intro H ha _
  have ha : At H qF9 366 := ha
  show am_Ev m_L_four WB RO RQ (402, [.ref 38], [.int 5], H)
  refine am_Ev_G [403] 3 _ ?_
  show am_Ev m_L_four WB RO RQ (403, [.ref 38], [.int 5, .int 5], H)
  refine wk_ne rfl rfl ?_
  show am_Ev m_L_four WB RO RQ (406, [.ref 38], [], H)
  refine am_Ev_G [408] 4 _ ?_
  show am_Ev m_L_four WB RO RQ (408, [.ref 38], [.int 2, .ref 38], H)
  refine act true (i := 78) (cd := d_B_count 15) (x := 0) (g := 366) (r := [.int 2]) (v := .int 4) rfl rfl rfl rfl rfl (Nat.le_of_ble_eq_true rfl) (fun _ => rfl) (Nat.le_of_ble_eq_true rfl) (Nat.le_of_ble_eq_true rfl) (dz_count 2 (by decide +kernel)) ha ?_
  clear ha
  intro H ha _
  show am_Ev m_L_four WB RO RQ (411, [.ref 38], [.int 4], H)
  refine am_Ev_G [412] 3 _ ?_
  show am_Ev m_L_four WB RO RQ (412, [.ref 38], [.int 4, .int 4], H)
  refine wk_ne rfl rfl ?_
  show am_Ev m_L_four WB RO RQ (415, [.ref 38], [], H)
  refine am_Ev_G [418] 5 _ ?_
  show am_Ev m_L_four WB RO RQ (418, [.ref 38], [.int 0, .int 1, .ref 38], H)
  refine act true (i := 37) (cd := d_B_follow 15) (x := 0) (g := 366) (r := [.int 1, .int 0]) (v := .int 0) rfl rfl rfl rfl rfl (Nat.le_of_ble_eq_true rfl) (fun _ => rfl) (Nat.le_of_ble_eq_true rfl) (Nat.le_of_ble_eq_true rfl) (dz_follow 1 0 (by decide +kernel)) ha ?_
  clear ha
  intro H ha _
  have ha : At H qF10 366 := ha.nrm (by decide +kernel)
  show am_Ev m_L_four WB RO RQ (421, [.ref 38], [.int 0], H)
  refine wk_ifne rfl rfl ?_
  show am_Ev m_L_four WB RO RQ (424, [.ref 38], [], H)
  refine am_Ev_G [427] 5 _ ?_
  show am_Ev m_L_four WB RO RQ (427, [.ref 38], [.int 0, .int 2, .ref 38], H)
  refine act true (i := 37) (cd := d_B_follow 15) (x := 0) (g := 366) (r := [.int 2, .int 0]) (v := .int 2) rfl rfl rfl rfl rfl (Nat.le_of_ble_eq_true rfl) (fun _ => rfl) (Nat.le_of_ble_eq_true rfl) (Nat.le_of_ble_eq_true rfl) (dz_follow 2 0 (by decide +kernel)) ha ?_
  clear ha
  intro H ha _
  have ha : At H qF11 366 := ha.nrm (by decide +kernel)
  show am_Ev m_L_four WB RO RQ (430, [.ref 38], [.int 2], H)
  refine am_Ev_G [431] 3 _ ?_
  show am_Ev m_L_four WB RO RQ (431, [.ref 38], [.int 2, .int 2], H)
  refine wk_ne rfl rfl ?_
  show am_Ev m_L_four WB RO RQ (434, [.ref 38], [], H)
  refine am_Ev_G [437] 5 _ ?_
  show am_Ev m_L_four WB RO RQ (437, [.ref 38], [.int 1, .int 1, .ref 38], H)
  refine act true (i := 37) (cd := d_B_follow 15) (x := 0) (g := 366) (r := [.int 1, .int 1]) (v := .int 2) rfl rfl rfl rfl rfl (Nat.le_of_ble_eq_true rfl) (fun _ => rfl) (Nat.le_of_ble_eq_true rfl) (Nat.le_of_ble_eq_true rfl) (dz_follow 1 1 (by decide +kernel)) ha ?_
  clear ha
  intro H ha _
  have ha : At H qF12 366 := ha.nrm (by decide +kernel)
  show am_Ev m_L_four WB RO RQ (440, [.ref 38], [.int 2], H)
  refine am_Ev_G [441] 3 _ ?_
  show am_Ev m_L_four WB RO RQ (441, [.ref 38], [.int 2, .int 2], H)
  refine wk_ne rfl rfl ?_
  show am_Ev m_L_four WB RO RQ (444, [.ref 38], [], H)
  exact four_c3 ha
set_option maxRecDepth 100000 in
theorem four_c1 {H : HP} (ha : At H qF5 366) : am_Ev m_L_four WB RO RQ (177, [.ref 38], [], H) := by
  refine am_Ev_G [180] 5 _ ?_
  show am_Ev m_L_four WB RO RQ (180, [.ref 38], [.int 0, .int 0, .ref 38], H)
  refine act true (i := 84) (cd := d_B_whyNot 15) (x := 0) (g := 366) (r := [.int 0, .int 0]) (v := .int 3) rfl rfl rfl rfl rfl (Nat.le_of_ble_eq_true rfl) (fun _ => rfl) (Nat.le_of_ble_eq_true rfl) (Nat.le_of_ble_eq_true rfl) (dz_whyNot 0 0 (by decide +kernel)) ha ?_
  clear ha
  intro H ha _
  show am_Ev m_L_four WB RO RQ (183, [.ref 38], [.int 3], H)
  refine am_Ev_G [184] 3 _ ?_
  show am_Ev m_L_four WB RO RQ (184, [.ref 38], [.int 3, .int 3], H)
  refine wk_ne rfl rfl ?_
  show am_Ev m_L_four WB RO RQ (187, [.ref 38], [], H)
  refine am_Ev_G [190] 5 _ ?_
  show am_Ev m_L_four WB RO RQ (190, [.ref 38], [.int 1, .int 3, .ref 38], H)
  refine act true (i := 84) (cd := d_B_whyNot 15) (x := 0) (g := 366) (r := [.int 3, .int 1]) (v := .int 0) rfl rfl rfl rfl rfl (Nat.le_of_ble_eq_true rfl) (fun _ => rfl) (Nat.le_of_ble_eq_true rfl) (Nat.le_of_ble_eq_true rfl) (dz_whyNot 3 1 (by decide +kernel)) ha ?_
  clear ha
  intro H ha _
  show am_Ev m_L_four WB RO RQ (193, [.ref 38], [.int 0], H)
  refine wk_ifne rfl rfl ?_
  show am_Ev m_L_four WB RO RQ (196, [.ref 38], [], H)
  refine am_Ev_G [199] 5 _ ?_
  show am_Ev m_L_four WB RO RQ (199, [.ref 38], [.int 2, .int 3, .ref 38], H)
  refine act true (i := 84) (cd := d_B_whyNot 15) (x := 0) (g := 366) (r := [.int 3, .int 2]) (v := .int 0) rfl rfl rfl rfl rfl (Nat.le_of_ble_eq_true rfl) (fun _ => rfl) (Nat.le_of_ble_eq_true rfl) (Nat.le_of_ble_eq_true rfl) (dz_whyNot 3 2 (by decide +kernel)) ha ?_
  clear ha
  intro H ha _
  show am_Ev m_L_four WB RO RQ (202, [.ref 38], [.int 0], H)
  refine wk_ifne rfl rfl ?_
  show am_Ev m_L_four WB RO RQ (205, [.ref 38], [], H)
  refine am_Ev_G [208] 5 _ ?_
  show am_Ev m_L_four WB RO RQ (208, [.ref 38], [.int 0, .int 0, .ref 38], H)
  refine act true (i := 34) (cd := d_B_set 15) (x := 0) (g := 366) (r := [.int 0, .int 0]) (v := .int 1) rfl rfl rfl rfl rfl (Nat.le_of_ble_eq_true rfl) (fun _ => rfl) (Nat.le_of_ble_eq_true rfl) (Nat.le_of_ble_eq_true rfl) (dz_set 0 0 (by decide +kernel)) ha ?_
  clear ha
  intro H ha _
  have ha : At H qF6 366 := ha.nrm (by decide +kernel)
  show am_Ev m_L_four WB RO RQ (211, [.ref 38], [.int 1], H)
  refine am_Ev_G [212] 3 _ ?_
  show am_Ev m_L_four WB RO RQ (212, [.ref 38], [.int 1, .int 1], H)
  refine wk_ne rfl rfl ?_
  show am_Ev m_L_four WB RO RQ (215, [.ref 38], [], H)
  refine am_Ev_G [218] 5 _ ?_
  show am_Ev m_L_four WB RO RQ (218, [.ref 38], [.int 2, .int 3, .ref 38], H)
  refine act true (i := 84) (cd := d_B_whyNot 15) (x := 0) (g := 366) (r := [.int 3, .int 2]) (v := .int 5) rfl rfl rfl rfl rfl (Nat.le_of_ble_eq_true rfl) (fun _ => rfl) (Nat.le_of_ble_eq_true rfl) (Nat.le_of_ble_eq_true rfl) (dz_whyNot 3 2 (by decide +kernel)) ha ?_
  clear ha
  intro H ha _
  show am_Ev m_L_four WB RO RQ (221, [.ref 38], [.int 5], H)
  refine am_Ev_G [222] 3 _ ?_
  show am_Ev m_L_four WB RO RQ (222, [.ref 38], [.int 5, .int 5], H)
  refine wk_ne rfl rfl ?_
  show am_Ev m_L_four WB RO RQ (225, [.ref 38], [], H)
  refine am_Ev_G [227] 4 _ ?_
  show am_Ev m_L_four WB RO RQ (227, [.ref 38], [.int 4, .ref 38], H)
  refine act true (i := 78) (cd := d_B_count 15) (x := 0) (g := 366) (r := [.int 4]) (v := .int 2) rfl rfl rfl rfl rfl (Nat.le_of_ble_eq_true rfl) (fun _ => rfl) (Nat.le_of_ble_eq_true rfl) (Nat.le_of_ble_eq_true rfl) (dz_count 4 (by decide +kernel)) ha ?_
  clear ha
  intro H ha _
  show am_Ev m_L_four WB RO RQ (230, [.ref 38], [.int 2], H)
  refine am_Ev_G [231] 3 _ ?_
  show am_Ev m_L_four WB RO RQ (231, [.ref 38], [.int 2, .int 2], H)
  refine wk_ne rfl rfl ?_
  show am_Ev m_L_four WB RO RQ (234, [.ref 38], [], H)
  refine am_Ev_G [236] 4 _ ?_
  show am_Ev m_L_four WB RO RQ (236, [.ref 38], [.int 3, .ref 38], H)
  refine act true (i := 78) (cd := d_B_count 15) (x := 0) (g := 366) (r := [.int 3]) (v := .int 2) rfl rfl rfl rfl rfl (Nat.le_of_ble_eq_true rfl) (fun _ => rfl) (Nat.le_of_ble_eq_true rfl) (Nat.le_of_ble_eq_true rfl) (dz_count 3 (by decide +kernel)) ha ?_
  clear ha
  intro H ha _
  show am_Ev m_L_four WB RO RQ (239, [.ref 38], [.int 2], H)
  refine am_Ev_G [240] 3 _ ?_
  show am_Ev m_L_four WB RO RQ (240, [.ref 38], [.int 2, .int 2], H)
  refine wk_ne rfl rfl ?_
  show am_Ev m_L_four WB RO RQ (243, [.ref 38], [], H)
  refine am_Ev_G [246] 5 _ ?_
  show am_Ev m_L_four WB RO RQ (246, [.ref 38], [.int 4, .int 1, .ref 38], H)
  refine act true (i := 65) (cd := d_B_terminalOf 15) (x := 0) (g := 366) (r := [.int 1, .int 4]) (v := .int 1) rfl rfl rfl rfl rfl (Nat.le_of_ble_eq_true rfl) (fun _ => rfl) (Nat.le_of_ble_eq_true rfl) (Nat.le_of_ble_eq_true rfl) (dz_terminalOf 1 4 (by decide +kernel)) ha ?_
  clear ha
  intro H ha _
  show am_Ev m_L_four WB RO RQ (249, [.ref 38], [.int 1], H)
  refine am_Ev_G [250] 3 _ ?_
  show am_Ev m_L_four WB RO RQ (250, [.ref 38], [.int 1, .int 1], H)
  refine wk_ne rfl rfl ?_
  show am_Ev m_L_four WB RO RQ (253, [.ref 38], [], H)
  refine am_Ev_G [256] 5 _ ?_
  show am_Ev m_L_four WB RO RQ (256, [.ref 38], [.int 4, .int 0, .ref 38], H)
  refine act true (i := 65) (cd := d_B_terminalOf 15) (x := 0) (g := 366) (r := [.int 0, .int 4]) (v := .int 1) rfl rfl rfl rfl rfl (Nat.le_of_ble_eq_true rfl) (fun _ => rfl) (Nat.le_of_ble_eq_true rfl) (Nat.le_of_ble_eq_true rfl) (dz_terminalOf 0 4 (by decide +kernel)) ha ?_
  clear ha
  intro H ha _
  show am_Ev m_L_four WB RO RQ (259, [.ref 38], [.int 1], H)
  refine am_Ev_G [260] 3 _ ?_
  show am_Ev m_L_four WB RO RQ (260, [.ref 38], [.int 1, .int 1], H)
  refine wk_ne rfl rfl ?_
  show am_Ev m_L_four WB RO RQ (263, [.ref 38], [], H)
  refine am_Ev_G [266] 5 _ ?_
  show am_Ev m_L_four WB RO RQ (266, [.ref 38], [.int 1, .int 0, .ref 38], H)
  refine act true (i := 34) (cd := d_B_set 15) (x := 0) (g := 366) (r := [.int 0, .int 1]) (v := .int 0) rfl rfl rfl rfl rfl (Nat.le_of_ble_eq_true rfl) (fun _ => rfl) (Nat.le_of_ble_eq_true rfl) (Nat.le_of_ble_eq_true rfl) (dz_set 0 1 (by decide +kernel)) ha ?_
  clear ha
  intro H ha _
  have ha : At H qF7 366 := ha.nrm (by decide +kernel)
  show am_Ev m_L_four WB RO RQ (269, [.ref 38], [.int 0], H)
  refine wk_ifne rfl rfl ?_
  show am_Ev m_L_four WB RO RQ (272, [.ref 38], [], H)
  refine am_Ev_G [274] 4 _ ?_
  show am_Ev m_L_four WB RO RQ (274, [.ref 38], [.int 4, .ref 38], H)
  refine act true (i := 78) (cd := d_B_count 15) (x := 0) (g := 366) (r := [.int 4]) (v := .int 2) rfl rfl rfl rfl rfl (Nat.le_of_ble_eq_true rfl) (fun _ => rfl) (Nat.le_of_ble_eq_true rfl) (Nat.le_of_ble_eq_true rfl) (dz_count 4 (by decide +kernel)) ha ?_
  clear ha
  intro H ha _
  show am_Ev m_L_four WB RO RQ (277, [.ref 38], [.int 2], H)
  refine am_Ev_G [278] 3 _ ?_
  show am_Ev m_L_four WB RO RQ (278, [.ref 38], [.int 2, .int 2], H)
  refine wk_ne rfl rfl ?_
  show am_Ev m_L_four WB RO RQ (281, [.ref 38], [], H)
  refine am_Ev_G [283] 4 _ ?_
  show am_Ev m_L_four WB RO RQ (283, [.ref 38], [.int 3, .ref 38], H)
  refine act true (i := 78) (cd := d_B_count 15) (x := 0) (g := 366) (r := [.int 3]) (v := .int 2) rfl rfl rfl rfl rfl (Nat.le_of_ble_eq_true rfl) (fun _ => rfl) (Nat.le_of_ble_eq_true rfl) (Nat.le_of_ble_eq_true rfl) (dz_count 3 (by decide +kernel)) ha ?_
  clear ha
  intro H ha _
  show am_Ev m_L_four WB RO RQ (286, [.ref 38], [.int 2], H)
  refine am_Ev_G [287] 3 _ ?_
  show am_Ev m_L_four WB RO RQ (287, [.ref 38], [.int 2, .int 2], H)
  refine wk_ne rfl rfl ?_
  show am_Ev m_L_four WB RO RQ (290, [.ref 38], [], H)
  refine am_Ev_G [292] 4 _ ?_
  show am_Ev m_L_four WB RO RQ (292, [.ref 38], [.int 2, .ref 38], H)
  refine act true (i := 78) (cd := d_B_count 15) (x := 0) (g := 366) (r := [.int 2]) (v := .int 4) rfl rfl rfl rfl rfl (Nat.le_of_ble_eq_true rfl) (fun _ => rfl) (Nat.le_of_ble_eq_true rfl) (Nat.le_of_ble_eq_true rfl) (dz_count 2 (by decide +kernel)) ha ?_
  clear ha
  intro H ha _
  show am_Ev m_L_four WB RO RQ (295, [.ref 38], [.int 4], H)
  refine am_Ev_G [296] 3 _ ?_
  show am_Ev m_L_four WB RO RQ (296, [.ref 38], [.int 4, .int 4], H)
  refine wk_ne rfl rfl ?_
  show am_Ev m_L_four WB RO RQ (299, [.ref 38], [], H)
  refine am_Ev_G [302] 5 _ ?_
  show am_Ev m_L_four WB RO RQ (302, [.ref 38], [.int 4, .int 0, .ref 38], H)
  refine act true (i := 65) (cd := d_B_terminalOf 15) (x := 0) (g := 366) (r := [.int 0, .int 4]) (v := .int 1) rfl rfl rfl rfl rfl (Nat.le_of_ble_eq_true rfl) (fun _ => rfl) (Nat.le_of_ble_eq_true rfl) (Nat.le_of_ble_eq_true rfl) (dz_terminalOf 0 4 (by decide +kernel)) ha ?_
  clear ha
  intro H ha _
  show am_Ev m_L_four WB RO RQ (305, [.ref 38], [.int 1], H)
  refine am_Ev_G [306] 3 _ ?_
  show am_Ev m_L_four WB RO RQ (306, [.ref 38], [.int 1, .int 1], H)
  refine wk_ne rfl rfl ?_
  show am_Ev m_L_four WB RO RQ (309, [.ref 38], [], H)
  exact four_c2 ha
set_option maxRecDepth 100000 in
theorem four_c0 {H : HP} (ha : At H qF0 200) : am_Ev m_L_four WB RO RQ (8, [.ref 38], [], H) := by
  refine am_Ev_G [14] 7 _ ?_
  show am_Ev m_L_four WB RO RQ (14, [.ref 38], [.long 0, .int 0, .int 0, .int 13, .ref 38], H)
  refine act false (i := 112) (cd := d_L_call) (x := 1) (g := 200) (r := [.int 13, .int 0, .int 0, .long 0]) (v := .int (-13 : Int32)) rfl rfl rfl rfl rfl (Nat.le_of_ble_eq_true rfl) (fun _ => rfl) (Nat.le_of_ble_eq_true rfl) (Nat.le_of_ble_eq_true rfl) (dz_callT 13 0 0 0 (by decide +kernel) (by decide +kernel)) ha ?_
  clear ha
  intro H ha _
  show am_Ev m_L_four WB RO RQ (17, [.ref 38], [.int (-13 : Int32)], H)
  refine am_Ev_G [19] 3 _ ?_
  show am_Ev m_L_four WB RO RQ (19, [.ref 38], [.int (-13 : Int32), .int (-13 : Int32)], H)
  refine wk_ne rfl rfl ?_
  show am_Ev m_L_four WB RO RQ (22, [.ref 38], [], H)
  refine am_Ev_G [28] 7 _ ?_
  show am_Ev m_L_four WB RO RQ (28, [.ref 38], [.long 0, .int 0, .int 0, .int 12, .ref 38], H)
  refine act false (i := 112) (cd := d_L_call) (x := 1) (g := 201) (r := [.int 12, .int 0, .int 0, .long 0]) (v := .int (-13 : Int32)) rfl rfl rfl rfl rfl (Nat.le_of_ble_eq_true rfl) (fun _ => rfl) (Nat.le_of_ble_eq_true rfl) (Nat.le_of_ble_eq_true rfl) (dz_callT 12 0 0 0 (by decide +kernel) (by decide +kernel)) ha ?_
  clear ha
  intro H ha _
  show am_Ev m_L_four WB RO RQ (31, [.ref 38], [.int (-13 : Int32)], H)
  refine am_Ev_G [33] 3 _ ?_
  show am_Ev m_L_four WB RO RQ (33, [.ref 38], [.int (-13 : Int32), .int (-13 : Int32)], H)
  refine wk_ne rfl rfl ?_
  show am_Ev m_L_four WB RO RQ (36, [.ref 38], [], H)
  refine am_Ev_G [37] 3 _ ?_
  show am_Ev m_L_four WB RO RQ (37, [.ref 38], [.ref 38], H)
  refine act true (i := 43) (cd := d_B_blockAll 15) (x := 0) (g := 202) (r := []) (v := .int 0) rfl rfl rfl rfl rfl (Nat.le_of_ble_eq_true rfl) (fun _ => rfl) (Nat.le_of_ble_eq_true rfl) (Nat.le_of_ble_eq_true rfl) (dz_blockAll (by decide +kernel)) ha ?_
  clear ha
  intro H ha _
  have ha : At H qF1 202 := ha.nrm (by decide +kernel)
  show am_Ev m_L_four WB RO RQ (40, [.ref 38], [.int 0], H)
  refine wk_ifne rfl rfl ?_
  show am_Ev m_L_four WB RO RQ (43, [.ref 38], [], H)
  refine am_Ev_G [46] 4 _ ?_
  show am_Ev m_L_four WB RO RQ (46, [.ref 38], [.int 9, .ref 38], H)
  refine act true (i := 78) (cd := d_B_count 15) (x := 0) (g := 202) (r := [.int 9]) (v := .int 0) rfl rfl rfl rfl rfl (Nat.le_of_ble_eq_true rfl) (fun _ => rfl) (Nat.le_of_ble_eq_true rfl) (Nat.le_of_ble_eq_true rfl) (dz_count 9 (by decide +kernel)) ha ?_
  clear ha
  intro H ha _
  show am_Ev m_L_four WB RO RQ (49, [.ref 38], [.int 0], H)
  refine wk_ifne rfl rfl ?_
  show am_Ev m_L_four WB RO RQ (52, [.ref 38], [], H)
  refine am_Ev_G [53] 3 _ ?_
  show am_Ev m_L_four WB RO RQ (53, [.ref 38], [.ref 38], H)
  refine act true (i := 135) (cd := d_B_drivenShare 15) (x := 0) (g := 202) (r := []) (v := .double (FP.dconst1)) rfl rfl rfl rfl rfl (Nat.le_of_ble_eq_true rfl) (fun _ => rfl) (Nat.le_of_ble_eq_true rfl) (Nat.le_of_ble_eq_true rfl) (dz_share (u := FP.dconst1) (by decide +kernel)) ha ?_
  clear ha
  intro H ha _
  show am_Ev m_L_four WB RO RQ (56, [.ref 38], [.double (FP.dconst1)], H)
  refine am_Ev_G [57] 3 _ ?_
  show am_Ev m_L_four WB RO RQ (57, [.ref 38], [.double FP.dconst1, .double (FP.dconst1)], H)
  refine am_Ev_G [58] 3 _ ?_
  show am_Ev m_L_four WB RO RQ (58, [.ref 38], [.int (Op.cmpValue (FP.dcmp ((FP.dconst1)) (FP.dconst1)) .l)], H)
  refine wk_ifne rfl (by decide +kernel) ?_
  show am_Ev m_L_four WB RO RQ (61, [.ref 38], [], H)
  refine am_Ev_G [71] 8 _ ?_
  show am_Ev m_L_four WB RO RQ (71, [.ref 38], [.int 240, .int 1439, .int 3, .int 3, .int 3, .ref 38], H)
  refine act true (i := 87) (cd := d_B_ifTrip 15) (x := 0) (g := 202) (r := [.int 3, .int 3, .int 3, .int 1439, .int 240]) (v := .int 1) rfl rfl rfl rfl rfl (Nat.le_of_ble_eq_true rfl) (fun _ => rfl) (Nat.le_of_ble_eq_true rfl) (Nat.le_of_ble_eq_true rfl) (dz_ifTrip 3 3 3 1439 240 (by decide +kernel)) ha ?_
  clear ha
  intro H ha _
  show am_Ev m_L_four WB RO RQ (74, [.ref 38], [.int 1], H)
  refine am_Ev_G [75] 3 _ ?_
  show am_Ev m_L_four WB RO RQ (75, [.ref 38], [.int 1, .int 1], H)
  refine wk_ne rfl rfl ?_
  show am_Ev m_L_four WB RO RQ (78, [.ref 38], [], H)
  refine am_Ev_G [79] 3 _ ?_
  show am_Ev m_L_four WB RO RQ (79, [.ref 38], [.ref 38], H)
  refine act false (i := 139) (cd := d_L_refused 0) (x := 164) (g := 202) (r := []) (v := .int 1) rfl rfl rfl rfl rfl (Nat.le_of_ble_eq_true rfl) (fun _ => rfl) (Nat.le_of_ble_eq_true rfl) (Nat.le_of_ble_eq_true rfl) (dz_refused rfl) ha ?_
  clear ha
  intro H ha _
  show am_Ev m_L_four WB RO RQ (82, [.ref 38], [.int 1], H)
  refine wk_ifeq rfl (by decide) ?_
  show am_Ev m_L_four WB RO RQ (85, [.ref 38], [], H)
  refine am_Ev_G [94] 8 _ ?_
  show am_Ev m_L_four WB RO RQ (94, [.ref 38], [.int 30, .int 600, .int 1, .int 0, .int 0, .ref 38], H)
  refine act true (i := 27) (cd := d_B_trip 15) (x := 0) (g := 366) (r := [.int 0, .int 0, .int 1, .int 600, .int 30]) (v := .int 0) rfl rfl rfl rfl rfl (Nat.le_of_ble_eq_true rfl) (fun _ => rfl) (Nat.le_of_ble_eq_true rfl) (Nat.le_of_ble_eq_true rfl) (dz_trip 0 0 1 600 30 (by decide +kernel)) ha ?_
  clear ha
  intro H ha _
  have ha : At H qF2 366 := ha.nrm (by decide +kernel)
  show am_Ev m_L_four WB RO RQ (97, [.ref 38], [.int 0], H)
  refine wk_ifne rfl rfl ?_
  show am_Ev m_L_four WB RO RQ (100, [.ref 38], [], H)
  refine am_Ev_G [109] 8 _ ?_
  show am_Ev m_L_four WB RO RQ (109, [.ref 38], [.int 20, .int 640, .int 0, .int 1, .int 0, .ref 38], H)
  refine act true (i := 27) (cd := d_B_trip 15) (x := 0) (g := 366) (r := [.int 0, .int 1, .int 0, .int 640, .int 20]) (v := .int 1) rfl rfl rfl rfl rfl (Nat.le_of_ble_eq_true rfl) (fun _ => rfl) (Nat.le_of_ble_eq_true rfl) (Nat.le_of_ble_eq_true rfl) (dz_trip 0 1 0 640 20 (by decide +kernel)) ha ?_
  clear ha
  intro H ha _
  have ha : At H qF3 366 := ha.nrm (by decide +kernel)
  show am_Ev m_L_four WB RO RQ (112, [.ref 38], [.int 1], H)
  refine am_Ev_G [113] 3 _ ?_
  show am_Ev m_L_four WB RO RQ (113, [.ref 38], [.int 1, .int 1], H)
  refine wk_ne rfl rfl ?_
  show am_Ev m_L_four WB RO RQ (116, [.ref 38], [], H)
  refine am_Ev_G [125] 8 _ ?_
  show am_Ev m_L_four WB RO RQ (125, [.ref 38], [.int 10, .int 634, .int 0, .int 1, .int 1, .ref 38], H)
  refine act true (i := 27) (cd := d_B_trip 15) (x := 0) (g := 366) (r := [.int 1, .int 1, .int 0, .int 634, .int 10]) (v := .int 2) rfl rfl rfl rfl rfl (Nat.le_of_ble_eq_true rfl) (fun _ => rfl) (Nat.le_of_ble_eq_true rfl) (Nat.le_of_ble_eq_true rfl) (dz_trip 1 1 0 634 10 (by decide +kernel)) ha ?_
  clear ha
  intro H ha _
  have ha : At H qF4 366 := ha.nrm (by decide +kernel)
  show am_Ev m_L_four WB RO RQ (128, [.ref 38], [.int 2], H)
  refine am_Ev_G [129] 3 _ ?_
  show am_Ev m_L_four WB RO RQ (129, [.ref 38], [.int 2, .int 2], H)
  refine wk_ne rfl rfl ?_
  show am_Ev m_L_four WB RO RQ (132, [.ref 38], [], H)
  refine am_Ev_G [141] 8 _ ?_
  show am_Ev m_L_four WB RO RQ (141, [.ref 38], [.int 60, .int 670, .int 2, .int 0, .int 0, .ref 38], H)
  refine act true (i := 27) (cd := d_B_trip 15) (x := 0) (g := 366) (r := [.int 0, .int 0, .int 2, .int 670, .int 60]) (v := .int 3) rfl rfl rfl rfl rfl (Nat.le_of_ble_eq_true rfl) (fun _ => rfl) (Nat.le_of_ble_eq_true rfl) (Nat.le_of_ble_eq_true rfl) (dz_trip 0 0 2 670 60 (by decide +kernel)) ha ?_
  clear ha
  intro H ha _
  have ha : At H qF5 366 := ha.nrm (by decide +kernel)
  show am_Ev m_L_four WB RO RQ (144, [.ref 38], [.int 3], H)
  refine am_Ev_G [145] 3 _ ?_
  show am_Ev m_L_four WB RO RQ (145, [.ref 38], [.int 3, .int 3], H)
  refine wk_ne rfl rfl ?_
  show am_Ev m_L_four WB RO RQ (148, [.ref 38], [], H)
  refine am_Ev_G [151] 5 _ ?_
  show am_Ev m_L_four WB RO RQ (151, [.ref 38], [.int 0, .int 1, .ref 38], H)
  refine act true (i := 84) (cd := d_B_whyNot 15) (x := 0) (g := 366) (r := [.int 1, .int 0]) (v := .int 0) rfl rfl rfl rfl rfl (Nat.le_of_ble_eq_true rfl) (fun _ => rfl) (Nat.le_of_ble_eq_true rfl) (Nat.le_of_ble_eq_true rfl) (dz_whyNot 1 0 (by decide +kernel)) ha ?_
  clear ha
  intro H ha _
  show am_Ev m_L_four WB RO RQ (154, [.ref 38], [.int 0], H)
  refine wk_ifne rfl rfl ?_
  show am_Ev m_L_four WB RO RQ (157, [.ref 38], [], H)
  refine am_Ev_G [160] 5 _ ?_
  show am_Ev m_L_four WB RO RQ (160, [.ref 38], [.int 0, .int 2, .ref 38], H)
  refine act true (i := 84) (cd := d_B_whyNot 15) (x := 0) (g := 366) (r := [.int 2, .int 0]) (v := .int 4) rfl rfl rfl rfl rfl (Nat.le_of_ble_eq_true rfl) (fun _ => rfl) (Nat.le_of_ble_eq_true rfl) (Nat.le_of_ble_eq_true rfl) (dz_whyNot 2 0 (by decide +kernel)) ha ?_
  clear ha
  intro H ha _
  show am_Ev m_L_four WB RO RQ (163, [.ref 38], [.int 4], H)
  refine am_Ev_G [164] 3 _ ?_
  show am_Ev m_L_four WB RO RQ (164, [.ref 38], [.int 4, .int 4], H)
  refine wk_ne rfl rfl ?_
  show am_Ev m_L_four WB RO RQ (167, [.ref 38], [], H)
  refine am_Ev_G [170] 5 _ ?_
  show am_Ev m_L_four WB RO RQ (170, [.ref 38], [.int 0, .int 3, .ref 38], H)
  refine act true (i := 84) (cd := d_B_whyNot 15) (x := 0) (g := 366) (r := [.int 3, .int 0]) (v := .int 3) rfl rfl rfl rfl rfl (Nat.le_of_ble_eq_true rfl) (fun _ => rfl) (Nat.le_of_ble_eq_true rfl) (Nat.le_of_ble_eq_true rfl) (dz_whyNot 3 0 (by decide +kernel)) ha ?_
  clear ha
  intro H ha _
  show am_Ev m_L_four WB RO RQ (173, [.ref 38], [.int 3], H)
  refine am_Ev_G [174] 3 _ ?_
  show am_Ev m_L_four WB RO RQ (174, [.ref 38], [.int 3, .int 3], H)
  refine wk_ne rfl rfl ?_
  show am_Ev m_L_four WB RO RQ (177, [.ref 38], [], H)
  exact four_c1 ha
