/-! THE LAW'S run texts, on. -/
set_option maxRecDepth 100000 in
theorem texts_c6 {H : HP} (ha : At H qT61 201) : am_Ev m_L_texts WB RO RQ (510, [.ref 38, .int 13], [], H) := by
  refine am_Ev_G [511] 3 _ ?_
  show am_Ev m_L_texts WB RO RQ (511, [.ref 38, .int 13], [.ref 38], H)
  refine act true (i := 156) (cd := d_B_firstError 15) (x := 0) (g := 201) (r := []) (v := .int 3) rfl rfl rfl rfl rfl (Nat.le_of_ble_eq_true rfl) (fun _ => rfl) (Nat.le_of_ble_eq_true rfl) (Nat.le_of_ble_eq_true rfl) (dz_firstError (by decide +kernel)) ha ?_
  clear ha
  intro H ha _
  show am_Ev m_L_texts WB RO RQ (514, [.ref 38, .int 13], [.int 3], H)
  refine am_Ev_G [515] 3 _ ?_
  show am_Ev m_L_texts WB RO RQ (515, [.ref 38, .int 13], [.int 3, .int 3], H)
  refine wk_eq1 rfl rfl ?_
  show am_Ev m_L_texts WB RO RQ (520, [.ref 38, .int 13], [], H)
  refine wk_iinc (z := 14) rfl rfl rfl (by decide) ?_
  show am_Ev m_L_texts WB RO RQ (523, [.ref 38, .int 14], [], H)
  refine am_Ev_G [497] 5 _ ?_
  show am_Ev m_L_texts WB RO RQ (497, [.ref 38, .int 14], [.int 15, .int 14], H)
  refine wk_ge rfl (by decide) ?_
  show am_Ev m_L_texts WB RO RQ (500, [.ref 38, .int 14], [], H)
  refine am_Ev_G [504] 4 _ ?_
  show am_Ev m_L_texts WB RO RQ (504, [.ref 38, .int 14], [.long 808530483, .ref 38], H)
  refine act false (i := 152) (cd := d_L_types 0) (x := 0) (g := 201) (r := [.long 808530483]) (v := .int 1) rfl rfl rfl rfl rfl (Nat.le_of_ble_eq_true rfl) (fun _ => rfl) (Nat.le_of_ble_eq_true rfl) (Nat.le_of_ble_eq_true rfl) (dz_types (s' := [48, 49, 50, 51, 48, 49, 50, 51, 48, 49, 50, 51, 48, 49, 50, 51, 48, 49, 50, 51, 48, 49, 50, 51, 48, 49, 50, 51, 48, 49, 50, 51, 48, 49, 50, 51, 48, 49, 50, 51, 48, 49, 50, 51, 48, 49, 50, 51, 48, 49, 50, 51, 48, 49, 50, 51, 48, 49, 50, 51]) (by decide +kernel)) ha ?_
  clear ha
  intro H ha _
  have ha : At H qT62 201 := ha
  show am_Ev m_L_texts WB RO RQ (507, [.ref 38, .int 14], [.int 1], H)
  refine wk_ifeq rfl (by decide) ?_
  show am_Ev m_L_texts WB RO RQ (510, [.ref 38, .int 14], [], H)
  refine am_Ev_G [511] 3 _ ?_
  show am_Ev m_L_texts WB RO RQ (511, [.ref 38, .int 14], [.ref 38], H)
  refine act true (i := 156) (cd := d_B_firstError 15) (x := 0) (g := 201) (r := []) (v := .int 3) rfl rfl rfl rfl rfl (Nat.le_of_ble_eq_true rfl) (fun _ => rfl) (Nat.le_of_ble_eq_true rfl) (Nat.le_of_ble_eq_true rfl) (dz_firstError (by decide +kernel)) ha ?_
  clear ha
  intro H ha _
  show am_Ev m_L_texts WB RO RQ (514, [.ref 38, .int 14], [.int 3], H)
  refine am_Ev_G [515] 3 _ ?_
  show am_Ev m_L_texts WB RO RQ (515, [.ref 38, .int 14], [.int 3, .int 3], H)
  refine wk_eq1 rfl rfl ?_
  show am_Ev m_L_texts WB RO RQ (520, [.ref 38, .int 14], [], H)
  refine wk_iinc (z := 15) rfl rfl rfl (by decide) ?_
  show am_Ev m_L_texts WB RO RQ (523, [.ref 38, .int 15], [], H)
  refine am_Ev_G [497] 5 _ ?_
  show am_Ev m_L_texts WB RO RQ (497, [.ref 38, .int 15], [.int 15, .int 15], H)
  refine wk_ge1 rfl (by decide) ?_
  show am_Ev m_L_texts WB RO RQ (526, [.ref 38, .int 15], [], H)
  refine am_Ev_G [533] 7 _ ?_
  show am_Ev m_L_texts WB RO RQ (533, [.ref 38, .int 15], [.long 0, .int 0, .int 48, .int 9, .ref 38], H)
  refine act false (i := 112) (cd := d_L_call) (x := 1) (g := 201) (r := [.int 9, .int 48, .int 0, .long 0]) (v := .int (-13 : Int32)) rfl rfl rfl rfl rfl (Nat.le_of_ble_eq_true rfl) (fun _ => rfl) (Nat.le_of_ble_eq_true rfl) (Nat.le_of_ble_eq_true rfl) (dz_callT 9 48 0 0 (by decide +kernel) (by decide +kernel)) ha ?_
  clear ha
  intro H ha _
  show am_Ev m_L_texts WB RO RQ (536, [.ref 38, .int 15], [.int (-13 : Int32)], H)
  refine am_Ev_G [538] 3 _ ?_
  show am_Ev m_L_texts WB RO RQ (538, [.ref 38, .int 15], [.int (-13 : Int32), .int (-13 : Int32)], H)
  refine wk_ne rfl rfl ?_
  show am_Ev m_L_texts WB RO RQ (541, [.ref 38, .int 15], [], H)
  refine am_Ev_G [547] 7 _ ?_
  show am_Ev m_L_texts WB RO RQ (547, [.ref 38, .int 15], [.long 0, .int 0, .int 0, .int 10, .ref 38], H)
  refine act false (i := 112) (cd := d_L_call) (x := 1) (g := 202) (r := [.int 10, .int 0, .int 0, .long 0]) (v := .int (-12 : Int32)) rfl rfl rfl rfl rfl (Nat.le_of_ble_eq_true rfl) (fun _ => rfl) (Nat.le_of_ble_eq_true rfl) (Nat.le_of_ble_eq_true rfl) (dz_callT 10 0 0 0 (by decide +kernel) (by decide +kernel)) ha ?_
  clear ha
  intro H ha _
  show am_Ev m_L_texts WB RO RQ (550, [.ref 38, .int 15], [.int (-12 : Int32)], H)
  refine am_Ev_G [552] 3 _ ?_
  show am_Ev m_L_texts WB RO RQ (552, [.ref 38, .int 15], [.int (-12 : Int32), .int (-12 : Int32)], H)
  refine wk_ne rfl rfl ?_
  show am_Ev m_L_texts WB RO RQ (555, [.ref 38, .int 15], [], H)
  refine am_Ev_G [556] 3 _ ?_
  show am_Ev m_L_texts WB RO RQ (556, [.ref 38, .int 15], [.ref 38], H)
  refine act true (i := 149) (cd := d_B_clearBuffer 15) (x := 0) (g := 203) (r := []) (v := .int 60) rfl rfl rfl rfl rfl (Nat.le_of_ble_eq_true rfl) (fun _ => rfl) (Nat.le_of_ble_eq_true rfl) (Nat.le_of_ble_eq_true rfl) (dz_clear (by decide +kernel)) ha ?_
  clear ha
  intro H ha _
  have ha : At H qT63 203 := ha
  show am_Ev m_L_texts WB RO RQ (559, [.ref 38, .int 15], [.int 60], H)
  refine am_Ev_G [561] 3 _ ?_
  show am_Ev m_L_texts WB RO RQ (561, [.ref 38, .int 15], [.int 60, .int 60], H)
  refine wk_ne rfl rfl ?_
  show am_Ev m_L_texts WB RO RQ (564, [.ref 38, .int 15], [], H)
  refine am_Ev_G [569] 4 _ ?_
  show am_Ev m_L_texts WB RO RQ (569, [.ref 38, .int 15], [.int 1], H)
  exact wk_ret rfl rfl (.inr rfl) ⟨rfl, by rw [ha.2, nI_clamp (by omega)]; omega⟩
set_option maxRecDepth 100000 in
theorem texts_c5 {H : HP} (ha : At H qT54 201) : am_Ev m_L_texts WB RO RQ (510, [.ref 38, .int 6], [], H) := by
  refine am_Ev_G [511] 3 _ ?_
  show am_Ev m_L_texts WB RO RQ (511, [.ref 38, .int 6], [.ref 38], H)
  refine act true (i := 156) (cd := d_B_firstError 15) (x := 0) (g := 201) (r := []) (v := .int 3) rfl rfl rfl rfl rfl (Nat.le_of_ble_eq_true rfl) (fun _ => rfl) (Nat.le_of_ble_eq_true rfl) (Nat.le_of_ble_eq_true rfl) (dz_firstError (by decide +kernel)) ha ?_
  clear ha
  intro H ha _
  show am_Ev m_L_texts WB RO RQ (514, [.ref 38, .int 6], [.int 3], H)
  refine am_Ev_G [515] 3 _ ?_
  show am_Ev m_L_texts WB RO RQ (515, [.ref 38, .int 6], [.int 3, .int 3], H)
  refine wk_eq1 rfl rfl ?_
  show am_Ev m_L_texts WB RO RQ (520, [.ref 38, .int 6], [], H)
  refine wk_iinc (z := 7) rfl rfl rfl (by decide) ?_
  show am_Ev m_L_texts WB RO RQ (523, [.ref 38, .int 7], [], H)
  refine am_Ev_G [497] 5 _ ?_
  show am_Ev m_L_texts WB RO RQ (497, [.ref 38, .int 7], [.int 15, .int 7], H)
  refine wk_ge rfl (by decide) ?_
  show am_Ev m_L_texts WB RO RQ (500, [.ref 38, .int 7], [], H)
  refine am_Ev_G [504] 4 _ ?_
  show am_Ev m_L_texts WB RO RQ (504, [.ref 38, .int 7], [.long 808530483, .ref 38], H)
  refine act false (i := 152) (cd := d_L_types 0) (x := 0) (g := 201) (r := [.long 808530483]) (v := .int 1) rfl rfl rfl rfl rfl (Nat.le_of_ble_eq_true rfl) (fun _ => rfl) (Nat.le_of_ble_eq_true rfl) (Nat.le_of_ble_eq_true rfl) (dz_types (s' := [48, 49, 50, 51, 48, 49, 50, 51, 48, 49, 50, 51, 48, 49, 50, 51, 48, 49, 50, 51, 48, 49, 50, 51, 48, 49, 50, 51, 48, 49, 50, 51]) (by decide +kernel)) ha ?_
  clear ha
  intro H ha _
  have ha : At H qT55 201 := ha
  show am_Ev m_L_texts WB RO RQ (507, [.ref 38, .int 7], [.int 1], H)
  refine wk_ifeq rfl (by decide) ?_
  show am_Ev m_L_texts WB RO RQ (510, [.ref 38, .int 7], [], H)
  refine am_Ev_G [511] 3 _ ?_
  show am_Ev m_L_texts WB RO RQ (511, [.ref 38, .int 7], [.ref 38], H)
  refine act true (i := 156) (cd := d_B_firstError 15) (x := 0) (g := 201) (r := []) (v := .int 3) rfl rfl rfl rfl rfl (Nat.le_of_ble_eq_true rfl) (fun _ => rfl) (Nat.le_of_ble_eq_true rfl) (Nat.le_of_ble_eq_true rfl) (dz_firstError (by decide +kernel)) ha ?_
  clear ha
  intro H ha _
  show am_Ev m_L_texts WB RO RQ (514, [.ref 38, .int 7], [.int 3], H)
  refine am_Ev_G [515] 3 _ ?_
  show am_Ev m_L_texts WB RO RQ (515, [.ref 38, .int 7], [.int 3, .int 3], H)
  refine wk_eq1 rfl rfl ?_
  show am_Ev m_L_texts WB RO RQ (520, [.ref 38, .int 7], [], H)
  refine wk_iinc (z := 8) rfl rfl rfl (by decide) ?_
  show am_Ev m_L_texts WB RO RQ (523, [.ref 38, .int 8], [], H)
  refine am_Ev_G [497] 5 _ ?_
  show am_Ev m_L_texts WB RO RQ (497, [.ref 38, .int 8], [.int 15, .int 8], H)
  refine wk_ge rfl (by decide) ?_
  show am_Ev m_L_texts WB RO RQ (500, [.ref 38, .int 8], [], H)
  refine am_Ev_G [504] 4 _ ?_
  show am_Ev m_L_texts WB RO RQ (504, [.ref 38, .int 8], [.long 808530483, .ref 38], H)
  refine act false (i := 152) (cd := d_L_types 0) (x := 0) (g := 201) (r := [.long 808530483]) (v := .int 1) rfl rfl rfl rfl rfl (Nat.le_of_ble_eq_true rfl) (fun _ => rfl) (Nat.le_of_ble_eq_true rfl) (Nat.le_of_ble_eq_true rfl) (dz_types (s' := [48, 49, 50, 51, 48, 49, 50, 51, 48, 49, 50, 51, 48, 49, 50, 51, 48, 49, 50, 51, 48, 49, 50, 51, 48, 49, 50, 51, 48, 49, 50, 51, 48, 49, 50, 51]) (by decide +kernel)) ha ?_
  clear ha
  intro H ha _
  have ha : At H qT56 201 := ha
  show am_Ev m_L_texts WB RO RQ (507, [.ref 38, .int 8], [.int 1], H)
  refine wk_ifeq rfl (by decide) ?_
  show am_Ev m_L_texts WB RO RQ (510, [.ref 38, .int 8], [], H)
  refine am_Ev_G [511] 3 _ ?_
  show am_Ev m_L_texts WB RO RQ (511, [.ref 38, .int 8], [.ref 38], H)
  refine act true (i := 156) (cd := d_B_firstError 15) (x := 0) (g := 201) (r := []) (v := .int 3) rfl rfl rfl rfl rfl (Nat.le_of_ble_eq_true rfl) (fun _ => rfl) (Nat.le_of_ble_eq_true rfl) (Nat.le_of_ble_eq_true rfl) (dz_firstError (by decide +kernel)) ha ?_
  clear ha
  intro H ha _
  show am_Ev m_L_texts WB RO RQ (514, [.ref 38, .int 8], [.int 3], H)
  refine am_Ev_G [515] 3 _ ?_
  show am_Ev m_L_texts WB RO RQ (515, [.ref 38, .int 8], [.int 3, .int 3], H)
  refine wk_eq1 rfl rfl ?_
  show am_Ev m_L_texts WB RO RQ (520, [.ref 38, .int 8], [], H)
  refine wk_iinc (z := 9) rfl rfl rfl (by decide) ?_
  show am_Ev m_L_texts WB RO RQ (523, [.ref 38, .int 9], [], H)
  refine am_Ev_G [497] 5 _ ?_
  show am_Ev m_L_texts WB RO RQ (497, [.ref 38, .int 9], [.int 15, .int 9], H)
  refine wk_ge rfl (by decide) ?_
  show am_Ev m_L_texts WB RO RQ (500, [.ref 38, .int 9], [], H)
  refine am_Ev_G [504] 4 _ ?_
  show am_Ev m_L_texts WB RO RQ (504, [.ref 38, .int 9], [.long 808530483, .ref 38], H)
  refine act false (i := 152) (cd := d_L_types 0) (x := 0) (g := 201) (r := [.long 808530483]) (v := .int 1) rfl rfl rfl rfl rfl (Nat.le_of_ble_eq_true rfl) (fun _ => rfl) (Nat.le_of_ble_eq_true rfl) (Nat.le_of_ble_eq_true rfl) (dz_types (s' := [48, 49, 50, 51, 48, 49, 50, 51, 48, 49, 50, 51, 48, 49, 50, 51, 48, 49, 50, 51, 48, 49, 50, 51, 48, 49, 50, 51, 48, 49, 50, 51, 48, 49, 50, 51, 48, 49, 50, 51]) (by decide +kernel)) ha ?_
  clear ha
  intro H ha _
  have ha : At H qT57 201 := ha
  show am_Ev m_L_texts WB RO RQ (507, [.ref 38, .int 9], [.int 1], H)
  refine wk_ifeq rfl (by decide) ?_
  show am_Ev m_L_texts WB RO RQ (510, [.ref 38, .int 9], [], H)
  refine am_Ev_G [511] 3 _ ?_
  show am_Ev m_L_texts WB RO RQ (511, [.ref 38, .int 9], [.ref 38], H)
  refine act true (i := 156) (cd := d_B_firstError 15) (x := 0) (g := 201) (r := []) (v := .int 3) rfl rfl rfl rfl rfl (Nat.le_of_ble_eq_true rfl) (fun _ => rfl) (Nat.le_of_ble_eq_true rfl) (Nat.le_of_ble_eq_true rfl) (dz_firstError (by decide +kernel)) ha ?_
  clear ha
  intro H ha _
  show am_Ev m_L_texts WB RO RQ (514, [.ref 38, .int 9], [.int 3], H)
  refine am_Ev_G [515] 3 _ ?_
  show am_Ev m_L_texts WB RO RQ (515, [.ref 38, .int 9], [.int 3, .int 3], H)
  refine wk_eq1 rfl rfl ?_
  show am_Ev m_L_texts WB RO RQ (520, [.ref 38, .int 9], [], H)
  refine wk_iinc (z := 10) rfl rfl rfl (by decide) ?_
  show am_Ev m_L_texts WB RO RQ (523, [.ref 38, .int 10], [], H)
  refine am_Ev_G [497] 5 _ ?_
  show am_Ev m_L_texts WB RO RQ (497, [.ref 38, .int 10], [.int 15, .int 10], H)
  refine wk_ge rfl (by decide) ?_
  show am_Ev m_L_texts WB RO RQ (500, [.ref 38, .int 10], [], H)
  refine am_Ev_G [504] 4 _ ?_
  show am_Ev m_L_texts WB RO RQ (504, [.ref 38, .int 10], [.long 808530483, .ref 38], H)
  refine act false (i := 152) (cd := d_L_types 0) (x := 0) (g := 201) (r := [.long 808530483]) (v := .int 1) rfl rfl rfl rfl rfl (Nat.le_of_ble_eq_true rfl) (fun _ => rfl) (Nat.le_of_ble_eq_true rfl) (Nat.le_of_ble_eq_true rfl) (dz_types (s' := [48, 49, 50, 51, 48, 49, 50, 51, 48, 49, 50, 51, 48, 49, 50, 51, 48, 49, 50, 51, 48, 49, 50, 51, 48, 49, 50, 51, 48, 49, 50, 51, 48, 49, 50, 51, 48, 49, 50, 51, 48, 49, 50, 51]) (by decide +kernel)) ha ?_
  clear ha
  intro H ha _
  have ha : At H qT58 201 := ha
  show am_Ev m_L_texts WB RO RQ (507, [.ref 38, .int 10], [.int 1], H)
  refine wk_ifeq rfl (by decide) ?_
  show am_Ev m_L_texts WB RO RQ (510, [.ref 38, .int 10], [], H)
  refine am_Ev_G [511] 3 _ ?_
  show am_Ev m_L_texts WB RO RQ (511, [.ref 38, .int 10], [.ref 38], H)
  refine act true (i := 156) (cd := d_B_firstError 15) (x := 0) (g := 201) (r := []) (v := .int 3) rfl rfl rfl rfl rfl (Nat.le_of_ble_eq_true rfl) (fun _ => rfl) (Nat.le_of_ble_eq_true rfl) (Nat.le_of_ble_eq_true rfl) (dz_firstError (by decide +kernel)) ha ?_
  clear ha
  intro H ha _
  show am_Ev m_L_texts WB RO RQ (514, [.ref 38, .int 10], [.int 3], H)
  refine am_Ev_G [515] 3 _ ?_
  show am_Ev m_L_texts WB RO RQ (515, [.ref 38, .int 10], [.int 3, .int 3], H)
  refine wk_eq1 rfl rfl ?_
  show am_Ev m_L_texts WB RO RQ (520, [.ref 38, .int 10], [], H)
  refine wk_iinc (z := 11) rfl rfl rfl (by decide) ?_
  show am_Ev m_L_texts WB RO RQ (523, [.ref 38, .int 11], [], H)
  refine am_Ev_G [497] 5 _ ?_
  show am_Ev m_L_texts WB RO RQ (497, [.ref 38, .int 11], [.int 15, .int 11], H)
  refine wk_ge rfl (by decide) ?_
  show am_Ev m_L_texts WB RO RQ (500, [.ref 38, .int 11], [], H)
  refine am_Ev_G [504] 4 _ ?_
  show am_Ev m_L_texts WB RO RQ (504, [.ref 38, .int 11], [.long 808530483, .ref 38], H)
  refine act false (i := 152) (cd := d_L_types 0) (x := 0) (g := 201) (r := [.long 808530483]) (v := .int 1) rfl rfl rfl rfl rfl (Nat.le_of_ble_eq_true rfl) (fun _ => rfl) (Nat.le_of_ble_eq_true rfl) (Nat.le_of_ble_eq_true rfl) (dz_types (s' := [48, 49, 50, 51, 48, 49, 50, 51, 48, 49, 50, 51, 48, 49, 50, 51, 48, 49, 50, 51, 48, 49, 50, 51, 48, 49, 50, 51, 48, 49, 50, 51, 48, 49, 50, 51, 48, 49, 50, 51, 48, 49, 50, 51, 48, 49, 50, 51]) (by decide +kernel)) ha ?_
  clear ha
  intro H ha _
  have ha : At H qT59 201 := ha
  show am_Ev m_L_texts WB RO RQ (507, [.ref 38, .int 11], [.int 1], H)
  refine wk_ifeq rfl (by decide) ?_
  show am_Ev m_L_texts WB RO RQ (510, [.ref 38, .int 11], [], H)
  refine am_Ev_G [511] 3 _ ?_
  show am_Ev m_L_texts WB RO RQ (511, [.ref 38, .int 11], [.ref 38], H)
  refine act true (i := 156) (cd := d_B_firstError 15) (x := 0) (g := 201) (r := []) (v := .int 3) rfl rfl rfl rfl rfl (Nat.le_of_ble_eq_true rfl) (fun _ => rfl) (Nat.le_of_ble_eq_true rfl) (Nat.le_of_ble_eq_true rfl) (dz_firstError (by decide +kernel)) ha ?_
  clear ha
  intro H ha _
  show am_Ev m_L_texts WB RO RQ (514, [.ref 38, .int 11], [.int 3], H)
  refine am_Ev_G [515] 3 _ ?_
  show am_Ev m_L_texts WB RO RQ (515, [.ref 38, .int 11], [.int 3, .int 3], H)
  refine wk_eq1 rfl rfl ?_
  show am_Ev m_L_texts WB RO RQ (520, [.ref 38, .int 11], [], H)
  refine wk_iinc (z := 12) rfl rfl rfl (by decide) ?_
  show am_Ev m_L_texts WB RO RQ (523, [.ref 38, .int 12], [], H)
  refine am_Ev_G [497] 5 _ ?_
  show am_Ev m_L_texts WB RO RQ (497, [.ref 38, .int 12], [.int 15, .int 12], H)
  refine wk_ge rfl (by decide) ?_
  show am_Ev m_L_texts WB RO RQ (500, [.ref 38, .int 12], [], H)
  refine am_Ev_G [504] 4 _ ?_
  show am_Ev m_L_texts WB RO RQ (504, [.ref 38, .int 12], [.long 808530483, .ref 38], H)
  refine act false (i := 152) (cd := d_L_types 0) (x := 0) (g := 201) (r := [.long 808530483]) (v := .int 1) rfl rfl rfl rfl rfl (Nat.le_of_ble_eq_true rfl) (fun _ => rfl) (Nat.le_of_ble_eq_true rfl) (Nat.le_of_ble_eq_true rfl) (dz_types (s' := [48, 49, 50, 51, 48, 49, 50, 51, 48, 49, 50, 51, 48, 49, 50, 51, 48, 49, 50, 51, 48, 49, 50, 51, 48, 49, 50, 51, 48, 49, 50, 51, 48, 49, 50, 51, 48, 49, 50, 51, 48, 49, 50, 51, 48, 49, 50, 51, 48, 49, 50, 51]) (by decide +kernel)) ha ?_
  clear ha
  intro H ha _
  have ha : At H qT60 201 := ha
  show am_Ev m_L_texts WB RO RQ (507, [.ref 38, .int 12], [.int 1], H)
  refine wk_ifeq rfl (by decide) ?_
  show am_Ev m_L_texts WB RO RQ (510, [.ref 38, .int 12], [], H)
  refine am_Ev_G [511] 3 _ ?_
  show am_Ev m_L_texts WB RO RQ (511, [.ref 38, .int 12], [.ref 38], H)
  refine act true (i := 156) (cd := d_B_firstError 15) (x := 0) (g := 201) (r := []) (v := .int 3) rfl rfl rfl rfl rfl (Nat.le_of_ble_eq_true rfl) (fun _ => rfl) (Nat.le_of_ble_eq_true rfl) (Nat.le_of_ble_eq_true rfl) (dz_firstError (by decide +kernel)) ha ?_
  clear ha
  intro H ha _
  show am_Ev m_L_texts WB RO RQ (514, [.ref 38, .int 12], [.int 3], H)
  refine am_Ev_G [515] 3 _ ?_
  show am_Ev m_L_texts WB RO RQ (515, [.ref 38, .int 12], [.int 3, .int 3], H)
  refine wk_eq1 rfl rfl ?_
  show am_Ev m_L_texts WB RO RQ (520, [.ref 38, .int 12], [], H)
  refine wk_iinc (z := 13) rfl rfl rfl (by decide) ?_
  show am_Ev m_L_texts WB RO RQ (523, [.ref 38, .int 13], [], H)
  refine am_Ev_G [497] 5 _ ?_
  show am_Ev m_L_texts WB RO RQ (497, [.ref 38, .int 13], [.int 15, .int 13], H)
  refine wk_ge rfl (by decide) ?_
  show am_Ev m_L_texts WB RO RQ (500, [.ref 38, .int 13], [], H)
  refine am_Ev_G [504] 4 _ ?_
  show am_Ev m_L_texts WB RO RQ (504, [.ref 38, .int 13], [.long 808530483, .ref 38], H)
  refine act false (i := 152) (cd := d_L_types 0) (x := 0) (g := 201) (r := [.long 808530483]) (v := .int 1) rfl rfl rfl rfl rfl (Nat.le_of_ble_eq_true rfl) (fun _ => rfl) (Nat.le_of_ble_eq_true rfl) (Nat.le_of_ble_eq_true rfl) (dz_types (s' := [48, 49, 50, 51, 48, 49, 50, 51, 48, 49, 50, 51, 48, 49, 50, 51, 48, 49, 50, 51, 48, 49, 50, 51, 48, 49, 50, 51, 48, 49, 50, 51, 48, 49, 50, 51, 48, 49, 50, 51, 48, 49, 50, 51, 48, 49, 50, 51, 48, 49, 50, 51, 48, 49, 50, 51]) (by decide +kernel)) ha ?_
  clear ha
  intro H ha _
  have ha : At H qT61 201 := ha
  show am_Ev m_L_texts WB RO RQ (507, [.ref 38, .int 13], [.int 1], H)
  refine wk_ifeq rfl (by decide) ?_
  show am_Ev m_L_texts WB RO RQ (510, [.ref 38, .int 13], [], H)
  exact texts_c6 ha
set_option maxRecDepth 100000 in
theorem texts_c4 {H : HP} (ha : At H qT47 201) : am_Ev m_L_texts WB RO RQ (480, [.ref 38, .int 19], [], H) := by
  refine am_Ev_G [482] 4 _ ?_
  show am_Ev m_L_texts WB RO RQ (482, [.ref 38, .int 19], [.int 0, .ref 38], H)
  refine act true (i := 78) (cd := d_B_count 15) (x := 0) (g := 201) (r := [.int 0]) (v := .int 19) rfl rfl rfl rfl rfl (Nat.le_of_ble_eq_true rfl) (fun _ => rfl) (Nat.le_of_ble_eq_true rfl) (Nat.le_of_ble_eq_true rfl) (dz_count 0 (by decide +kernel)) ha ?_
  clear ha
  intro H ha _
  show am_Ev m_L_texts WB RO RQ (485, [.ref 38, .int 19], [.int 19], H)
  refine am_Ev_G [487] 3 _ ?_
  show am_Ev m_L_texts WB RO RQ (487, [.ref 38, .int 19], [.int 19, .int 19], H)
  refine wk_eq1 rfl rfl ?_
  show am_Ev m_L_texts WB RO RQ (492, [.ref 38, .int 19], [], H)
  refine am_Ev_G [497] 6 _ ?_
  show am_Ev m_L_texts WB RO RQ (497, [.ref 38, .int 0], [.int 15, .int 0], H)
  refine wk_ge rfl (by decide) ?_
  show am_Ev m_L_texts WB RO RQ (500, [.ref 38, .int 0], [], H)
  refine am_Ev_G [504] 4 _ ?_
  show am_Ev m_L_texts WB RO RQ (504, [.ref 38, .int 0], [.long 808530483, .ref 38], H)
  refine act false (i := 152) (cd := d_L_types 0) (x := 0) (g := 201) (r := [.long 808530483]) (v := .int 1) rfl rfl rfl rfl rfl (Nat.le_of_ble_eq_true rfl) (fun _ => rfl) (Nat.le_of_ble_eq_true rfl) (Nat.le_of_ble_eq_true rfl) (dz_types (s' := [48, 49, 50, 51]) (by decide +kernel)) ha ?_
  clear ha
  intro H ha _
  have ha : At H qT48 201 := ha
  show am_Ev m_L_texts WB RO RQ (507, [.ref 38, .int 0], [.int 1], H)
  refine wk_ifeq rfl (by decide) ?_
  show am_Ev m_L_texts WB RO RQ (510, [.ref 38, .int 0], [], H)
  refine am_Ev_G [511] 3 _ ?_
  show am_Ev m_L_texts WB RO RQ (511, [.ref 38, .int 0], [.ref 38], H)
  refine act true (i := 156) (cd := d_B_firstError 15) (x := 0) (g := 201) (r := []) (v := .int 3) rfl rfl rfl rfl rfl (Nat.le_of_ble_eq_true rfl) (fun _ => rfl) (Nat.le_of_ble_eq_true rfl) (Nat.le_of_ble_eq_true rfl) (dz_firstError (by decide +kernel)) ha ?_
  clear ha
  intro H ha _
  show am_Ev m_L_texts WB RO RQ (514, [.ref 38, .int 0], [.int 3], H)
  refine am_Ev_G [515] 3 _ ?_
  show am_Ev m_L_texts WB RO RQ (515, [.ref 38, .int 0], [.int 3, .int 3], H)
  refine wk_eq1 rfl rfl ?_
  show am_Ev m_L_texts WB RO RQ (520, [.ref 38, .int 0], [], H)
  refine wk_iinc (z := 1) rfl rfl rfl (by decide) ?_
  show am_Ev m_L_texts WB RO RQ (523, [.ref 38, .int 1], [], H)
  refine am_Ev_G [497] 5 _ ?_
  show am_Ev m_L_texts WB RO RQ (497, [.ref 38, .int 1], [.int 15, .int 1], H)
  refine wk_ge rfl (by decide) ?_
  show am_Ev m_L_texts WB RO RQ (500, [.ref 38, .int 1], [], H)
  refine am_Ev_G [504] 4 _ ?_
  show am_Ev m_L_texts WB RO RQ (504, [.ref 38, .int 1], [.long 808530483, .ref 38], H)
  refine act false (i := 152) (cd := d_L_types 0) (x := 0) (g := 201) (r := [.long 808530483]) (v := .int 1) rfl rfl rfl rfl rfl (Nat.le_of_ble_eq_true rfl) (fun _ => rfl) (Nat.le_of_ble_eq_true rfl) (Nat.le_of_ble_eq_true rfl) (dz_types (s' := [48, 49, 50, 51, 48, 49, 50, 51]) (by decide +kernel)) ha ?_
  clear ha
  intro H ha _
  have ha : At H qT49 201 := ha
  show am_Ev m_L_texts WB RO RQ (507, [.ref 38, .int 1], [.int 1], H)
  refine wk_ifeq rfl (by decide) ?_
  show am_Ev m_L_texts WB RO RQ (510, [.ref 38, .int 1], [], H)
  refine am_Ev_G [511] 3 _ ?_
  show am_Ev m_L_texts WB RO RQ (511, [.ref 38, .int 1], [.ref 38], H)
  refine act true (i := 156) (cd := d_B_firstError 15) (x := 0) (g := 201) (r := []) (v := .int 3) rfl rfl rfl rfl rfl (Nat.le_of_ble_eq_true rfl) (fun _ => rfl) (Nat.le_of_ble_eq_true rfl) (Nat.le_of_ble_eq_true rfl) (dz_firstError (by decide +kernel)) ha ?_
  clear ha
  intro H ha _
  show am_Ev m_L_texts WB RO RQ (514, [.ref 38, .int 1], [.int 3], H)
  refine am_Ev_G [515] 3 _ ?_
  show am_Ev m_L_texts WB RO RQ (515, [.ref 38, .int 1], [.int 3, .int 3], H)
  refine wk_eq1 rfl rfl ?_
  show am_Ev m_L_texts WB RO RQ (520, [.ref 38, .int 1], [], H)
  refine wk_iinc (z := 2) rfl rfl rfl (by decide) ?_
  show am_Ev m_L_texts WB RO RQ (523, [.ref 38, .int 2], [], H)
  refine am_Ev_G [497] 5 _ ?_
  show am_Ev m_L_texts WB RO RQ (497, [.ref 38, .int 2], [.int 15, .int 2], H)
  refine wk_ge rfl (by decide) ?_
  show am_Ev m_L_texts WB RO RQ (500, [.ref 38, .int 2], [], H)
  refine am_Ev_G [504] 4 _ ?_
  show am_Ev m_L_texts WB RO RQ (504, [.ref 38, .int 2], [.long 808530483, .ref 38], H)
  refine act false (i := 152) (cd := d_L_types 0) (x := 0) (g := 201) (r := [.long 808530483]) (v := .int 1) rfl rfl rfl rfl rfl (Nat.le_of_ble_eq_true rfl) (fun _ => rfl) (Nat.le_of_ble_eq_true rfl) (Nat.le_of_ble_eq_true rfl) (dz_types (s' := [48, 49, 50, 51, 48, 49, 50, 51, 48, 49, 50, 51]) (by decide +kernel)) ha ?_
  clear ha
  intro H ha _
  have ha : At H qT50 201 := ha
  show am_Ev m_L_texts WB RO RQ (507, [.ref 38, .int 2], [.int 1], H)
  refine wk_ifeq rfl (by decide) ?_
  show am_Ev m_L_texts WB RO RQ (510, [.ref 38, .int 2], [], H)
  refine am_Ev_G [511] 3 _ ?_
  show am_Ev m_L_texts WB RO RQ (511, [.ref 38, .int 2], [.ref 38], H)
  refine act true (i := 156) (cd := d_B_firstError 15) (x := 0) (g := 201) (r := []) (v := .int 3) rfl rfl rfl rfl rfl (Nat.le_of_ble_eq_true rfl) (fun _ => rfl) (Nat.le_of_ble_eq_true rfl) (Nat.le_of_ble_eq_true rfl) (dz_firstError (by decide +kernel)) ha ?_
  clear ha
  intro H ha _
  show am_Ev m_L_texts WB RO RQ (514, [.ref 38, .int 2], [.int 3], H)
  refine am_Ev_G [515] 3 _ ?_
  show am_Ev m_L_texts WB RO RQ (515, [.ref 38, .int 2], [.int 3, .int 3], H)
  refine wk_eq1 rfl rfl ?_
  show am_Ev m_L_texts WB RO RQ (520, [.ref 38, .int 2], [], H)
  refine wk_iinc (z := 3) rfl rfl rfl (by decide) ?_
  show am_Ev m_L_texts WB RO RQ (523, [.ref 38, .int 3], [], H)
  refine am_Ev_G [497] 5 _ ?_
  show am_Ev m_L_texts WB RO RQ (497, [.ref 38, .int 3], [.int 15, .int 3], H)
  refine wk_ge rfl (by decide) ?_
  show am_Ev m_L_texts WB RO RQ (500, [.ref 38, .int 3], [], H)
  refine am_Ev_G [504] 4 _ ?_
  show am_Ev m_L_texts WB RO RQ (504, [.ref 38, .int 3], [.long 808530483, .ref 38], H)
  refine act false (i := 152) (cd := d_L_types 0) (x := 0) (g := 201) (r := [.long 808530483]) (v := .int 1) rfl rfl rfl rfl rfl (Nat.le_of_ble_eq_true rfl) (fun _ => rfl) (Nat.le_of_ble_eq_true rfl) (Nat.le_of_ble_eq_true rfl) (dz_types (s' := [48, 49, 50, 51, 48, 49, 50, 51, 48, 49, 50, 51, 48, 49, 50, 51]) (by decide +kernel)) ha ?_
  clear ha
  intro H ha _
  have ha : At H qT51 201 := ha
  show am_Ev m_L_texts WB RO RQ (507, [.ref 38, .int 3], [.int 1], H)
  refine wk_ifeq rfl (by decide) ?_
  show am_Ev m_L_texts WB RO RQ (510, [.ref 38, .int 3], [], H)
  refine am_Ev_G [511] 3 _ ?_
  show am_Ev m_L_texts WB RO RQ (511, [.ref 38, .int 3], [.ref 38], H)
  refine act true (i := 156) (cd := d_B_firstError 15) (x := 0) (g := 201) (r := []) (v := .int 3) rfl rfl rfl rfl rfl (Nat.le_of_ble_eq_true rfl) (fun _ => rfl) (Nat.le_of_ble_eq_true rfl) (Nat.le_of_ble_eq_true rfl) (dz_firstError (by decide +kernel)) ha ?_
  clear ha
  intro H ha _
  show am_Ev m_L_texts WB RO RQ (514, [.ref 38, .int 3], [.int 3], H)
  refine am_Ev_G [515] 3 _ ?_
  show am_Ev m_L_texts WB RO RQ (515, [.ref 38, .int 3], [.int 3, .int 3], H)
  refine wk_eq1 rfl rfl ?_
  show am_Ev m_L_texts WB RO RQ (520, [.ref 38, .int 3], [], H)
  refine wk_iinc (z := 4) rfl rfl rfl (by decide) ?_
  show am_Ev m_L_texts WB RO RQ (523, [.ref 38, .int 4], [], H)
  refine am_Ev_G [497] 5 _ ?_
  show am_Ev m_L_texts WB RO RQ (497, [.ref 38, .int 4], [.int 15, .int 4], H)
  refine wk_ge rfl (by decide) ?_
  show am_Ev m_L_texts WB RO RQ (500, [.ref 38, .int 4], [], H)
  refine am_Ev_G [504] 4 _ ?_
  show am_Ev m_L_texts WB RO RQ (504, [.ref 38, .int 4], [.long 808530483, .ref 38], H)
  refine act false (i := 152) (cd := d_L_types 0) (x := 0) (g := 201) (r := [.long 808530483]) (v := .int 1) rfl rfl rfl rfl rfl (Nat.le_of_ble_eq_true rfl) (fun _ => rfl) (Nat.le_of_ble_eq_true rfl) (Nat.le_of_ble_eq_true rfl) (dz_types (s' := [48, 49, 50, 51, 48, 49, 50, 51, 48, 49, 50, 51, 48, 49, 50, 51, 48, 49, 50, 51]) (by decide +kernel)) ha ?_
  clear ha
  intro H ha _
  have ha : At H qT52 201 := ha
  show am_Ev m_L_texts WB RO RQ (507, [.ref 38, .int 4], [.int 1], H)
  refine wk_ifeq rfl (by decide) ?_
  show am_Ev m_L_texts WB RO RQ (510, [.ref 38, .int 4], [], H)
  refine am_Ev_G [511] 3 _ ?_
  show am_Ev m_L_texts WB RO RQ (511, [.ref 38, .int 4], [.ref 38], H)
  refine act true (i := 156) (cd := d_B_firstError 15) (x := 0) (g := 201) (r := []) (v := .int 3) rfl rfl rfl rfl rfl (Nat.le_of_ble_eq_true rfl) (fun _ => rfl) (Nat.le_of_ble_eq_true rfl) (Nat.le_of_ble_eq_true rfl) (dz_firstError (by decide +kernel)) ha ?_
  clear ha
  intro H ha _
  show am_Ev m_L_texts WB RO RQ (514, [.ref 38, .int 4], [.int 3], H)
  refine am_Ev_G [515] 3 _ ?_
  show am_Ev m_L_texts WB RO RQ (515, [.ref 38, .int 4], [.int 3, .int 3], H)
  refine wk_eq1 rfl rfl ?_
  show am_Ev m_L_texts WB RO RQ (520, [.ref 38, .int 4], [], H)
  refine wk_iinc (z := 5) rfl rfl rfl (by decide) ?_
  show am_Ev m_L_texts WB RO RQ (523, [.ref 38, .int 5], [], H)
  refine am_Ev_G [497] 5 _ ?_
  show am_Ev m_L_texts WB RO RQ (497, [.ref 38, .int 5], [.int 15, .int 5], H)
  refine wk_ge rfl (by decide) ?_
  show am_Ev m_L_texts WB RO RQ (500, [.ref 38, .int 5], [], H)
  refine am_Ev_G [504] 4 _ ?_
  show am_Ev m_L_texts WB RO RQ (504, [.ref 38, .int 5], [.long 808530483, .ref 38], H)
  refine act false (i := 152) (cd := d_L_types 0) (x := 0) (g := 201) (r := [.long 808530483]) (v := .int 1) rfl rfl rfl rfl rfl (Nat.le_of_ble_eq_true rfl) (fun _ => rfl) (Nat.le_of_ble_eq_true rfl) (Nat.le_of_ble_eq_true rfl) (dz_types (s' := [48, 49, 50, 51, 48, 49, 50, 51, 48, 49, 50, 51, 48, 49, 50, 51, 48, 49, 50, 51, 48, 49, 50, 51]) (by decide +kernel)) ha ?_
  clear ha
  intro H ha _
  have ha : At H qT53 201 := ha
  show am_Ev m_L_texts WB RO RQ (507, [.ref 38, .int 5], [.int 1], H)
  refine wk_ifeq rfl (by decide) ?_
  show am_Ev m_L_texts WB RO RQ (510, [.ref 38, .int 5], [], H)
  refine am_Ev_G [511] 3 _ ?_
  show am_Ev m_L_texts WB RO RQ (511, [.ref 38, .int 5], [.ref 38], H)
  refine act true (i := 156) (cd := d_B_firstError 15) (x := 0) (g := 201) (r := []) (v := .int 3) rfl rfl rfl rfl rfl (Nat.le_of_ble_eq_true rfl) (fun _ => rfl) (Nat.le_of_ble_eq_true rfl) (Nat.le_of_ble_eq_true rfl) (dz_firstError (by decide +kernel)) ha ?_
  clear ha
  intro H ha _
  show am_Ev m_L_texts WB RO RQ (514, [.ref 38, .int 5], [.int 3], H)
  refine am_Ev_G [515] 3 _ ?_
  show am_Ev m_L_texts WB RO RQ (515, [.ref 38, .int 5], [.int 3, .int 3], H)
  refine wk_eq1 rfl rfl ?_
  show am_Ev m_L_texts WB RO RQ (520, [.ref 38, .int 5], [], H)
  refine wk_iinc (z := 6) rfl rfl rfl (by decide) ?_
  show am_Ev m_L_texts WB RO RQ (523, [.ref 38, .int 6], [], H)
  refine am_Ev_G [497] 5 _ ?_
  show am_Ev m_L_texts WB RO RQ (497, [.ref 38, .int 6], [.int 15, .int 6], H)
  refine wk_ge rfl (by decide) ?_
  show am_Ev m_L_texts WB RO RQ (500, [.ref 38, .int 6], [], H)
  refine am_Ev_G [504] 4 _ ?_
  show am_Ev m_L_texts WB RO RQ (504, [.ref 38, .int 6], [.long 808530483, .ref 38], H)
  refine act false (i := 152) (cd := d_L_types 0) (x := 0) (g := 201) (r := [.long 808530483]) (v := .int 1) rfl rfl rfl rfl rfl (Nat.le_of_ble_eq_true rfl) (fun _ => rfl) (Nat.le_of_ble_eq_true rfl) (Nat.le_of_ble_eq_true rfl) (dz_types (s' := [48, 49, 50, 51, 48, 49, 50, 51, 48, 49, 50, 51, 48, 49, 50, 51, 48, 49, 50, 51, 48, 49, 50, 51, 48, 49, 50, 51]) (by decide +kernel)) ha ?_
  clear ha
  intro H ha _
  have ha : At H qT54 201 := ha
  show am_Ev m_L_texts WB RO RQ (507, [.ref 38, .int 6], [.int 1], H)
  refine wk_ifeq rfl (by decide) ?_
  show am_Ev m_L_texts WB RO RQ (510, [.ref 38, .int 6], [], H)
  exact texts_c5 ha
set_option maxRecDepth 100000 in
theorem texts_c3 {H : HP} (ha : At H qT35 200) : am_Ev m_L_texts WB RO RQ (394, [.ref 38, .int 12], [], H) := by
  refine wk_iinc (z := 13) rfl rfl rfl (by decide) ?_
  show am_Ev m_L_texts WB RO RQ (397, [.ref 38, .int 13], [], H)
  refine am_Ev_G [376] 5 _ ?_
  show am_Ev m_L_texts WB RO RQ (376, [.ref 38, .int 13], [.int 19, .int 13], H)
  refine wk_ge rfl (by decide) ?_
  show am_Ev m_L_texts WB RO RQ (379, [.ref 38, .int 13], [], H)
  refine am_Ev_G [385] 8 _ ?_
  show am_Ev m_L_texts WB RO RQ (385, [.ref 38, .int 13], [.int 1, .int 13, .int 0, .int 0, .int 0, .ref 38], H)
  refine act true (i := 27) (cd := d_B_trip 15) (x := 0) (g := 200) (r := [.int 0, .int 0, .int 0, .int 13, .int 1]) (v := .int 13) rfl rfl rfl rfl rfl (Nat.le_of_ble_eq_true rfl) (fun _ => rfl) (Nat.le_of_ble_eq_true rfl) (Nat.le_of_ble_eq_true rfl) (dz_trip 0 0 0 13 1 (by decide +kernel)) ha ?_
  clear ha
  intro H ha _
  have ha : At H qT36 200 := ha.nrm (by decide +kernel)
  show am_Ev m_L_texts WB RO RQ (388, [.ref 38, .int 13], [.int 13], H)
  refine am_Ev_G [389] 3 _ ?_
  show am_Ev m_L_texts WB RO RQ (389, [.ref 38, .int 13], [.int 13, .int 13], H)
  refine wk_eq1 rfl rfl ?_
  show am_Ev m_L_texts WB RO RQ (394, [.ref 38, .int 13], [], H)
  refine wk_iinc (z := 14) rfl rfl rfl (by decide) ?_
  show am_Ev m_L_texts WB RO RQ (397, [.ref 38, .int 14], [], H)
  refine am_Ev_G [376] 5 _ ?_
  show am_Ev m_L_texts WB RO RQ (376, [.ref 38, .int 14], [.int 19, .int 14], H)
  refine wk_ge rfl (by decide) ?_
  show am_Ev m_L_texts WB RO RQ (379, [.ref 38, .int 14], [], H)
  refine am_Ev_G [385] 8 _ ?_
  show am_Ev m_L_texts WB RO RQ (385, [.ref 38, .int 14], [.int 1, .int 14, .int 0, .int 0, .int 0, .ref 38], H)
  refine act true (i := 27) (cd := d_B_trip 15) (x := 0) (g := 200) (r := [.int 0, .int 0, .int 0, .int 14, .int 1]) (v := .int 14) rfl rfl rfl rfl rfl (Nat.le_of_ble_eq_true rfl) (fun _ => rfl) (Nat.le_of_ble_eq_true rfl) (Nat.le_of_ble_eq_true rfl) (dz_trip 0 0 0 14 1 (by decide +kernel)) ha ?_
  clear ha
  intro H ha _
  have ha : At H qT37 200 := ha.nrm (by decide +kernel)
  show am_Ev m_L_texts WB RO RQ (388, [.ref 38, .int 14], [.int 14], H)
  refine am_Ev_G [389] 3 _ ?_
  show am_Ev m_L_texts WB RO RQ (389, [.ref 38, .int 14], [.int 14, .int 14], H)
  refine wk_eq1 rfl rfl ?_
  show am_Ev m_L_texts WB RO RQ (394, [.ref 38, .int 14], [], H)
  refine wk_iinc (z := 15) rfl rfl rfl (by decide) ?_
  show am_Ev m_L_texts WB RO RQ (397, [.ref 38, .int 15], [], H)
  refine am_Ev_G [376] 5 _ ?_
  show am_Ev m_L_texts WB RO RQ (376, [.ref 38, .int 15], [.int 19, .int 15], H)
  refine wk_ge rfl (by decide) ?_
  show am_Ev m_L_texts WB RO RQ (379, [.ref 38, .int 15], [], H)
  refine am_Ev_G [385] 8 _ ?_
  show am_Ev m_L_texts WB RO RQ (385, [.ref 38, .int 15], [.int 1, .int 15, .int 0, .int 0, .int 0, .ref 38], H)
  refine act true (i := 27) (cd := d_B_trip 15) (x := 0) (g := 200) (r := [.int 0, .int 0, .int 0, .int 15, .int 1]) (v := .int 15) rfl rfl rfl rfl rfl (Nat.le_of_ble_eq_true rfl) (fun _ => rfl) (Nat.le_of_ble_eq_true rfl) (Nat.le_of_ble_eq_true rfl) (dz_trip 0 0 0 15 1 (by decide +kernel)) ha ?_
  clear ha
  intro H ha _
  have ha : At H qT38 200 := ha.nrm (by decide +kernel)
  show am_Ev m_L_texts WB RO RQ (388, [.ref 38, .int 15], [.int 15], H)
  refine am_Ev_G [389] 3 _ ?_
  show am_Ev m_L_texts WB RO RQ (389, [.ref 38, .int 15], [.int 15, .int 15], H)
  refine wk_eq1 rfl rfl ?_
  show am_Ev m_L_texts WB RO RQ (394, [.ref 38, .int 15], [], H)
  refine wk_iinc (z := 16) rfl rfl rfl (by decide) ?_
  show am_Ev m_L_texts WB RO RQ (397, [.ref 38, .int 16], [], H)
  refine am_Ev_G [376] 5 _ ?_
  show am_Ev m_L_texts WB RO RQ (376, [.ref 38, .int 16], [.int 19, .int 16], H)
  refine wk_ge rfl (by decide) ?_
  show am_Ev m_L_texts WB RO RQ (379, [.ref 38, .int 16], [], H)
  refine am_Ev_G [385] 8 _ ?_
  show am_Ev m_L_texts WB RO RQ (385, [.ref 38, .int 16], [.int 1, .int 16, .int 0, .int 0, .int 0, .ref 38], H)
  refine act true (i := 27) (cd := d_B_trip 15) (x := 0) (g := 200) (r := [.int 0, .int 0, .int 0, .int 16, .int 1]) (v := .int 16) rfl rfl rfl rfl rfl (Nat.le_of_ble_eq_true rfl) (fun _ => rfl) (Nat.le_of_ble_eq_true rfl) (Nat.le_of_ble_eq_true rfl) (dz_trip 0 0 0 16 1 (by decide +kernel)) ha ?_
  clear ha
  intro H ha _
  have ha : At H qT39 200 := ha.nrm (by decide +kernel)
  show am_Ev m_L_texts WB RO RQ (388, [.ref 38, .int 16], [.int 16], H)
  refine am_Ev_G [389] 3 _ ?_
  show am_Ev m_L_texts WB RO RQ (389, [.ref 38, .int 16], [.int 16, .int 16], H)
  refine wk_eq1 rfl rfl ?_
  show am_Ev m_L_texts WB RO RQ (394, [.ref 38, .int 16], [], H)
  refine wk_iinc (z := 17) rfl rfl rfl (by decide) ?_
  show am_Ev m_L_texts WB RO RQ (397, [.ref 38, .int 17], [], H)
  refine am_Ev_G [376] 5 _ ?_
  show am_Ev m_L_texts WB RO RQ (376, [.ref 38, .int 17], [.int 19, .int 17], H)
  refine wk_ge rfl (by decide) ?_
  show am_Ev m_L_texts WB RO RQ (379, [.ref 38, .int 17], [], H)
  refine am_Ev_G [385] 8 _ ?_
  show am_Ev m_L_texts WB RO RQ (385, [.ref 38, .int 17], [.int 1, .int 17, .int 0, .int 0, .int 0, .ref 38], H)
  refine act true (i := 27) (cd := d_B_trip 15) (x := 0) (g := 200) (r := [.int 0, .int 0, .int 0, .int 17, .int 1]) (v := .int 17) rfl rfl rfl rfl rfl (Nat.le_of_ble_eq_true rfl) (fun _ => rfl) (Nat.le_of_ble_eq_true rfl) (Nat.le_of_ble_eq_true rfl) (dz_trip 0 0 0 17 1 (by decide +kernel)) ha ?_
  clear ha
  intro H ha _
  have ha : At H qT40 200 := ha.nrm (by decide +kernel)
  show am_Ev m_L_texts WB RO RQ (388, [.ref 38, .int 17], [.int 17], H)
  refine am_Ev_G [389] 3 _ ?_
  show am_Ev m_L_texts WB RO RQ (389, [.ref 38, .int 17], [.int 17, .int 17], H)
  refine wk_eq1 rfl rfl ?_
  show am_Ev m_L_texts WB RO RQ (394, [.ref 38, .int 17], [], H)
  refine wk_iinc (z := 18) rfl rfl rfl (by decide) ?_
  show am_Ev m_L_texts WB RO RQ (397, [.ref 38, .int 18], [], H)
  refine am_Ev_G [376] 5 _ ?_
  show am_Ev m_L_texts WB RO RQ (376, [.ref 38, .int 18], [.int 19, .int 18], H)
  refine wk_ge rfl (by decide) ?_
  show am_Ev m_L_texts WB RO RQ (379, [.ref 38, .int 18], [], H)
  refine am_Ev_G [385] 8 _ ?_
  show am_Ev m_L_texts WB RO RQ (385, [.ref 38, .int 18], [.int 1, .int 18, .int 0, .int 0, .int 0, .ref 38], H)
  refine act true (i := 27) (cd := d_B_trip 15) (x := 0) (g := 200) (r := [.int 0, .int 0, .int 0, .int 18, .int 1]) (v := .int 18) rfl rfl rfl rfl rfl (Nat.le_of_ble_eq_true rfl) (fun _ => rfl) (Nat.le_of_ble_eq_true rfl) (Nat.le_of_ble_eq_true rfl) (dz_trip 0 0 0 18 1 (by decide +kernel)) ha ?_
  clear ha
  intro H ha _
  have ha : At H qT41 200 := ha.nrm (by decide +kernel)
  show am_Ev m_L_texts WB RO RQ (388, [.ref 38, .int 18], [.int 18], H)
  refine am_Ev_G [389] 3 _ ?_
  show am_Ev m_L_texts WB RO RQ (389, [.ref 38, .int 18], [.int 18, .int 18], H)
  refine wk_eq1 rfl rfl ?_
  show am_Ev m_L_texts WB RO RQ (394, [.ref 38, .int 18], [], H)
  refine wk_iinc (z := 19) rfl rfl rfl (by decide) ?_
  show am_Ev m_L_texts WB RO RQ (397, [.ref 38, .int 19], [], H)
  refine am_Ev_G [376] 5 _ ?_
  show am_Ev m_L_texts WB RO RQ (376, [.ref 38, .int 19], [.int 19, .int 19], H)
  refine wk_ge1 rfl (by decide) ?_
  show am_Ev m_L_texts WB RO RQ (400, [.ref 38, .int 19], [], H)
  refine am_Ev_G [404] 4 _ ?_
  show am_Ev m_L_texts WB RO RQ (404, [.ref 38, .int 19], [.long 3472328364946829627, .ref 38], H)
  refine act false (i := 152) (cd := d_L_types 0) (x := 0) (g := 200) (r := [.long 3472328364946829627]) (v := .int 1) rfl rfl rfl rfl rfl (Nat.le_of_ble_eq_true rfl) (fun _ => rfl) (Nat.le_of_ble_eq_true rfl) (Nat.le_of_ble_eq_true rfl) (dz_types (s' := [48, 48, 48, 64, 48, 43, 49, 59]) (by decide +kernel)) ha ?_
  clear ha
  intro H ha _
  have ha : At H qT42 200 := ha
  show am_Ev m_L_texts WB RO RQ (407, [.ref 38, .int 19], [.int 1], H)
  refine wk_ifeq rfl (by decide) ?_
  show am_Ev m_L_texts WB RO RQ (410, [.ref 38, .int 19], [], H)
  refine am_Ev_G [414] 4 _ ?_
  show am_Ev m_L_texts WB RO RQ (414, [.ref 38, .int 19], [.long 13563782675639089, .ref 38], H)
  refine act false (i := 152) (cd := d_L_types 0) (x := 0) (g := 200) (r := [.long 13563782675639089]) (v := .int 1) rfl rfl rfl rfl rfl (Nat.le_of_ble_eq_true rfl) (fun _ => rfl) (Nat.le_of_ble_eq_true rfl) (Nat.le_of_ble_eq_true rfl) (dz_types (s' := [48, 48, 48, 64, 48, 43, 49, 59, 48, 48, 48, 64, 49, 43, 49]) (by decide +kernel)) ha ?_
  clear ha
  intro H ha _
  have ha : At H qT43 200 := ha
  show am_Ev m_L_texts WB RO RQ (417, [.ref 38, .int 19], [.int 1], H)
  refine wk_ifeq rfl (by decide) ?_
  show am_Ev m_L_texts WB RO RQ (420, [.ref 38, .int 19], [], H)
  refine am_Ev_G [426] 7 _ ?_
  show am_Ev m_L_texts WB RO RQ (426, [.ref 38, .int 19], [.long 0, .int 0, .int 0, .int 10, .ref 38], H)
  refine act false (i := 112) (cd := d_L_call) (x := 1) (g := 200) (r := [.int 10, .int 0, .int 0, .long 0]) (v := .int (-13 : Int32)) rfl rfl rfl rfl rfl (Nat.le_of_ble_eq_true rfl) (fun _ => rfl) (Nat.le_of_ble_eq_true rfl) (Nat.le_of_ble_eq_true rfl) (dz_callT 10 0 0 0 (by decide +kernel) (by decide +kernel)) ha ?_
  clear ha
  intro H ha _
  show am_Ev m_L_texts WB RO RQ (429, [.ref 38, .int 19], [.int (-13 : Int32)], H)
  refine am_Ev_G [431] 3 _ ?_
  show am_Ev m_L_texts WB RO RQ (431, [.ref 38, .int 19], [.int (-13 : Int32), .int (-13 : Int32)], H)
  refine wk_ne rfl rfl ?_
  show am_Ev m_L_texts WB RO RQ (434, [.ref 38, .int 19], [], H)
  refine am_Ev_G [436] 4 _ ?_
  show am_Ev m_L_texts WB RO RQ (436, [.ref 38, .int 19], [.int 0, .ref 38], H)
  refine act true (i := 78) (cd := d_B_count 15) (x := 0) (g := 201) (r := [.int 0]) (v := .int 19) rfl rfl rfl rfl rfl (Nat.le_of_ble_eq_true rfl) (fun _ => rfl) (Nat.le_of_ble_eq_true rfl) (Nat.le_of_ble_eq_true rfl) (dz_count 0 (by decide +kernel)) ha ?_
  clear ha
  intro H ha _
  show am_Ev m_L_texts WB RO RQ (439, [.ref 38, .int 19], [.int 19], H)
  refine am_Ev_G [441] 3 _ ?_
  show am_Ev m_L_texts WB RO RQ (441, [.ref 38, .int 19], [.int 19, .int 19], H)
  refine wk_ne rfl rfl ?_
  show am_Ev m_L_texts WB RO RQ (444, [.ref 38, .int 19], [], H)
  refine am_Ev_G [445] 3 _ ?_
  show am_Ev m_L_texts WB RO RQ (445, [.ref 38, .int 19], [.ref 38], H)
  refine act true (i := 149) (cd := d_B_clearBuffer 15) (x := 0) (g := 201) (r := []) (v := .int 15) rfl rfl rfl rfl rfl (Nat.le_of_ble_eq_true rfl) (fun _ => rfl) (Nat.le_of_ble_eq_true rfl) (Nat.le_of_ble_eq_true rfl) (dz_clear (by decide +kernel)) ha ?_
  clear ha
  intro H ha _
  have ha : At H qT44 201 := ha
  show am_Ev m_L_texts WB RO RQ (448, [.ref 38, .int 19], [.int 15], H)
  refine am_Ev_G [450] 3 _ ?_
  show am_Ev m_L_texts WB RO RQ (450, [.ref 38, .int 19], [.int 15, .int 15], H)
  refine wk_ne rfl rfl ?_
  show am_Ev m_L_texts WB RO RQ (453, [.ref 38, .int 19], [], H)
  refine am_Ev_G [457] 4 _ ?_
  show am_Ev m_L_texts WB RO RQ (457, [.ref 38, .int 19], [.long 13563782675573553, .ref 38], H)
  refine act false (i := 152) (cd := d_L_types 0) (x := 0) (g := 201) (r := [.long 13563782675573553]) (v := .int 1) rfl rfl rfl rfl rfl (Nat.le_of_ble_eq_true rfl) (fun _ => rfl) (Nat.le_of_ble_eq_true rfl) (Nat.le_of_ble_eq_true rfl) (dz_types (s' := [48, 48, 48, 64, 48, 43, 49]) (by decide +kernel)) ha ?_
  clear ha
  intro H ha _
  have ha : At H qT45 201 := ha
  show am_Ev m_L_texts WB RO RQ (460, [.ref 38, .int 19], [.int 1], H)
  refine wk_ifeq rfl (by decide) ?_
  show am_Ev m_L_texts WB RO RQ (463, [.ref 38, .int 19], [], H)
  refine am_Ev_G [464] 3 _ ?_
  show am_Ev m_L_texts WB RO RQ (464, [.ref 38, .int 19], [.ref 38], H)
  refine act true (i := 53) (cd := d_B_load 15) (x := 0) (g := 201) (r := []) (v := .int 20) rfl rfl rfl rfl rfl (Nat.le_of_ble_eq_true rfl) (fun _ => rfl) (Nat.le_of_ble_eq_true rfl) (Nat.le_of_ble_eq_true rfl) (dz_load (by decide +kernel)) ha ?_
  clear ha
  intro H ha _
  have ha : At H qT46 201 := ha.nrm (by decide +kernel)
  show am_Ev m_L_texts WB RO RQ (467, [.ref 38, .int 19], [.int 20], H)
  refine am_Ev_G [469] 3 _ ?_
  show am_Ev m_L_texts WB RO RQ (469, [.ref 38, .int 19], [.int 20, .int 20], H)
  refine wk_ne rfl rfl ?_
  show am_Ev m_L_texts WB RO RQ (472, [.ref 38, .int 19], [], H)
  refine am_Ev_G [473] 3 _ ?_
  show am_Ev m_L_texts WB RO RQ (473, [.ref 38, .int 19], [.ref 38], H)
  refine act true (i := 62) (cd := d_B_undo 15) (x := 0) (g := 201) (r := []) (v := .int 5) rfl rfl rfl rfl rfl (Nat.le_of_ble_eq_true rfl) (fun _ => rfl) (Nat.le_of_ble_eq_true rfl) (Nat.le_of_ble_eq_true rfl) (dz_undo (by decide +kernel)) ha ?_
  clear ha
  intro H ha _
  have ha : At H qT47 201 := ha
  show am_Ev m_L_texts WB RO RQ (476, [.ref 38, .int 19], [.int 5], H)
  refine am_Ev_G [477] 3 _ ?_
  show am_Ev m_L_texts WB RO RQ (477, [.ref 38, .int 19], [.int 5, .int 5], H)
  refine wk_ne rfl rfl ?_
  show am_Ev m_L_texts WB RO RQ (480, [.ref 38, .int 19], [], H)
  exact texts_c4 ha
set_option maxRecDepth 100000 in
theorem texts_c2 {H : HP} (ha : At H qT24 200) : am_Ev m_L_texts WB RO RQ (338, [.ref 38, .retAddr 0], [], H) := by
  refine am_Ev_G [341] 5 _ ?_
  show am_Ev m_L_texts WB RO RQ (341, [.ref 38, .retAddr 0], [.int 4, .int 1, .ref 38], H)
  refine act true (i := 68) (cd := d_B_tripOf 15) (x := 0) (g := 200) (r := [.int 1, .int 4]) (v := .int 649) rfl rfl rfl rfl rfl (Nat.le_of_ble_eq_true rfl) (fun _ => rfl) (Nat.le_of_ble_eq_true rfl) (Nat.le_of_ble_eq_true rfl) (dz_tripOf 1 4 (by decide +kernel)) ha ?_
  clear ha
  intro H ha _
  show am_Ev m_L_texts WB RO RQ (344, [.ref 38, .retAddr 0], [.int 649], H)
  refine am_Ev_G [347] 3 _ ?_
  show am_Ev m_L_texts WB RO RQ (347, [.ref 38, .retAddr 0], [.int 649, .int 649], H)
  refine wk_ne rfl rfl ?_
  show am_Ev m_L_texts WB RO RQ (350, [.ref 38, .retAddr 0], [], H)
  refine am_Ev_G [352] 4 _ ?_
  show am_Ev m_L_texts WB RO RQ (352, [.ref 38, .retAddr 0], [.int 2, .ref 38], H)
  refine act true (i := 78) (cd := d_B_count 15) (x := 0) (g := 200) (r := [.int 2]) (v := .int 2) rfl rfl rfl rfl rfl (Nat.le_of_ble_eq_true rfl) (fun _ => rfl) (Nat.le_of_ble_eq_true rfl) (Nat.le_of_ble_eq_true rfl) (dz_count 2 (by decide +kernel)) ha ?_
  clear ha
  intro H ha _
  show am_Ev m_L_texts WB RO RQ (355, [.ref 38, .retAddr 0], [.int 2], H)
  refine am_Ev_G [356] 3 _ ?_
  show am_Ev m_L_texts WB RO RQ (356, [.ref 38, .retAddr 0], [.int 2, .int 2], H)
  refine wk_ne rfl rfl ?_
  show am_Ev m_L_texts WB RO RQ (359, [.ref 38, .retAddr 0], [], H)
  refine am_Ev_G [362] 4 _ ?_
  show am_Ev m_L_texts WB RO RQ (362, [.ref 38, .retAddr 0], [.int 10, .ref 38], H)
  refine act true (i := 78) (cd := d_B_count 15) (x := 0) (g := 200) (r := [.int 10]) (v := .int 1) rfl rfl rfl rfl rfl (Nat.le_of_ble_eq_true rfl) (fun _ => rfl) (Nat.le_of_ble_eq_true rfl) (Nat.le_of_ble_eq_true rfl) (dz_count 10 (by decide +kernel)) ha ?_
  clear ha
  intro H ha _
  show am_Ev m_L_texts WB RO RQ (365, [.ref 38, .retAddr 0], [.int 1], H)
  refine am_Ev_G [366] 3 _ ?_
  show am_Ev m_L_texts WB RO RQ (366, [.ref 38, .retAddr 0], [.int 1, .int 1], H)
  refine wk_eq1 rfl rfl ?_
  show am_Ev m_L_texts WB RO RQ (371, [.ref 38, .retAddr 0], [], H)
  refine am_Ev_G [376] 6 _ ?_
  show am_Ev m_L_texts WB RO RQ (376, [.ref 38, .int 2], [.int 19, .int 2], H)
  refine wk_ge rfl (by decide) ?_
  show am_Ev m_L_texts WB RO RQ (379, [.ref 38, .int 2], [], H)
  refine am_Ev_G [385] 8 _ ?_
  show am_Ev m_L_texts WB RO RQ (385, [.ref 38, .int 2], [.int 1, .int 2, .int 0, .int 0, .int 0, .ref 38], H)
  refine act true (i := 27) (cd := d_B_trip 15) (x := 0) (g := 200) (r := [.int 0, .int 0, .int 0, .int 2, .int 1]) (v := .int 2) rfl rfl rfl rfl rfl (Nat.le_of_ble_eq_true rfl) (fun _ => rfl) (Nat.le_of_ble_eq_true rfl) (Nat.le_of_ble_eq_true rfl) (dz_trip 0 0 0 2 1 (by decide +kernel)) ha ?_
  clear ha
  intro H ha _
  have ha : At H qT25 200 := ha.nrm (by decide +kernel)
  show am_Ev m_L_texts WB RO RQ (388, [.ref 38, .int 2], [.int 2], H)
  refine am_Ev_G [389] 3 _ ?_
  show am_Ev m_L_texts WB RO RQ (389, [.ref 38, .int 2], [.int 2, .int 2], H)
  refine wk_eq1 rfl rfl ?_
  show am_Ev m_L_texts WB RO RQ (394, [.ref 38, .int 2], [], H)
  refine wk_iinc (z := 3) rfl rfl rfl (by decide) ?_
  show am_Ev m_L_texts WB RO RQ (397, [.ref 38, .int 3], [], H)
  refine am_Ev_G [376] 5 _ ?_
  show am_Ev m_L_texts WB RO RQ (376, [.ref 38, .int 3], [.int 19, .int 3], H)
  refine wk_ge rfl (by decide) ?_
  show am_Ev m_L_texts WB RO RQ (379, [.ref 38, .int 3], [], H)
  refine am_Ev_G [385] 8 _ ?_
  show am_Ev m_L_texts WB RO RQ (385, [.ref 38, .int 3], [.int 1, .int 3, .int 0, .int 0, .int 0, .ref 38], H)
  refine act true (i := 27) (cd := d_B_trip 15) (x := 0) (g := 200) (r := [.int 0, .int 0, .int 0, .int 3, .int 1]) (v := .int 3) rfl rfl rfl rfl rfl (Nat.le_of_ble_eq_true rfl) (fun _ => rfl) (Nat.le_of_ble_eq_true rfl) (Nat.le_of_ble_eq_true rfl) (dz_trip 0 0 0 3 1 (by decide +kernel)) ha ?_
  clear ha
  intro H ha _
  have ha : At H qT26 200 := ha.nrm (by decide +kernel)
  show am_Ev m_L_texts WB RO RQ (388, [.ref 38, .int 3], [.int 3], H)
  refine am_Ev_G [389] 3 _ ?_
  show am_Ev m_L_texts WB RO RQ (389, [.ref 38, .int 3], [.int 3, .int 3], H)
  refine wk_eq1 rfl rfl ?_
  show am_Ev m_L_texts WB RO RQ (394, [.ref 38, .int 3], [], H)
  refine wk_iinc (z := 4) rfl rfl rfl (by decide) ?_
  show am_Ev m_L_texts WB RO RQ (397, [.ref 38, .int 4], [], H)
  refine am_Ev_G [376] 5 _ ?_
  show am_Ev m_L_texts WB RO RQ (376, [.ref 38, .int 4], [.int 19, .int 4], H)
  refine wk_ge rfl (by decide) ?_
  show am_Ev m_L_texts WB RO RQ (379, [.ref 38, .int 4], [], H)
  refine am_Ev_G [385] 8 _ ?_
  show am_Ev m_L_texts WB RO RQ (385, [.ref 38, .int 4], [.int 1, .int 4, .int 0, .int 0, .int 0, .ref 38], H)
  refine act true (i := 27) (cd := d_B_trip 15) (x := 0) (g := 200) (r := [.int 0, .int 0, .int 0, .int 4, .int 1]) (v := .int 4) rfl rfl rfl rfl rfl (Nat.le_of_ble_eq_true rfl) (fun _ => rfl) (Nat.le_of_ble_eq_true rfl) (Nat.le_of_ble_eq_true rfl) (dz_trip 0 0 0 4 1 (by decide +kernel)) ha ?_
  clear ha
  intro H ha _
  have ha : At H qT27 200 := ha.nrm (by decide +kernel)
  show am_Ev m_L_texts WB RO RQ (388, [.ref 38, .int 4], [.int 4], H)
  refine am_Ev_G [389] 3 _ ?_
  show am_Ev m_L_texts WB RO RQ (389, [.ref 38, .int 4], [.int 4, .int 4], H)
  refine wk_eq1 rfl rfl ?_
  show am_Ev m_L_texts WB RO RQ (394, [.ref 38, .int 4], [], H)
  refine wk_iinc (z := 5) rfl rfl rfl (by decide) ?_
  show am_Ev m_L_texts WB RO RQ (397, [.ref 38, .int 5], [], H)
  refine am_Ev_G [376] 5 _ ?_
  show am_Ev m_L_texts WB RO RQ (376, [.ref 38, .int 5], [.int 19, .int 5], H)
  refine wk_ge rfl (by decide) ?_
  show am_Ev m_L_texts WB RO RQ (379, [.ref 38, .int 5], [], H)
  refine am_Ev_G [385] 8 _ ?_
  show am_Ev m_L_texts WB RO RQ (385, [.ref 38, .int 5], [.int 1, .int 5, .int 0, .int 0, .int 0, .ref 38], H)
  refine act true (i := 27) (cd := d_B_trip 15) (x := 0) (g := 200) (r := [.int 0, .int 0, .int 0, .int 5, .int 1]) (v := .int 5) rfl rfl rfl rfl rfl (Nat.le_of_ble_eq_true rfl) (fun _ => rfl) (Nat.le_of_ble_eq_true rfl) (Nat.le_of_ble_eq_true rfl) (dz_trip 0 0 0 5 1 (by decide +kernel)) ha ?_
  clear ha
  intro H ha _
  have ha : At H qT28 200 := ha.nrm (by decide +kernel)
  show am_Ev m_L_texts WB RO RQ (388, [.ref 38, .int 5], [.int 5], H)
  refine am_Ev_G [389] 3 _ ?_
  show am_Ev m_L_texts WB RO RQ (389, [.ref 38, .int 5], [.int 5, .int 5], H)
  refine wk_eq1 rfl rfl ?_
  show am_Ev m_L_texts WB RO RQ (394, [.ref 38, .int 5], [], H)
  refine wk_iinc (z := 6) rfl rfl rfl (by decide) ?_
  show am_Ev m_L_texts WB RO RQ (397, [.ref 38, .int 6], [], H)
  refine am_Ev_G [376] 5 _ ?_
  show am_Ev m_L_texts WB RO RQ (376, [.ref 38, .int 6], [.int 19, .int 6], H)
  refine wk_ge rfl (by decide) ?_
  show am_Ev m_L_texts WB RO RQ (379, [.ref 38, .int 6], [], H)
  refine am_Ev_G [385] 8 _ ?_
  show am_Ev m_L_texts WB RO RQ (385, [.ref 38, .int 6], [.int 1, .int 6, .int 0, .int 0, .int 0, .ref 38], H)
  refine act true (i := 27) (cd := d_B_trip 15) (x := 0) (g := 200) (r := [.int 0, .int 0, .int 0, .int 6, .int 1]) (v := .int 6) rfl rfl rfl rfl rfl (Nat.le_of_ble_eq_true rfl) (fun _ => rfl) (Nat.le_of_ble_eq_true rfl) (Nat.le_of_ble_eq_true rfl) (dz_trip 0 0 0 6 1 (by decide +kernel)) ha ?_
  clear ha
  intro H ha _
  have ha : At H qT29 200 := ha.nrm (by decide +kernel)
  show am_Ev m_L_texts WB RO RQ (388, [.ref 38, .int 6], [.int 6], H)
  refine am_Ev_G [389] 3 _ ?_
  show am_Ev m_L_texts WB RO RQ (389, [.ref 38, .int 6], [.int 6, .int 6], H)
  refine wk_eq1 rfl rfl ?_
  show am_Ev m_L_texts WB RO RQ (394, [.ref 38, .int 6], [], H)
  refine wk_iinc (z := 7) rfl rfl rfl (by decide) ?_
  show am_Ev m_L_texts WB RO RQ (397, [.ref 38, .int 7], [], H)
  refine am_Ev_G [376] 5 _ ?_
  show am_Ev m_L_texts WB RO RQ (376, [.ref 38, .int 7], [.int 19, .int 7], H)
  refine wk_ge rfl (by decide) ?_
  show am_Ev m_L_texts WB RO RQ (379, [.ref 38, .int 7], [], H)
  refine am_Ev_G [385] 8 _ ?_
  show am_Ev m_L_texts WB RO RQ (385, [.ref 38, .int 7], [.int 1, .int 7, .int 0, .int 0, .int 0, .ref 38], H)
  refine act true (i := 27) (cd := d_B_trip 15) (x := 0) (g := 200) (r := [.int 0, .int 0, .int 0, .int 7, .int 1]) (v := .int 7) rfl rfl rfl rfl rfl (Nat.le_of_ble_eq_true rfl) (fun _ => rfl) (Nat.le_of_ble_eq_true rfl) (Nat.le_of_ble_eq_true rfl) (dz_trip 0 0 0 7 1 (by decide +kernel)) ha ?_
  clear ha
  intro H ha _
  have ha : At H qT30 200 := ha.nrm (by decide +kernel)
  show am_Ev m_L_texts WB RO RQ (388, [.ref 38, .int 7], [.int 7], H)
  refine am_Ev_G [389] 3 _ ?_
  show am_Ev m_L_texts WB RO RQ (389, [.ref 38, .int 7], [.int 7, .int 7], H)
  refine wk_eq1 rfl rfl ?_
  show am_Ev m_L_texts WB RO RQ (394, [.ref 38, .int 7], [], H)
  refine wk_iinc (z := 8) rfl rfl rfl (by decide) ?_
  show am_Ev m_L_texts WB RO RQ (397, [.ref 38, .int 8], [], H)
  refine am_Ev_G [376] 5 _ ?_
  show am_Ev m_L_texts WB RO RQ (376, [.ref 38, .int 8], [.int 19, .int 8], H)
  refine wk_ge rfl (by decide) ?_
  show am_Ev m_L_texts WB RO RQ (379, [.ref 38, .int 8], [], H)
  refine am_Ev_G [385] 8 _ ?_
  show am_Ev m_L_texts WB RO RQ (385, [.ref 38, .int 8], [.int 1, .int 8, .int 0, .int 0, .int 0, .ref 38], H)
  refine act true (i := 27) (cd := d_B_trip 15) (x := 0) (g := 200) (r := [.int 0, .int 0, .int 0, .int 8, .int 1]) (v := .int 8) rfl rfl rfl rfl rfl (Nat.le_of_ble_eq_true rfl) (fun _ => rfl) (Nat.le_of_ble_eq_true rfl) (Nat.le_of_ble_eq_true rfl) (dz_trip 0 0 0 8 1 (by decide +kernel)) ha ?_
  clear ha
  intro H ha _
  have ha : At H qT31 200 := ha.nrm (by decide +kernel)
  show am_Ev m_L_texts WB RO RQ (388, [.ref 38, .int 8], [.int 8], H)
  refine am_Ev_G [389] 3 _ ?_
  show am_Ev m_L_texts WB RO RQ (389, [.ref 38, .int 8], [.int 8, .int 8], H)
  refine wk_eq1 rfl rfl ?_
  show am_Ev m_L_texts WB RO RQ (394, [.ref 38, .int 8], [], H)
  refine wk_iinc (z := 9) rfl rfl rfl (by decide) ?_
  show am_Ev m_L_texts WB RO RQ (397, [.ref 38, .int 9], [], H)
  refine am_Ev_G [376] 5 _ ?_
  show am_Ev m_L_texts WB RO RQ (376, [.ref 38, .int 9], [.int 19, .int 9], H)
  refine wk_ge rfl (by decide) ?_
  show am_Ev m_L_texts WB RO RQ (379, [.ref 38, .int 9], [], H)
  refine am_Ev_G [385] 8 _ ?_
  show am_Ev m_L_texts WB RO RQ (385, [.ref 38, .int 9], [.int 1, .int 9, .int 0, .int 0, .int 0, .ref 38], H)
  refine act true (i := 27) (cd := d_B_trip 15) (x := 0) (g := 200) (r := [.int 0, .int 0, .int 0, .int 9, .int 1]) (v := .int 9) rfl rfl rfl rfl rfl (Nat.le_of_ble_eq_true rfl) (fun _ => rfl) (Nat.le_of_ble_eq_true rfl) (Nat.le_of_ble_eq_true rfl) (dz_trip 0 0 0 9 1 (by decide +kernel)) ha ?_
  clear ha
  intro H ha _
  have ha : At H qT32 200 := ha.nrm (by decide +kernel)
  show am_Ev m_L_texts WB RO RQ (388, [.ref 38, .int 9], [.int 9], H)
  refine am_Ev_G [389] 3 _ ?_
  show am_Ev m_L_texts WB RO RQ (389, [.ref 38, .int 9], [.int 9, .int 9], H)
  refine wk_eq1 rfl rfl ?_
  show am_Ev m_L_texts WB RO RQ (394, [.ref 38, .int 9], [], H)
  refine wk_iinc (z := 10) rfl rfl rfl (by decide) ?_
  show am_Ev m_L_texts WB RO RQ (397, [.ref 38, .int 10], [], H)
  refine am_Ev_G [376] 5 _ ?_
  show am_Ev m_L_texts WB RO RQ (376, [.ref 38, .int 10], [.int 19, .int 10], H)
  refine wk_ge rfl (by decide) ?_
  show am_Ev m_L_texts WB RO RQ (379, [.ref 38, .int 10], [], H)
  refine am_Ev_G [385] 8 _ ?_
  show am_Ev m_L_texts WB RO RQ (385, [.ref 38, .int 10], [.int 1, .int 10, .int 0, .int 0, .int 0, .ref 38], H)
  refine act true (i := 27) (cd := d_B_trip 15) (x := 0) (g := 200) (r := [.int 0, .int 0, .int 0, .int 10, .int 1]) (v := .int 10) rfl rfl rfl rfl rfl (Nat.le_of_ble_eq_true rfl) (fun _ => rfl) (Nat.le_of_ble_eq_true rfl) (Nat.le_of_ble_eq_true rfl) (dz_trip 0 0 0 10 1 (by decide +kernel)) ha ?_
  clear ha
  intro H ha _
  have ha : At H qT33 200 := ha.nrm (by decide +kernel)
  show am_Ev m_L_texts WB RO RQ (388, [.ref 38, .int 10], [.int 10], H)
  refine am_Ev_G [389] 3 _ ?_
  show am_Ev m_L_texts WB RO RQ (389, [.ref 38, .int 10], [.int 10, .int 10], H)
  refine wk_eq1 rfl rfl ?_
  show am_Ev m_L_texts WB RO RQ (394, [.ref 38, .int 10], [], H)
  refine wk_iinc (z := 11) rfl rfl rfl (by decide) ?_
  show am_Ev m_L_texts WB RO RQ (397, [.ref 38, .int 11], [], H)
  refine am_Ev_G [376] 5 _ ?_
  show am_Ev m_L_texts WB RO RQ (376, [.ref 38, .int 11], [.int 19, .int 11], H)
  refine wk_ge rfl (by decide) ?_
  show am_Ev m_L_texts WB RO RQ (379, [.ref 38, .int 11], [], H)
  refine am_Ev_G [385] 8 _ ?_
  show am_Ev m_L_texts WB RO RQ (385, [.ref 38, .int 11], [.int 1, .int 11, .int 0, .int 0, .int 0, .ref 38], H)
  refine act true (i := 27) (cd := d_B_trip 15) (x := 0) (g := 200) (r := [.int 0, .int 0, .int 0, .int 11, .int 1]) (v := .int 11) rfl rfl rfl rfl rfl (Nat.le_of_ble_eq_true rfl) (fun _ => rfl) (Nat.le_of_ble_eq_true rfl) (Nat.le_of_ble_eq_true rfl) (dz_trip 0 0 0 11 1 (by decide +kernel)) ha ?_
  clear ha
  intro H ha _
  have ha : At H qT34 200 := ha.nrm (by decide +kernel)
  show am_Ev m_L_texts WB RO RQ (388, [.ref 38, .int 11], [.int 11], H)
  refine am_Ev_G [389] 3 _ ?_
  show am_Ev m_L_texts WB RO RQ (389, [.ref 38, .int 11], [.int 11, .int 11], H)
  refine wk_eq1 rfl rfl ?_
  show am_Ev m_L_texts WB RO RQ (394, [.ref 38, .int 11], [], H)
  refine wk_iinc (z := 12) rfl rfl rfl (by decide) ?_
  show am_Ev m_L_texts WB RO RQ (397, [.ref 38, .int 12], [], H)
  refine am_Ev_G [376] 5 _ ?_
  show am_Ev m_L_texts WB RO RQ (376, [.ref 38, .int 12], [.int 19, .int 12], H)
  refine wk_ge rfl (by decide) ?_
  show am_Ev m_L_texts WB RO RQ (379, [.ref 38, .int 12], [], H)
  refine am_Ev_G [385] 8 _ ?_
  show am_Ev m_L_texts WB RO RQ (385, [.ref 38, .int 12], [.int 1, .int 12, .int 0, .int 0, .int 0, .ref 38], H)
  refine act true (i := 27) (cd := d_B_trip 15) (x := 0) (g := 200) (r := [.int 0, .int 0, .int 0, .int 12, .int 1]) (v := .int 12) rfl rfl rfl rfl rfl (Nat.le_of_ble_eq_true rfl) (fun _ => rfl) (Nat.le_of_ble_eq_true rfl) (Nat.le_of_ble_eq_true rfl) (dz_trip 0 0 0 12 1 (by decide +kernel)) ha ?_
  clear ha
  intro H ha _
  have ha : At H qT35 200 := ha.nrm (by decide +kernel)
  show am_Ev m_L_texts WB RO RQ (388, [.ref 38, .int 12], [.int 12], H)
  refine am_Ev_G [389] 3 _ ?_
  show am_Ev m_L_texts WB RO RQ (389, [.ref 38, .int 12], [.int 12, .int 12], H)
  refine wk_eq1 rfl rfl ?_
  show am_Ev m_L_texts WB RO RQ (394, [.ref 38, .int 12], [], H)
  exact texts_c3 ha
set_option maxRecDepth 100000 in
theorem texts_c1 {H : HP} (ha : At H qT14 200) : am_Ev m_L_texts WB RO RQ (186, [.ref 38, .retAddr 0], [], H) := by
  refine am_Ev_G [192] 6 _ ?_
  show am_Ev m_L_texts WB RO RQ (192, [.ref 38, .retAddr 0], [.int 5, .long 0, .long 52983526077755, .ref 38], H)
  refine act false (i := 161) (cd := d_L_isError 0) (x := 0) (g := 200) (r := [.long 52983526077755, .long 0, .int 5]) (v := .int 1) rfl rfl rfl rfl rfl (Nat.le_of_ble_eq_true rfl) (fun _ => rfl) (Nat.le_of_ble_eq_true rfl) (Nat.le_of_ble_eq_true rfl) (dz_isError (s1 := [48, 48, 48, 64, 53, 59]) (s2 := [48, 48, 48, 64, 53, 59]) (by decide +kernel) (by decide +kernel) (by decide +kernel)) ha ?_
  clear ha
  intro H ha _
  have ha : At H qT15 200 := ha
  show am_Ev m_L_texts WB RO RQ (195, [.ref 38, .retAddr 0], [.int 1], H)
  refine wk_ifeq rfl (by decide) ?_
  show am_Ev m_L_texts WB RO RQ (198, [.ref 38, .retAddr 0], [], H)
  refine am_Ev_G [207] 6 _ ?_
  show am_Ev m_L_texts WB RO RQ (207, [.ref 38, .retAddr 0], [.int 8, .long 59, .long 3472328365097824571, .ref 38], H)
  refine act false (i := 161) (cd := d_L_isError 0) (x := 0) (g := 200) (r := [.long 3472328365097824571, .long 59, .int 8]) (v := .int 1) rfl rfl rfl rfl rfl (Nat.le_of_ble_eq_true rfl) (fun _ => rfl) (Nat.le_of_ble_eq_true rfl) (Nat.le_of_ble_eq_true rfl) (dz_isError (s1 := [48, 48, 48, 64, 57, 43, 49, 59]) (s2 := [48, 48, 48, 64, 57, 43, 49, 59, 59]) (by decide +kernel) (by decide +kernel) (by decide +kernel)) ha ?_
  clear ha
  intro H ha _
  have ha : At H qT16 200 := ha
  show am_Ev m_L_texts WB RO RQ (210, [.ref 38, .retAddr 0], [.int 1], H)
  refine wk_ifeq rfl (by decide) ?_
  show am_Ev m_L_texts WB RO RQ (213, [.ref 38, .retAddr 0], [], H)
  refine am_Ev_G [219] 6 _ ?_
  show am_Ev m_L_texts WB RO RQ (219, [.ref 38, .retAddr 0], [.int 1, .long 0, .long 12408, .ref 38], H)
  refine act false (i := 161) (cd := d_L_isError 0) (x := 0) (g := 200) (r := [.long 12408, .long 0, .int 1]) (v := .int 1) rfl rfl rfl rfl rfl (Nat.le_of_ble_eq_true rfl) (fun _ => rfl) (Nat.le_of_ble_eq_true rfl) (Nat.le_of_ble_eq_true rfl) (dz_isError (s1 := [48, 120]) (s2 := [48, 120]) (by decide +kernel) (by decide +kernel) (by decide +kernel)) ha ?_
  clear ha
  intro H ha _
  have ha : At H qT17 200 := ha
  show am_Ev m_L_texts WB RO RQ (222, [.ref 38, .retAddr 0], [.int 1], H)
  refine wk_ifeq rfl (by decide) ?_
  show am_Ev m_L_texts WB RO RQ (225, [.ref 38, .retAddr 0], [], H)
  refine am_Ev_G [234] 6 _ ?_
  show am_Ev m_L_texts WB RO RQ (234, [.ref 38, .retAddr 0], [.int 12, .long 809186098, .long 3472612039064236596, .ref 38], H)
  refine act false (i := 161) (cd := d_L_isError 0) (x := 0) (g := 200) (r := [.long 3472612039064236596, .long 809186098, .int 12]) (v := .int 1) rfl rfl rfl rfl rfl (Nat.le_of_ble_eq_true rfl) (fun _ => rfl) (Nat.le_of_ble_eq_true rfl) (Nat.le_of_ble_eq_true rfl) (dz_isError (s1 := [48, 49, 50, 64, 55, 43, 50, 52]) (s2 := [48, 49, 50, 64, 55, 43, 50, 52, 48, 59, 51, 50]) (by decide +kernel) (by decide +kernel) (by decide +kernel)) ha ?_
  clear ha
  intro H ha _
  have ha : At H qT18 200 := ha
  show am_Ev m_L_texts WB RO RQ (237, [.ref 38, .retAddr 0], [.int 1], H)
  refine wk_ifne1 rfl (by decide) ?_
  show am_Ev m_L_texts WB RO RQ (242, [.ref 38, .retAddr 0], [], H)
  refine am_Ev_G [243] 3 _ ?_
  show am_Ev m_L_texts WB RO RQ (243, [.ref 38, .retAddr 0], [.ref 38], H)
  refine act true (i := 149) (cd := d_B_clearBuffer 15) (x := 0) (g := 200) (r := []) (v := .int 12) rfl rfl rfl rfl rfl (Nat.le_of_ble_eq_true rfl) (fun _ => rfl) (Nat.le_of_ble_eq_true rfl) (Nat.le_of_ble_eq_true rfl) (dz_clear (by decide +kernel)) ha ?_
  clear ha
  intro H ha _
  have ha : At H qT19 200 := ha
  show am_Ev m_L_texts WB RO RQ (246, [.ref 38, .retAddr 0], [.int 12], H)
  refine am_Ev_G [248] 3 _ ?_
  show am_Ev m_L_texts WB RO RQ (248, [.ref 38, .retAddr 0], [.int 12, .int 12], H)
  refine wk_ne rfl rfl ?_
  show am_Ev m_L_texts WB RO RQ (251, [.ref 38, .retAddr 0], [], H)
  refine am_Ev_G [255] 4 _ ?_
  show am_Ev m_L_texts WB RO RQ (255, [.ref 38, .retAddr 0], [.long 3472612039047786539, .ref 38], H)
  refine act false (i := 152) (cd := d_L_types 0) (x := 0) (g := 200) (r := [.long 3472612039047786539]) (v := .int 1) rfl rfl rfl rfl rfl (Nat.le_of_ble_eq_true rfl) (fun _ => rfl) (Nat.le_of_ble_eq_true rfl) (Nat.le_of_ble_eq_true rfl) (dz_types (s' := [48, 49, 50, 64, 54, 48, 48, 43]) (by decide +kernel)) ha ?_
  clear ha
  intro H ha _
  have ha : At H qT20 200 := ha
  show am_Ev m_L_texts WB RO RQ (258, [.ref 38, .retAddr 0], [.int 1], H)
  refine wk_ifeq rfl (by decide) ?_
  show am_Ev m_L_texts WB RO RQ (261, [.ref 38, .retAddr 0], [], H)
  refine am_Ev_G [265] 4 _ ?_
  show am_Ev m_L_texts WB RO RQ (265, [.ref 38, .retAddr 0], [.long 3688513177297895478, .ref 38], H)
  refine act false (i := 152) (cd := d_L_types 0) (x := 0) (g := 200) (r := [.long 3688513177297895478]) (v := .int 1) rfl rfl rfl rfl rfl (Nat.le_of_ble_eq_true rfl) (fun _ => rfl) (Nat.le_of_ble_eq_true rfl) (Nat.le_of_ble_eq_true rfl) (dz_types (s' := [48, 49, 50, 64, 54, 48, 48, 43, 51, 48, 59, 49, 50, 48, 64, 54]) (by decide +kernel)) ha ?_
  clear ha
  intro H ha _
  have ha : At H qT21 200 := ha
  show am_Ev m_L_texts WB RO RQ (268, [.ref 38, .retAddr 0], [.int 1], H)
  refine wk_ifeq rfl (by decide) ?_
  show am_Ev m_L_texts WB RO RQ (271, [.ref 38, .retAddr 0], [], H)
  refine am_Ev_G [275] 4 _ ?_
  show am_Ev m_L_texts WB RO RQ (275, [.ref 38, .retAddr 0], [.long 875572025, .ref 38], H)
  refine act false (i := 152) (cd := d_L_types 0) (x := 0) (g := 200) (r := [.long 875572025]) (v := .int 1) rfl rfl rfl rfl rfl (Nat.le_of_ble_eq_true rfl) (fun _ => rfl) (Nat.le_of_ble_eq_true rfl) (Nat.le_of_ble_eq_true rfl) (dz_types (s' := [48, 49, 50, 64, 54, 48, 48, 43, 51, 48, 59, 49, 50, 48, 64, 54, 52, 48, 43, 57]) (by decide +kernel)) ha ?_
  clear ha
  intro H ha _
  have ha : At H qT22 200 := ha
  show am_Ev m_L_texts WB RO RQ (278, [.ref 38, .retAddr 0], [.int 1], H)
  refine wk_ifeq rfl (by decide) ?_
  show am_Ev m_L_texts WB RO RQ (281, [.ref 38, .retAddr 0], [], H)
  refine am_Ev_G [282] 3 _ ?_
  show am_Ev m_L_texts WB RO RQ (282, [.ref 38, .retAddr 0], [.ref 38], H)
  refine act true (i := 53) (cd := d_B_load 15) (x := 0) (g := 200) (r := []) (v := .int 2) rfl rfl rfl rfl rfl (Nat.le_of_ble_eq_true rfl) (fun _ => rfl) (Nat.le_of_ble_eq_true rfl) (Nat.le_of_ble_eq_true rfl) (dz_load (by decide +kernel)) ha ?_
  clear ha
  intro H ha _
  have ha : At H qT23 200 := ha.nrm (by decide +kernel)
  show am_Ev m_L_texts WB RO RQ (285, [.ref 38, .retAddr 0], [.int 2], H)
  refine am_Ev_G [286] 3 _ ?_
  show am_Ev m_L_texts WB RO RQ (286, [.ref 38, .retAddr 0], [.int 2, .int 2], H)
  refine wk_ne rfl rfl ?_
  show am_Ev m_L_texts WB RO RQ (289, [.ref 38, .retAddr 0], [], H)
  refine am_Ev_G [290] 3 _ ?_
  show am_Ev m_L_texts WB RO RQ (290, [.ref 38, .retAddr 0], [.ref 38], H)
  refine act true (i := 149) (cd := d_B_clearBuffer 15) (x := 0) (g := 200) (r := []) (v := .int 0) rfl rfl rfl rfl rfl (Nat.le_of_ble_eq_true rfl) (fun _ => rfl) (Nat.le_of_ble_eq_true rfl) (Nat.le_of_ble_eq_true rfl) (dz_clear (by decide +kernel)) ha ?_
  clear ha
  intro H ha _
  have ha : At H qT24 200 := ha
  show am_Ev m_L_texts WB RO RQ (293, [.ref 38, .retAddr 0], [.int 0], H)
  refine wk_ifne rfl rfl ?_
  show am_Ev m_L_texts WB RO RQ (296, [.ref 38, .retAddr 0], [], H)
  refine am_Ev_G [299] 5 _ ?_
  show am_Ev m_L_texts WB RO RQ (299, [.ref 38, .retAddr 0], [.int 2, .int 0, .ref 38], H)
  refine act true (i := 68) (cd := d_B_tripOf 15) (x := 0) (g := 200) (r := [.int 0, .int 2]) (v := .int 2) rfl rfl rfl rfl rfl (Nat.le_of_ble_eq_true rfl) (fun _ => rfl) (Nat.le_of_ble_eq_true rfl) (Nat.le_of_ble_eq_true rfl) (dz_tripOf 0 2 (by decide +kernel)) ha ?_
  clear ha
  intro H ha _
  show am_Ev m_L_texts WB RO RQ (302, [.ref 38, .retAddr 0], [.int 2], H)
  refine am_Ev_G [303] 3 _ ?_
  show am_Ev m_L_texts WB RO RQ (303, [.ref 38, .retAddr 0], [.int 2, .int 2], H)
  refine wk_ne rfl rfl ?_
  show am_Ev m_L_texts WB RO RQ (306, [.ref 38, .retAddr 0], [], H)
  refine am_Ev_G [309] 5 _ ?_
  show am_Ev m_L_texts WB RO RQ (309, [.ref 38, .retAddr 0], [.int 4, .int 0, .ref 38], H)
  refine act true (i := 68) (cd := d_B_tripOf 15) (x := 0) (g := 200) (r := [.int 0, .int 4]) (v := .int 630) rfl rfl rfl rfl rfl (Nat.le_of_ble_eq_true rfl) (fun _ => rfl) (Nat.le_of_ble_eq_true rfl) (Nat.le_of_ble_eq_true rfl) (dz_tripOf 0 4 (by decide +kernel)) ha ?_
  clear ha
  intro H ha _
  show am_Ev m_L_texts WB RO RQ (312, [.ref 38, .retAddr 0], [.int 630], H)
  refine am_Ev_G [315] 3 _ ?_
  show am_Ev m_L_texts WB RO RQ (315, [.ref 38, .retAddr 0], [.int 630, .int 630], H)
  refine wk_ne rfl rfl ?_
  show am_Ev m_L_texts WB RO RQ (318, [.ref 38, .retAddr 0], [], H)
  refine am_Ev_G [321] 5 _ ?_
  show am_Ev m_L_texts WB RO RQ (321, [.ref 38, .retAddr 0], [.int 0, .int 1, .ref 38], H)
  refine act true (i := 68) (cd := d_B_tripOf 15) (x := 0) (g := 200) (r := [.int 1, .int 0]) (v := .int 1) rfl rfl rfl rfl rfl (Nat.le_of_ble_eq_true rfl) (fun _ => rfl) (Nat.le_of_ble_eq_true rfl) (Nat.le_of_ble_eq_true rfl) (dz_tripOf 1 0 (by decide +kernel)) ha ?_
  clear ha
  intro H ha _
  show am_Ev m_L_texts WB RO RQ (324, [.ref 38, .retAddr 0], [.int 1], H)
  refine am_Ev_G [325] 3 _ ?_
  show am_Ev m_L_texts WB RO RQ (325, [.ref 38, .retAddr 0], [.int 1, .int 1], H)
  refine wk_ne rfl rfl ?_
  show am_Ev m_L_texts WB RO RQ (328, [.ref 38, .retAddr 0], [], H)
  refine am_Ev_G [331] 5 _ ?_
  show am_Ev m_L_texts WB RO RQ (331, [.ref 38, .retAddr 0], [.int 1, .int 1, .ref 38], H)
  refine act true (i := 68) (cd := d_B_tripOf 15) (x := 0) (g := 200) (r := [.int 1, .int 1]) (v := .int 2) rfl rfl rfl rfl rfl (Nat.le_of_ble_eq_true rfl) (fun _ => rfl) (Nat.le_of_ble_eq_true rfl) (Nat.le_of_ble_eq_true rfl) (dz_tripOf 1 1 (by decide +kernel)) ha ?_
  clear ha
  intro H ha _
  show am_Ev m_L_texts WB RO RQ (334, [.ref 38, .retAddr 0], [.int 2], H)
  refine am_Ev_G [335] 3 _ ?_
  show am_Ev m_L_texts WB RO RQ (335, [.ref 38, .retAddr 0], [.int 2, .int 2], H)
  refine wk_ne rfl rfl ?_
  show am_Ev m_L_texts WB RO RQ (338, [.ref 38, .retAddr 0], [], H)
  exact texts_c2 ha
