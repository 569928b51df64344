/-! THE LAW from its new object to its loop. -/
noncomputable section
def qL0 : Sta := ((tl 46790899513571720913419115933337629168294585970694, 0), [], (none, none), [])
def qL1 : Sta := nrm 3486670303091191347994694435791521784068884181785306348185994909462534 1 (stR qL0 (s_trip qL0 0 0 1 500 20))
def qL2 : Sta := nrm 526894449099907580617692228515958917385113056541732348110963831127354212753674996840354820102 2 (stR qL1 (s_trip qL1 1 1 0 530 20))
def qL3 : Sta := (qL2.1, qL2.2.1, (some qL2.1, qL2.2.2.1.2), qL2.2.2.2)
set_option maxRecDepth 100000 in
theorem lw_start {L : Nat} {P : AR → HP → Prop} {h : HP} (hL : L ≤ 260) (ha : At h qL0 4000) (hP : ∀ H : HP, (H.1 2000 0).toNatClampNeg ≤ 4400 → P (.inl (some (.int 1))) H) : EvL L P (33, [.ref 1005, .ref 38, .ref 135, rA, rA, rA, rA, rA, rA, rA, rA, rA, rA, rA], [], h) := by
  refine am_Ev_G [44] 10 _ ?_
  show EvL L P (44, [.ref 1005, .ref 38, .ref 135, .int 0, rA, rA, rA, rA, rA, rA, rA, rA, rA, rA], [.int 20, .int 500, .int 1, .int 0, .int 0, .ref 38], h)
  refine act true (i := 27) (cd := d_B_trip 15) (x := 0) (g := 4000) (r := [.int 0, .int 0, .int 1, .int 500, .int 20]) (v := .int 0) rfl rfl rfl rfl rfl (Nat.le_refl _) (fun _ => rfl) (Nat.le_of_ble_eq_true rfl) (Nat.le_of_ble_eq_true rfl) (dz_trip 0 0 1 500 20 (by decide +kernel)) ha ?_
  intro H1 ha1 _
  have ha1 : At H1 qL1 4000 := ha1.nrm (by decide +kernel)
  refine wk_ifne rfl rfl ?_
  refine am_Ev_G [59] 10 _ ?_
  show EvL L P (59, [.ref 1005, .ref 38, .ref 135, .int 0, rA, rA, rA, rA, rA, rA, rA, rA, rA, rA], [.int 20, .int 530, .int 0, .int 1, .int 1, .ref 38], H1)
  refine act true (i := 27) (cd := d_B_trip 15) (x := 0) (g := 4000) (r := [.int 1, .int 1, .int 0, .int 530, .int 20]) (v := .int 1) rfl rfl rfl rfl rfl (Nat.le_refl _) (fun _ => rfl) (Nat.le_of_ble_eq_true rfl) (Nat.le_of_ble_eq_true rfl) (dz_trip 1 1 0 530 20 (by decide +kernel)) ha1 ?_
  intro H2 ha2 _
  have ha2 : At H2 qL2 4000 := ha2.nrm (by decide +kernel)
  refine am_Ev_G [63] 4 _ ?_
  show EvL L P (63, [.ref 1005, .ref 38, .ref 135, .int 0, rA, rA, rA, rA, rA, rA, rA, rA, rA, rA], [.int 1, .int 1], H2)
  refine wk_ne rfl rfl ?_
  refine am_Ev_G [68] 5 _ ?_
  show EvL L P (68, [.ref 1005, .ref 38, .ref 135, .int 0, rA, rA, rA, rA, rA, rA, rA, rA, rA, rA], [.int 0, .ref 38], H2)
  refine act true (i := 56) (cd := d_B_keep 15) (x := 0) (g := 4000) (r := [.int 0]) (v := .int 2) rfl rfl rfl rfl rfl (Nat.le_refl _) (fun _ => rfl) (Nat.le_of_ble_eq_true rfl) (Nat.le_of_ble_eq_true rfl) (dz_keep 0 (by decide +kernel)) ha2 ?_
  intro H3 ha3 _
  have ha3 : At H3 qL3 4000 := ha3
  refine am_Ev_G [72] 4 _ ?_
  show EvL L P (72, [.ref 1005, .ref 38, .ref 135, .int 0, rA, rA, rA, rA, rA, rA, rA, rA, rA, rA], [.int 2, .int 2], H3)
  refine wk_eq1 rfl rfl ?_
  refine am_Ev_G [78] 4 _ ?_
  show EvL L P (78, [.ref 1005, .ref 38, .ref 135, .int 0, rA, rA, rA, rA, rA, rA, rA, rA, rA, rA], [.ref 38], H3)
  refine act false (i := 126) (cd := d_L_seen 0) (x := 0) (g := 4000) (r := []) (v := .long (seenV qL2.1)) rfl rfl rfl rfl rfl (Nat.le_refl _) (fun _ => rfl) (Nat.le_of_ble_eq_true rfl) (Nat.le_of_ble_eq_true rfl) (dz_seen (S := qL3)) ha3 ?_
  intro H4 ha4 _
  refine am_Ev_G [86] 5 _ ?_
  show EvL L P (86, lsL 0 (seenV qL2.1) 0 [rA, rA, rA, rA, rA, rA, rA], [], H4)
  exact lw_loop (Kt := qL2.1) hL rfl rfl hP 28 0 H4 qL3 4000 0 rfl ⟨ha4, rfl, rfl, fun i t hi => absurd hi (Nat.not_lt_zero i)⟩ (Nat.le_refl _) (by omega)
end
