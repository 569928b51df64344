/-! THE LAW'S HELPERS, one by one (printed by wip/whole/gen/law97.py). -/
theorem gPl_at {pl : List Nat} {t o : Nat} {shc : List Sh} {cd : CD} {sh ro : List Sh} {r : List Value} {h : HP} (ho : am_pi pl t = o) (hr : r.all isI = true) : c_g (dPl pl t shc cd) sh ro (.ref o :: r) h = gP pl (c_g cd shc ro (.ref t :: r) (am_pull pl h)) h := by
  show (bif Nat.beq o (am_pi pl t) && r.all isI then gP pl (c_g cd shc ro (.ref t :: r) (am_pull pl h)) h else bad h) = _
  rw [ho, hr, Nat.beq_refl]; rfl
theorem gPl_B {cd : CD} {sh ro : List Sh} {r : List Value} {h : HP} (hr : r.all isI = true) : c_g (dPl plB 38 WB cd) sh ro (.ref 38 :: r) h = gP plB (c_g cd WB ro (.ref 38 :: r) h) h :=
  (gPl_at (piB 38) hr).trans (by rw [pullB])
theorem gPl_M {cd : CD} {sh ro : List Sh} {r : List Value} {h : HP} (hr : r.all isI = true) : c_g (dPl plM 0 WM cd) sh ro (.ref 135 :: r) h = gP plM (c_g cd WM ro (.ref 0 :: r) (am_pull plM h)) h :=
  gPl_at (piM (k := 0) (by omega)) hr
theorem okB_in {l : Launch} {ro : List Sh} {cd : CD} (h : am_Ok l (WB ++ []) ro cd) (hv : ∀ as h v, g_val (c_g cd WB ro as h) = some v → isN v = true) : am_Ok l WL ro (dPl plB 38 WB cd) := ok_pl plB_ok oks_WB (by rw [List.append_nil] at h; exact h) hv
theorem okM_in {l : Launch} {ro : List Sh} {cd : CD} (h : am_Ok l (WM ++ []) ro cd) (hv : ∀ as h v, g_val (c_g cd WM ro as h) = some v → isN v = true) : am_Ok l WL ro (dPl plM 0 WM cd) := ok_pl plM_ok oks_WM (by rw [List.append_nil] at h; exact h) hv
theorem rvI_i {x : String ⊕ Int32} (h : rthr x = none) : ∃ r, rvI x = some (.int r) := by
  cases x with
  | inl E => cases h
  | inr q => exact ⟨_, rfl⟩
theorem rvIW_i {x : String ⊕ (Int32 × HP)} (h : rthr x = none) : ∃ r, rvIW x = some (.int r) := by
  cases x with
  | inl E => cases h
  | inr q => exact ⟨_, rfl⟩
theorem rvIU_i {x : (String × HP) ⊕ (Int32 × HP)} (h : rthrU x = none) : ∃ r, rvIU x = some (.int r) := by
  cases x with
  | inl E => cases h
  | inr q => exact ⟨_, rfl⟩
theorem rvI_n {x : String ⊕ Int32} {v : Value} (h : rvI x = some v) : isN v = true := by
  cases x with
  | inl E => cases h
  | inr q => cases h; rfl
theorem rvIW_n {x : String ⊕ (Int32 × HP)} {v : Value} (h : rvIW x = some v) : isN v = true := by
  cases x with
  | inl E => cases h
  | inr q => cases h; rfl
theorem rvIU_n {x : (String × HP) ⊕ (Int32 × HP)} {v : Value} (h : rvIU x = some v) : isN v = true := by
  cases x with
  | inl E => cases h
  | inr q => cases h; rfl
theorem hs_nc {E1 E2 : String} (h : (E2, E1) ∈ am_ncs) : (E2, E1) ∈ am_ncs := h

def hs_layover : Hs := [("java/lang/IndexOutOfBoundsException", 1, 13, 13), ("java/lang/IllegalArgumentException", 2, 15, 17)]
noncomputable def gL_layover (_ ro : List Sh) (as : List Value) (h : HP) : GR := match as with
  | [.ref o, .int a1, .int a2, .ref q] => bif Nat.beq o 38 && Nat.beq q 145 then gH hs_layover 145 (gP plB (g_B_layover WB ro [.ref 38, .int a1, .int a2] h) h) else bad h
  | _ => bad h
noncomputable def dL_layover : CD := (4, yL_layover, cL_layover, 5, some .int, 4, 8, 148, 1, false, true, gL_layover)
theorem lkL_layover : am_lnk RL 7 (dPl plB 38 WB (d_B_layover 15)) := ⟨⟨by decide, by decide⟩, am_tb 1 (by decide +kernel) rfl, Or.inr ⟨by decide, rfl, am_tb 681 (by decide +kernel) rfl, am_tb 682 (by decide +kernel) rfl, ⟨TX5, 10, rfl⟩, Or.inl (am_tb 680 (by decide +kernel) rfl)⟩⟩
theorem vB_layover {ro : List Sh} : ∀ as h v, g_val (c_g (d_B_layover 15) WB ro as h) = some v → isN v = true := by
  intro as h v
  show g_val (g_B_layover WB ro as h) = some v → _
  unfold g_B_layover
  split
  · exact fun z => rvIW_n z
  · exact fun z => nomatch z
theorem pf_L_layover (a1 a2 : Int32) : Pfx cL_layover 5 5 [.ref 38, .int a1, .int a2, .ref 145] (([.ref 38, .int a1, .int a2] : List Value).reverse ++ [.int 0, .ref 145]) := by
  intro ad xq p l e R s m args below meth c H locs cells slots Q ls hx hb hl kk
  have hl : lv_has ls 5 [(0, .ref (ad 38)), (1, .int a1), (2, .int a2), (3, .ref (ad 145))] := hl
  refine lv_aload_n hx hb (show decode cL_layover 0 = .ok (.aload_n 3, 1) from by decide +kernel) rfl (lv_at hl 3 rfl) ?_
  refine lv_iconst hx hb (show decode cL_layover 1 = .ok (.iconst 0, 1) from by decide +kernel) (v := 0) rfl ?_
  refine lv_aload_n hx hb (show decode cL_layover 2 = .ok (.aload_n 0, 1) from by decide +kernel) rfl (lv_at hl 0 rfl) ?_
  refine lv_iload_n hx hb (show decode cL_layover 3 = .ok (.iload_n 1, 1) from by decide +kernel) rfl (lv_at hl 1 rfl) ?_
  refine lv_iload_n hx hb (show decode cL_layover 4 = .ok (.iload_n 2, 1) from by decide +kernel) rfl (lv_at hl 2 rfl) ?_
  exact kk
theorem hsOk_layover : hsOk cL_layover 5 hs_layover := (am_c (⟨am_tb 678 (by decide +kernel) rfl, am_tb 533 (by decide +kernel) rfl, by decide, Or.inl ⟨4, Nat.le_of_ble_eq_true rfl, by decide +kernel, ⟨1, by decide +kernel, rfl⟩, by decide +kernel⟩⟩) (am_c (⟨am_tb 679 (by decide +kernel) rfl, am_tb 374 (by decide +kernel) rfl, by decide, Or.inl ⟨4, Nat.le_of_ble_eq_true rfl, by decide +kernel, ⟨2, by decide +kernel, rfl⟩, by decide +kernel⟩⟩) (am_n)))
set_option maxRecDepth 100000 in
theorem okL_layover {l : Launch} (hl : l.stackTraces = false) (e2 : List Sh) : am_Ok l WL (RO ++ e2) dL_layover := by
  refine ok_help (cd0 := dPl plB 38 WB (d_B_layover 15)) (hs := hs_layover) (i := 7) (pcC := 5) (pcE := 10) (pcR := 21) (off := 11) WL_out (by omega) rfl (by decide +kernel) rfl (am_tb 677 (by decide +kernel) rfl) rfl rfl (Nat.le_of_ble_eq_true rfl) (Nat.le_of_ble_eq_true rfl) rfl (okB_in (ok_B_layover hl [] e2 15) vB_layover) lkL_layover rfl (by decide +kernel) (by decide +kernel) (by decide +kernel) (by decide +kernel) (by decide) (by decide +kernel) (by decide +kernel) (by omega) hsOk_layover (by decide +kernel) ?_
  intro as h
  show g_ok (gL_layover WL (RO ++ e2) as h) = true → ∃ as0 : List Value, gL_layover WL (RO ++ e2) as h = _ ∧ _
  unfold gL_layover
  split
  · rename_i o a1 a2 q
    cases hb : Nat.beq o 38 && Nat.beq q 145 with
    | false => exact fun z => nomatch z
    | true =>
      rw [Bool.and_eq_true_iff] at hb
      obtain rfl := am_beq hb.1
      obtain rfl := am_beq hb.2
      intro _
      refine ⟨[.ref 38, .int a1, .int a2], ?_, rfl, rfl, fun D x => Nat.le_of_ble_eq_true rfl, ?_, pf_L_layover a1 a2⟩
      · rw [gPl_B rfl]; rfl
      · rw [gPl_B rfl]; exact rvIW_i
  · exact fun z => nomatch z
def hs_relief : Hs := [("java/lang/IndexOutOfBoundsException", 1, 13, 12)]
noncomputable def gL_relief (_ ro : List Sh) (as : List Value) (h : HP) : GR := match as with
  | [.ref o, .int a1, .ref q] => bif Nat.beq o 38 && Nat.beq q 145 then gH hs_relief 145 (gP plB (g_B_relief WB ro [.ref 38, .int a1] h) h) else bad h
  | _ => bad h
noncomputable def dL_relief : CD := (4, yL_relief, cL_relief, 4, some .int, 3, 8, 147, 1, false, true, gL_relief)
theorem lkL_relief : am_lnk RL 17 (dPl plB 38 WB (d_B_relief 15)) := ⟨⟨by decide, by decide⟩, am_tb 1 (by decide +kernel) rfl, Or.inr ⟨by decide, rfl, am_tb 689 (by decide +kernel) rfl, am_tb 690 (by decide +kernel) rfl, ⟨TX5, 10, rfl⟩, Or.inl (am_tb 688 (by decide +kernel) rfl)⟩⟩
theorem vB_relief {ro : List Sh} : ∀ as h v, g_val (c_g (d_B_relief 15) WB ro as h) = some v → isN v = true := by
  intro as h v
  show g_val (g_B_relief WB ro as h) = some v → _
  unfold g_B_relief
  split
  · exact fun z => rvIW_n z
  · exact fun z => nomatch z
theorem pf_L_relief (a1 : Int32) : Pfx cL_relief 4 4 [.ref 38, .int a1, .ref 145] (([.ref 38, .int a1] : List Value).reverse ++ [.int 0, .ref 145]) := by
  intro ad xq p l e R s m args below meth c H locs cells slots Q ls hx hb hl kk
  have hl : lv_has ls 4 [(0, .ref (ad 38)), (1, .int a1), (2, .ref (ad 145))] := hl
  refine lv_aload_n hx hb (show decode cL_relief 0 = .ok (.aload_n 2, 1) from by decide +kernel) rfl (lv_at hl 2 rfl) ?_
  refine lv_iconst hx hb (show decode cL_relief 1 = .ok (.iconst 0, 1) from by decide +kernel) (v := 0) rfl ?_
  refine lv_aload_n hx hb (show decode cL_relief 2 = .ok (.aload_n 0, 1) from by decide +kernel) rfl (lv_at hl 0 rfl) ?_
  refine lv_iload_n hx hb (show decode cL_relief 3 = .ok (.iload_n 1, 1) from by decide +kernel) rfl (lv_at hl 1 rfl) ?_
  exact kk
theorem hsOk_relief : hsOk cL_relief 4 hs_relief := (am_c (⟨am_tb 678 (by decide +kernel) rfl, am_tb 533 (by decide +kernel) rfl, by decide, Or.inr ⟨3, Nat.le_of_ble_eq_true rfl, by decide +kernel, ⟨1, by decide +kernel, rfl⟩, by decide +kernel⟩⟩) (am_n))
set_option maxRecDepth 100000 in
theorem okL_relief {l : Launch} (hl : l.stackTraces = false) (e2 : List Sh) : am_Ok l WL (RO ++ e2) dL_relief := by
  refine ok_help (cd0 := dPl plB 38 WB (d_B_relief 15)) (hs := hs_relief) (i := 17) (pcC := 4) (pcE := 9) (pcR := 15) (off := 6) WL_out (by omega) rfl (by decide +kernel) rfl (am_tb 687 (by decide +kernel) rfl) rfl rfl (Nat.le_of_ble_eq_true rfl) (Nat.le_of_ble_eq_true rfl) rfl (okB_in (ok_B_relief hl [] e2 15) vB_relief) lkL_relief rfl (by decide +kernel) (by decide +kernel) (by decide +kernel) (by decide +kernel) (by decide) (by decide +kernel) (by decide +kernel) (by omega) hsOk_relief (by decide +kernel) ?_
  intro as h
  show g_ok (gL_relief WL (RO ++ e2) as h) = true → ∃ as0 : List Value, gL_relief WL (RO ++ e2) as h = _ ∧ _
  unfold gL_relief
  split
  · rename_i o a1 q
    cases hb : Nat.beq o 38 && Nat.beq q 145 with
    | false => exact fun z => nomatch z
    | true =>
      rw [Bool.and_eq_true_iff] at hb
      obtain rfl := am_beq hb.1
      obtain rfl := am_beq hb.2
      intro _
      refine ⟨[.ref 38, .int a1], ?_, rfl, rfl, fun D x => Nat.le_of_ble_eq_true rfl, ?_, pf_L_relief a1⟩
      · rw [gPl_B rfl]; rfl
      · rw [gPl_B rfl]; exact rvIW_i
  · exact fun z => nomatch z
def hs_trip : Hs := [("java/lang/IllegalArgumentException", 1, 15, 19), ("java/lang/IllegalStateException", 2, 25, 23)]
noncomputable def gL_trip (_ ro : List Sh) (as : List Value) (h : HP) : GR := match as with
  | [.ref o, .int a1, .int a2, .int a3, .int a4, .int a5, .ref q] => bif Nat.beq o 38 && Nat.beq q 145 then gH hs_trip 145 (gP plB (g_B_trip WB ro [.ref 38, .int a1, .int a2, .int a3, .int a4, .int a5] h) h) else bad h
  | _ => bad h
noncomputable def dL_trip : CD := (4, yL_trip, cL_trip, 8, some .int, 7, 9, 161, 1, false, true, gL_trip)
theorem lkL_trip : am_lnk RL 21 (dPl plB 38 WB (d_B_trip 15)) := ⟨⟨by decide, by decide⟩, am_tb 1 (by decide +kernel) rfl, Or.inr ⟨by decide, rfl, am_tb 697 (by decide +kernel) rfl, am_tb 698 (by decide +kernel) rfl, ⟨TX5, 10, rfl⟩, Or.inl (am_tb 696 (by decide +kernel) rfl)⟩⟩
theorem vB_trip {ro : List Sh} : ∀ as h v, g_val (c_g (d_B_trip 15) WB ro as h) = some v → isN v = true := by
  intro as h v
  show g_val (g_B_trip WB ro as h) = some v → _
  unfold g_B_trip
  split
  · exact fun z => rvIW_n z
  · exact fun z => nomatch z
theorem pf_L_trip (a1 a2 a3 a4 a5 : Int32) : Pfx cL_trip 8 11 [.ref 38, .int a1, .int a2, .int a3, .int a4, .int a5, .ref 145] (([.ref 38, .int a1, .int a2, .int a3, .int a4, .int a5] : List Value).reverse ++ [.int 0, .ref 145]) := by
  intro ad xq p l e R s m args below meth c H locs cells slots Q ls hx hb hl kk
  have hl : lv_has ls 8 [(0, .ref (ad 38)), (1, .int a1), (2, .int a2), (3, .int a3), (4, .int a4), (5, .int a5), (6, .ref (ad 145))] := hl
  refine lv_aload hx hb (show decode cL_trip 0 = .ok (.aload 6, 2) from by decide +kernel) (lv_at hl 6 rfl) ?_
  refine lv_iconst hx hb (show decode cL_trip 2 = .ok (.iconst 0, 1) from by decide +kernel) (v := 0) rfl ?_
  refine lv_aload_n hx hb (show decode cL_trip 3 = .ok (.aload_n 0, 1) from by decide +kernel) rfl (lv_at hl 0 rfl) ?_
  refine lv_iload_n hx hb (show decode cL_trip 4 = .ok (.iload_n 1, 1) from by decide +kernel) rfl (lv_at hl 1 rfl) ?_
  refine lv_iload_n hx hb (show decode cL_trip 5 = .ok (.iload_n 2, 1) from by decide +kernel) rfl (lv_at hl 2 rfl) ?_
  refine lv_iload_n hx hb (show decode cL_trip 6 = .ok (.iload_n 3, 1) from by decide +kernel) rfl (lv_at hl 3 rfl) ?_
  refine lv_iload hx hb (show decode cL_trip 7 = .ok (.iload 4, 2) from by decide +kernel) (lv_at hl 4 rfl) ?_
  refine lv_iload hx hb (show decode cL_trip 9 = .ok (.iload 5, 2) from by decide +kernel) (lv_at hl 5 rfl) ?_
  exact kk
theorem hsOk_trip : hsOk cL_trip 8 hs_trip := (am_c (⟨am_tb 679 (by decide +kernel) rfl, am_tb 374 (by decide +kernel) rfl, by decide, Or.inl ⟨7, Nat.le_of_ble_eq_true rfl, by decide +kernel, ⟨1, by decide +kernel, rfl⟩, by decide +kernel⟩⟩) (am_c (⟨am_tb 695 (by decide +kernel) rfl, am_tb 584 (by decide +kernel) rfl, by decide, Or.inl ⟨7, Nat.le_of_ble_eq_true rfl, by decide +kernel, ⟨2, by decide +kernel, rfl⟩, by decide +kernel⟩⟩) (am_n)))
set_option maxRecDepth 100000 in
theorem okL_trip {l : Launch} (hl : l.stackTraces = false) (e2 : List Sh) : am_Ok l WL (RO ++ e2) dL_trip := by
  refine ok_help (cd0 := dPl plB 38 WB (d_B_trip 15)) (hs := hs_trip) (i := 21) (pcC := 11) (pcE := 16) (pcR := 27) (off := 11) WL_out (by omega) rfl (by decide +kernel) rfl (am_tb 694 (by decide +kernel) rfl) rfl rfl (Nat.le_of_ble_eq_true rfl) (Nat.le_of_ble_eq_true rfl) rfl (okB_in (ok_B_trip hl [] e2 15) vB_trip) lkL_trip rfl (by decide +kernel) (by decide +kernel) (by decide +kernel) (by decide +kernel) (by decide) (by decide +kernel) (by decide +kernel) (by omega) hsOk_trip (by decide +kernel) ?_
  intro as h
  show g_ok (gL_trip WL (RO ++ e2) as h) = true → ∃ as0 : List Value, gL_trip WL (RO ++ e2) as h = _ ∧ _
  unfold gL_trip
  split
  · rename_i o a1 a2 a3 a4 a5 q
    cases hb : Nat.beq o 38 && Nat.beq q 145 with
    | false => exact fun z => nomatch z
    | true =>
      rw [Bool.and_eq_true_iff] at hb
      obtain rfl := am_beq hb.1
      obtain rfl := am_beq hb.2
      intro _
      refine ⟨[.ref 38, .int a1, .int a2, .int a3, .int a4, .int a5], ?_, rfl, rfl, fun D x => Nat.le_of_ble_eq_true rfl, ?_, pf_L_trip a1 a2 a3 a4 a5⟩
      · rw [gPl_B rfl]; rfl
      · rw [gPl_B rfl]; exact rvIW_i
  · exact fun z => nomatch z
def hs_shift : Hs := [("java/lang/IndexOutOfBoundsException", 1, 13, 13), ("java/lang/IllegalArgumentException", 2, 15, 17), ("java/lang/IllegalStateException", 3, 25, 21)]
noncomputable def gL_shift (_ ro : List Sh) (as : List Value) (h : HP) : GR := match as with
  | [.ref o, .int a1, .int a2, .ref q] => bif Nat.beq o 38 && Nat.beq q 145 then gH hs_shift 145 (gP plB (g_B_shift WB ro [.ref 38, .int a1, .int a2] h) h) else bad h
  | _ => bad h
noncomputable def dL_shift : CD := (4, yL_shift, cL_shift, 5, some .int, 4, 8, 148, 1, false, true, gL_shift)
theorem lkL_shift : am_lnk RL 27 (dPl plB 38 WB (d_B_shift 15)) := ⟨⟨by decide, by decide⟩, am_tb 1 (by decide +kernel) rfl, Or.inr ⟨by decide, rfl, am_tb 709 (by decide +kernel) rfl, am_tb 710 (by decide +kernel) rfl, ⟨TX5, 10, rfl⟩, Or.inl (am_tb 708 (by decide +kernel) rfl)⟩⟩
theorem vB_shift {ro : List Sh} : ∀ as h v, g_val (c_g (d_B_shift 15) WB ro as h) = some v → isN v = true := by
  intro as h v
  show g_val (g_B_shift WB ro as h) = some v → _
  unfold g_B_shift
  split
  · exact fun z => rvIW_n z
  · exact fun z => nomatch z
theorem pf_L_shift (a1 a2 : Int32) : Pfx cL_shift 5 5 [.ref 38, .int a1, .int a2, .ref 145] (([.ref 38, .int a1, .int a2] : List Value).reverse ++ [.int 0, .ref 145]) := by
  intro ad xq p l e R s m args below meth c H locs cells slots Q ls hx hb hl kk
  have hl : lv_has ls 5 [(0, .ref (ad 38)), (1, .int a1), (2, .int a2), (3, .ref (ad 145))] := hl
  refine lv_aload_n hx hb (show decode cL_shift 0 = .ok (.aload_n 3, 1) from by decide +kernel) rfl (lv_at hl 3 rfl) ?_
  refine lv_iconst hx hb (show decode cL_shift 1 = .ok (.iconst 0, 1) from by decide +kernel) (v := 0) rfl ?_
  refine lv_aload_n hx hb (show decode cL_shift 2 = .ok (.aload_n 0, 1) from by decide +kernel) rfl (lv_at hl 0 rfl) ?_
  refine lv_iload_n hx hb (show decode cL_shift 3 = .ok (.iload_n 1, 1) from by decide +kernel) rfl (lv_at hl 1 rfl) ?_
  refine lv_iload_n hx hb (show decode cL_shift 4 = .ok (.iload_n 2, 1) from by decide +kernel) rfl (lv_at hl 2 rfl) ?_
  exact kk
theorem hsOk_shift : hsOk cL_shift 5 hs_shift := (am_c (⟨am_tb 678 (by decide +kernel) rfl, am_tb 533 (by decide +kernel) rfl, by decide, Or.inl ⟨4, Nat.le_of_ble_eq_true rfl, by decide +kernel, ⟨1, by decide +kernel, rfl⟩, by decide +kernel⟩⟩) (am_c (⟨am_tb 679 (by decide +kernel) rfl, am_tb 374 (by decide +kernel) rfl, by decide, Or.inl ⟨4, Nat.le_of_ble_eq_true rfl, by decide +kernel, ⟨2, by decide +kernel, rfl⟩, by decide +kernel⟩⟩) (am_c (⟨am_tb 695 (by decide +kernel) rfl, am_tb 584 (by decide +kernel) rfl, by decide, Or.inl ⟨4, Nat.le_of_ble_eq_true rfl, by decide +kernel, ⟨3, by decide +kernel, rfl⟩, by decide +kernel⟩⟩) (am_n))))
set_option maxRecDepth 100000 in
theorem okL_shift {l : Launch} (hl : l.stackTraces = false) (e2 : List Sh) : am_Ok l WL (RO ++ e2) dL_shift := by
  refine ok_help (cd0 := dPl plB 38 WB (d_B_shift 15)) (hs := hs_shift) (i := 27) (pcC := 5) (pcE := 10) (pcR := 25) (off := 15) WL_out (by omega) rfl (by decide +kernel) rfl (am_tb 707 (by decide +kernel) rfl) rfl rfl (Nat.le_of_ble_eq_true rfl) (Nat.le_of_ble_eq_true rfl) rfl (okB_in (ok_B_shift hl [] e2 15) vB_shift) lkL_shift rfl (by decide +kernel) (by decide +kernel) (by decide +kernel) (by decide +kernel) (by decide) (by decide +kernel) (by decide +kernel) (by omega) hsOk_shift (by decide +kernel) ?_
  intro as h
  show g_ok (gL_shift WL (RO ++ e2) as h) = true → ∃ as0 : List Value, gL_shift WL (RO ++ e2) as h = _ ∧ _
  unfold gL_shift
  split
  · rename_i o a1 a2 q
    cases hb : Nat.beq o 38 && Nat.beq q 145 with
    | false => exact fun z => nomatch z
    | true =>
      rw [Bool.and_eq_true_iff] at hb
      obtain rfl := am_beq hb.1
      obtain rfl := am_beq hb.2
      intro _
      refine ⟨[.ref 38, .int a1, .int a2], ?_, rfl, rfl, fun D x => Nat.le_of_ble_eq_true rfl, ?_, pf_L_shift a1 a2⟩
      · rw [gPl_B rfl]; rfl
      · rw [gPl_B rfl]; exact rvIW_i
  · exact fun z => nomatch z
def hs_set : Hs := [("java/lang/IndexOutOfBoundsException", 1, 13, 13), ("java/lang/IllegalArgumentException", 2, 15, 17)]
noncomputable def gL_set (_ ro : List Sh) (as : List Value) (h : HP) : GR := match as with
  | [.ref o, .int a1, .int a2, .ref q] => bif Nat.beq o 38 && Nat.beq q 145 then gH hs_set 145 (gP plB (g_B_set WB ro [.ref 38, .int a1, .int a2] h) h) else bad h
  | _ => bad h
noncomputable def dL_set : CD := (4, yL_set, cL_set, 5, some .int, 4, 8, 148, 1, false, true, gL_set)
theorem lkL_set : am_lnk RL 30 (dPl plB 38 WB (d_B_set 15)) := ⟨⟨by decide, by decide⟩, am_tb 1 (by decide +kernel) rfl, Or.inr ⟨by decide, rfl, am_tb 724 (by decide +kernel) rfl, am_tb 725 (by decide +kernel) rfl, ⟨TX5, 10, rfl⟩, Or.inl (am_tb 723 (by decide +kernel) rfl)⟩⟩
theorem vB_set {ro : List Sh} : ∀ as h v, g_val (c_g (d_B_set 15) WB ro as h) = some v → isN v = true := by
  intro as h v
  show g_val (g_B_set WB ro as h) = some v → _
  unfold g_B_set
  split
  · exact fun z => rvIW_n z
  · exact fun z => nomatch z
theorem pf_L_set (a1 a2 : Int32) : Pfx cL_set 5 5 [.ref 38, .int a1, .int a2, .ref 145] (([.ref 38, .int a1, .int a2] : List Value).reverse ++ [.int 0, .ref 145]) := by
  intro ad xq p l e R s m args below meth c H locs cells slots Q ls hx hb hl kk
  have hl : lv_has ls 5 [(0, .ref (ad 38)), (1, .int a1), (2, .int a2), (3, .ref (ad 145))] := hl
  refine lv_aload_n hx hb (show decode cL_set 0 = .ok (.aload_n 3, 1) from by decide +kernel) rfl (lv_at hl 3 rfl) ?_
  refine lv_iconst hx hb (show decode cL_set 1 = .ok (.iconst 0, 1) from by decide +kernel) (v := 0) rfl ?_
  refine lv_aload_n hx hb (show decode cL_set 2 = .ok (.aload_n 0, 1) from by decide +kernel) rfl (lv_at hl 0 rfl) ?_
  refine lv_iload_n hx hb (show decode cL_set 3 = .ok (.iload_n 1, 1) from by decide +kernel) rfl (lv_at hl 1 rfl) ?_
  refine lv_iload_n hx hb (show decode cL_set 4 = .ok (.iload_n 2, 1) from by decide +kernel) rfl (lv_at hl 2 rfl) ?_
  exact kk
theorem hsOk_set : hsOk cL_set 5 hs_set := (am_c (⟨am_tb 678 (by decide +kernel) rfl, am_tb 533 (by decide +kernel) rfl, by decide, Or.inl ⟨4, Nat.le_of_ble_eq_true rfl, by decide +kernel, ⟨1, by decide +kernel, rfl⟩, by decide +kernel⟩⟩) (am_c (⟨am_tb 679 (by decide +kernel) rfl, am_tb 374 (by decide +kernel) rfl, by decide, Or.inl ⟨4, Nat.le_of_ble_eq_true rfl, by decide +kernel, ⟨2, by decide +kernel, rfl⟩, by decide +kernel⟩⟩) (am_n)))
set_option maxRecDepth 100000 in
theorem okL_set {l : Launch} (hl : l.stackTraces = false) (e2 : List Sh) : am_Ok l WL (RO ++ e2) dL_set := by
  refine ok_help (cd0 := dPl plB 38 WB (d_B_set 15)) (hs := hs_set) (i := 30) (pcC := 5) (pcE := 10) (pcR := 21) (off := 11) WL_out (by omega) rfl (by decide +kernel) rfl (am_tb 722 (by decide +kernel) rfl) rfl rfl (Nat.le_of_ble_eq_true rfl) (Nat.le_of_ble_eq_true rfl) rfl (okB_in (ok_B_set hl [] e2 15) vB_set) lkL_set rfl (by decide +kernel) (by decide +kernel) (by decide +kernel) (by decide +kernel) (by decide) (by decide +kernel) (by decide +kernel) (by omega) hsOk_set (by decide +kernel) ?_
  intro as h
  show g_ok (gL_set WL (RO ++ e2) as h) = true → ∃ as0 : List Value, gL_set WL (RO ++ e2) as h = _ ∧ _
  unfold gL_set
  split
  · rename_i o a1 a2 q
    cases hb : Nat.beq o 38 && Nat.beq q 145 with
    | false => exact fun z => nomatch z
    | true =>
      rw [Bool.and_eq_true_iff] at hb
      obtain rfl := am_beq hb.1
      obtain rfl := am_beq hb.2
      intro _
      refine ⟨[.ref 38, .int a1, .int a2], ?_, rfl, rfl, fun D x => Nat.le_of_ble_eq_true rfl, ?_, pf_L_set a1 a2⟩
      · rw [gPl_B rfl]; rfl
      · rw [gPl_B rfl]; exact rvIW_i
  · exact fun z => nomatch z
def hs_follow : Hs := [("java/lang/IndexOutOfBoundsException", 1, 13, 13)]
noncomputable def gL_follow (_ ro : List Sh) (as : List Value) (h : HP) : GR := match as with
  | [.ref o, .int a1, .int a2, .ref q] => bif Nat.beq o 38 && Nat.beq q 145 then gH hs_follow 145 (gP plB (g_B_follow WB ro [.ref 38, .int a1, .int a2] h) h) else bad h
  | _ => bad h
noncomputable def dL_follow : CD := (4, yL_follow, cL_follow, 5, some .int, 4, 8, 148, 1, false, true, gL_follow)
theorem lkL_follow : am_lnk RL 33 (dPl plB 38 WB (d_B_follow 15)) := ⟨⟨by decide, by decide⟩, am_tb 1 (by decide +kernel) rfl, Or.inr ⟨by decide, rfl, am_tb 739 (by decide +kernel) rfl, am_tb 740 (by decide +kernel) rfl, ⟨TX5, 10, rfl⟩, Or.inl (am_tb 738 (by decide +kernel) rfl)⟩⟩
theorem vB_follow {ro : List Sh} : ∀ as h v, g_val (c_g (d_B_follow 15) WB ro as h) = some v → isN v = true := by
  intro as h v
  show g_val (g_B_follow WB ro as h) = some v → _
  unfold g_B_follow
  split
  · exact fun z => rvIW_n z
  · exact fun z => nomatch z
theorem pf_L_follow (a1 a2 : Int32) : Pfx cL_follow 5 5 [.ref 38, .int a1, .int a2, .ref 145] (([.ref 38, .int a1, .int a2] : List Value).reverse ++ [.int 0, .ref 145]) := by
  intro ad xq p l e R s m args below meth c H locs cells slots Q ls hx hb hl kk
  have hl : lv_has ls 5 [(0, .ref (ad 38)), (1, .int a1), (2, .int a2), (3, .ref (ad 145))] := hl
  refine lv_aload_n hx hb (show decode cL_follow 0 = .ok (.aload_n 3, 1) from by decide +kernel) rfl (lv_at hl 3 rfl) ?_
  refine lv_iconst hx hb (show decode cL_follow 1 = .ok (.iconst 0, 1) from by decide +kernel) (v := 0) rfl ?_
  refine lv_aload_n hx hb (show decode cL_follow 2 = .ok (.aload_n 0, 1) from by decide +kernel) rfl (lv_at hl 0 rfl) ?_
  refine lv_iload_n hx hb (show decode cL_follow 3 = .ok (.iload_n 1, 1) from by decide +kernel) rfl (lv_at hl 1 rfl) ?_
  refine lv_iload_n hx hb (show decode cL_follow 4 = .ok (.iload_n 2, 1) from by decide +kernel) rfl (lv_at hl 2 rfl) ?_
  exact kk
theorem hsOk_follow : hsOk cL_follow 5 hs_follow := (am_c (⟨am_tb 678 (by decide +kernel) rfl, am_tb 533 (by decide +kernel) rfl, by decide, Or.inl ⟨4, Nat.le_of_ble_eq_true rfl, by decide +kernel, ⟨1, by decide +kernel, rfl⟩, by decide +kernel⟩⟩) (am_n))
set_option maxRecDepth 100000 in
theorem okL_follow {l : Launch} (hl : l.stackTraces = false) (e2 : List Sh) : am_Ok l WL (RO ++ e2) dL_follow := by
  refine ok_help (cd0 := dPl plB 38 WB (d_B_follow 15)) (hs := hs_follow) (i := 33) (pcC := 5) (pcE := 10) (pcR := 17) (off := 7) WL_out (by omega) rfl (by decide +kernel) rfl (am_tb 737 (by decide +kernel) rfl) rfl rfl (Nat.le_of_ble_eq_true rfl) (Nat.le_of_ble_eq_true rfl) rfl (okB_in (ok_B_follow hl [] e2 15) vB_follow) lkL_follow rfl (by decide +kernel) (by decide +kernel) (by decide +kernel) (by decide +kernel) (by decide) (by decide +kernel) (by decide +kernel) (by omega) hsOk_follow (by decide +kernel) ?_
  intro as h
  show g_ok (gL_follow WL (RO ++ e2) as h) = true → ∃ as0 : List Value, gL_follow WL (RO ++ e2) as h = _ ∧ _
  unfold gL_follow
  split
  · rename_i o a1 a2 q
    cases hb : Nat.beq o 38 && Nat.beq q 145 with
    | false => exact fun z => nomatch z
    | true =>
      rw [Bool.and_eq_true_iff] at hb
      obtain rfl := am_beq hb.1
      obtain rfl := am_beq hb.2
      intro _
      refine ⟨[.ref 38, .int a1, .int a2], ?_, rfl, rfl, fun D x => Nat.le_of_ble_eq_true rfl, ?_, pf_L_follow a1 a2⟩
      · rw [gPl_B rfl]; rfl
      · rw [gPl_B rfl]; exact rvIW_i
  · exact fun z => nomatch z
def hs_part : Hs := [("java/lang/IndexOutOfBoundsException", 1, 13, 12), ("java/lang/IllegalStateException", 2, 25, 15)]
noncomputable def gL_part (_ ro : List Sh) (as : List Value) (h : HP) : GR := match as with
  | [.ref o, .int a1, .ref q] => bif Nat.beq o 38 && Nat.beq q 145 then gH hs_part 145 (gP plB (g_B_part WB ro [.ref 38, .int a1] h) h) else bad h
  | _ => bad h
noncomputable def dL_part : CD := (4, yL_part, cL_part, 4, some .int, 3, 8, 147, 1, false, true, gL_part)
theorem lkL_part : am_lnk RL 36 (dPl plB 38 WB (d_B_part 15)) := ⟨⟨by decide, by decide⟩, am_tb 1 (by decide +kernel) rfl, Or.inr ⟨by decide, rfl, am_tb 748 (by decide +kernel) rfl, am_tb 749 (by decide +kernel) rfl, ⟨TX5, 10, rfl⟩, Or.inl (am_tb 747 (by decide +kernel) rfl)⟩⟩
theorem vB_part {ro : List Sh} : ∀ as h v, g_val (c_g (d_B_part 15) WB ro as h) = some v → isN v = true := by
  intro as h v
  show g_val (g_B_part WB ro as h) = some v → _
  unfold g_B_part
  split
  · exact fun z => rvIW_n z
  · exact fun z => nomatch z
theorem pf_L_part (a1 : Int32) : Pfx cL_part 4 4 [.ref 38, .int a1, .ref 145] (([.ref 38, .int a1] : List Value).reverse ++ [.int 0, .ref 145]) := by
  intro ad xq p l e R s m args below meth c H locs cells slots Q ls hx hb hl kk
  have hl : lv_has ls 4 [(0, .ref (ad 38)), (1, .int a1), (2, .ref (ad 145))] := hl
  refine lv_aload_n hx hb (show decode cL_part 0 = .ok (.aload_n 2, 1) from by decide +kernel) rfl (lv_at hl 2 rfl) ?_
  refine lv_iconst hx hb (show decode cL_part 1 = .ok (.iconst 0, 1) from by decide +kernel) (v := 0) rfl ?_
  refine lv_aload_n hx hb (show decode cL_part 2 = .ok (.aload_n 0, 1) from by decide +kernel) rfl (lv_at hl 0 rfl) ?_
  refine lv_iload_n hx hb (show decode cL_part 3 = .ok (.iload_n 1, 1) from by decide +kernel) rfl (lv_at hl 1 rfl) ?_
  exact kk
theorem hsOk_part : hsOk cL_part 4 hs_part := (am_c (⟨am_tb 678 (by decide +kernel) rfl, am_tb 533 (by decide +kernel) rfl, by decide, Or.inr ⟨3, Nat.le_of_ble_eq_true rfl, by decide +kernel, ⟨1, by decide +kernel, rfl⟩, by decide +kernel⟩⟩) (am_c (⟨am_tb 695 (by decide +kernel) rfl, am_tb 584 (by decide +kernel) rfl, by decide, Or.inr ⟨3, Nat.le_of_ble_eq_true rfl, by decide +kernel, ⟨2, by decide +kernel, rfl⟩, by decide +kernel⟩⟩) (am_n)))
set_option maxRecDepth 100000 in
theorem okL_part {l : Launch} (hl : l.stackTraces = false) (e2 : List Sh) : am_Ok l WL (RO ++ e2) dL_part := by
  refine ok_help (cd0 := dPl plB 38 WB (d_B_part 15)) (hs := hs_part) (i := 36) (pcC := 4) (pcE := 9) (pcR := 18) (off := 9) WL_out (by omega) rfl (by decide +kernel) rfl (am_tb 746 (by decide +kernel) rfl) rfl rfl (Nat.le_of_ble_eq_true rfl) (Nat.le_of_ble_eq_true rfl) rfl (okB_in (ok_B_part hl [] e2 15) vB_part) lkL_part rfl (by decide +kernel) (by decide +kernel) (by decide +kernel) (by decide +kernel) (by decide) (by decide +kernel) (by decide +kernel) (by omega) hsOk_part (by decide +kernel) ?_
  intro as h
  show g_ok (gL_part WL (RO ++ e2) as h) = true → ∃ as0 : List Value, gL_part WL (RO ++ e2) as h = _ ∧ _
  unfold gL_part
  split
  · rename_i o a1 q
    cases hb : Nat.beq o 38 && Nat.beq q 145 with
    | false => exact fun z => nomatch z
    | true =>
      rw [Bool.and_eq_true_iff] at hb
      obtain rfl := am_beq hb.1
      obtain rfl := am_beq hb.2
      intro _
      refine ⟨[.ref 38, .int a1], ?_, rfl, rfl, fun D x => Nat.le_of_ble_eq_true rfl, ?_, pf_L_part a1⟩
      · rw [gPl_B rfl]; rfl
      · rw [gPl_B rfl]; exact rvIW_i
  · exact fun z => nomatch z
def hs_fail : Hs := [("java/lang/IndexOutOfBoundsException", 1, 13, 12), ("java/lang/IllegalStateException", 2, 25, 15)]
noncomputable def gL_fail (_ ro : List Sh) (as : List Value) (h : HP) : GR := match as with
  | [.ref o, .int a1, .ref q] => bif Nat.beq o 38 && Nat.beq q 145 then gH hs_fail 145 (gP plB (g_B_fail WB ro [.ref 38, .int a1] h) h) else bad h
  | _ => bad h
noncomputable def dL_fail : CD := (4, yL_fail, cL_fail, 4, some .int, 3, 8, 146, 1, false, true, gL_fail)
theorem lkL_fail : am_lnk RL 39 (dPl plB 38 WB (d_B_fail 15)) := ⟨⟨by decide, by decide⟩, am_tb 1 (by decide +kernel) rfl, Or.inr ⟨by decide, rfl, am_tb 756 (by decide +kernel) rfl, am_tb 757 (by decide +kernel) rfl, ⟨TX5, 10, rfl⟩, Or.inl (am_tb 755 (by decide +kernel) rfl)⟩⟩
theorem vB_fail {ro : List Sh} : ∀ as h v, g_val (c_g (d_B_fail 15) WB ro as h) = some v → isN v = true := by
  intro as h v
  show g_val (g_B_fail WB ro as h) = some v → _
  unfold g_B_fail
  split
  · exact fun z => rvIW_n z
  · exact fun z => nomatch z
theorem pf_L_fail (a1 : Int32) : Pfx cL_fail 4 4 [.ref 38, .int a1, .ref 145] (([.ref 38, .int a1] : List Value).reverse ++ [.int 0, .ref 145]) := by
  intro ad xq p l e R s m args below meth c H locs cells slots Q ls hx hb hl kk
  have hl : lv_has ls 4 [(0, .ref (ad 38)), (1, .int a1), (2, .ref (ad 145))] := hl
  refine lv_aload_n hx hb (show decode cL_fail 0 = .ok (.aload_n 2, 1) from by decide +kernel) rfl (lv_at hl 2 rfl) ?_
  refine lv_iconst hx hb (show decode cL_fail 1 = .ok (.iconst 0, 1) from by decide +kernel) (v := 0) rfl ?_
  refine lv_aload_n hx hb (show decode cL_fail 2 = .ok (.aload_n 0, 1) from by decide +kernel) rfl (lv_at hl 0 rfl) ?_
  refine lv_iload_n hx hb (show decode cL_fail 3 = .ok (.iload_n 1, 1) from by decide +kernel) rfl (lv_at hl 1 rfl) ?_
  exact kk
theorem hsOk_fail : hsOk cL_fail 4 hs_fail := (am_c (⟨am_tb 678 (by decide +kernel) rfl, am_tb 533 (by decide +kernel) rfl, by decide, Or.inr ⟨3, Nat.le_of_ble_eq_true rfl, by decide +kernel, ⟨1, by decide +kernel, rfl⟩, by decide +kernel⟩⟩) (am_c (⟨am_tb 695 (by decide +kernel) rfl, am_tb 584 (by decide +kernel) rfl, by decide, Or.inr ⟨3, Nat.le_of_ble_eq_true rfl, by decide +kernel, ⟨2, by decide +kernel, rfl⟩, by decide +kernel⟩⟩) (am_n)))
set_option maxRecDepth 100000 in
theorem okL_fail {l : Launch} (hl : l.stackTraces = false) (e2 : List Sh) : am_Ok l WL (RO ++ e2) dL_fail := by
  refine ok_help (cd0 := dPl plB 38 WB (d_B_fail 15)) (hs := hs_fail) (i := 39) (pcC := 4) (pcE := 9) (pcR := 18) (off := 9) WL_out (by omega) rfl (by decide +kernel) rfl (am_tb 754 (by decide +kernel) rfl) rfl rfl (Nat.le_of_ble_eq_true rfl) (Nat.le_of_ble_eq_true rfl) rfl (okB_in (ok_B_fail hl [] e2 15) vB_fail) lkL_fail rfl (by decide +kernel) (by decide +kernel) (by decide +kernel) (by decide +kernel) (by decide) (by decide +kernel) (by decide +kernel) (by omega) hsOk_fail (by decide +kernel) ?_
  intro as h
  show g_ok (gL_fail WL (RO ++ e2) as h) = true → ∃ as0 : List Value, gL_fail WL (RO ++ e2) as h = _ ∧ _
  unfold gL_fail
  split
  · rename_i o a1 q
    cases hb : Nat.beq o 38 && Nat.beq q 145 with
    | false => exact fun z => nomatch z
    | true =>
      rw [Bool.and_eq_true_iff] at hb
      obtain rfl := am_beq hb.1
      obtain rfl := am_beq hb.2
      intro _
      refine ⟨[.ref 38, .int a1], ?_, rfl, rfl, fun D x => Nat.le_of_ble_eq_true rfl, ?_, pf_L_fail a1⟩
      · rw [gPl_B rfl]; rfl
      · rw [gPl_B rfl]; exact rvIW_i
  · exact fun z => nomatch z
def hs_append : Hs := [("java/lang/IllegalArgumentException", 1, 15, 12), ("java/lang/IllegalStateException", 2, 25, 15)]
noncomputable def gL_append (_ ro : List Sh) (as : List Value) (h : HP) : GR := match as with
  | [.ref o, .int a1, .ref q] => bif Nat.beq o 38 && Nat.beq q 145 then gH hs_append 145 (gP plB (g_B_append WB ro [.ref 38, .int a1] h) h) else bad h
  | _ => bad h
noncomputable def dL_append : CD := (4, yL_append, cL_append, 4, some .int, 3, 8, 133, 1, false, true, gL_append)
theorem lkL_append : am_lnk RL 42 (dPl plB 38 WB (d_B_append 15)) := ⟨⟨by decide, by decide⟩, am_tb 1 (by decide +kernel) rfl, Or.inr ⟨by decide, rfl, am_tb 770 (by decide +kernel) rfl, am_tb 771 (by decide +kernel) rfl, ⟨TX5, 10, rfl⟩, Or.inl (am_tb 769 (by decide +kernel) rfl)⟩⟩
theorem vB_append {ro : List Sh} : ∀ as h v, g_val (c_g (d_B_append 15) WB ro as h) = some v → isN v = true := by
  intro as h v
  show g_val (g_B_append WB ro as h) = some v → _
  unfold g_B_append
  split
  · exact fun z => rvIW_n z
  · exact fun z => nomatch z
theorem pf_L_append (a1 : Int32) : Pfx cL_append 4 4 [.ref 38, .int a1, .ref 145] (([.ref 38, .int a1] : List Value).reverse ++ [.int 0, .ref 145]) := by
  intro ad xq p l e R s m args below meth c H locs cells slots Q ls hx hb hl kk
  have hl : lv_has ls 4 [(0, .ref (ad 38)), (1, .int a1), (2, .ref (ad 145))] := hl
  refine lv_aload_n hx hb (show decode cL_append 0 = .ok (.aload_n 2, 1) from by decide +kernel) rfl (lv_at hl 2 rfl) ?_
  refine lv_iconst hx hb (show decode cL_append 1 = .ok (.iconst 0, 1) from by decide +kernel) (v := 0) rfl ?_
  refine lv_aload_n hx hb (show decode cL_append 2 = .ok (.aload_n 0, 1) from by decide +kernel) rfl (lv_at hl 0 rfl) ?_
  refine lv_iload_n hx hb (show decode cL_append 3 = .ok (.iload_n 1, 1) from by decide +kernel) rfl (lv_at hl 1 rfl) ?_
  exact kk
theorem hsOk_append : hsOk cL_append 4 hs_append := (am_c (⟨am_tb 679 (by decide +kernel) rfl, am_tb 374 (by decide +kernel) rfl, by decide, Or.inr ⟨3, Nat.le_of_ble_eq_true rfl, by decide +kernel, ⟨1, by decide +kernel, rfl⟩, by decide +kernel⟩⟩) (am_c (⟨am_tb 695 (by decide +kernel) rfl, am_tb 584 (by decide +kernel) rfl, by decide, Or.inr ⟨3, Nat.le_of_ble_eq_true rfl, by decide +kernel, ⟨2, by decide +kernel, rfl⟩, by decide +kernel⟩⟩) (am_n)))
set_option maxRecDepth 100000 in
theorem okL_append {l : Launch} (hl : l.stackTraces = false) (e2 : List Sh) : am_Ok l WL (RO ++ e2) dL_append := by
  refine ok_help (cd0 := dPl plB 38 WB (d_B_append 15)) (hs := hs_append) (i := 42) (pcC := 4) (pcE := 9) (pcR := 18) (off := 9) WL_out (by omega) rfl (by decide +kernel) rfl (am_tb 768 (by decide +kernel) rfl) rfl rfl (Nat.le_of_ble_eq_true rfl) (Nat.le_of_ble_eq_true rfl) rfl (okB_in (ok_B_append hl [] e2 15) vB_append) lkL_append rfl (by decide +kernel) (by decide +kernel) (by decide +kernel) (by decide +kernel) (by decide) (by decide +kernel) (by decide +kernel) (by omega) hsOk_append (by decide +kernel) ?_
  intro as h
  show g_ok (gL_append WL (RO ++ e2) as h) = true → ∃ as0 : List Value, gL_append WL (RO ++ e2) as h = _ ∧ _
  unfold gL_append
  split
  · rename_i o a1 q
    cases hb : Nat.beq o 38 && Nat.beq q 145 with
    | false => exact fun z => nomatch z
    | true =>
      rw [Bool.and_eq_true_iff] at hb
      obtain rfl := am_beq hb.1
      obtain rfl := am_beq hb.2
      intro _
      refine ⟨[.ref 38, .int a1], ?_, rfl, rfl, fun D x => Nat.le_of_ble_eq_true rfl, ?_, pf_L_append a1⟩
      · rw [gPl_B rfl]; rfl
      · rw [gPl_B rfl]; exact rvIW_i
  · exact fun z => nomatch z
def hs_load : Hs := [("java/lang/IllegalArgumentException", 1, 15, 11), ("java/lang/IllegalStateException", 2, 25, 14)]
noncomputable def gL_load (_ ro : List Sh) (as : List Value) (h : HP) : GR := match as with
  | [.ref o, .ref q] => bif Nat.beq o 38 && Nat.beq q 145 then gH hs_load 145 (gP plB (g_B_load WB ro [.ref 38] h) h) else bad h
  | _ => bad h
noncomputable def dL_load : CD := (4, yL_load, cL_load, 3, some .int, 2, 7, 146, 1, false, true, gL_load)
theorem lkL_load : am_lnk RL 45 (dPl plB 38 WB (d_B_load 15)) := ⟨⟨by decide, by decide⟩, am_tb 1 (by decide +kernel) rfl, Or.inr ⟨by decide, rfl, am_tb 782 (by decide +kernel) rfl, am_tb 783 (by decide +kernel) rfl, ⟨TX5, 10, rfl⟩, Or.inl (am_tb 781 (by decide +kernel) rfl)⟩⟩
theorem vB_load {ro : List Sh} : ∀ as h v, g_val (c_g (d_B_load 15) WB ro as h) = some v → isN v = true := by
  intro as h v
  show g_val (g_B_load WB ro as h) = some v → _
  unfold g_B_load
  split
  · exact fun z => rvIU_n z
  · exact fun z => nomatch z
theorem pf_L_load : Pfx cL_load 3 3 [.ref 38, .ref 145] (([.ref 38] : List Value).reverse ++ [.int 0, .ref 145]) := by
  intro ad xq p l e R s m args below meth c H locs cells slots Q ls hx hb hl kk
  have hl : lv_has ls 3 [(0, .ref (ad 38)), (1, .ref (ad 145))] := hl
  refine lv_aload_n hx hb (show decode cL_load 0 = .ok (.aload_n 1, 1) from by decide +kernel) rfl (lv_at hl 1 rfl) ?_
  refine lv_iconst hx hb (show decode cL_load 1 = .ok (.iconst 0, 1) from by decide +kernel) (v := 0) rfl ?_
  refine lv_aload_n hx hb (show decode cL_load 2 = .ok (.aload_n 0, 1) from by decide +kernel) rfl (lv_at hl 0 rfl) ?_
  exact kk
theorem hsOk_load : hsOk cL_load 3 hs_load := (am_c (⟨am_tb 679 (by decide +kernel) rfl, am_tb 374 (by decide +kernel) rfl, by decide, Or.inr ⟨2, Nat.le_of_ble_eq_true rfl, by decide +kernel, ⟨1, by decide +kernel, rfl⟩, by decide +kernel⟩⟩) (am_c (⟨am_tb 695 (by decide +kernel) rfl, am_tb 584 (by decide +kernel) rfl, by decide, Or.inr ⟨2, Nat.le_of_ble_eq_true rfl, by decide +kernel, ⟨2, by decide +kernel, rfl⟩, by decide +kernel⟩⟩) (am_n)))
set_option maxRecDepth 100000 in
theorem okL_load {l : Launch} (hl : l.stackTraces = false) (e2 : List Sh) : am_Ok l WL (RO ++ e2) dL_load := by
  refine ok_help (cd0 := dPl plB 38 WB (d_B_load 15)) (hs := hs_load) (i := 45) (pcC := 3) (pcE := 8) (pcR := 17) (off := 9) WL_out (by omega) rfl (by decide +kernel) rfl (am_tb 780 (by decide +kernel) rfl) rfl rfl (Nat.le_of_ble_eq_true rfl) (Nat.le_of_ble_eq_true rfl) rfl (okB_in (ok_B_load hl [] e2 15) vB_load) lkL_load rfl (by decide +kernel) (by decide +kernel) (by decide +kernel) (by decide +kernel) (by decide) (by decide +kernel) (by decide +kernel) (by omega) hsOk_load (by decide +kernel) ?_
  intro as h
  show g_ok (gL_load WL (RO ++ e2) as h) = true → ∃ as0 : List Value, gL_load WL (RO ++ e2) as h = _ ∧ _
  unfold gL_load
  split
  · rename_i o  q
    cases hb : Nat.beq o 38 && Nat.beq q 145 with
    | false => exact fun z => nomatch z
    | true =>
      rw [Bool.and_eq_true_iff] at hb
      obtain rfl := am_beq hb.1
      obtain rfl := am_beq hb.2
      intro _
      refine ⟨[.ref 38], ?_, rfl, rfl, fun D x => Nat.le_of_ble_eq_true rfl, ?_, pf_L_load ⟩
      · rw [gPl_B rfl]; rfl
      · rw [gPl_B rfl]; exact rvIU_i
  · exact fun z => nomatch z
def hs_keep : Hs := [("java/lang/IllegalArgumentException", 1, 15, 12)]
noncomputable def gL_keep (_ ro : List Sh) (as : List Value) (h : HP) : GR := match as with
  | [.ref o, .int a1, .ref q] => bif Nat.beq o 38 && Nat.beq q 145 then gH hs_keep 145 (gP plB (g_B_keep WB ro [.ref 38, .int a1] h) h) else bad h
  | _ => bad h
noncomputable def dL_keep : CD := (4, yL_keep, cL_keep, 4, some .int, 3, 8, 133, 1, false, true, gL_keep)
theorem lkL_keep : am_lnk RL 49 (dPl plB 38 WB (d_B_keep 15)) := ⟨⟨by decide, by decide⟩, am_tb 1 (by decide +kernel) rfl, Or.inr ⟨by decide, rfl, am_tb 809 (by decide +kernel) rfl, am_tb 810 (by decide +kernel) rfl, ⟨TX5, 10, rfl⟩, Or.inl (am_tb 808 (by decide +kernel) rfl)⟩⟩
theorem vB_keep {ro : List Sh} : ∀ as h v, g_val (c_g (d_B_keep 15) WB ro as h) = some v → isN v = true := by
  intro as h v
  show g_val (g_B_keep WB ro as h) = some v → _
  unfold g_B_keep
  split
  · exact fun z => rvIW_n z
  · exact fun z => nomatch z
theorem pf_L_keep (a1 : Int32) : Pfx cL_keep 4 4 [.ref 38, .int a1, .ref 145] (([.ref 38, .int a1] : List Value).reverse ++ [.int 0, .ref 145]) := by
  intro ad xq p l e R s m args below meth c H locs cells slots Q ls hx hb hl kk
  have hl : lv_has ls 4 [(0, .ref (ad 38)), (1, .int a1), (2, .ref (ad 145))] := hl
  refine lv_aload_n hx hb (show decode cL_keep 0 = .ok (.aload_n 2, 1) from by decide +kernel) rfl (lv_at hl 2 rfl) ?_
  refine lv_iconst hx hb (show decode cL_keep 1 = .ok (.iconst 0, 1) from by decide +kernel) (v := 0) rfl ?_
  refine lv_aload_n hx hb (show decode cL_keep 2 = .ok (.aload_n 0, 1) from by decide +kernel) rfl (lv_at hl 0 rfl) ?_
  refine lv_iload_n hx hb (show decode cL_keep 3 = .ok (.iload_n 1, 1) from by decide +kernel) rfl (lv_at hl 1 rfl) ?_
  exact kk
theorem hsOk_keep : hsOk cL_keep 4 hs_keep := (am_c (⟨am_tb 679 (by decide +kernel) rfl, am_tb 374 (by decide +kernel) rfl, by decide, Or.inr ⟨3, Nat.le_of_ble_eq_true rfl, by decide +kernel, ⟨1, by decide +kernel, rfl⟩, by decide +kernel⟩⟩) (am_n))
set_option maxRecDepth 100000 in
theorem okL_keep {l : Launch} (hl : l.stackTraces = false) (e2 : List Sh) : am_Ok l WL (RO ++ e2) dL_keep := by
  refine ok_help (cd0 := dPl plB 38 WB (d_B_keep 15)) (hs := hs_keep) (i := 49) (pcC := 4) (pcE := 9) (pcR := 15) (off := 6) WL_out (by omega) rfl (by decide +kernel) rfl (am_tb 807 (by decide +kernel) rfl) rfl rfl (Nat.le_of_ble_eq_true rfl) (Nat.le_of_ble_eq_true rfl) rfl (okB_in (ok_B_keep hl [] e2 15) vB_keep) lkL_keep rfl (by decide +kernel) (by decide +kernel) (by decide +kernel) (by decide +kernel) (by decide) (by decide +kernel) (by decide +kernel) (by omega) hsOk_keep (by decide +kernel) ?_
  intro as h
  show g_ok (gL_keep WL (RO ++ e2) as h) = true → ∃ as0 : List Value, gL_keep WL (RO ++ e2) as h = _ ∧ _
  unfold gL_keep
  split
  · rename_i o a1 q
    cases hb : Nat.beq o 38 && Nat.beq q 145 with
    | false => exact fun z => nomatch z
    | true =>
      rw [Bool.and_eq_true_iff] at hb
      obtain rfl := am_beq hb.1
      obtain rfl := am_beq hb.2
      intro _
      refine ⟨[.ref 38, .int a1], ?_, rfl, rfl, fun D x => Nat.le_of_ble_eq_true rfl, ?_, pf_L_keep a1⟩
      · rw [gPl_B rfl]; rfl
      · rw [gPl_B rfl]; exact rvIW_i
  · exact fun z => nomatch z
def hs_goBack : Hs := [("java/lang/IllegalArgumentException", 1, 15, 12), ("java/lang/IllegalStateException", 2, 25, 15)]
noncomputable def gL_goBack (_ ro : List Sh) (as : List Value) (h : HP) : GR := match as with
  | [.ref o, .int a1, .ref q] => bif Nat.beq o 38 && Nat.beq q 145 then gH hs_goBack 145 (gP plB (g_B_goBack WB ro [.ref 38, .int a1] h) h) else bad h
  | _ => bad h
noncomputable def dL_goBack : CD := (4, yL_goBack, cL_goBack, 4, some .int, 3, 8, 146, 1, false, true, gL_goBack)
theorem lkL_goBack : am_lnk RL 52 (dPl plB 38 WB (d_B_goBack 15)) := ⟨⟨by decide, by decide⟩, am_tb 1 (by decide +kernel) rfl, Or.inr ⟨by decide, rfl, am_tb 816 (by decide +kernel) rfl, am_tb 817 (by decide +kernel) rfl, ⟨TX5, 10, rfl⟩, Or.inl (am_tb 815 (by decide +kernel) rfl)⟩⟩
theorem vB_goBack {ro : List Sh} : ∀ as h v, g_val (c_g (d_B_goBack 15) WB ro as h) = some v → isN v = true := by
  intro as h v
  show g_val (g_B_goBack WB ro as h) = some v → _
  unfold g_B_goBack
  split
  · exact fun z => rvIW_n z
  · exact fun z => nomatch z
theorem pf_L_goBack (a1 : Int32) : Pfx cL_goBack 4 4 [.ref 38, .int a1, .ref 145] (([.ref 38, .int a1] : List Value).reverse ++ [.int 0, .ref 145]) := by
  intro ad xq p l e R s m args below meth c H locs cells slots Q ls hx hb hl kk
  have hl : lv_has ls 4 [(0, .ref (ad 38)), (1, .int a1), (2, .ref (ad 145))] := hl
  refine lv_aload_n hx hb (show decode cL_goBack 0 = .ok (.aload_n 2, 1) from by decide +kernel) rfl (lv_at hl 2 rfl) ?_
  refine lv_iconst hx hb (show decode cL_goBack 1 = .ok (.iconst 0, 1) from by decide +kernel) (v := 0) rfl ?_
  refine lv_aload_n hx hb (show decode cL_goBack 2 = .ok (.aload_n 0, 1) from by decide +kernel) rfl (lv_at hl 0 rfl) ?_
  refine lv_iload_n hx hb (show decode cL_goBack 3 = .ok (.iload_n 1, 1) from by decide +kernel) rfl (lv_at hl 1 rfl) ?_
  exact kk
theorem hsOk_goBack : hsOk cL_goBack 4 hs_goBack := (am_c (⟨am_tb 679 (by decide +kernel) rfl, am_tb 374 (by decide +kernel) rfl, by decide, Or.inr ⟨3, Nat.le_of_ble_eq_true rfl, by decide +kernel, ⟨1, by decide +kernel, rfl⟩, by decide +kernel⟩⟩) (am_c (⟨am_tb 695 (by decide +kernel) rfl, am_tb 584 (by decide +kernel) rfl, by decide, Or.inr ⟨3, Nat.le_of_ble_eq_true rfl, by decide +kernel, ⟨2, by decide +kernel, rfl⟩, by decide +kernel⟩⟩) (am_n)))
set_option maxRecDepth 100000 in
theorem okL_goBack {l : Launch} (hl : l.stackTraces = false) (e2 : List Sh) : am_Ok l WL (RO ++ e2) dL_goBack := by
  refine ok_help (cd0 := dPl plB 38 WB (d_B_goBack 15)) (hs := hs_goBack) (i := 52) (pcC := 4) (pcE := 9) (pcR := 18) (off := 9) WL_out (by omega) rfl (by decide +kernel) rfl (am_tb 814 (by decide +kernel) rfl) rfl rfl (Nat.le_of_ble_eq_true rfl) (Nat.le_of_ble_eq_true rfl) rfl (okB_in (ok_B_goBack hl [] e2 15) vB_goBack) lkL_goBack rfl (by decide +kernel) (by decide +kernel) (by decide +kernel) (by decide +kernel) (by decide) (by decide +kernel) (by decide +kernel) (by omega) hsOk_goBack (by decide +kernel) ?_
  intro as h
  show g_ok (gL_goBack WL (RO ++ e2) as h) = true → ∃ as0 : List Value, gL_goBack WL (RO ++ e2) as h = _ ∧ _
  unfold gL_goBack
  split
  · rename_i o a1 q
    cases hb : Nat.beq o 38 && Nat.beq q 145 with
    | false => exact fun z => nomatch z
    | true =>
      rw [Bool.and_eq_true_iff] at hb
      obtain rfl := am_beq hb.1
      obtain rfl := am_beq hb.2
      intro _
      refine ⟨[.ref 38, .int a1], ?_, rfl, rfl, fun D x => Nat.le_of_ble_eq_true rfl, ?_, pf_L_goBack a1⟩
      · rw [gPl_B rfl]; rfl
      · rw [gPl_B rfl]; exact rvIW_i
  · exact fun z => nomatch z
def hs_undo : Hs := [("java/lang/IllegalStateException", 1, 25, 11)]
noncomputable def gL_undo (_ ro : List Sh) (as : List Value) (h : HP) : GR := match as with
  | [.ref o, .ref q] => bif Nat.beq o 38 && Nat.beq q 145 then gH hs_undo 145 (gP plB (g_B_undo WB ro [.ref 38] h) h) else bad h
  | _ => bad h
noncomputable def dL_undo : CD := (4, yL_undo, cL_undo, 3, some .int, 2, 7, 125, 1, false, true, gL_undo)
theorem lkL_undo : am_lnk RL 55 (dPl plB 38 WB (d_B_undo 15)) := ⟨⟨by decide, by decide⟩, am_tb 1 (by decide +kernel) rfl, Or.inr ⟨by decide, rfl, am_tb 828 (by decide +kernel) rfl, am_tb 829 (by decide +kernel) rfl, ⟨TX5, 10, rfl⟩, Or.inl (am_tb 827 (by decide +kernel) rfl)⟩⟩
theorem vB_undo {ro : List Sh} : ∀ as h v, g_val (c_g (d_B_undo 15) WB ro as h) = some v → isN v = true := by
  intro as h v
  show g_val (g_B_undo WB ro as h) = some v → _
  unfold g_B_undo
  split
  · exact fun z => rvIW_n z
  · exact fun z => nomatch z
theorem pf_L_undo : Pfx cL_undo 3 3 [.ref 38, .ref 145] (([.ref 38] : List Value).reverse ++ [.int 0, .ref 145]) := by
  intro ad xq p l e R s m args below meth c H locs cells slots Q ls hx hb hl kk
  have hl : lv_has ls 3 [(0, .ref (ad 38)), (1, .ref (ad 145))] := hl
  refine lv_aload_n hx hb (show decode cL_undo 0 = .ok (.aload_n 1, 1) from by decide +kernel) rfl (lv_at hl 1 rfl) ?_
  refine lv_iconst hx hb (show decode cL_undo 1 = .ok (.iconst 0, 1) from by decide +kernel) (v := 0) rfl ?_
  refine lv_aload_n hx hb (show decode cL_undo 2 = .ok (.aload_n 0, 1) from by decide +kernel) rfl (lv_at hl 0 rfl) ?_
  exact kk
theorem hsOk_undo : hsOk cL_undo 3 hs_undo := (am_c (⟨am_tb 695 (by decide +kernel) rfl, am_tb 584 (by decide +kernel) rfl, by decide, Or.inr ⟨2, Nat.le_of_ble_eq_true rfl, by decide +kernel, ⟨1, by decide +kernel, rfl⟩, by decide +kernel⟩⟩) (am_n))
set_option maxRecDepth 100000 in
theorem okL_undo {l : Launch} (hl : l.stackTraces = false) (e2 : List Sh) : am_Ok l WL (RO ++ e2) dL_undo := by
  refine ok_help (cd0 := dPl plB 38 WB (d_B_undo 15)) (hs := hs_undo) (i := 55) (pcC := 3) (pcE := 8) (pcR := 14) (off := 6) WL_out (by omega) rfl (by decide +kernel) rfl (am_tb 826 (by decide +kernel) rfl) rfl rfl (Nat.le_of_ble_eq_true rfl) (Nat.le_of_ble_eq_true rfl) rfl (okB_in (ok_B_undo hl [] e2 15) vB_undo) lkL_undo rfl (by decide +kernel) (by decide +kernel) (by decide +kernel) (by decide +kernel) (by decide) (by decide +kernel) (by decide +kernel) (by omega) hsOk_undo (by decide +kernel) ?_
  intro as h
  show g_ok (gL_undo WL (RO ++ e2) as h) = true → ∃ as0 : List Value, gL_undo WL (RO ++ e2) as h = _ ∧ _
  unfold gL_undo
  split
  · rename_i o  q
    cases hb : Nat.beq o 38 && Nat.beq q 145 with
    | false => exact fun z => nomatch z
    | true =>
      rw [Bool.and_eq_true_iff] at hb
      obtain rfl := am_beq hb.1
      obtain rfl := am_beq hb.2
      intro _
      refine ⟨[.ref 38], ?_, rfl, rfl, fun D x => Nat.le_of_ble_eq_true rfl, ?_, pf_L_undo ⟩
      · rw [gPl_B rfl]; rfl
      · rw [gPl_B rfl]; exact rvIW_i
  · exact fun z => nomatch z
def hs_terminalOf : Hs := [("java/lang/IndexOutOfBoundsException", 1, 13, 13), ("java/lang/IllegalArgumentException", 2, 15, 17)]
noncomputable def gL_terminalOf (_ ro : List Sh) (as : List Value) (h : HP) : GR := match as with
  | [.ref o, .int a1, .int a2, .ref q] => bif Nat.beq o 38 && Nat.beq q 145 then gH hs_terminalOf 145 (gP plB (g_B_terminalOf WB ro [.ref 38, .int a1, .int a2] h) h) else bad h
  | _ => bad h
noncomputable def dL_terminalOf : CD := (4, yL_terminalOf, cL_terminalOf, 5, some .int, 4, 8, 134, 1, false, true, gL_terminalOf)
theorem lkL_terminalOf : am_lnk RL 58 (dPl plB 38 WB (d_B_terminalOf 15)) := ⟨⟨by decide, by decide⟩, am_tb 1 (by decide +kernel) rfl, Or.inr ⟨by decide, rfl, am_tb 525 (by decide +kernel) rfl, am_tb 526 (by decide +kernel) rfl, ⟨TX5, 10, rfl⟩, Or.inl (am_tb 835 (by decide +kernel) rfl)⟩⟩
theorem vB_terminalOf {ro : List Sh} : ∀ as h v, g_val (c_g (d_B_terminalOf 15) WB ro as h) = some v → isN v = true := by
  intro as h v
  show g_val (g_B_terminalOf WB ro as h) = some v → _
  unfold g_B_terminalOf
  split
  · exact fun z => rvIW_n z
  · exact fun z => nomatch z
theorem pf_L_terminalOf (a1 a2 : Int32) : Pfx cL_terminalOf 5 5 [.ref 38, .int a1, .int a2, .ref 145] (([.ref 38, .int a1, .int a2] : List Value).reverse ++ [.int 0, .ref 145]) := by
  intro ad xq p l e R s m args below meth c H locs cells slots Q ls hx hb hl kk
  have hl : lv_has ls 5 [(0, .ref (ad 38)), (1, .int a1), (2, .int a2), (3, .ref (ad 145))] := hl
  refine lv_aload_n hx hb (show decode cL_terminalOf 0 = .ok (.aload_n 3, 1) from by decide +kernel) rfl (lv_at hl 3 rfl) ?_
  refine lv_iconst hx hb (show decode cL_terminalOf 1 = .ok (.iconst 0, 1) from by decide +kernel) (v := 0) rfl ?_
  refine lv_aload_n hx hb (show decode cL_terminalOf 2 = .ok (.aload_n 0, 1) from by decide +kernel) rfl (lv_at hl 0 rfl) ?_
  refine lv_iload_n hx hb (show decode cL_terminalOf 3 = .ok (.iload_n 1, 1) from by decide +kernel) rfl (lv_at hl 1 rfl) ?_
  refine lv_iload_n hx hb (show decode cL_terminalOf 4 = .ok (.iload_n 2, 1) from by decide +kernel) rfl (lv_at hl 2 rfl) ?_
  exact kk
theorem hsOk_terminalOf : hsOk cL_terminalOf 5 hs_terminalOf := (am_c (⟨am_tb 678 (by decide +kernel) rfl, am_tb 533 (by decide +kernel) rfl, by decide, Or.inl ⟨4, Nat.le_of_ble_eq_true rfl, by decide +kernel, ⟨1, by decide +kernel, rfl⟩, by decide +kernel⟩⟩) (am_c (⟨am_tb 679 (by decide +kernel) rfl, am_tb 374 (by decide +kernel) rfl, by decide, Or.inl ⟨4, Nat.le_of_ble_eq_true rfl, by decide +kernel, ⟨2, by decide +kernel, rfl⟩, by decide +kernel⟩⟩) (am_n)))
set_option maxRecDepth 100000 in
theorem okL_terminalOf {l : Launch} (hl : l.stackTraces = false) (e2 : List Sh) : am_Ok l WL (RO ++ e2) dL_terminalOf := by
  refine ok_help (cd0 := dPl plB 38 WB (d_B_terminalOf 15)) (hs := hs_terminalOf) (i := 58) (pcC := 5) (pcE := 10) (pcR := 21) (off := 11) WL_out (by omega) rfl (by decide +kernel) rfl (am_tb 834 (by decide +kernel) rfl) rfl rfl (Nat.le_of_ble_eq_true rfl) (Nat.le_of_ble_eq_true rfl) rfl (okB_in (ok_B_terminalOf hl [] e2 15) vB_terminalOf) lkL_terminalOf rfl (by decide +kernel) (by decide +kernel) (by decide +kernel) (by decide +kernel) (by decide) (by decide +kernel) (by decide +kernel) (by omega) hsOk_terminalOf (by decide +kernel) ?_
  intro as h
  show g_ok (gL_terminalOf WL (RO ++ e2) as h) = true → ∃ as0 : List Value, gL_terminalOf WL (RO ++ e2) as h = _ ∧ _
  unfold gL_terminalOf
  split
  · rename_i o a1 a2 q
    cases hb : Nat.beq o 38 && Nat.beq q 145 with
    | false => exact fun z => nomatch z
    | true =>
      rw [Bool.and_eq_true_iff] at hb
      obtain rfl := am_beq hb.1
      obtain rfl := am_beq hb.2
      intro _
      refine ⟨[.ref 38, .int a1, .int a2], ?_, rfl, rfl, fun D x => Nat.le_of_ble_eq_true rfl, ?_, pf_L_terminalOf a1 a2⟩
      · rw [gPl_B rfl]; rfl
      · rw [gPl_B rfl]; exact rvIW_i
  · exact fun z => nomatch z
def hs_tripOf : Hs := [("java/lang/IndexOutOfBoundsException", 1, 13, 13), ("java/lang/IllegalArgumentException", 2, 15, 17)]
noncomputable def gL_tripOf (_ ro : List Sh) (as : List Value) (h : HP) : GR := match as with
  | [.ref o, .int a1, .int a2, .ref q] => bif Nat.beq o 38 && Nat.beq q 145 then gH hs_tripOf 145 (gP plB (g_B_tripOf WB ro [.ref 38, .int a1, .int a2] h) h) else bad h
  | _ => bad h
noncomputable def dL_tripOf : CD := (4, yL_tripOf, cL_tripOf, 5, some .int, 4, 8, 134, 1, false, true, gL_tripOf)
theorem lkL_tripOf : am_lnk RL 61 (dPl plB 38 WB (d_B_tripOf 15)) := ⟨⟨by decide, by decide⟩, am_tb 1 (by decide +kernel) rfl, Or.inr ⟨by decide, rfl, am_tb 560 (by decide +kernel) rfl, am_tb 561 (by decide +kernel) rfl, ⟨TX5, 10, rfl⟩, Or.inl (am_tb 839 (by decide +kernel) rfl)⟩⟩
theorem vB_tripOf {ro : List Sh} : ∀ as h v, g_val (c_g (d_B_tripOf 15) WB ro as h) = some v → isN v = true := by
  intro as h v
  show g_val (g_B_tripOf WB ro as h) = some v → _
  unfold g_B_tripOf
  split
  · exact fun z => rvI_n z
  · exact fun z => nomatch z
theorem pf_L_tripOf (a1 a2 : Int32) : Pfx cL_tripOf 5 5 [.ref 38, .int a1, .int a2, .ref 145] (([.ref 38, .int a1, .int a2] : List Value).reverse ++ [.int 0, .ref 145]) := by
  intro ad xq p l e R s m args below meth c H locs cells slots Q ls hx hb hl kk
  have hl : lv_has ls 5 [(0, .ref (ad 38)), (1, .int a1), (2, .int a2), (3, .ref (ad 145))] := hl
  refine lv_aload_n hx hb (show decode cL_tripOf 0 = .ok (.aload_n 3, 1) from by decide +kernel) rfl (lv_at hl 3 rfl) ?_
  refine lv_iconst hx hb (show decode cL_tripOf 1 = .ok (.iconst 0, 1) from by decide +kernel) (v := 0) rfl ?_
  refine lv_aload_n hx hb (show decode cL_tripOf 2 = .ok (.aload_n 0, 1) from by decide +kernel) rfl (lv_at hl 0 rfl) ?_
  refine lv_iload_n hx hb (show decode cL_tripOf 3 = .ok (.iload_n 1, 1) from by decide +kernel) rfl (lv_at hl 1 rfl) ?_
  refine lv_iload_n hx hb (show decode cL_tripOf 4 = .ok (.iload_n 2, 1) from by decide +kernel) rfl (lv_at hl 2 rfl) ?_
  exact kk
theorem hsOk_tripOf : hsOk cL_tripOf 5 hs_tripOf := (am_c (⟨am_tb 678 (by decide +kernel) rfl, am_tb 533 (by decide +kernel) rfl, by decide, Or.inl ⟨4, Nat.le_of_ble_eq_true rfl, by decide +kernel, ⟨1, by decide +kernel, rfl⟩, by decide +kernel⟩⟩) (am_c (⟨am_tb 679 (by decide +kernel) rfl, am_tb 374 (by decide +kernel) rfl, by decide, Or.inl ⟨4, Nat.le_of_ble_eq_true rfl, by decide +kernel, ⟨2, by decide +kernel, rfl⟩, by decide +kernel⟩⟩) (am_n)))
set_option maxRecDepth 100000 in
theorem okL_tripOf {l : Launch} (hl : l.stackTraces = false) (e2 : List Sh) : am_Ok l WL (RO ++ e2) dL_tripOf := by
  refine ok_help (cd0 := dPl plB 38 WB (d_B_tripOf 15)) (hs := hs_tripOf) (i := 61) (pcC := 5) (pcE := 10) (pcR := 21) (off := 11) WL_out (by omega) rfl (by decide +kernel) rfl (am_tb 838 (by decide +kernel) rfl) rfl rfl (Nat.le_of_ble_eq_true rfl) (Nat.le_of_ble_eq_true rfl) rfl (okB_in (ok_B_tripOf hl [] e2 15) vB_tripOf) lkL_tripOf rfl (by decide +kernel) (by decide +kernel) (by decide +kernel) (by decide +kernel) (by decide) (by decide +kernel) (by decide +kernel) (by omega) hsOk_tripOf (by decide +kernel) ?_
  intro as h
  show g_ok (gL_tripOf WL (RO ++ e2) as h) = true → ∃ as0 : List Value, gL_tripOf WL (RO ++ e2) as h = _ ∧ _
  unfold gL_tripOf
  split
  · rename_i o a1 a2 q
    cases hb : Nat.beq o 38 && Nat.beq q 145 with
    | false => exact fun z => nomatch z
    | true =>
      rw [Bool.and_eq_true_iff] at hb
      obtain rfl := am_beq hb.1
      obtain rfl := am_beq hb.2
      intro _
      refine ⟨[.ref 38, .int a1, .int a2], ?_, rfl, rfl, fun D x => Nat.le_of_ble_eq_true rfl, ?_, pf_L_tripOf a1 a2⟩
      · rw [gPl_B rfl]; rfl
      · rw [gPl_B rfl]; exact rvI_i
  · exact fun z => nomatch z
def hs_blockOf : Hs := [("java/lang/IndexOutOfBoundsException", 1, 13, 13), ("java/lang/IllegalArgumentException", 2, 15, 17)]
noncomputable def gL_blockOf (_ ro : List Sh) (as : List Value) (h : HP) : GR := match as with
  | [.ref o, .int a1, .int a2, .ref q] => bif Nat.beq o 38 && Nat.beq q 145 then gH hs_blockOf 145 (gP plB (g_B_blockOf WB ro [.ref 38, .int a1, .int a2] h) h) else bad h
  | _ => bad h
noncomputable def dL_blockOf : CD := (4, yL_blockOf, cL_blockOf, 5, some .int, 4, 8, 135, 1, false, true, gL_blockOf)
theorem lkL_blockOf : am_lnk RL 64 (dPl plB 38 WB (d_B_blockOf 15)) := ⟨⟨by decide, by decide⟩, am_tb 1 (by decide +kernel) rfl, Or.inr ⟨by decide, rfl, am_tb 616 (by decide +kernel) rfl, am_tb 617 (by decide +kernel) rfl, ⟨TX5, 10, rfl⟩, Or.inl (am_tb 843 (by decide +kernel) rfl)⟩⟩
theorem vB_blockOf {ro : List Sh} : ∀ as h v, g_val (c_g (d_B_blockOf 15) WB ro as h) = some v → isN v = true := by
  intro as h v
  show g_val (g_B_blockOf WB ro as h) = some v → _
  unfold g_B_blockOf
  split
  · exact fun z => rvIW_n z
  · exact fun z => nomatch z
theorem pf_L_blockOf (a1 a2 : Int32) : Pfx cL_blockOf 5 5 [.ref 38, .int a1, .int a2, .ref 145] (([.ref 38, .int a1, .int a2] : List Value).reverse ++ [.int 0, .ref 145]) := by
  intro ad xq p l e R s m args below meth c H locs cells slots Q ls hx hb hl kk
  have hl : lv_has ls 5 [(0, .ref (ad 38)), (1, .int a1), (2, .int a2), (3, .ref (ad 145))] := hl
  refine lv_aload_n hx hb (show decode cL_blockOf 0 = .ok (.aload_n 3, 1) from by decide +kernel) rfl (lv_at hl 3 rfl) ?_
  refine lv_iconst hx hb (show decode cL_blockOf 1 = .ok (.iconst 0, 1) from by decide +kernel) (v := 0) rfl ?_
  refine lv_aload_n hx hb (show decode cL_blockOf 2 = .ok (.aload_n 0, 1) from by decide +kernel) rfl (lv_at hl 0 rfl) ?_
  refine lv_iload_n hx hb (show decode cL_blockOf 3 = .ok (.iload_n 1, 1) from by decide +kernel) rfl (lv_at hl 1 rfl) ?_
  refine lv_iload_n hx hb (show decode cL_blockOf 4 = .ok (.iload_n 2, 1) from by decide +kernel) rfl (lv_at hl 2 rfl) ?_
  exact kk
theorem hsOk_blockOf : hsOk cL_blockOf 5 hs_blockOf := (am_c (⟨am_tb 678 (by decide +kernel) rfl, am_tb 533 (by decide +kernel) rfl, by decide, Or.inl ⟨4, Nat.le_of_ble_eq_true rfl, by decide +kernel, ⟨1, by decide +kernel, rfl⟩, by decide +kernel⟩⟩) (am_c (⟨am_tb 679 (by decide +kernel) rfl, am_tb 374 (by decide +kernel) rfl, by decide, Or.inl ⟨4, Nat.le_of_ble_eq_true rfl, by decide +kernel, ⟨2, by decide +kernel, rfl⟩, by decide +kernel⟩⟩) (am_n)))
set_option maxRecDepth 100000 in
theorem okL_blockOf {l : Launch} (hl : l.stackTraces = false) (e2 : List Sh) : am_Ok l WL (RO ++ e2) dL_blockOf := by
  refine ok_help (cd0 := dPl plB 38 WB (d_B_blockOf 15)) (hs := hs_blockOf) (i := 64) (pcC := 5) (pcE := 10) (pcR := 21) (off := 11) WL_out (by omega) rfl (by decide +kernel) rfl (am_tb 842 (by decide +kernel) rfl) rfl rfl (Nat.le_of_ble_eq_true rfl) (Nat.le_of_ble_eq_true rfl) rfl (okB_in (ok_B_blockOf hl [] e2 15) vB_blockOf) lkL_blockOf rfl (by decide +kernel) (by decide +kernel) (by decide +kernel) (by decide +kernel) (by decide) (by decide +kernel) (by decide +kernel) (by omega) hsOk_blockOf (by decide +kernel) ?_
  intro as h
  show g_ok (gL_blockOf WL (RO ++ e2) as h) = true → ∃ as0 : List Value, gL_blockOf WL (RO ++ e2) as h = _ ∧ _
  unfold gL_blockOf
  split
  · rename_i o a1 a2 q
    cases hb : Nat.beq o 38 && Nat.beq q 145 with
    | false => exact fun z => nomatch z
    | true =>
      rw [Bool.and_eq_true_iff] at hb
      obtain rfl := am_beq hb.1
      obtain rfl := am_beq hb.2
      intro _
      refine ⟨[.ref 38, .int a1, .int a2], ?_, rfl, rfl, fun D x => Nat.le_of_ble_eq_true rfl, ?_, pf_L_blockOf a1 a2⟩
      · rw [gPl_B rfl]; rfl
      · rw [gPl_B rfl]; exact rvIW_i
  · exact fun z => nomatch z
def hs_duty : Hs := [("java/lang/IndexOutOfBoundsException", 1, 13, 15), ("java/lang/IllegalArgumentException", 2, 15, 19)]
noncomputable def gL_duty (_ ro : List Sh) (as : List Value) (h : HP) : GR := match as with
  | [.ref o, .int a1, .int a2, .int a3, .ref q] => bif Nat.beq o 38 && Nat.beq q 145 then gH hs_duty 145 (gP plB (g_B_duty WB ro [.ref 38, .int a1, .int a2, .int a3] h) h) else bad h
  | _ => bad h
noncomputable def dL_duty : CD := (4, yL_duty, cL_duty, 6, some .int, 5, 8, 138, 1, false, true, gL_duty)
theorem lkL_duty : am_lnk RL 67 (dPl plB 38 WB (d_B_duty 15)) := ⟨⟨by decide, by decide⟩, am_tb 1 (by decide +kernel) rfl, Or.inr ⟨by decide, rfl, am_tb 647 (by decide +kernel) rfl, am_tb 648 (by decide +kernel) rfl, ⟨TX5, 10, rfl⟩, Or.inl (am_tb 847 (by decide +kernel) rfl)⟩⟩
theorem vB_duty {ro : List Sh} : ∀ as h v, g_val (c_g (d_B_duty 15) WB ro as h) = some v → isN v = true := by
  intro as h v
  show g_val (g_B_duty WB ro as h) = some v → _
  unfold g_B_duty
  split
  · exact fun z => rvI_n z
  · exact fun z => nomatch z
theorem pf_L_duty (a1 a2 a3 : Int32) : Pfx cL_duty 6 7 [.ref 38, .int a1, .int a2, .int a3, .ref 145] (([.ref 38, .int a1, .int a2, .int a3] : List Value).reverse ++ [.int 0, .ref 145]) := by
  intro ad xq p l e R s m args below meth c H locs cells slots Q ls hx hb hl kk
  have hl : lv_has ls 6 [(0, .ref (ad 38)), (1, .int a1), (2, .int a2), (3, .int a3), (4, .ref (ad 145))] := hl
  refine lv_aload hx hb (show decode cL_duty 0 = .ok (.aload 4, 2) from by decide +kernel) (lv_at hl 4 rfl) ?_
  refine lv_iconst hx hb (show decode cL_duty 2 = .ok (.iconst 0, 1) from by decide +kernel) (v := 0) rfl ?_
  refine lv_aload_n hx hb (show decode cL_duty 3 = .ok (.aload_n 0, 1) from by decide +kernel) rfl (lv_at hl 0 rfl) ?_
  refine lv_iload_n hx hb (show decode cL_duty 4 = .ok (.iload_n 1, 1) from by decide +kernel) rfl (lv_at hl 1 rfl) ?_
  refine lv_iload_n hx hb (show decode cL_duty 5 = .ok (.iload_n 2, 1) from by decide +kernel) rfl (lv_at hl 2 rfl) ?_
  refine lv_iload_n hx hb (show decode cL_duty 6 = .ok (.iload_n 3, 1) from by decide +kernel) rfl (lv_at hl 3 rfl) ?_
  exact kk
theorem hsOk_duty : hsOk cL_duty 6 hs_duty := (am_c (⟨am_tb 678 (by decide +kernel) rfl, am_tb 533 (by decide +kernel) rfl, by decide, Or.inl ⟨5, Nat.le_of_ble_eq_true rfl, by decide +kernel, ⟨1, by decide +kernel, rfl⟩, by decide +kernel⟩⟩) (am_c (⟨am_tb 679 (by decide +kernel) rfl, am_tb 374 (by decide +kernel) rfl, by decide, Or.inl ⟨5, Nat.le_of_ble_eq_true rfl, by decide +kernel, ⟨2, by decide +kernel, rfl⟩, by decide +kernel⟩⟩) (am_n)))
set_option maxRecDepth 100000 in
theorem okL_duty {l : Launch} (hl : l.stackTraces = false) (e2 : List Sh) : am_Ok l WL (RO ++ e2) dL_duty := by
  refine ok_help (cd0 := dPl plB 38 WB (d_B_duty 15)) (hs := hs_duty) (i := 67) (pcC := 7) (pcE := 12) (pcR := 23) (off := 11) WL_out (by omega) rfl (by decide +kernel) rfl (am_tb 846 (by decide +kernel) rfl) rfl rfl (Nat.le_of_ble_eq_true rfl) (Nat.le_of_ble_eq_true rfl) rfl (okB_in (ok_B_duty hl [] e2 15) vB_duty) lkL_duty rfl (by decide +kernel) (by decide +kernel) (by decide +kernel) (by decide +kernel) (by decide) (by decide +kernel) (by decide +kernel) (by omega) hsOk_duty (by decide +kernel) ?_
  intro as h
  show g_ok (gL_duty WL (RO ++ e2) as h) = true → ∃ as0 : List Value, gL_duty WL (RO ++ e2) as h = _ ∧ _
  unfold gL_duty
  split
  · rename_i o a1 a2 a3 q
    cases hb : Nat.beq o 38 && Nat.beq q 145 with
    | false => exact fun z => nomatch z
    | true =>
      rw [Bool.and_eq_true_iff] at hb
      obtain rfl := am_beq hb.1
      obtain rfl := am_beq hb.2
      intro _
      refine ⟨[.ref 38, .int a1, .int a2, .int a3], ?_, rfl, rfl, fun D x => Nat.le_of_ble_eq_true rfl, ?_, pf_L_duty a1 a2 a3⟩
      · rw [gPl_B rfl]; rfl
      · rw [gPl_B rfl]; exact rvI_i
  · exact fun z => nomatch z
def hs_count : Hs := [("java/lang/IllegalArgumentException", 1, 15, 12)]
noncomputable def gL_count (_ ro : List Sh) (as : List Value) (h : HP) : GR := match as with
  | [.ref o, .int a1, .ref q] => bif Nat.beq o 38 && Nat.beq q 145 then gH hs_count 145 (gP plB (g_B_count WB ro [.ref 38, .int a1] h) h) else bad h
  | _ => bad h
noncomputable def dL_count : CD := (4, yL_count, cL_count, 4, some .int, 3, 8, 137, 1, false, true, gL_count)
theorem lkL_count : am_lnk RL 71 (dPl plB 38 WB (d_B_count 15)) := ⟨⟨by decide, by decide⟩, am_tb 1 (by decide +kernel) rfl, Or.inr ⟨by decide, rfl, am_tb 366 (by decide +kernel) rfl, am_tb 367 (by decide +kernel) rfl, ⟨TX5, 10, rfl⟩, Or.inl (am_tb 851 (by decide +kernel) rfl)⟩⟩
theorem vB_count {ro : List Sh} : ∀ as h v, g_val (c_g (d_B_count 15) WB ro as h) = some v → isN v = true := by
  intro as h v
  show g_val (g_B_count WB ro as h) = some v → _
  unfold g_B_count
  split
  · exact fun z => rvIW_n z
  · exact fun z => nomatch z
theorem pf_L_count (a1 : Int32) : Pfx cL_count 4 4 [.ref 38, .int a1, .ref 145] (([.ref 38, .int a1] : List Value).reverse ++ [.int 0, .ref 145]) := by
  intro ad xq p l e R s m args below meth c H locs cells slots Q ls hx hb hl kk
  have hl : lv_has ls 4 [(0, .ref (ad 38)), (1, .int a1), (2, .ref (ad 145))] := hl
  refine lv_aload_n hx hb (show decode cL_count 0 = .ok (.aload_n 2, 1) from by decide +kernel) rfl (lv_at hl 2 rfl) ?_
  refine lv_iconst hx hb (show decode cL_count 1 = .ok (.iconst 0, 1) from by decide +kernel) (v := 0) rfl ?_
  refine lv_aload_n hx hb (show decode cL_count 2 = .ok (.aload_n 0, 1) from by decide +kernel) rfl (lv_at hl 0 rfl) ?_
  refine lv_iload_n hx hb (show decode cL_count 3 = .ok (.iload_n 1, 1) from by decide +kernel) rfl (lv_at hl 1 rfl) ?_
  exact kk
theorem hsOk_count : hsOk cL_count 4 hs_count := (am_c (⟨am_tb 679 (by decide +kernel) rfl, am_tb 374 (by decide +kernel) rfl, by decide, Or.inr ⟨3, Nat.le_of_ble_eq_true rfl, by decide +kernel, ⟨1, by decide +kernel, rfl⟩, by decide +kernel⟩⟩) (am_n))
set_option maxRecDepth 100000 in
theorem okL_count {l : Launch} (hl : l.stackTraces = false) (e2 : List Sh) : am_Ok l WL (RO ++ e2) dL_count := by
  refine ok_help (cd0 := dPl plB 38 WB (d_B_count 15)) (hs := hs_count) (i := 71) (pcC := 4) (pcE := 9) (pcR := 15) (off := 6) WL_out (by omega) rfl (by decide +kernel) rfl (am_tb 850 (by decide +kernel) rfl) rfl rfl (Nat.le_of_ble_eq_true rfl) (Nat.le_of_ble_eq_true rfl) rfl (okB_in (ok_B_count hl [] e2 15) vB_count) lkL_count rfl (by decide +kernel) (by decide +kernel) (by decide +kernel) (by decide +kernel) (by decide) (by decide +kernel) (by decide +kernel) (by omega) hsOk_count (by decide +kernel) ?_
  intro as h
  show g_ok (gL_count WL (RO ++ e2) as h) = true → ∃ as0 : List Value, gL_count WL (RO ++ e2) as h = _ ∧ _
  unfold gL_count
  split
  · rename_i o a1 q
    cases hb : Nat.beq o 38 && Nat.beq q 145 with
    | false => exact fun z => nomatch z
    | true =>
      rw [Bool.and_eq_true_iff] at hb
      obtain rfl := am_beq hb.1
      obtain rfl := am_beq hb.2
      intro _
      refine ⟨[.ref 38, .int a1], ?_, rfl, rfl, fun D x => Nat.le_of_ble_eq_true rfl, ?_, pf_L_count a1⟩
      · rw [gPl_B rfl]; rfl
      · rw [gPl_B rfl]; exact rvIW_i
  · exact fun z => nomatch z
def hs_setting : Hs := [("java/lang/IndexOutOfBoundsException", 1, 13, 12)]
noncomputable def gL_setting (_ ro : List Sh) (as : List Value) (h : HP) : GR := match as with
  | [.ref o, .int a1, .ref q] => bif Nat.beq o 38 && Nat.beq q 145 then gH hs_setting 145 (gP plB (g_B_setting WB ro [.ref 38, .int a1] h) h) else bad h
  | _ => bad h
noncomputable def dL_setting : CD := (4, yL_setting, cL_setting, 4, some .int, 3, 8, 131, 1, false, true, gL_setting)
theorem lkL_setting : am_lnk RL 74 (dPl plB 38 WB (d_B_setting 15)) := ⟨⟨by decide, by decide⟩, am_tb 1 (by decide +kernel) rfl, Or.inr ⟨by decide, rfl, am_tb 856 (by decide +kernel) rfl, am_tb 857 (by decide +kernel) rfl, ⟨TX5, 10, rfl⟩, Or.inl (am_tb 855 (by decide +kernel) rfl)⟩⟩
theorem vB_setting {ro : List Sh} : ∀ as h v, g_val (c_g (d_B_setting 15) WB ro as h) = some v → isN v = true := by
  intro as h v
  show g_val (g_B_setting WB ro as h) = some v → _
  unfold g_B_setting
  split
  · exact fun z => rvI_n z
  · exact fun z => nomatch z
theorem pf_L_setting (a1 : Int32) : Pfx cL_setting 4 4 [.ref 38, .int a1, .ref 145] (([.ref 38, .int a1] : List Value).reverse ++ [.int 0, .ref 145]) := by
  intro ad xq p l e R s m args below meth c H locs cells slots Q ls hx hb hl kk
  have hl : lv_has ls 4 [(0, .ref (ad 38)), (1, .int a1), (2, .ref (ad 145))] := hl
  refine lv_aload_n hx hb (show decode cL_setting 0 = .ok (.aload_n 2, 1) from by decide +kernel) rfl (lv_at hl 2 rfl) ?_
  refine lv_iconst hx hb (show decode cL_setting 1 = .ok (.iconst 0, 1) from by decide +kernel) (v := 0) rfl ?_
  refine lv_aload_n hx hb (show decode cL_setting 2 = .ok (.aload_n 0, 1) from by decide +kernel) rfl (lv_at hl 0 rfl) ?_
  refine lv_iload_n hx hb (show decode cL_setting 3 = .ok (.iload_n 1, 1) from by decide +kernel) rfl (lv_at hl 1 rfl) ?_
  exact kk
theorem hsOk_setting : hsOk cL_setting 4 hs_setting := (am_c (⟨am_tb 678 (by decide +kernel) rfl, am_tb 533 (by decide +kernel) rfl, by decide, Or.inr ⟨3, Nat.le_of_ble_eq_true rfl, by decide +kernel, ⟨1, by decide +kernel, rfl⟩, by decide +kernel⟩⟩) (am_n))
set_option maxRecDepth 100000 in
theorem okL_setting {l : Launch} (hl : l.stackTraces = false) (e2 : List Sh) : am_Ok l WL (RO ++ e2) dL_setting := by
  refine ok_help (cd0 := dPl plB 38 WB (d_B_setting 15)) (hs := hs_setting) (i := 74) (pcC := 4) (pcE := 9) (pcR := 15) (off := 6) WL_out (by omega) rfl (by decide +kernel) rfl (am_tb 854 (by decide +kernel) rfl) rfl rfl (Nat.le_of_ble_eq_true rfl) (Nat.le_of_ble_eq_true rfl) rfl (okB_in (ok_B_setting hl [] e2 15) vB_setting) lkL_setting rfl (by decide +kernel) (by decide +kernel) (by decide +kernel) (by decide +kernel) (by decide) (by decide +kernel) (by decide +kernel) (by omega) hsOk_setting (by decide +kernel) ?_
  intro as h
  show g_ok (gL_setting WL (RO ++ e2) as h) = true → ∃ as0 : List Value, gL_setting WL (RO ++ e2) as h = _ ∧ _
  unfold gL_setting
  split
  · rename_i o a1 q
    cases hb : Nat.beq o 38 && Nat.beq q 145 with
    | false => exact fun z => nomatch z
    | true =>
      rw [Bool.and_eq_true_iff] at hb
      obtain rfl := am_beq hb.1
      obtain rfl := am_beq hb.2
      intro _
      refine ⟨[.ref 38, .int a1], ?_, rfl, rfl, fun D x => Nat.le_of_ble_eq_true rfl, ?_, pf_L_setting a1⟩
      · rw [gPl_B rfl]; rfl
      · rw [gPl_B rfl]; exact rvI_i
  · exact fun z => nomatch z
def hs_whyNot : Hs := [("java/lang/IndexOutOfBoundsException", 1, 13, 13)]
noncomputable def gL_whyNot (_ ro : List Sh) (as : List Value) (h : HP) : GR := match as with
  | [.ref o, .int a1, .int a2, .ref q] => bif Nat.beq o 38 && Nat.beq q 145 then gH hs_whyNot 145 (gP plB (g_B_whyNot WB ro [.ref 38, .int a1, .int a2] h) h) else bad h
  | _ => bad h
noncomputable def dL_whyNot : CD := (4, yL_whyNot, cL_whyNot, 5, some .int, 4, 8, 133, 1, false, true, gL_whyNot)
theorem lkL_whyNot : am_lnk RL 77 (dPl plB 38 WB (d_B_whyNot 15)) := ⟨⟨by decide, by decide⟩, am_tb 1 (by decide +kernel) rfl, Or.inr ⟨by decide, rfl, am_tb 863 (by decide +kernel) rfl, am_tb 864 (by decide +kernel) rfl, ⟨TX5, 10, rfl⟩, Or.inl (am_tb 862 (by decide +kernel) rfl)⟩⟩
theorem vB_whyNot {ro : List Sh} : ∀ as h v, g_val (c_g (d_B_whyNot 15) WB ro as h) = some v → isN v = true := by
  intro as h v
  show g_val (g_B_whyNot WB ro as h) = some v → _
  unfold g_B_whyNot
  split
  · exact fun z => rvI_n z
  · exact fun z => nomatch z
theorem pf_L_whyNot (a1 a2 : Int32) : Pfx cL_whyNot 5 5 [.ref 38, .int a1, .int a2, .ref 145] (([.ref 38, .int a1, .int a2] : List Value).reverse ++ [.int 0, .ref 145]) := by
  intro ad xq p l e R s m args below meth c H locs cells slots Q ls hx hb hl kk
  have hl : lv_has ls 5 [(0, .ref (ad 38)), (1, .int a1), (2, .int a2), (3, .ref (ad 145))] := hl
  refine lv_aload_n hx hb (show decode cL_whyNot 0 = .ok (.aload_n 3, 1) from by decide +kernel) rfl (lv_at hl 3 rfl) ?_
  refine lv_iconst hx hb (show decode cL_whyNot 1 = .ok (.iconst 0, 1) from by decide +kernel) (v := 0) rfl ?_
  refine lv_aload_n hx hb (show decode cL_whyNot 2 = .ok (.aload_n 0, 1) from by decide +kernel) rfl (lv_at hl 0 rfl) ?_
  refine lv_iload_n hx hb (show decode cL_whyNot 3 = .ok (.iload_n 1, 1) from by decide +kernel) rfl (lv_at hl 1 rfl) ?_
  refine lv_iload_n hx hb (show decode cL_whyNot 4 = .ok (.iload_n 2, 1) from by decide +kernel) rfl (lv_at hl 2 rfl) ?_
  exact kk
theorem hsOk_whyNot : hsOk cL_whyNot 5 hs_whyNot := (am_c (⟨am_tb 678 (by decide +kernel) rfl, am_tb 533 (by decide +kernel) rfl, by decide, Or.inl ⟨4, Nat.le_of_ble_eq_true rfl, by decide +kernel, ⟨1, by decide +kernel, rfl⟩, by decide +kernel⟩⟩) (am_n))
set_option maxRecDepth 100000 in
theorem okL_whyNot {l : Launch} (hl : l.stackTraces = false) (e2 : List Sh) : am_Ok l WL (RO ++ e2) dL_whyNot := by
  refine ok_help (cd0 := dPl plB 38 WB (d_B_whyNot 15)) (hs := hs_whyNot) (i := 77) (pcC := 5) (pcE := 10) (pcR := 17) (off := 7) WL_out (by omega) rfl (by decide +kernel) rfl (am_tb 861 (by decide +kernel) rfl) rfl rfl (Nat.le_of_ble_eq_true rfl) (Nat.le_of_ble_eq_true rfl) rfl (okB_in (ok_B_whyNot hl [] e2 15) vB_whyNot) lkL_whyNot rfl (by decide +kernel) (by decide +kernel) (by decide +kernel) (by decide +kernel) (by decide) (by decide +kernel) (by decide +kernel) (by omega) hsOk_whyNot (by decide +kernel) ?_
  intro as h
  show g_ok (gL_whyNot WL (RO ++ e2) as h) = true → ∃ as0 : List Value, gL_whyNot WL (RO ++ e2) as h = _ ∧ _
  unfold gL_whyNot
  split
  · rename_i o a1 a2 q
    cases hb : Nat.beq o 38 && Nat.beq q 145 with
    | false => exact fun z => nomatch z
    | true =>
      rw [Bool.and_eq_true_iff] at hb
      obtain rfl := am_beq hb.1
      obtain rfl := am_beq hb.2
      intro _
      refine ⟨[.ref 38, .int a1, .int a2], ?_, rfl, rfl, fun D x => Nat.le_of_ble_eq_true rfl, ?_, pf_L_whyNot a1 a2⟩
      · rw [gPl_B rfl]; rfl
      · rw [gPl_B rfl]; exact rvI_i
  · exact fun z => nomatch z
def hs_ifTrip : Hs := [("java/lang/IllegalArgumentException", 1, 15, 19)]
noncomputable def gL_ifTrip (_ ro : List Sh) (as : List Value) (h : HP) : GR := match as with
  | [.ref o, .int a1, .int a2, .int a3, .int a4, .int a5, .ref q] => bif Nat.beq o 38 && Nat.beq q 145 then gH hs_ifTrip 145 (gP plB (g_B_ifTrip WB ro [.ref 38, .int a1, .int a2, .int a3, .int a4, .int a5] h) h) else bad h
  | _ => bad h
noncomputable def dL_ifTrip : CD := (4, yL_ifTrip, cL_ifTrip, 8, some .int, 7, 9, 161, 1, false, true, gL_ifTrip)
theorem lkL_ifTrip : am_lnk RL 80 (dPl plB 38 WB (d_B_ifTrip 15)) := ⟨⟨by decide, by decide⟩, am_tb 1 (by decide +kernel) rfl, Or.inr ⟨by decide, rfl, am_tb 657 (by decide +kernel) rfl, am_tb 658 (by decide +kernel) rfl, ⟨TX5, 10, rfl⟩, Or.inl (am_tb 869 (by decide +kernel) rfl)⟩⟩
theorem vB_ifTrip {ro : List Sh} : ∀ as h v, g_val (c_g (d_B_ifTrip 15) WB ro as h) = some v → isN v = true := by
  intro as h v
  show g_val (g_B_ifTrip WB ro as h) = some v → _
  unfold g_B_ifTrip
  split
  · exact fun z => rvIW_n z
  · exact fun z => nomatch z
theorem pf_L_ifTrip (a1 a2 a3 a4 a5 : Int32) : Pfx cL_ifTrip 8 11 [.ref 38, .int a1, .int a2, .int a3, .int a4, .int a5, .ref 145] (([.ref 38, .int a1, .int a2, .int a3, .int a4, .int a5] : List Value).reverse ++ [.int 0, .ref 145]) := by
  intro ad xq p l e R s m args below meth c H locs cells slots Q ls hx hb hl kk
  have hl : lv_has ls 8 [(0, .ref (ad 38)), (1, .int a1), (2, .int a2), (3, .int a3), (4, .int a4), (5, .int a5), (6, .ref (ad 145))] := hl
  refine lv_aload hx hb (show decode cL_ifTrip 0 = .ok (.aload 6, 2) from by decide +kernel) (lv_at hl 6 rfl) ?_
  refine lv_iconst hx hb (show decode cL_ifTrip 2 = .ok (.iconst 0, 1) from by decide +kernel) (v := 0) rfl ?_
  refine lv_aload_n hx hb (show decode cL_ifTrip 3 = .ok (.aload_n 0, 1) from by decide +kernel) rfl (lv_at hl 0 rfl) ?_
  refine lv_iload_n hx hb (show decode cL_ifTrip 4 = .ok (.iload_n 1, 1) from by decide +kernel) rfl (lv_at hl 1 rfl) ?_
  refine lv_iload_n hx hb (show decode cL_ifTrip 5 = .ok (.iload_n 2, 1) from by decide +kernel) rfl (lv_at hl 2 rfl) ?_
  refine lv_iload_n hx hb (show decode cL_ifTrip 6 = .ok (.iload_n 3, 1) from by decide +kernel) rfl (lv_at hl 3 rfl) ?_
  refine lv_iload hx hb (show decode cL_ifTrip 7 = .ok (.iload 4, 2) from by decide +kernel) (lv_at hl 4 rfl) ?_
  refine lv_iload hx hb (show decode cL_ifTrip 9 = .ok (.iload 5, 2) from by decide +kernel) (lv_at hl 5 rfl) ?_
  exact kk
theorem hsOk_ifTrip : hsOk cL_ifTrip 8 hs_ifTrip := (am_c (⟨am_tb 679 (by decide +kernel) rfl, am_tb 374 (by decide +kernel) rfl, by decide, Or.inl ⟨7, Nat.le_of_ble_eq_true rfl, by decide +kernel, ⟨1, by decide +kernel, rfl⟩, by decide +kernel⟩⟩) (am_n))
set_option maxRecDepth 100000 in
theorem okL_ifTrip {l : Launch} (hl : l.stackTraces = false) (e2 : List Sh) : am_Ok l WL (RO ++ e2) dL_ifTrip := by
  refine ok_help (cd0 := dPl plB 38 WB (d_B_ifTrip 15)) (hs := hs_ifTrip) (i := 80) (pcC := 11) (pcE := 16) (pcR := 23) (off := 7) WL_out (by omega) rfl (by decide +kernel) rfl (am_tb 868 (by decide +kernel) rfl) rfl rfl (Nat.le_of_ble_eq_true rfl) (Nat.le_of_ble_eq_true rfl) rfl (okB_in (ok_B_ifTrip hl [] e2 15) vB_ifTrip) lkL_ifTrip rfl (by decide +kernel) (by decide +kernel) (by decide +kernel) (by decide +kernel) (by decide) (by decide +kernel) (by decide +kernel) (by omega) hsOk_ifTrip (by decide +kernel) ?_
  intro as h
  show g_ok (gL_ifTrip WL (RO ++ e2) as h) = true → ∃ as0 : List Value, gL_ifTrip WL (RO ++ e2) as h = _ ∧ _
  unfold gL_ifTrip
  split
  · rename_i o a1 a2 a3 a4 a5 q
    cases hb : Nat.beq o 38 && Nat.beq q 145 with
    | false => exact fun z => nomatch z
    | true =>
      rw [Bool.and_eq_true_iff] at hb
      obtain rfl := am_beq hb.1
      obtain rfl := am_beq hb.2
      intro _
      refine ⟨[.ref 38, .int a1, .int a2, .int a3, .int a4, .int a5], ?_, rfl, rfl, fun D x => Nat.le_of_ble_eq_true rfl, ?_, pf_L_ifTrip a1 a2 a3 a4 a5⟩
      · rw [gPl_B rfl]; rfl
      · rw [gPl_B rfl]; exact rvIW_i
  · exact fun z => nomatch z
def hs_bestTime : Hs := [("java/lang/IndexOutOfBoundsException", 1, 13, 13), ("java/lang/IllegalArgumentException", 2, 15, 17), ("java/lang/IllegalStateException", 3, 25, 21)]
noncomputable def gL_bestTime (_ ro : List Sh) (as : List Value) (h : HP) : GR := match as with
  | [.ref o, .int a1, .int a2, .ref q] => bif Nat.beq o 38 && Nat.beq q 145 then gH hs_bestTime 145 (gP plB (g_B_bestTime WB ro [.ref 38, .int a1, .int a2] h) h) else bad h
  | _ => bad h
noncomputable def dL_bestTime : CD := (4, yL_bestTime, cL_bestTime, 5, some .int, 4, 8, 144, 1, false, true, gL_bestTime)
theorem lkL_bestTime : am_lnk RL 83 (dPl plB 38 WB (d_B_bestTime 15)) := ⟨⟨by decide, by decide⟩, am_tb 1 (by decide +kernel) rfl, Or.inr ⟨by decide, rfl, am_tb 575 (by decide +kernel) rfl, am_tb 576 (by decide +kernel) rfl, ⟨TX5, 10, rfl⟩, Or.inl (am_tb 873 (by decide +kernel) rfl)⟩⟩
theorem vB_bestTime {ro : List Sh} : ∀ as h v, g_val (c_g (d_B_bestTime 15) WB ro as h) = some v → isN v = true := by
  intro as h v
  show g_val (g_B_bestTime WB ro as h) = some v → _
  unfold g_B_bestTime
  split
  · exact fun z => rvIW_n z
  · exact fun z => nomatch z
theorem pf_L_bestTime (a1 a2 : Int32) : Pfx cL_bestTime 5 5 [.ref 38, .int a1, .int a2, .ref 145] (([.ref 38, .int a1, .int a2] : List Value).reverse ++ [.int 0, .ref 145]) := by
  intro ad xq p l e R s m args below meth c H locs cells slots Q ls hx hb hl kk
  have hl : lv_has ls 5 [(0, .ref (ad 38)), (1, .int a1), (2, .int a2), (3, .ref (ad 145))] := hl
  refine lv_aload_n hx hb (show decode cL_bestTime 0 = .ok (.aload_n 3, 1) from by decide +kernel) rfl (lv_at hl 3 rfl) ?_
  refine lv_iconst hx hb (show decode cL_bestTime 1 = .ok (.iconst 0, 1) from by decide +kernel) (v := 0) rfl ?_
  refine lv_aload_n hx hb (show decode cL_bestTime 2 = .ok (.aload_n 0, 1) from by decide +kernel) rfl (lv_at hl 0 rfl) ?_
  refine lv_iload_n hx hb (show decode cL_bestTime 3 = .ok (.iload_n 1, 1) from by decide +kernel) rfl (lv_at hl 1 rfl) ?_
  refine lv_iload_n hx hb (show decode cL_bestTime 4 = .ok (.iload_n 2, 1) from by decide +kernel) rfl (lv_at hl 2 rfl) ?_
  exact kk
theorem hsOk_bestTime : hsOk cL_bestTime 5 hs_bestTime := (am_c (⟨am_tb 678 (by decide +kernel) rfl, am_tb 533 (by decide +kernel) rfl, by decide, Or.inl ⟨4, Nat.le_of_ble_eq_true rfl, by decide +kernel, ⟨1, by decide +kernel, rfl⟩, by decide +kernel⟩⟩) (am_c (⟨am_tb 679 (by decide +kernel) rfl, am_tb 374 (by decide +kernel) rfl, by decide, Or.inl ⟨4, Nat.le_of_ble_eq_true rfl, by decide +kernel, ⟨2, by decide +kernel, rfl⟩, by decide +kernel⟩⟩) (am_c (⟨am_tb 695 (by decide +kernel) rfl, am_tb 584 (by decide +kernel) rfl, by decide, Or.inl ⟨4, Nat.le_of_ble_eq_true rfl, by decide +kernel, ⟨3, by decide +kernel, rfl⟩, by decide +kernel⟩⟩) (am_n))))
set_option maxRecDepth 100000 in
theorem okL_bestTime {l : Launch} (hl : l.stackTraces = false) (e2 : List Sh) : am_Ok l WL (RO ++ e2) dL_bestTime := by
  refine ok_help (cd0 := dPl plB 38 WB (d_B_bestTime 15)) (hs := hs_bestTime) (i := 83) (pcC := 5) (pcE := 10) (pcR := 25) (off := 15) WL_out (by omega) rfl (by decide +kernel) rfl (am_tb 872 (by decide +kernel) rfl) rfl rfl (Nat.le_of_ble_eq_true rfl) (Nat.le_of_ble_eq_true rfl) rfl (okB_in (ok_B_bestTime hl [] e2 15) vB_bestTime) lkL_bestTime rfl (by decide +kernel) (by decide +kernel) (by decide +kernel) (by decide +kernel) (by decide) (by decide +kernel) (by decide +kernel) (by omega) hsOk_bestTime (by decide +kernel) ?_
  intro as h
  show g_ok (gL_bestTime WL (RO ++ e2) as h) = true → ∃ as0 : List Value, gL_bestTime WL (RO ++ e2) as h = _ ∧ _
  unfold gL_bestTime
  split
  · rename_i o a1 a2 q
    cases hb : Nat.beq o 38 && Nat.beq q 145 with
    | false => exact fun z => nomatch z
    | true =>
      rw [Bool.and_eq_true_iff] at hb
      obtain rfl := am_beq hb.1
      obtain rfl := am_beq hb.2
      intro _
      refine ⟨[.ref 38, .int a1, .int a2], ?_, rfl, rfl, fun D x => Nat.le_of_ble_eq_true rfl, ?_, pf_L_bestTime a1 a2⟩
      · rw [gPl_B rfl]; rfl
      · rw [gPl_B rfl]; exact rvIW_i
  · exact fun z => nomatch z
def hs_ifFailed : Hs := [("java/lang/IndexOutOfBoundsException", 1, 13, 12), ("java/lang/IllegalStateException", 2, 25, 15)]
noncomputable def gL_ifFailed (_ ro : List Sh) (as : List Value) (h : HP) : GR := match as with
  | [.ref o, .int a1, .ref q] => bif Nat.beq o 38 && Nat.beq q 145 then gH hs_ifFailed 145 (gP plB (g_B_ifFailed WB ro [.ref 38, .int a1] h) h) else bad h
  | _ => bad h
noncomputable def dL_ifFailed : CD := (4, yL_ifFailed, cL_ifFailed, 4, some .int, 3, 8, 132, 1, false, true, gL_ifFailed)
theorem lkL_ifFailed : am_lnk RL 86 (dPl plB 38 WB (d_B_ifFailed 15)) := ⟨⟨by decide, by decide⟩, am_tb 1 (by decide +kernel) rfl, Or.inr ⟨by decide, rfl, am_tb 603 (by decide +kernel) rfl, am_tb 604 (by decide +kernel) rfl, ⟨TX5, 10, rfl⟩, Or.inl (am_tb 877 (by decide +kernel) rfl)⟩⟩
theorem vB_ifFailed {ro : List Sh} : ∀ as h v, g_val (c_g (d_B_ifFailed 15) WB ro as h) = some v → isN v = true := by
  intro as h v
  show g_val (g_B_ifFailed WB ro as h) = some v → _
  unfold g_B_ifFailed
  split
  · exact fun z => rvI_n z
  · exact fun z => nomatch z
theorem pf_L_ifFailed (a1 : Int32) : Pfx cL_ifFailed 4 4 [.ref 38, .int a1, .ref 145] (([.ref 38, .int a1] : List Value).reverse ++ [.int 0, .ref 145]) := by
  intro ad xq p l e R s m args below meth c H locs cells slots Q ls hx hb hl kk
  have hl : lv_has ls 4 [(0, .ref (ad 38)), (1, .int a1), (2, .ref (ad 145))] := hl
  refine lv_aload_n hx hb (show decode cL_ifFailed 0 = .ok (.aload_n 2, 1) from by decide +kernel) rfl (lv_at hl 2 rfl) ?_
  refine lv_iconst hx hb (show decode cL_ifFailed 1 = .ok (.iconst 0, 1) from by decide +kernel) (v := 0) rfl ?_
  refine lv_aload_n hx hb (show decode cL_ifFailed 2 = .ok (.aload_n 0, 1) from by decide +kernel) rfl (lv_at hl 0 rfl) ?_
  refine lv_iload_n hx hb (show decode cL_ifFailed 3 = .ok (.iload_n 1, 1) from by decide +kernel) rfl (lv_at hl 1 rfl) ?_
  exact kk
theorem hsOk_ifFailed : hsOk cL_ifFailed 4 hs_ifFailed := (am_c (⟨am_tb 678 (by decide +kernel) rfl, am_tb 533 (by decide +kernel) rfl, by decide, Or.inr ⟨3, Nat.le_of_ble_eq_true rfl, by decide +kernel, ⟨1, by decide +kernel, rfl⟩, by decide +kernel⟩⟩) (am_c (⟨am_tb 695 (by decide +kernel) rfl, am_tb 584 (by decide +kernel) rfl, by decide, Or.inr ⟨3, Nat.le_of_ble_eq_true rfl, by decide +kernel, ⟨2, by decide +kernel, rfl⟩, by decide +kernel⟩⟩) (am_n)))
set_option maxRecDepth 100000 in
theorem okL_ifFailed {l : Launch} (hl : l.stackTraces = false) (e2 : List Sh) : am_Ok l WL (RO ++ e2) dL_ifFailed := by
  refine ok_help (cd0 := dPl plB 38 WB (d_B_ifFailed 15)) (hs := hs_ifFailed) (i := 86) (pcC := 4) (pcE := 9) (pcR := 18) (off := 9) WL_out (by omega) rfl (by decide +kernel) rfl (am_tb 876 (by decide +kernel) rfl) rfl rfl (Nat.le_of_ble_eq_true rfl) (Nat.le_of_ble_eq_true rfl) rfl (okB_in (ok_B_ifFailed hl [] e2 15) vB_ifFailed) lkL_ifFailed rfl (by decide +kernel) (by decide +kernel) (by decide +kernel) (by decide +kernel) (by decide) (by decide +kernel) (by decide +kernel) (by omega) hsOk_ifFailed (by decide +kernel) ?_
  intro as h
  show g_ok (gL_ifFailed WL (RO ++ e2) as h) = true → ∃ as0 : List Value, gL_ifFailed WL (RO ++ e2) as h = _ ∧ _
  unfold gL_ifFailed
  split
  · rename_i o a1 q
    cases hb : Nat.beq o 38 && Nat.beq q 145 with
    | false => exact fun z => nomatch z
    | true =>
      rw [Bool.and_eq_true_iff] at hb
      obtain rfl := am_beq hb.1
      obtain rfl := am_beq hb.2
      intro _
      refine ⟨[.ref 38, .int a1], ?_, rfl, rfl, fun D x => Nat.le_of_ble_eq_true rfl, ?_, pf_L_ifFailed a1⟩
      · rw [gPl_B rfl]; rfl
      · rw [gPl_B rfl]; exact rvI_i
  · exact fun z => nomatch z
