/-! REFUSALS, on. -/
noncomputable section
section RA
variable {e1 e2 : List Sh} {P : AR → HP → Prop} {h : HP} {S : Sta} {k : Nat} {t tr bl : Int32} {pc g : Nat} {ls st : List Value}
/-- the heap behind all refusals: the load has read the text -/
def v_RA (h : HP) : HP := (v_L_call (am_si h 2000 0 (nI 18)) 10 0 0 0).2
set_option maxRecDepth 100000 in
theorem ra_2 (hs : RS h S) (hk : k < 4) (h1 : ixN t 4 = none) (h2 : rnN t 0 3 = none) (h3 : ixN tr S.1.2 = none) (h4 : hdo (hd S.1.1 S.1.2) bl S.1.2 = none) (hP : ∀ H : HP, (∀ k, k < 1900 → h.1 k = H.1 k ∧ h.2 k = H.2 k) → (H.1 2000 0).toNatClampNeg ≤ 41 → P (.inl (some (.int 1))) H) : am_Ev m_L_refusesAny (WB ++ e1) (RO ++ e2) P (343, [.ref 38, .int (nI k), .int tr, .int bl, .int t], [.int (-12 : Int32)], am_si h 2000 0 (nI 19)) := by
  refine am_Ev_G [345] 3 _ ?_
  show am_Ev m_L_refusesAny (WB ++ e1) (RO ++ e2) P (345, [.ref 38, .int (nI k), .int tr, .int bl, .int t], [.int (-12 : Int32), .int (-12 : Int32)], am_si h 2000 0 (nI 19))
  refine wk_ne rfl rfl ?_
  show am_Ev m_L_refusesAny (WB ++ e1) (RO ++ e2) P (348, [.ref 38, .int (nI k), .int tr, .int bl, .int t], [], am_si h 2000 0 (nI 19))
  refine am_Ev_G [354] 7 _ ?_
  show am_Ev m_L_refusesAny (WB ++ e1) (RO ++ e2) P (354, [.ref 38, .int (nI k), .int tr, .int bl, .int t], [.int 1, .int 0, .int (nI k), .int 11, .ref 38], am_si h 2000 0 (nI 19))
  refine ra_far rfl (by omega) rfl ?_
  show am_Ev m_L_refusesAny (WB ++ e1) (RO ++ e2) P (357, [.ref 38, .int (nI k), .int tr, .int bl, .int t], [.int (fv (nI k) 0 1), .int 11, .ref 38], am_si h 2000 0 (nI 19))
  refine am_Ev_G [359] 4 _ ?_
  show am_Ev m_L_refusesAny (WB ++ e1) (RO ++ e2) P (359, [.ref 38, .int (nI k), .int tr, .int bl, .int t], [.long 0, .int 0, .int (fv (nI k) 0 1), .int 11, .ref 38], am_si h 2000 0 (nI 19))
  refine ra_call (w := 11) (j := 11) (X := xA) rfl hs (by omega) rfl (by omega) (rf_keepA (fv_rn (lo := 0) (hi := 1) hk (by omega) (by omega))) hcA ?_
  show am_Ev m_L_refusesAny (WB ++ e1) (RO ++ e2) P (362, [.ref 38, .int (nI k), .int tr, .int bl, .int t], [.int (-12 : Int32)], am_si h 2000 0 (nI 20))
  refine am_Ev_G [364] 3 _ ?_
  show am_Ev m_L_refusesAny (WB ++ e1) (RO ++ e2) P (364, [.ref 38, .int (nI k), .int tr, .int bl, .int t], [.int (-12 : Int32), .int (-12 : Int32)], am_si h 2000 0 (nI 20))
  refine wk_ne rfl rfl ?_
  show am_Ev m_L_refusesAny (WB ++ e1) (RO ++ e2) P (367, [.ref 38, .int (nI k), .int tr, .int bl, .int t], [], am_si h 2000 0 (nI 20))
  refine am_Ev_G [373] 7 _ ?_
  show am_Ev m_L_refusesAny (WB ++ e1) (RO ++ e2) P (373, [.ref 38, .int (nI k), .int tr, .int bl, .int t], [.int 1, .int 0, .int (nI k), .int 12, .ref 38], am_si h 2000 0 (nI 20))
  refine ra_far rfl (by omega) rfl ?_
  show am_Ev m_L_refusesAny (WB ++ e1) (RO ++ e2) P (376, [.ref 38, .int (nI k), .int tr, .int bl, .int t], [.int (fv (nI k) 0 1), .int 12, .ref 38], am_si h 2000 0 (nI 20))
  refine am_Ev_G [378] 4 _ ?_
  show am_Ev m_L_refusesAny (WB ++ e1) (RO ++ e2) P (378, [.ref 38, .int (nI k), .int tr, .int bl, .int t], [.long 0, .int 0, .int (fv (nI k) 0 1), .int 12, .ref 38], am_si h 2000 0 (nI 20))
  refine ra_call (w := 12) (j := 12) (X := xA) rfl hs (by omega) rfl (by omega) (rf_goBackA (fv_rn (lo := 0) (hi := 1) hk (by omega) (by omega))) hcA ?_
  show am_Ev m_L_refusesAny (WB ++ e1) (RO ++ e2) P (381, [.ref 38, .int (nI k), .int tr, .int bl, .int t], [.int (-12 : Int32)], am_si h 2000 0 (nI 21))
  refine am_Ev_G [383] 3 _ ?_
  show am_Ev m_L_refusesAny (WB ++ e1) (RO ++ e2) P (383, [.ref 38, .int (nI k), .int tr, .int bl, .int t], [.int (-12 : Int32), .int (-12 : Int32)], am_si h 2000 0 (nI 21))
  refine wk_eq1 rfl rfl ?_
  show am_Ev m_L_refusesAny (WB ++ e1) (RO ++ e2) P (388, [.ref 38, .int (nI k), .int tr, .int bl, .int t], [], am_si h 2000 0 (nI 21))
  exact ra_3 hs hk h1 h2 h3 h4 hP (by omega)
set_option maxRecDepth 100000 in
theorem ra_1 (hs : RS h S) (hk : k < 4) (h1 : ixN t 4 = none) (h2 : rnN t 0 3 = none) (h3 : ixN tr S.1.2 = none) (h4 : hdo (hd S.1.1 S.1.2) bl S.1.2 = none) (hx : S.2.2.2 = []) (hP : ∀ H : HP, (∀ k, k < 1900 → (v_RA h).1 k = H.1 k ∧ (v_RA h).2 k = H.2 k) → (H.1 2000 0).toNatClampNeg ≤ 41 → P (.inl (some (.int 1))) H) {e : Int64} (he : told 0 0 (mc1 e) (mc2 e) (mc3 e) = false) : am_Ev m_L_refusesAny (WB ++ e1) (RO ++ e2) P (159, [.ref 38, .int (nI k), .int tr, .int bl, .int t], [.long e, .int 0, .int 0, .int 2, .ref 38], am_si h 2000 0 (nI 7)) := by
  refine ra_call (w := 2) (j := 2) (X := xA) rfl hs (by omega) rfl (by omega) (rf_tripA he) hcA ?_
  show am_Ev m_L_refusesAny (WB ++ e1) (RO ++ e2) P (162, [.ref 38, .int (nI k), .int tr, .int bl, .int t], [.int (-12 : Int32)], am_si h 2000 0 (nI 8))
  refine am_Ev_G [164] 3 _ ?_
  show am_Ev m_L_refusesAny (WB ++ e1) (RO ++ e2) P (164, [.ref 38, .int (nI k), .int tr, .int bl, .int t], [.int (-12 : Int32), .int (-12 : Int32)], am_si h 2000 0 (nI 8))
  refine wk_ne rfl rfl ?_
  show am_Ev m_L_refusesAny (WB ++ e1) (RO ++ e2) P (167, [.ref 38, .int (nI k), .int tr, .int bl, .int t], [], am_si h 2000 0 (nI 8))
  refine am_Ev_G [172] 7 _ ?_
  show am_Ev m_L_refusesAny (WB ++ e1) (RO ++ e2) P (172, [.ref 38, .int (nI k), .int tr, .int bl, .int t], [.long 0, .int (-1 : Int32), .int tr, .int 3, .ref 38], am_si h 2000 0 (nI 8))
  refine ra_call (w := 3) (j := 3) (X := xI) rfl hs (by omega) rfl (by omega) (rf_shiftI h3) hcI ?_
  show am_Ev m_L_refusesAny (WB ++ e1) (RO ++ e2) P (175, [.ref 38, .int (nI k), .int tr, .int bl, .int t], [.int (-11 : Int32)], am_si h 2000 0 (nI 9))
  refine am_Ev_G [177] 3 _ ?_
  show am_Ev m_L_refusesAny (WB ++ e1) (RO ++ e2) P (177, [.ref 38, .int (nI k), .int tr, .int bl, .int t], [.int (-11 : Int32), .int (-11 : Int32)], am_si h 2000 0 (nI 9))
  refine wk_ne rfl rfl ?_
  show am_Ev m_L_refusesAny (WB ++ e1) (RO ++ e2) P (180, [.ref 38, .int (nI k), .int tr, .int bl, .int t], [], am_si h 2000 0 (nI 9))
  refine am_Ev_G [186] 7 _ ?_
  show am_Ev m_L_refusesAny (WB ++ e1) (RO ++ e2) P (186, [.ref 38, .int (nI k), .int tr, .int bl, .int t], [.long 0, .int (-1 : Int32), .int t, .int 4, .ref 38], am_si h 2000 0 (nI 9))
  refine ra_call (w := 4) (j := 4) (X := xI) rfl hs (by omega) rfl (by omega) (rf_setI h1) hcI ?_
  show am_Ev m_L_refusesAny (WB ++ e1) (RO ++ e2) P (189, [.ref 38, .int (nI k), .int tr, .int bl, .int t], [.int (-11 : Int32)], am_si h 2000 0 (nI 10))
  refine am_Ev_G [191] 3 _ ?_
  show am_Ev m_L_refusesAny (WB ++ e1) (RO ++ e2) P (191, [.ref 38, .int (nI k), .int tr, .int bl, .int t], [.int (-11 : Int32), .int (-11 : Int32)], am_si h 2000 0 (nI 10))
  refine wk_ne rfl rfl ?_
  show am_Ev m_L_refusesAny (WB ++ e1) (RO ++ e2) P (194, [.ref 38, .int (nI k), .int tr, .int bl, .int t], [], am_si h 2000 0 (nI 10))
  refine am_Ev_G [200] 8 _ ?_
  show am_Ev m_L_refusesAny (WB ++ e1) (RO ++ e2) P (200, [.ref 38, .int (nI k), .int tr, .int bl, .int t], [.int 1, .int 0, .int (nI k), .int 0, .int 4, .ref 38], am_si h 2000 0 (nI 10))
  refine ra_far rfl (by omega) rfl ?_
  show am_Ev m_L_refusesAny (WB ++ e1) (RO ++ e2) P (203, [.ref 38, .int (nI k), .int tr, .int bl, .int t], [.int (fv (nI k) 0 1), .int 0, .int 4, .ref 38], am_si h 2000 0 (nI 10))
  refine am_Ev_G [204] 3 _ ?_
  show am_Ev m_L_refusesAny (WB ++ e1) (RO ++ e2) P (204, [.ref 38, .int (nI k), .int tr, .int bl, .int t], [.long 0, .int (fv (nI k) 0 1), .int 0, .int 4, .ref 38], am_si h 2000 0 (nI 10))
  refine ra_call (w := 4) (j := 4) (X := xA) rfl hs (by omega) rfl (by omega) (rf_setA (ixN_nI (t := 0) (N := 4) (by omega) (by omega)) (fv_rn (lo := 0) (hi := 1) hk (by omega) (by omega))) hcA ?_
  show am_Ev m_L_refusesAny (WB ++ e1) (RO ++ e2) P (207, [.ref 38, .int (nI k), .int tr, .int bl, .int t], [.int (-12 : Int32)], am_si h 2000 0 (nI 11))
  refine am_Ev_G [209] 3 _ ?_
  show am_Ev m_L_refusesAny (WB ++ e1) (RO ++ e2) P (209, [.ref 38, .int (nI k), .int tr, .int bl, .int t], [.int (-12 : Int32), .int (-12 : Int32)], am_si h 2000 0 (nI 11))
  refine wk_ne rfl rfl ?_
  show am_Ev m_L_refusesAny (WB ++ e1) (RO ++ e2) P (212, [.ref 38, .int (nI k), .int tr, .int bl, .int t], [], am_si h 2000 0 (nI 11))
  refine am_Ev_G [221] 8 _ ?_
  show am_Ev m_L_refusesAny (WB ++ e1) (RO ++ e2) P (221, [.ref 38, .int (nI k), .int tr, .int bl, .int t], [.int 900, .int 60, .int (nI k), .int 1, .int 4, .ref 38], am_si h 2000 0 (nI 11))
  refine ra_far rfl (by omega) rfl ?_
  show am_Ev m_L_refusesAny (WB ++ e1) (RO ++ e2) P (224, [.ref 38, .int (nI k), .int tr, .int bl, .int t], [.int (fv (nI k) 60 900), .int 1, .int 4, .ref 38], am_si h 2000 0 (nI 11))
  refine am_Ev_G [225] 3 _ ?_
  show am_Ev m_L_refusesAny (WB ++ e1) (RO ++ e2) P (225, [.ref 38, .int (nI k), .int tr, .int bl, .int t], [.long 0, .int (fv (nI k) 60 900), .int 1, .int 4, .ref 38], am_si h 2000 0 (nI 11))
  refine ra_call (w := 4) (j := 4) (X := xA) rfl hs (by omega) rfl (by omega) (rf_setA (ixN_nI (t := 1) (N := 4) (by omega) (by omega)) (fv_rn (lo := 60) (hi := 900) hk (by omega) (by omega))) hcA ?_
  show am_Ev m_L_refusesAny (WB ++ e1) (RO ++ e2) P (228, [.ref 38, .int (nI k), .int tr, .int bl, .int t], [.int (-12 : Int32)], am_si h 2000 0 (nI 12))
  refine am_Ev_G [230] 3 _ ?_
  show am_Ev m_L_refusesAny (WB ++ e1) (RO ++ e2) P (230, [.ref 38, .int (nI k), .int tr, .int bl, .int t], [.int (-12 : Int32), .int (-12 : Int32)], am_si h 2000 0 (nI 12))
  refine wk_ne rfl rfl ?_
  show am_Ev m_L_refusesAny (WB ++ e1) (RO ++ e2) P (233, [.ref 38, .int (nI k), .int tr, .int bl, .int t], [], am_si h 2000 0 (nI 12))
  refine am_Ev_G [240] 8 _ ?_
  show am_Ev m_L_refusesAny (WB ++ e1) (RO ++ e2) P (240, [.ref 38, .int (nI k), .int tr, .int bl, .int t], [.int 9, .int 0, .int (nI k), .int 2, .int 4, .ref 38], am_si h 2000 0 (nI 12))
  refine ra_far rfl (by omega) rfl ?_
  show am_Ev m_L_refusesAny (WB ++ e1) (RO ++ e2) P (243, [.ref 38, .int (nI k), .int tr, .int bl, .int t], [.int (fv (nI k) 0 9), .int 2, .int 4, .ref 38], am_si h 2000 0 (nI 12))
  refine am_Ev_G [244] 3 _ ?_
  show am_Ev m_L_refusesAny (WB ++ e1) (RO ++ e2) P (244, [.ref 38, .int (nI k), .int tr, .int bl, .int t], [.long 0, .int (fv (nI k) 0 9), .int 2, .int 4, .ref 38], am_si h 2000 0 (nI 12))
  refine ra_call (w := 4) (j := 4) (X := xA) rfl hs (by omega) rfl (by omega) (rf_setA (ixN_nI (t := 2) (N := 4) (by omega) (by omega)) (fv_rn (lo := 0) (hi := 9) hk (by omega) (by omega))) hcA ?_
  show am_Ev m_L_refusesAny (WB ++ e1) (RO ++ e2) P (247, [.ref 38, .int (nI k), .int tr, .int bl, .int t], [.int (-12 : Int32)], am_si h 2000 0 (nI 13))
  refine am_Ev_G [249] 3 _ ?_
  show am_Ev m_L_refusesAny (WB ++ e1) (RO ++ e2) P (249, [.ref 38, .int (nI k), .int tr, .int bl, .int t], [.int (-12 : Int32), .int (-12 : Int32)], am_si h 2000 0 (nI 13))
  refine wk_ne rfl rfl ?_
  show am_Ev m_L_refusesAny (WB ++ e1) (RO ++ e2) P (252, [.ref 38, .int (nI k), .int tr, .int bl, .int t], [], am_si h 2000 0 (nI 13))
  refine am_Ev_G [260] 8 _ ?_
  show am_Ev m_L_refusesAny (WB ++ e1) (RO ++ e2) P (260, [.ref 38, .int (nI k), .int tr, .int bl, .int t], [.int 240, .int 0, .int (nI k), .int 3, .int 4, .ref 38], am_si h 2000 0 (nI 13))
  refine ra_far rfl (by omega) rfl ?_
  show am_Ev m_L_refusesAny (WB ++ e1) (RO ++ e2) P (263, [.ref 38, .int (nI k), .int tr, .int bl, .int t], [.int (fv (nI k) 0 240), .int 3, .int 4, .ref 38], am_si h 2000 0 (nI 13))
  refine am_Ev_G [264] 3 _ ?_
  show am_Ev m_L_refusesAny (WB ++ e1) (RO ++ e2) P (264, [.ref 38, .int (nI k), .int tr, .int bl, .int t], [.long 0, .int (fv (nI k) 0 240), .int 3, .int 4, .ref 38], am_si h 2000 0 (nI 13))
  refine ra_call (w := 4) (j := 4) (X := xA) rfl hs (by omega) rfl (by omega) (rf_setA (ixN_nI (t := 3) (N := 4) (by omega) (by omega)) (fv_rn (lo := 0) (hi := 240) hk (by omega) (by omega))) hcA ?_
  show am_Ev m_L_refusesAny (WB ++ e1) (RO ++ e2) P (267, [.ref 38, .int (nI k), .int tr, .int bl, .int t], [.int (-12 : Int32)], am_si h 2000 0 (nI 14))
  refine am_Ev_G [269] 3 _ ?_
  show am_Ev m_L_refusesAny (WB ++ e1) (RO ++ e2) P (269, [.ref 38, .int (nI k), .int tr, .int bl, .int t], [.int (-12 : Int32), .int (-12 : Int32)], am_si h 2000 0 (nI 14))
  refine wk_ne rfl rfl ?_
  show am_Ev m_L_refusesAny (WB ++ e1) (RO ++ e2) P (272, [.ref 38, .int (nI k), .int tr, .int bl, .int t], [], am_si h 2000 0 (nI 14))
  refine am_Ev_G [277] 7 _ ?_
  show am_Ev m_L_refusesAny (WB ++ e1) (RO ++ e2) P (277, [.ref 38, .int (nI k), .int tr, .int bl, .int t], [.long 0, .int 0, .int tr, .int 5, .ref 38], am_si h 2000 0 (nI 14))
  refine ra_call (w := 5) (j := 5) (X := xI) rfl hs (by omega) rfl (by omega) (rf_followI h3) hcI ?_
  show am_Ev m_L_refusesAny (WB ++ e1) (RO ++ e2) P (280, [.ref 38, .int (nI k), .int tr, .int bl, .int t], [.int (-11 : Int32)], am_si h 2000 0 (nI 15))
  refine am_Ev_G [282] 3 _ ?_
  show am_Ev m_L_refusesAny (WB ++ e1) (RO ++ e2) P (282, [.ref 38, .int (nI k), .int tr, .int bl, .int t], [.int (-11 : Int32), .int (-11 : Int32)], am_si h 2000 0 (nI 15))
  refine wk_ne rfl rfl ?_
  show am_Ev m_L_refusesAny (WB ++ e1) (RO ++ e2) P (285, [.ref 38, .int (nI k), .int tr, .int bl, .int t], [], am_si h 2000 0 (nI 15))
  refine am_Ev_G [291] 7 _ ?_
  show am_Ev m_L_refusesAny (WB ++ e1) (RO ++ e2) P (291, [.ref 38, .int (nI k), .int tr, .int bl, .int t], [.long 0, .int 0, .int tr, .int 6, .ref 38], am_si h 2000 0 (nI 15))
  refine ra_call (w := 6) (j := 6) (X := xI) rfl hs (by omega) rfl (by omega) (rf_partI h3) hcI ?_
  show am_Ev m_L_refusesAny (WB ++ e1) (RO ++ e2) P (294, [.ref 38, .int (nI k), .int tr, .int bl, .int t], [.int (-11 : Int32)], am_si h 2000 0 (nI 16))
  refine am_Ev_G [296] 3 _ ?_
  show am_Ev m_L_refusesAny (WB ++ e1) (RO ++ e2) P (296, [.ref 38, .int (nI k), .int tr, .int bl, .int t], [.int (-11 : Int32), .int (-11 : Int32)], am_si h 2000 0 (nI 16))
  refine wk_ne rfl rfl ?_
  show am_Ev m_L_refusesAny (WB ++ e1) (RO ++ e2) P (299, [.ref 38, .int (nI k), .int tr, .int bl, .int t], [], am_si h 2000 0 (nI 16))
  refine am_Ev_G [305] 7 _ ?_
  show am_Ev m_L_refusesAny (WB ++ e1) (RO ++ e2) P (305, [.ref 38, .int (nI k), .int tr, .int bl, .int t], [.long 0, .int 0, .int tr, .int 8, .ref 38], am_si h 2000 0 (nI 16))
  refine ra_call (w := 8) (j := 8) (X := xI) rfl hs (by omega) rfl (by omega) (rf_failI h3) hcI ?_
  show am_Ev m_L_refusesAny (WB ++ e1) (RO ++ e2) P (308, [.ref 38, .int (nI k), .int tr, .int bl, .int t], [.int (-11 : Int32)], am_si h 2000 0 (nI 17))
  refine am_Ev_G [310] 3 _ ?_
  show am_Ev m_L_refusesAny (WB ++ e1) (RO ++ e2) P (310, [.ref 38, .int (nI k), .int tr, .int bl, .int t], [.int (-11 : Int32), .int (-11 : Int32)], am_si h 2000 0 (nI 17))
  refine wk_ne rfl rfl ?_
  show am_Ev m_L_refusesAny (WB ++ e1) (RO ++ e2) P (313, [.ref 38, .int (nI k), .int tr, .int bl, .int t], [], am_si h 2000 0 (nI 17))
  refine am_Ev_G [321] 7 _ ?_
  show am_Ev m_L_refusesAny (WB ++ e1) (RO ++ e2) P (321, [.ref 38, .int (nI k), .int tr, .int bl, .int t], [.int 126, .int 33, .int (nI k), .int 9, .ref 38], am_si h 2000 0 (nI 17))
  refine ra_far rfl (by omega) rfl ?_
  show am_Ev m_L_refusesAny (WB ++ e1) (RO ++ e2) P (324, [.ref 38, .int (nI k), .int tr, .int bl, .int t], [.int (fv (nI k) 33 126), .int 9, .ref 38], am_si h 2000 0 (nI 17))
  refine am_Ev_G [326] 4 _ ?_
  show am_Ev m_L_refusesAny (WB ++ e1) (RO ++ e2) P (326, [.ref 38, .int (nI k), .int tr, .int bl, .int t], [.long 0, .int 0, .int (fv (nI k) 33 126), .int 9, .ref 38], am_si h 2000 0 (nI 17))
  refine ra_call (w := 9) (j := 9) (X := xA) rfl hs (by omega) rfl (by omega) (rf_appendA (fv_rn (lo := 33) (hi := 126) hk (by omega) (by omega))) hcA ?_
  show am_Ev m_L_refusesAny (WB ++ e1) (RO ++ e2) P (329, [.ref 38, .int (nI k), .int tr, .int bl, .int t], [.int (-12 : Int32)], am_si h 2000 0 (nI 18))
  refine am_Ev_G [331] 3 _ ?_
  show am_Ev m_L_refusesAny (WB ++ e1) (RO ++ e2) P (331, [.ref 38, .int (nI k), .int tr, .int bl, .int t], [.int (-12 : Int32), .int (-12 : Int32)], am_si h 2000 0 (nI 18))
  refine wk_ne rfl rfl ?_
  show am_Ev m_L_refusesAny (WB ++ e1) (RO ++ e2) P (334, [.ref 38, .int (nI k), .int tr, .int bl, .int t], [], am_si h 2000 0 (nI 18))
  refine am_Ev_G [340] 7 _ ?_
  show am_Ev m_L_refusesAny (WB ++ e1) (RO ++ e2) P (340, [.ref 38, .int (nI k), .int tr, .int bl, .int t], [.long 0, .int 0, .int 0, .int 10, .ref 38], am_si h 2000 0 (nI 18))
  show am_Ev m_L_refusesAny (WB ++ e1) (RO ++ e2) P (340, [.ref 38, .int (nI k), .int tr, .int bl, .int t], [.long 0, .int 0, .int 0, .int 10, .ref 38], am_si h 2000 0 (nI 18))
  obtain ⟨f1, f2, f3, f4, f5, f6⟩ := loadE (hs.gs 18) hx (sh := (WB ++ e1)) (ro := (RO ++ e2))
  refine wk_call false (i := 112) (cd := d_L_call) (x := 1) (g := 18) (as := [.ref 38, .int 10, .int 0, .int 0, .long 0]) (v := .int (-12)) (H := v_RA h) rfl rfl rfl rfl (Nat.le_of_ble_eq_true rfl) (fun _ => rfl) (Nat.le_of_ble_eq_true rfl) (by omega) (gs_at h 18) ⟨f1, f2, f3, f4, f5⟩ ?_
  exact ra_2 (h := v_RA h) f6 hk h1 h2 h3 h4 hP
end RA
end
