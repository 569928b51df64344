/-! REFUSALS, on. -/
noncomputable section
section RA
variable {e1 e2 : List Sh} {P : AR → HP → Prop} {h : HP} {S : Sta} {k : Nat} {t tr bl : Int32} {pc g : Nat} {ls st : List Value}
set_option maxRecDepth 100000 in
theorem ra_0 (hs : RS h S) (hk : k < 4) (h1 : ixN t 4 = none) (h2 : rnN t 0 3 = none) (h3 : ixN tr S.1.2 = none) (h4 : hdo (hd S.1.1 S.1.2) bl S.1.2 = none) (hx : S.2.2.2 = []) (hP : ∀ H : HP, (∀ k, k < 1900 → (v_RA h).1 k = H.1 k ∧ (v_RA h).2 k = H.2 k) → (H.1 2000 0).toNatClampNeg ≤ 41 → P (.inl (some (.int 1))) H) : am_Ev m_L_refusesAny (WB ++ e1) (RO ++ e2) P (34, [.ref 38, .int (nI k), .int tr, .int bl, .int t], [], am_si h 2000 0 (nI 0)) := by
  refine am_Ev_G [41] 7 _ ?_
  show am_Ev m_L_refusesAny (WB ++ e1) (RO ++ e2) P (41, [.ref 38, .int (nI k), .int tr, .int bl, .int t], [.long 0, .int 99, .int t, .int 0, .ref 38], am_si h 2000 0 (nI 0))
  refine ra_call (w := 0) (j := 0) (X := xI) rfl hs (by omega) rfl (by omega) (rf_layI h1) hcI ?_
  show am_Ev m_L_refusesAny (WB ++ e1) (RO ++ e2) P (44, [.ref 38, .int (nI k), .int tr, .int bl, .int t], [.int (-11 : Int32)], am_si h 2000 0 (nI 1))
  refine am_Ev_G [46] 3 _ ?_
  show am_Ev m_L_refusesAny (WB ++ e1) (RO ++ e2) P (46, [.ref 38, .int (nI k), .int tr, .int bl, .int t], [.int (-11 : Int32), .int (-11 : Int32)], am_si h 2000 0 (nI 1))
  refine wk_ne rfl rfl ?_
  show am_Ev m_L_refusesAny (WB ++ e1) (RO ++ e2) P (49, [.ref 38, .int (nI k), .int tr, .int bl, .int t], [], am_si h 2000 0 (nI 1))
  refine am_Ev_G [56] 8 _ ?_
  show am_Ev m_L_refusesAny (WB ++ e1) (RO ++ e2) P (56, [.ref 38, .int (nI k), .int tr, .int bl, .int t], [.int 60, .int 0, .int (nI k), .int 3, .int 0, .ref 38], am_si h 2000 0 (nI 1))
  refine ra_far rfl (by omega) rfl ?_
  show am_Ev m_L_refusesAny (WB ++ e1) (RO ++ e2) P (59, [.ref 38, .int (nI k), .int tr, .int bl, .int t], [.int (fv (nI k) 0 60), .int 3, .int 0, .ref 38], am_si h 2000 0 (nI 1))
  refine am_Ev_G [60] 3 _ ?_
  show am_Ev m_L_refusesAny (WB ++ e1) (RO ++ e2) P (60, [.ref 38, .int (nI k), .int tr, .int bl, .int t], [.long 0, .int (fv (nI k) 0 60), .int 3, .int 0, .ref 38], am_si h 2000 0 (nI 1))
  refine ra_call (w := 0) (j := 0) (X := xA) rfl hs (by omega) rfl (by omega) (rf_layA (ixN_nI (t := 3) (N := 4) (by omega) (by omega)) (fv_rn (lo := 0) (hi := 60) hk (by omega) (by omega))) hcA ?_
  show am_Ev m_L_refusesAny (WB ++ e1) (RO ++ e2) P (63, [.ref 38, .int (nI k), .int tr, .int bl, .int t], [.int (-12 : Int32)], am_si h 2000 0 (nI 2))
  refine am_Ev_G [65] 3 _ ?_
  show am_Ev m_L_refusesAny (WB ++ e1) (RO ++ e2) P (65, [.ref 38, .int (nI k), .int tr, .int bl, .int t], [.int (-12 : Int32), .int (-12 : Int32)], am_si h 2000 0 (nI 2))
  refine wk_ne rfl rfl ?_
  show am_Ev m_L_refusesAny (WB ++ e1) (RO ++ e2) P (68, [.ref 38, .int (nI k), .int tr, .int bl, .int t], [], am_si h 2000 0 (nI 2))
  refine am_Ev_G [74] 7 _ ?_
  show am_Ev m_L_refusesAny (WB ++ e1) (RO ++ e2) P (74, [.ref 38, .int (nI k), .int tr, .int bl, .int t], [.long 0, .int 0, .int t, .int 1, .ref 38], am_si h 2000 0 (nI 2))
  refine ra_call (w := 1) (j := 1) (X := xI) rfl hs (by omega) rfl (by omega) (rf_relI h1) hcI ?_
  show am_Ev m_L_refusesAny (WB ++ e1) (RO ++ e2) P (77, [.ref 38, .int (nI k), .int tr, .int bl, .int t], [.int (-11 : Int32)], am_si h 2000 0 (nI 3))
  refine am_Ev_G [79] 3 _ ?_
  show am_Ev m_L_refusesAny (WB ++ e1) (RO ++ e2) P (79, [.ref 38, .int (nI k), .int tr, .int bl, .int t], [.int (-11 : Int32), .int (-11 : Int32)], am_si h 2000 0 (nI 3))
  refine wk_ne rfl rfl ?_
  show am_Ev m_L_refusesAny (WB ++ e1) (RO ++ e2) P (82, [.ref 38, .int (nI k), .int tr, .int bl, .int t], [], am_si h 2000 0 (nI 3))
  refine am_Ev_G [87] 7 _ ?_
  show am_Ev m_L_refusesAny (WB ++ e1) (RO ++ e2) P (87, [.ref 38, .int (nI k), .int tr, .int bl, .int t], [.int 3, .int 0, .int (nI k), .int 2, .ref 38], am_si h 2000 0 (nI 3))
  refine ra_far rfl (by omega) rfl ?_
  show am_Ev m_L_refusesAny (WB ++ e1) (RO ++ e2) P (90, [.ref 38, .int (nI k), .int tr, .int bl, .int t], [.int (fv (nI k) 0 3), .int 2, .ref 38], am_si h 2000 0 (nI 3))
  refine am_Ev_G [92] 4 _ ?_
  show am_Ev m_L_refusesAny (WB ++ e1) (RO ++ e2) P (92, [.ref 38, .int (nI k), .int tr, .int bl, .int t], [.long 1, .int 0, .int (fv (nI k) 0 3), .int 2, .ref 38], am_si h 2000 0 (nI 3))
  refine ra_call (w := 2) (j := 2) (X := xA) rfl hs (by omega) rfl (by omega) (rf_tripA (tl_a (fv_rn (lo := 0) (hi := 3) hk (by omega) (by omega)))) hcA ?_
  show am_Ev m_L_refusesAny (WB ++ e1) (RO ++ e2) P (95, [.ref 38, .int (nI k), .int tr, .int bl, .int t], [.int (-12 : Int32)], am_si h 2000 0 (nI 4))
  refine am_Ev_G [97] 3 _ ?_
  show am_Ev m_L_refusesAny (WB ++ e1) (RO ++ e2) P (97, [.ref 38, .int (nI k), .int tr, .int bl, .int t], [.int (-12 : Int32), .int (-12 : Int32)], am_si h 2000 0 (nI 4))
  refine wk_ne rfl rfl ?_
  show am_Ev m_L_refusesAny (WB ++ e1) (RO ++ e2) P (100, [.ref 38, .int (nI k), .int tr, .int bl, .int t], [], am_si h 2000 0 (nI 4))
  refine am_Ev_G [106] 7 _ ?_
  show am_Ev m_L_refusesAny (WB ++ e1) (RO ++ e2) P (106, [.ref 38, .int (nI k), .int tr, .int bl, .int t], [.long 1, .int t, .int 0, .int 2, .ref 38], am_si h 2000 0 (nI 4))
  refine ra_call (w := 2) (j := 2) (X := xA) rfl hs (by omega) rfl (by omega) (rf_tripA (tl_b h2)) hcA ?_
  show am_Ev m_L_refusesAny (WB ++ e1) (RO ++ e2) P (109, [.ref 38, .int (nI k), .int tr, .int bl, .int t], [.int (-12 : Int32)], am_si h 2000 0 (nI 5))
  refine am_Ev_G [111] 3 _ ?_
  show am_Ev m_L_refusesAny (WB ++ e1) (RO ++ e2) P (111, [.ref 38, .int (nI k), .int tr, .int bl, .int t], [.int (-12 : Int32), .int (-12 : Int32)], am_si h 2000 0 (nI 5))
  refine wk_ne rfl rfl ?_
  show am_Ev m_L_refusesAny (WB ++ e1) (RO ++ e2) P (114, [.ref 38, .int (nI k), .int tr, .int bl, .int t], [], am_si h 2000 0 (nI 5))
  refine am_Ev_G [121] 7 _ ?_
  show am_Ev m_L_refusesAny (WB ++ e1) (RO ++ e2) P (121, [.ref 38, .int (nI k), .int tr, .int bl, .int t], [.long 40000001, .int 0, .int 0, .int 2, .ref 38], am_si h 2000 0 (nI 5))
  refine ra_call (w := 2) (j := 2) (X := xA) rfl hs (by omega) rfl (by omega) (rf_tripA (by decide +kernel)) hcA ?_
  show am_Ev m_L_refusesAny (WB ++ e1) (RO ++ e2) P (124, [.ref 38, .int (nI k), .int tr, .int bl, .int t], [.int (-12 : Int32)], am_si h 2000 0 (nI 6))
  refine am_Ev_G [126] 3 _ ?_
  show am_Ev m_L_refusesAny (WB ++ e1) (RO ++ e2) P (126, [.ref 38, .int (nI k), .int tr, .int bl, .int t], [.int (-12 : Int32), .int (-12 : Int32)], am_si h 2000 0 (nI 6))
  refine wk_ne rfl rfl ?_
  show am_Ev m_L_refusesAny (WB ++ e1) (RO ++ e2) P (129, [.ref 38, .int (nI k), .int tr, .int bl, .int t], [], am_si h 2000 0 (nI 6))
  refine am_Ev_G [136] 7 _ ?_
  show am_Ev m_L_refusesAny (WB ++ e1) (RO ++ e2) P (136, [.ref 38, .int (nI k), .int tr, .int bl, .int t], [.long 1440001, .int 0, .int 0, .int 2, .ref 38], am_si h 2000 0 (nI 6))
  refine ra_call (w := 2) (j := 2) (X := xA) rfl hs (by omega) rfl (by omega) (rf_tripA (by decide +kernel)) hcA ?_
  show am_Ev m_L_refusesAny (WB ++ e1) (RO ++ e2) P (139, [.ref 38, .int (nI k), .int tr, .int bl, .int t], [.int (-12 : Int32)], am_si h 2000 0 (nI 7))
  refine am_Ev_G [141] 3 _ ?_
  show am_Ev m_L_refusesAny (WB ++ e1) (RO ++ e2) P (141, [.ref 38, .int (nI k), .int tr, .int bl, .int t], [.int (-12 : Int32), .int (-12 : Int32)], am_si h 2000 0 (nI 7))
  refine wk_ne rfl rfl ?_
  show am_Ev m_L_refusesAny (WB ++ e1) (RO ++ e2) P (144, [.ref 38, .int (nI k), .int tr, .int bl, .int t], [], am_si h 2000 0 (nI 7))
  refine am_Ev_G [149] 7 _ ?_
  show am_Ev m_L_refusesAny (WB ++ e1) (RO ++ e2) P (149, [.ref 38, .int (nI k), .int tr, .int bl, .int t], [.int (nI k), .int 0, .int 0, .int 2, .ref 38], am_si h 2000 0 (nI 7))
  by_cases ek : nI k = 0
  · refine wk_ifne rfl ek ?_
    refine am_Ev_G [159] 5 _ ?_
    exact ra_1 hs hk h1 h2 h3 h4 hx hP (by decide +kernel)
  · refine wk_ifne1 rfl ek ?_
    refine am_Ev_G [159] 5 _ ?_
    exact ra_1 hs hk h1 h2 h3 h4 hx hP (by decide +kernel)
set_option maxRecDepth 100000 in
theorem ra_all (hs : RS h S) (hk : k < 4) (hx : S.2.2.2 = []) (hP : ∀ H : HP, (∀ k, k < 1900 → (v_RA h).1 k = H.1 k ∧ (v_RA h).2 k = H.2 k) → (H.1 2000 0).toNatClampNeg ≤ 41 → P (.inl (some (.int 1))) H) : am_Ev m_L_refusesAny (WB ++ e1) (RO ++ e2) P (0, [.ref 38, .int (nI k), .retAddr 0, .retAddr 0, .retAddr 0], [], am_si h 2000 0 (nI 0)) := by
  have h6 := hs.1.2.n20
  have h7 := cn_le (hd S.1.1 S.1.2) S.1.2
  refine am_Ev_G [4] 6 _ ?_
  show am_Ev m_L_refusesAny (WB ++ e1) (RO ++ e2) P (4, [.ref 38, .int (nI k), .retAddr 0, .retAddr 0, .retAddr 0], [.int 0, .ref 38, .int 0, .int (nI k)], am_si h 2000 0 (nI 0))
  refine ra_cnt (c := 0) rfl hs (by omega) rfl (by omega) (cnt0 _) ?_
  show am_Ev m_L_refusesAny (WB ++ e1) (RO ++ e2) P (7, [.ref 38, .int (nI k), .retAddr 0, .retAddr 0, .retAddr 0], [.int (nI S.1.2), .int 0, .int (nI k)], am_si h 2000 0 (nI 0))
  refine am_Ev_G [9] 4 _ ?_
  show am_Ev m_L_refusesAny (WB ++ e1) (RO ++ e2) P (9, [.ref 38, .int (nI k), .retAddr 0, .retAddr 0, .retAddr 0], [.int ((nI S.1.2) - 1), .int 0, .int (nI k)], am_si h 2000 0 (nI 0))
  refine ra_far rfl (by omega) rfl ?_
  show am_Ev m_L_refusesAny (WB ++ e1) (RO ++ e2) P (12, [.ref 38, .int (nI k), .retAddr 0, .retAddr 0, .retAddr 0], [.int (fv (nI k) 0 ((nI S.1.2) - 1))], am_si h 2000 0 (nI 0))
  refine am_Ev_G [17] 7 _ ?_
  show am_Ev m_L_refusesAny (WB ++ e1) (RO ++ e2) P (17, [.ref 38, .int (nI k), .int (fv (nI k) 0 ((nI S.1.2) - 1)), .retAddr 0, .retAddr 0], [.int 2, .ref 38, .int 0, .int (nI k)], am_si h 2000 0 (nI 0))
  refine ra_cnt (c := 2) rfl hs (by omega) rfl (by omega) (cnt2 _) ?_
  show am_Ev m_L_refusesAny (WB ++ e1) (RO ++ e2) P (20, [.ref 38, .int (nI k), .int (fv (nI k) 0 ((nI S.1.2) - 1)), .retAddr 0, .retAddr 0], [.int (nI (cn (hd S.1.1 S.1.2) S.1.2)), .int 0, .int (nI k)], am_si h 2000 0 (nI 0))
  refine am_Ev_G [22] 4 _ ?_
  show am_Ev m_L_refusesAny (WB ++ e1) (RO ++ e2) P (22, [.ref 38, .int (nI k), .int (fv (nI k) 0 ((nI S.1.2) - 1)), .retAddr 0, .retAddr 0], [.int ((nI (cn (hd S.1.1 S.1.2) S.1.2)) - 1), .int 0, .int (nI k)], am_si h 2000 0 (nI 0))
  refine ra_far rfl (by omega) rfl ?_
  show am_Ev m_L_refusesAny (WB ++ e1) (RO ++ e2) P (25, [.ref 38, .int (nI k), .int (fv (nI k) 0 ((nI S.1.2) - 1)), .retAddr 0, .retAddr 0], [.int (fv (nI k) 0 ((nI (cn (hd S.1.1 S.1.2) S.1.2)) - 1))], am_si h 2000 0 (nI 0))
  refine am_Ev_G [29] 6 _ ?_
  show am_Ev m_L_refusesAny (WB ++ e1) (RO ++ e2) P (29, [.ref 38, .int (nI k), .int (fv (nI k) 0 ((nI S.1.2) - 1)), .int (fv (nI k) 0 ((nI (cn (hd S.1.1 S.1.2) S.1.2)) - 1)), .retAddr 0], [.int 3, .int 0, .int (nI k)], am_si h 2000 0 (nI 0))
  refine ra_far rfl (by omega) rfl ?_
  show am_Ev m_L_refusesAny (WB ++ e1) (RO ++ e2) P (32, [.ref 38, .int (nI k), .int (fv (nI k) 0 ((nI S.1.2) - 1)), .int (fv (nI k) 0 ((nI (cn (hd S.1.1 S.1.2) S.1.2)) - 1)), .retAddr 0], [.int (fv (nI k) 0 3)], am_si h 2000 0 (nI 0))
  refine am_Ev_G [34] 3 _ ?_
  show am_Ev m_L_refusesAny (WB ++ e1) (RO ++ e2) P (34, [.ref 38, .int (nI k), .int (fv (nI k) 0 ((nI S.1.2) - 1)), .int (fv (nI k) 0 ((nI (cn (hd S.1.1 S.1.2) S.1.2)) - 1)), .int (fv (nI k) 0 3)], [], am_si h 2000 0 (nI 0))
  exact ra_0 hs hk (fv_ix (n := 4) hk (by omega)) (fv_rn (lo := 0) (hi := 3) hk (by omega) (by omega)) (fv_ix hk (by omega)) (fv_hd hk h6) hx hP
end RA
end
