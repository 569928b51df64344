/-! BODIES that make an object and run: their contracts (written by gen/body31.py). -/
def ad0 (t : Nat → Nat) : Nat → Nat := adI t 0 (fun _ _ => 0) (fun _ => 0) (fun _ _ => 0) (fun _ _ => 0) 0
theorem ad_row {t : Nat → Nat} {a0 : Nat} {u : Nat → Nat → Nat} {a : Nat → Nat} {v6 v7 : Nat → Nat → Nat} {ao : Nat} : ∀ j, j < 5 → adI t a0 u a v6 v7 ao (1000 + j) = t j := fun j hj => match j, hj with | 0, _ => rfl | 1, _ => rfl | 2, _ => rfl | 3, _ => rfl | 4, _ => rfl | j + 5, z => absurd z (by omega)
theorem hI_row {n n' : Nat} {xs xs' : Nat → Int32} : ∀ j, j < 5 → (hI n xs).1 (1000 + j) = (hI n' xs').1 (1000 + j) := fun j hj => match j, hj with | 0, _ => rfl | 1, _ => rfl | 2, _ => rfl | 3, _ => rfl | 4, _ => rfl | j + 5, z => absurd z (by omega)
theorem am_Z.ad {ad ad' G : Nat → Nat} {U : State} {H : Heap} (h : am_Z ad G U H) (e : ∀ j, j < 5 → ad' (1000 + j) = ad (1000 + j)) : am_Z ad' G U H := by
  obtain ⟨h1, h2, h3, h4⟩ := h
  have z0 := h3 ("FIRST_LAYOVERS", 1000) (.head _)
  have z1 := h3 ("FIRST_RELIEFS", 1001) (.tail _ (.head _))
  have z2 := h3 ("LEAST_VALUES", 1002) (.tail _ (.tail _ (.head _)))
  have z3 := h3 ("MOST_VALUES", 1003) (.tail _ (.tail _ (.tail _ (.head _))))
  have z4 := h3 ("FIRST_VALUES", 1004) (.tail _ (.tail _ (.tail _ (.tail _ (.head _)))))
  refine ⟨h1, h2, am_c ?_ (am_c ?_ (am_c ?_ (am_c ?_ (am_c ?_ am_n)))), h4⟩
  · show va_Z "BusBlocks" "FIRST_LAYOVERS" "[I" (.ref (ad' (1000 + 0))) _ U H
    rw [e 0 (by omega)]; exact z0
  · show va_Z "BusBlocks" "FIRST_RELIEFS" "[I" (.ref (ad' (1000 + 1))) _ U H
    rw [e 1 (by omega)]; exact z1
  · show va_Z "BusBlocks" "LEAST_VALUES" "[I" (.ref (ad' (1000 + 2))) _ U H
    rw [e 2 (by omega)]; exact z2
  · show va_Z "BusBlocks" "MOST_VALUES" "[I" (.ref (ad' (1000 + 3))) _ U H
    rw [e 3 (by omega)]; exact z3
  · show va_Z "BusBlocks" "FIRST_VALUES" "[I" (.ref (ad' (1000 + 4))) _ U H
    rw [e 4 (by omega)]; exact z4
/-- a body's contract: it answers 1 -/
def Cs (l : Launch) (D : va_G) (G t : Nat → Nat) (xs : Nat → Int32) (y : MethodName) (cc : ByteArray) (mL fr lo : Nat) : Prop :=
  Met l y (Cond.code y cc mL (some .boolean) :: am_U) { frames := fr, cells := 1001, slots := 8106, locals := lo } (va_Pc [] (ScC D G (ad0 t) (hI 200 xs))) (va_Qi (fun r (_ : Unit) => r = 1) (fun _ _ => True) (am_A G)) 1001 8106 (am_A G)
theorem Cs.blind {D : va_G} {G ad : Nat → Nat} {h : HP} : FrameBlind (va_Pc [] (ScC D G ad h)) := fun a U g mk hq => by
  obtain ⟨q0, ⟨qW, qK, qZ, qG⟩, qA⟩ := hq
  exact ⟨q0, ⟨qW, va_K.moved (u := U) (U := U.calling g mk a) (Vm.Alike.refl U.vm) qK, am_Z.moved (u := U) (U := U.calling g mk a) (Vm.Alike.refl U.vm) (State.WarmedH.refl U) qZ, qG⟩, va_AO.moved (u := U) (U := U.calling g mk a) (Vm.Alike.refl U.vm) qA⟩
theorem ro_at {j : Nat} {s : Sh} (h : RO[j]? = some s) : s = (5, 4, []) := by
  have hj : j < 5 := (List.getElem?_eq_some_iff.mp h).1
  match j, hj with
  | 0, _ => exact (Option.some.inj h).symm
  | 1, _ => exact (Option.some.inj h).symm
  | 2, _ => exact (Option.some.inj h).symm
  | 3, _ => exact (Option.some.inj h).symm
  | 4, _ => exact (Option.some.inj h).symm
  | j + 5, z => omega
set_option maxHeartbeats 8000000 in
set_option maxRecDepth 100000 in
theorem body_cs {l : Launch} {D : va_G} {G t : Nat → Nat} {xs : Nat → Int32} {y : MethodName} {cc : ByteArray} {mL fr lo : Nat} {M : MI} (hy : y.cls = RL) (hpn : plainName y.cls = true) (hGA : ∀ x, am_A G x ↔ G 4 ≤ x) (hc5 : ∀ j, j < 5 → D.1 (10 + j) = G 0)
    (d0 : decode cc 0 = .ok (.new 18, 3)) (d3 : decode cc 3 = .ok (.dup, 1)) (d4 : decode cc 4 = .ok (.invokespecial 134, 3)) (d7 : decode cc 7 = .ok (.astore_n 0, 1))
    (hmL : 1 ≤ mL) (hM : am_Mok RL cc M) (hok : ∀ q ∈ m_inv M, am_Ok l WB RO q.2) (hrt : m_rt M = some .boolean) (hB : m_B M = 1001) (hbud : ∀ h, m_bud M h = (h.1 2000 0).toNatClampNeg) (hthr : m_thr M = []) (hhd : m_hdl M = []) (hfr : m_fr M ≤ fr) (hlo : m_lo M ≤ lo) (hf4 : 4 ≤ fr) (hl4 : 8 + (2 + 11) + 64 ≤ lo)
    (hev : ∀ H, At H ((tl qN, 0), [], (none, none), []) 200 → am_Ev M WB RO RQ (8, .ref 38 :: List.replicate (mL - 1) (.retAddr 0), [], H)) : Cs l D G t xs y cc mL fr lo := by
  have hGm : ∀ x, G 4 ≤ x → am_A G x := fun x hx => (hGA x).mpr hx
  refine Met.ofW (cc := cc) (maxL := mL) (ret := some .boolean) hpn rfl ?_
  intro p e s m args below meth c s₁ B hml hv
  obtain ⟨rfl, hS0⟩ := hv
  obtain ⟨⟨hWr, hK, hZ, hG⟩, hAO⟩ := id hS0
  have hx := B.exec
  have hb := B.bytes
  have hr := B.returns
  have hts0 := atoms_spec (ws := Cond.code y cc mL (some .boolean) :: am_U) B.pre
  have hts : ∀ w ∈ am_U, w.before ([] : List Value).toArray s = true := fun w hw => hts0 w (List.mem_cons_of_mem _ hw)
  have hown : s.vm.findClass RL = some m.cls := by rw [← hy]; exact findClass_of_methodNamed B.named
  have hlocks := B.notSynchronized
  have hA1 : ∀ q : Nat, s.heap.size ≤ q → am_A G q := fun q hq => hGm q (Nat.le_trans hG.1 hq)
  have hAG : ∀ x, am_A G x → G 4 ≤ x ∧ am_A G x := fun x hx' => ⟨(hGA x).mp hx', hx'⟩
  have hS : va_S (am_A G) s.heap s.heap [] := va_S.rf
  have hP : va_P D vwCl [] s.heap := fun k q h => by simp at h
  have hD : va_D (am_A G) [] := ⟨fun i j p q h => by simp at h, fun k q h => by simp at h⟩
  have hT : CtT l D G (ad0 t) (hI 200 xs) := fun q hq => ct_T hGm hc5 q hq
  have hl := lv_entry ([] : List Value) (n := mL) (Nat.zero_le _)
  rw [lg_entry_eq]
  generalize (lg_sl ([] : List Value) ++ List.replicate (mL - (lg_sl ([] : List Value)).length) Slot.unset).toArray = ls at hl ⊢
  have hl : lv_has ls mL [] := hl
  have hR : (headSpec (Cond.code y cc mL (some .boolean) :: am_U) { frames := fr, cells := 1001, slots := 8106, locals := lo }).room = { frames := fr, cells := 1001, slots := 8106, locals := lo } := rfl
  refine va_new (fs := [.null, .null, .null, .null, .null, .null, .null, .null, .int 0, .int 0]) (ci := 5) hx hb hts (am_clsU (ci := 5) rfl) tyX5 tyX5_ok hown (hts _ (am_tb 16 (by decide +kernel) rfl)) (hts _ (am_tb 17 (by decide +kernel) rfl)) (hts _ (am_tb 1 (by decide +kernel) rfl)) hK hP hD hS hA1 rfl (fun j hj => match j, hj with | 0, _ => rfl | 1, _ => rfl | 2, _ => rfl | 3, _ => rfl | 4, _ => rfl | 5, _ => rfl | 6, _ => rfl | 7, _ => rfl | 8, _ => rfl | 9, _ => rfl | j + 10, z => absurd z (by omega)) (Nat.le_of_ble_eq_true rfl) (Nat.le_of_ble_eq_true rfl) d0 (fun a0 H hPn hDn hS => ?_)
  refine lv_dup hx hb d3 rfl ?_
  refine cr_callI (own := RL) (X := []) (As := []) (n := 0) (rest := [.ref a0]) hx hb (hl.1.trans hml.symm) hown hts (ct_B hGm hc5 hT a0 (hAG _ (hDn.2 0 _ rfl)).1) hS0 hAG hPn hDn hS hA1 rfl ⟨by decide, by decide⟩ rfl (by decide +kernel) (am_tb 20 (by decide +kernel) rfl) (am_tb 1 (by decide +kernel) rfl) (am_tb 18 (by decide +kernel) rfl) (am_tb 19 (by decide +kernel) rfl) hf4 hl4 (Nat.le_of_ble_eq_true rfl) (Nat.le_of_ble_eq_true rfl) (Nat.le_of_ble_eq_true rfl) d4 (fun w H locs hw hP hD hS => ?_)
  obtain ⟨u, a, v6, v7, rfl⟩ := hw
  have hP : va_P D vwCl (wBc G (hI 200 xs) a0 u a v6 v7) H := hP
  have hD : va_D (am_A G) (wBc G (hI 200 xs) a0 u a v6 v7) := hD
  refine lv_astore_n hx hb d7 rfl hl hmL rfl (fun ls hl => ?_)
  have hl : lv_has ls mL [(0, .ref a0)] := hl
  obtain ⟨hP, hD⟩ := wY_WB (t := t) (ao := 0) hP hD
  have hW : am_W D G (adI t a0 u a v6 v7 0) (hI 200 xs) WB RO H := by
    refine ⟨hP, hD, fun j s' hj => ?_, oks_WB⟩
    obtain rfl := ro_at hj
    have hj5 : j < 5 := (List.getElem?_eq_some_iff.mp hj).1
    obtain ⟨w1, w2, w3⟩ := hWr.2.2.1 j _ hj
    rw [show ad0 t (1000 + j) = t j from ad_row j hj5] at w1 w2
    rw [ad_row j hj5]
    exact ⟨w1.kept (hS.2.1 _ w1.lt w2.2), w2, rfl⟩
  have hZ' : am_Z (adI t a0 u a v6 v7 0) G s s.heap := hZ.ad (fun j hj => by rw [ad_row j hj, show ad0 t (1000 + j) = t j from ad_row j hj])
  have hE : am_End p l e { frames := fr, cells := 1001, slots := 8106, locals := lo } s m ([] : List Value).toArray below meth c D G (adI t a0 u a v6 v7 0) WB RO M 2100 cc RQ (MQ below (va_Qi (fun r (_ : Unit) => r = 1) (fun _ _ => True) (am_A G)) ([] : List Value).toArray s 1001 8106 (am_A G)) := by
    refine ⟨?_, ?_, ?_, ?_, ?_, ?_⟩
    · intro v h pc A H locs _ hP hdg hW hS
      obtain ⟨p1, p2⟩ := hP
      cases p1
      have hle : m_bud M h ≤ 1000 := by rw [hbud]; exact p2
      refine W.widen (k := 1001) (n := 8106) (by omega) (by omega) ?_
      exact W.zret hx hb hr (ty := .boolean) rfl (fun t ht _ => ⟨⟨1, (), rfl, rfl, trivial⟩, hS.F ht⟩) hS.2.2 hdg
    · intro v h pc A H locs h1
      rw [hrt] at h1; cases h1
    · intro v h pc A H locs h1
      rw [hrt] at h1; cases h1
    · intro h pc A H locs h1
      rw [hrt] at h1; cases h1
    · intro E h pc i xq A st H locs h1
      rw [hthr] at h1
      cases (show (none : Option String) = some E from h1)
    · intro E h0 h pc A st ce q H locs hP
      rw [hhd] at hP
      exact absurd (show RQ (.inr E) h from hP).1 (fun z => nomatch z)
  have k := hev _ (at_ini 200 xs) (am_X p l e { frames := fr, cells := 1001, slots := 8106, locals := lo } s m ([] : List Value).toArray below meth c D G (adI t a0 u a v6 v7 0) WB RO M 2100 (MQ below (va_Qi (fun r (_ : Unit) => r = 1) (fun _ _ => True) (am_A G)) ([] : List Value).toArray s 1001 8106 (am_A G)))
    (fun d hd => am_core (own := RL) hx hb hown hts hG hK hZ' hM hok hfr hlo (by rw [hB]; exact Nat.le_refl _) (by rw [hB]; exact Nat.le_refl _) (fun h o k ho => ⟨fun x => by rw [hbud, hbud, am_si_ne (by omega)], fun x => by rw [hbud, hbud]⟩) hE d hd) am_X_fg
  have hh : am_has (adI t a0 u a v6 v7 0) (.ref 38 :: List.replicate (mL - 1) (.retAddr 0)) ls := by
    refine am_has.mono hl (by rw [List.length_cons, List.length_replicate]; omega) (fun z hz => ?_)
    obtain ⟨v, h1, h2, h3⟩ := am_lv_mem.mp hz
    obtain ⟨i, w⟩ := z
    dsimp only at h1 h3
    match i, h1 with
    | 0, h1 =>
      cases h1
      have e : w = .ref a0 := h3
      subst e
      simp
    | i + 1, h1 =>
      rw [List.getElem?_cons_succ, List.getElem?_replicate] at h1
      split at h1
      · cases h1; cases h2
      · cases h1
  have k2 := k 0 ls H locs (by rw [List.length_cons, List.length_replicate, hml]; omega) hh hW hS
  have e1 : m_bud M (hI 200 xs) = 200 := by
    rw [hbud]
    show (nI 200).toNatClampNeg = 200
    exact nI_clamp (by omega)
  dsimp only at k2
  rw [e1] at k2
  exact W.widen (k := 200) (n := 2100 + 6 * 200) (Nat.le_of_ble_eq_true rfl) (Nat.le_of_ble_eq_true rfl) k2
theorem ok_four {l : Launch} (hl : l.stackTraces = false) : ∀ q ∈ m_inv m_L_four, am_Ok l WB RO q.2 := by
  have hw : WB.length ≤ 1000 := by decide +kernel
  have hr : RO.length ≤ 900 := by decide
  have he : ([] : List Sh).length ≤ 800 := Nat.zero_le _
  exact am_c (ok_K 0 plB_B hw hr (ok_B_layover hl [] [] 15) nv_layover) (am_c (ok_K 0 plB_B hw hr (ok_B_relief hl [] [] 15) nv_relief) (am_c (ok_K 0 plB_B hw hr (ok_B_trip hl [] [] 15) nv_trip) (am_c (ok_K 0 plB_B hw hr (ok_B_shift hl [] [] 15) nv_shift) (am_c (ok_K 0 plB_B hw hr (ok_B_set hl [] [] 15) nv_set) (am_c (ok_K 0 plB_B hw hr (ok_B_follow hl [] [] 15) nv_follow) (am_c (ok_K 0 plB_B hw hr (ok_B_part hl [] [] 15) nv_part) (am_c (ok_K 0 plB_B hw hr (ok_B_blockAll hl [] [] 15) nv_blockAll) (am_c (ok_K 0 plB_B hw hr (ok_B_fail hl [] [] 15) nv_fail) (am_c (ok_K 0 plB_B hw hr (ok_B_keep hl [] [] 15) nv_keep) (am_c (ok_K 0 plB_B hw hr (ok_B_goBack hl [] [] 15) nv_goBack) (am_c (ok_K 0 plB_B hw hr (ok_B_undo hl [] [] 15) nv_undo) (am_c (ok_K 0 plB_B hw hr (ok_B_terminalOf hl [] [] 15) nv_terminalOf) (am_c (ok_K 0 plB_B hw hr (ok_B_tripOf hl [] [] 15) nv_tripOf) (am_c (ok_K 0 plB_B hw hr (ok_B_blockOf hl [] [] 15) nv_blockOf) (am_c (ok_K 0 plB_B hw hr (ok_B_duty hl [] [] 15) nv_duty) (am_c (ok_K 0 plB_B hw hr (ok_B_count hl [] [] 15) nv_count) (am_c (ok_K 0 plB_B hw hr (ok_B_whyNot hl [] [] 15) nv_whyNot) (am_c (ok_K 0 plB_B hw hr (ok_B_ifTrip hl [] [] 15) nv_ifTrip) (am_c (ok_K 0 plB_B hw hr (ok_B_bestTime hl [] [] 15) nv_bestTime) (am_c (ok_K 0 plB_B hw hr (ok_B_ifFailed hl [] [] 15) nv_ifFailed) (am_c (ok_K 1 plB_B hw hr (ok_L_call hl [] []) nv_call) (am_c (ok_K 0 plB_B hw hr (ok_B_drivenShare hl [] [] 15) nv_drivenShare) (am_c (ok_K 164 plB_B hw hr (ok_L_refused hl he 0) nv_refused) (am_n))))))))))))))))))))))))
theorem cs_four {l : Launch} (hl : l.stackTraces = false) {D : va_G} {G t : Nat → Nat} {xs : Nat → Int32} (hGA : ∀ x, am_A G x ↔ G 4 ≤ x) (hc5 : ∀ j, j < 5 → D.1 (10 + j) = G 0) : Cs l D G t xs yL_four cL_four 1 12 250 :=
  body_cs (M := m_L_four) rfl (by decide) hGA hc5 (by decide +kernel) (by decide +kernel) (by decide +kernel) (by decide +kernel) (Nat.le_of_ble_eq_true rfl) mok_L_four (ok_four hl) rfl rfl (fun _ => rfl) rfl rfl (Nat.le_refl _) (Nat.le_refl _) (Nat.le_of_ble_eq_true rfl) (Nat.le_of_ble_eq_true rfl) (fun H ha => four_c0 ha)
theorem ok_many {l : Launch} (hl : l.stackTraces = false) : ∀ q ∈ m_inv m_L_many, am_Ok l WB RO q.2 := by
  have hw : WB.length ≤ 1000 := by decide +kernel
  have hr : RO.length ≤ 900 := by decide
  have he : ([] : List Sh).length ≤ 800 := Nat.zero_le _
  exact am_c (ok_K 0 plB_B hw hr (ok_B_trip hl [] [] 15) nv_trip) (am_c (ok_K 0 plB_B hw hr (ok_B_set hl [] [] 15) nv_set) (am_c (ok_K 0 plB_B hw hr (ok_B_blockAll hl [] [] 15) nv_blockAll) (am_c (ok_K 0 plB_B hw hr (ok_B_fail hl [] [] 15) nv_fail) (am_c (ok_K 0 plB_B hw hr (ok_B_tripOf hl [] [] 15) nv_tripOf) (am_c (ok_K 0 plB_B hw hr (ok_B_blockOf hl [] [] 15) nv_blockOf) (am_c (ok_K 0 plB_B hw hr (ok_B_duty hl [] [] 15) nv_duty) (am_c (ok_K 0 plB_B hw hr (ok_B_count hl [] [] 15) nv_count) (am_c (ok_K 0 plB_B hw hr (ok_B_ifFailed hl [] [] 15) nv_ifFailed) (am_c (ok_K 1 plB_B hw hr (ok_L_call hl [] []) nv_call) (am_n))))))))))
theorem cs_many {l : Launch} (hl : l.stackTraces = false) {D : va_G} {G t : Nat → Nat} {xs : Nat → Int32} (hGA : ∀ x, am_A G x ↔ G 4 ≤ x) (hc5 : ∀ j, j < 5 → D.1 (10 + j) = G 0) : Cs l D G t xs yL_many cL_many 2 10 198 :=
  body_cs (M := m_L_many) rfl (by decide) hGA hc5 (by decide +kernel) (by decide +kernel) (by decide +kernel) (by decide +kernel) (Nat.le_of_ble_eq_true rfl) mok_L_many (ok_many hl) rfl rfl (fun _ => rfl) rfl rfl (Nat.le_refl _) (Nat.le_refl _) (Nat.le_of_ble_eq_true rfl) (Nat.le_of_ble_eq_true rfl) (fun H ha => many_c0 ha)
theorem ok_texts {l : Launch} (hl : l.stackTraces = false) : ∀ q ∈ m_inv m_L_texts, am_Ok l WB RO q.2 := by
  have hw : WB.length ≤ 1000 := by decide +kernel
  have hr : RO.length ≤ 900 := by decide
  have he : ([] : List Sh).length ≤ 800 := Nat.zero_le _
  exact am_c (ok_K 0 plB_B hw hr (ok_B_trip hl [] [] 15) nv_trip) (am_c (ok_K 0 plB_B hw hr (ok_B_load hl [] [] 15) nv_load) (am_c (ok_K 0 plB_B hw hr (ok_B_undo hl [] [] 15) nv_undo) (am_c (ok_K 0 plB_B hw hr (ok_B_tripOf hl [] [] 15) nv_tripOf) (am_c (ok_K 0 plB_B hw hr (ok_B_count hl [] [] 15) nv_count) (am_c (ok_K 1 plB_B hw hr (ok_L_call hl [] []) nv_call) (am_c (ok_K 0 plB_B hw hr (ok_B_clearBuffer hl [] [] 15) nv_clearBuffer) (am_c (ok_K 0 plB_B hw hr (ok_L_types hl [] [] 0) nv_types) (am_c (ok_K 0 plB_B hw hr (ok_B_firstError hl [] [] 15) nv_firstError) (am_c (ok_K 0 plB_B hw hr (ok_L_isError hl [] [] 0) nv_isError) (am_n))))))))))
theorem cs_texts {l : Launch} (hl : l.stackTraces = false) {D : va_G} {G t : Nat → Nat} {xs : Nat → Int32} (hGA : ∀ x, am_A G x ↔ G 4 ≤ x) (hc5 : ∀ j, j < 5 → D.1 (10 + j) = G 0) : Cs l D G t xs yL_texts cL_texts 2 10 198 :=
  body_cs (M := m_L_texts) rfl (by decide) hGA hc5 (by decide +kernel) (by decide +kernel) (by decide +kernel) (by decide +kernel) (Nat.le_of_ble_eq_true rfl) mok_L_texts (ok_texts hl) rfl rfl (fun _ => rfl) rfl rfl (Nat.le_refl _) (Nat.le_refl _) (Nat.le_of_ble_eq_true rfl) (Nat.le_of_ble_eq_true rfl) (fun H ha => texts_c0 ha)
