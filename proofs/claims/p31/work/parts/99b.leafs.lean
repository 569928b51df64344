/-! CONSTRUCTORS that call none but their parent's (printed by wip/whole/gen/ctor.py). -/
theorem va_D_one {q sz : Nat} {ee : va_E} : va_D (va_A [(q, ee)] sz) [(q, ee)] := by
  refine ⟨fun i j a b hi hj _ => ?_, fun k x hk => ?_⟩
  · have h1 := (List.getElem?_eq_some_iff.mp hi).1
    have h2 := (List.getElem?_eq_some_iff.mp hj).1
    simp at h1 h2
    omega
  · exact Or.inl ⟨k, x.2, hk⟩
def wTc (G : Nat → Nat) (h : HP) (q : Nat → Nat) : va_W := [(q 0, .inr (4, [.ref (q 1), .ref (q 2), .ref (q 3), .ref (q 4), .ref (q 5), .ref (q 6), .ref (q 7), .ref (q 8), .ref (q 9), .ref (q 10), .ref (q 11), .int 0, .int 0, .int 0, .int 0])), ((q 1), .inl (G 0, 20, .inl (fun _ => 0))), ((q 2), .inl (G 0, 20, .inl (fun _ => 0))), ((q 3), .inl (G 0, 20, .inl (fun _ => 0))), ((q 4), .inl (G 0, 20, .inl (fun _ => 0))), ((q 5), .inl (G 0, 20, .inl (fun _ => 0))), ((q 6), .inl (G 0, 20, .inl (fun _ => 0))), ((q 7), .inl (G 0, 20, .inl (fun _ => 0))), ((q 8), .inl (G 0, 20, .inl (fun _ => 0))), ((q 9), .inl (G 0, 4, .inl (h.1 1000))), ((q 10), .inl (G 0, 4, .inl (h.1 1001))), ((q 11), .inl (G 0, 4, .inl (h.1 1004)))]
set_option maxHeartbeats 4000000 in
set_option maxRecDepth 100000 in
theorem ct_T {l : Launch} {D : va_G} {G ad : Nat → Nat} {h : HP} (hGm : ∀ x, G 4 ≤ x → am_A G x) (hc5 : ∀ j, j < 5 → D.1 (10 + j) = G 0) (h0 : Nat) (hh0 : G 4 ≤ h0) : Ct l D G ad h yX4_init cX4_init 1 1 16 11 172 h0 (.inr (4, [.null, .null, .null, .null, .null, .null, .null, .null, .null, .null, .null, .int 0, .int 0, .int 0, .int 0])) [] (fun w => ∃ q : Nat → Nat, q 0 = h0 ∧ w = wTc G h q) := by
  intro sz
  refine Met.ofW (cc := cX4_init) (maxL := 1) (ret := none) (by decide) rfl ?_
  intro p e s m args below meth c s₁ B hml hv
  obtain ⟨rfl, hsz, hP, hS0⟩ := hv
  obtain ⟨⟨hWr, hK, hZ, hG⟩, hAO⟩ := id hS0
  have hx := B.exec
  have hb := B.bytes
  have hr := B.returns
  have hts0 := atoms_spec (ws := Cond.code yX4_init cX4_init 1 none :: am_U) B.pre
  have hts : ∀ w ∈ am_U, w.before (.ref h0 :: [] : List Value).toArray s = true := fun w hw => hts0 w (List.mem_cons_of_mem _ hw)
  have hown : s.vm.findClass RX4 = some m.cls := findClass_of_methodNamed B.named
  have hlocks := B.notSynchronized
  have hin : meth.name = "<init>" := (name_of_methodNamed B.named B.method).1
  have hnmI : s.vm.findClass "[I" = some (G 0) := by
    have e9 : "[" ++ FieldType.int.toString = "[I" := by decide +kernel
    have h2 := (hK.2 0 (G 0, .int) rfl).2
    rw [← e9]; exact h2
  subst hsz
  have hD0 : va_D (va_A [(h0, (.inr (4, [.null, .null, .null, .null, .null, .null, .null, .null, .null, .null, .null, .int 0, .int 0, .int 0, .int 0])))] s.heap.size) [(h0, (.inr (4, [.null, .null, .null, .null, .null, .null, .null, .null, .null, .null, .null, .int 0, .int 0, .int 0, .int 0])))] := va_D_one
  generalize hAe : va_A [(h0, (.inr (4, [.null, .null, .null, .null, .null, .null, .null, .null, .null, .null, .null, .int 0, .int 0, .int 0, .int 0])))] s.heap.size = A at hD0 ⊢
  have hA : ∀ q : Nat, s.heap.size ≤ q → A q := fun q hq => by rw [← hAe]; exact Or.inr hq
  have hAG : ∀ x, A x → G 4 ≤ x := fun x hx' => by
    rw [← hAe] at hx'
    rcases hx' with ⟨k, e', hk'⟩ | z
    · match k, hk' with
      | 0, hk' => cases hk'; exact hh0
      | k + 1, hk' => simp at hk'
    · exact Nat.le_trans hG.1 z
  have hAm : ∀ x, A x → am_A G x := fun x hx' => hGm x (hAG x hx')
  have hro : ∀ j (H : Heap) {locs : List Loc}, va_S A s.heap H locs → j < 5 → am_rc D H (ad (1000 + j)) j 4 (h.1 (1000 + j)) := fun j H locs hS hj => by
    obtain ⟨a1, a2, -⟩ := hWr.2.2.1 j (5, 4, []) (by match j, hj with | 0, _ => rfl | 1, _ => rfl | 2, _ => rfl | 3, _ => rfl | 4, _ => rfl | j + 5, z => omega)
    exact a1.kept (hS.2.1 _ a1.lt (fun z => absurd (hAG _ z) (by omega)))
  have hD := hD0
  have hS : va_S A s.heap s.heap [] := va_S.rf
  have hl := lv_entry (.ref h0 :: []) (n := 1) (Nat.le_of_ble_eq_true rfl)
  rw [lg_entry_eq]
  generalize (lg_sl (.ref h0 :: []) ++ List.replicate (1 - (lg_sl (.ref h0 :: [])).length) Slot.unset).toArray = ls at hl ⊢
  have hl : lv_has ls 1 [(0, .ref h0)] := hl
  refine lv_aload_n hx hb (show decode cX4_init 0 = .ok (.aload_n 0, 1) from by decide +kernel) rfl (lv_at hl 0 rfl) ?_
  refine W.objInit hx hb hown (hts _ (am_tb 29 (by decide +kernel) rfl)) (hts _ (am_tb 22 (by decide +kernel) rfl)) (hts _ (am_tb 23 (by decide +kernel) rfl)) rfl (hl.1.trans hml.symm) rfl (show decode cX4_init 1 = .ok (.invokespecial 3, 3) from by decide +kernel) (Nat.le_of_ble_eq_true rfl) (Nat.le_of_ble_eq_true rfl) ?_
  refine W.eq (g2 := F0 m 4 ls []) rfl ?_
  refine lv_aload_n hx hb (show decode cX4_init 4 = .ok (.aload_n 0, 1) from by decide +kernel) rfl (lv_at hl 0 rfl) ?_
  refine lv_bipush hx hb (show decode cX4_init 5 = .ok (.bipush 20, 2) from by decide +kernel) (v := 20) rfl ?_
  refine cr_newi (N := 20) hx hb hts hK hP hD hS hA (by decide) (by decide +kernel) (by omega) (show 0 + 1 ≤ 11 by omega) (show 0 + 20 ≤ 172 by omega) (show decode cX4_init 7 = .ok (.newarray .int, 2) from by decide +kernel) (fun q1 H hP hD hS => ?_)
  have hP : va_P D vwCl [(h0, .inr (4, [.null, .null, .null, .null, .null, .null, .null, .null, .null, .null, .null, .int 0, .int 0, .int 0, .int 0])), (q1, .inl (G 0, 20, .inl (fun _ => 0)))] H := hP
  have hD : va_D A [(h0, .inr (4, [.null, .null, .null, .null, .null, .null, .null, .null, .null, .null, .null, .int 0, .int 0, .int 0, .int 0])), (q1, .inl (G 0, 20, .inl (fun _ => 0)))] := hD
  refine cr_putF (k := 0) (v := .ref q1) (ty := .array .int) hx hb hts (ci := 4) rfl hown hK hP hD hS (by decide) (am_tb 43 (by decide +kernel) rfl) rfl hin rfl (by decide +kernel) rfl rfl (Nat.le_of_ble_eq_true rfl) (show decode cX4_init 9 = .ok (.putfield 9, 3) from by decide +kernel) (fun H locs hP hD hS => ?_)
  have hP : va_P D vwCl [(h0, .inr (4, [.ref q1, .null, .null, .null, .null, .null, .null, .null, .null, .null, .null, .int 0, .int 0, .int 0, .int 0])), (q1, .inl (G 0, 20, .inl (fun _ => 0)))] H := hP
  have hD : va_D A [(h0, .inr (4, [.ref q1, .null, .null, .null, .null, .null, .null, .null, .null, .null, .null, .int 0, .int 0, .int 0, .int 0])), (q1, .inl (G 0, 20, .inl (fun _ => 0)))] := hD
  refine lv_aload_n hx hb (show decode cX4_init 12 = .ok (.aload_n 0, 1) from by decide +kernel) rfl (lv_at hl 0 rfl) ?_
  refine lv_bipush hx hb (show decode cX4_init 13 = .ok (.bipush 20, 2) from by decide +kernel) (v := 20) rfl ?_
  refine cr_newi (N := 20) hx hb hts hK hP hD hS hA (by decide) (by decide +kernel) (by omega) (show 1 + 1 ≤ 11 by omega) (show 20 + 20 ≤ 172 by omega) (show decode cX4_init 15 = .ok (.newarray .int, 2) from by decide +kernel) (fun q2 H hP hD hS => ?_)
  have hP : va_P D vwCl [(h0, .inr (4, [.ref q1, .null, .null, .null, .null, .null, .null, .null, .null, .null, .null, .int 0, .int 0, .int 0, .int 0])), (q1, .inl (G 0, 20, .inl (fun _ => 0))), (q2, .inl (G 0, 20, .inl (fun _ => 0)))] H := hP
  have hD : va_D A [(h0, .inr (4, [.ref q1, .null, .null, .null, .null, .null, .null, .null, .null, .null, .null, .int 0, .int 0, .int 0, .int 0])), (q1, .inl (G 0, 20, .inl (fun _ => 0))), (q2, .inl (G 0, 20, .inl (fun _ => 0)))] := hD
  refine cr_putF (k := 1) (v := .ref q2) (ty := .array .int) hx hb hts (ci := 4) rfl hown hK hP hD hS (by decide) (am_tb 46 (by decide +kernel) rfl) rfl hin rfl (by decide +kernel) rfl rfl (Nat.le_of_ble_eq_true rfl) (show decode cX4_init 17 = .ok (.putfield 15, 3) from by decide +kernel) (fun H locs hP hD hS => ?_)
  have hP : va_P D vwCl [(h0, .inr (4, [.ref q1, .ref q2, .null, .null, .null, .null, .null, .null, .null, .null, .null, .int 0, .int 0, .int 0, .int 0])), (q1, .inl (G 0, 20, .inl (fun _ => 0))), (q2, .inl (G 0, 20, .inl (fun _ => 0)))] H := hP
  have hD : va_D A [(h0, .inr (4, [.ref q1, .ref q2, .null, .null, .null, .null, .null, .null, .null, .null, .null, .int 0, .int 0, .int 0, .int 0])), (q1, .inl (G 0, 20, .inl (fun _ => 0))), (q2, .inl (G 0, 20, .inl (fun _ => 0)))] := hD
  refine lv_aload_n hx hb (show decode cX4_init 20 = .ok (.aload_n 0, 1) from by decide +kernel) rfl (lv_at hl 0 rfl) ?_
  refine lv_bipush hx hb (show decode cX4_init 21 = .ok (.bipush 20, 2) from by decide +kernel) (v := 20) rfl ?_
  refine cr_newi (N := 20) hx hb hts hK hP hD hS hA (by decide) (by decide +kernel) (by omega) (show 2 + 1 ≤ 11 by omega) (show 40 + 20 ≤ 172 by omega) (show decode cX4_init 23 = .ok (.newarray .int, 2) from by decide +kernel) (fun q3 H hP hD hS => ?_)
  have hP : va_P D vwCl [(h0, .inr (4, [.ref q1, .ref q2, .null, .null, .null, .null, .null, .null, .null, .null, .null, .int 0, .int 0, .int 0, .int 0])), (q1, .inl (G 0, 20, .inl (fun _ => 0))), (q2, .inl (G 0, 20, .inl (fun _ => 0))), (q3, .inl (G 0, 20, .inl (fun _ => 0)))] H := hP
  have hD : va_D A [(h0, .inr (4, [.ref q1, .ref q2, .null, .null, .null, .null, .null, .null, .null, .null, .null, .int 0, .int 0, .int 0, .int 0])), (q1, .inl (G 0, 20, .inl (fun _ => 0))), (q2, .inl (G 0, 20, .inl (fun _ => 0))), (q3, .inl (G 0, 20, .inl (fun _ => 0)))] := hD
  refine cr_putF (k := 2) (v := .ref q3) (ty := .array .int) hx hb hts (ci := 4) rfl hown hK hP hD hS (by decide) (am_tb 49 (by decide +kernel) rfl) rfl hin rfl (by decide +kernel) rfl rfl (Nat.le_of_ble_eq_true rfl) (show decode cX4_init 25 = .ok (.putfield 18, 3) from by decide +kernel) (fun H locs hP hD hS => ?_)
  have hP : va_P D vwCl [(h0, .inr (4, [.ref q1, .ref q2, .ref q3, .null, .null, .null, .null, .null, .null, .null, .null, .int 0, .int 0, .int 0, .int 0])), (q1, .inl (G 0, 20, .inl (fun _ => 0))), (q2, .inl (G 0, 20, .inl (fun _ => 0))), (q3, .inl (G 0, 20, .inl (fun _ => 0)))] H := hP
  have hD : va_D A [(h0, .inr (4, [.ref q1, .ref q2, .ref q3, .null, .null, .null, .null, .null, .null, .null, .null, .int 0, .int 0, .int 0, .int 0])), (q1, .inl (G 0, 20, .inl (fun _ => 0))), (q2, .inl (G 0, 20, .inl (fun _ => 0))), (q3, .inl (G 0, 20, .inl (fun _ => 0)))] := hD
  refine lv_aload_n hx hb (show decode cX4_init 28 = .ok (.aload_n 0, 1) from by decide +kernel) rfl (lv_at hl 0 rfl) ?_
  refine lv_bipush hx hb (show decode cX4_init 29 = .ok (.bipush 20, 2) from by decide +kernel) (v := 20) rfl ?_
  refine cr_newi (N := 20) hx hb hts hK hP hD hS hA (by decide) (by decide +kernel) (by omega) (show 3 + 1 ≤ 11 by omega) (show 60 + 20 ≤ 172 by omega) (show decode cX4_init 31 = .ok (.newarray .int, 2) from by decide +kernel) (fun q4 H hP hD hS => ?_)
  have hP : va_P D vwCl [(h0, .inr (4, [.ref q1, .ref q2, .ref q3, .null, .null, .null, .null, .null, .null, .null, .null, .int 0, .int 0, .int 0, .int 0])), (q1, .inl (G 0, 20, .inl (fun _ => 0))), (q2, .inl (G 0, 20, .inl (fun _ => 0))), (q3, .inl (G 0, 20, .inl (fun _ => 0))), (q4, .inl (G 0, 20, .inl (fun _ => 0)))] H := hP
  have hD : va_D A [(h0, .inr (4, [.ref q1, .ref q2, .ref q3, .null, .null, .null, .null, .null, .null, .null, .null, .int 0, .int 0, .int 0, .int 0])), (q1, .inl (G 0, 20, .inl (fun _ => 0))), (q2, .inl (G 0, 20, .inl (fun _ => 0))), (q3, .inl (G 0, 20, .inl (fun _ => 0))), (q4, .inl (G 0, 20, .inl (fun _ => 0)))] := hD
  refine cr_putF (k := 3) (v := .ref q4) (ty := .array .int) hx hb hts (ci := 4) rfl hown hK hP hD hS (by decide) (am_tb 53 (by decide +kernel) rfl) rfl hin rfl (by decide +kernel) rfl rfl (Nat.le_of_ble_eq_true rfl) (show decode cX4_init 33 = .ok (.putfield 21, 3) from by decide +kernel) (fun H locs hP hD hS => ?_)
  have hP : va_P D vwCl [(h0, .inr (4, [.ref q1, .ref q2, .ref q3, .ref q4, .null, .null, .null, .null, .null, .null, .null, .int 0, .int 0, .int 0, .int 0])), (q1, .inl (G 0, 20, .inl (fun _ => 0))), (q2, .inl (G 0, 20, .inl (fun _ => 0))), (q3, .inl (G 0, 20, .inl (fun _ => 0))), (q4, .inl (G 0, 20, .inl (fun _ => 0)))] H := hP
  have hD : va_D A [(h0, .inr (4, [.ref q1, .ref q2, .ref q3, .ref q4, .null, .null, .null, .null, .null, .null, .null, .int 0, .int 0, .int 0, .int 0])), (q1, .inl (G 0, 20, .inl (fun _ => 0))), (q2, .inl (G 0, 20, .inl (fun _ => 0))), (q3, .inl (G 0, 20, .inl (fun _ => 0))), (q4, .inl (G 0, 20, .inl (fun _ => 0)))] := hD
  refine lv_aload_n hx hb (show decode cX4_init 36 = .ok (.aload_n 0, 1) from by decide +kernel) rfl (lv_at hl 0 rfl) ?_
  refine lv_bipush hx hb (show decode cX4_init 37 = .ok (.bipush 20, 2) from by decide +kernel) (v := 20) rfl ?_
  refine cr_newi (N := 20) hx hb hts hK hP hD hS hA (by decide) (by decide +kernel) (by omega) (show 4 + 1 ≤ 11 by omega) (show 80 + 20 ≤ 172 by omega) (show decode cX4_init 39 = .ok (.newarray .int, 2) from by decide +kernel) (fun q5 H hP hD hS => ?_)
  have hP : va_P D vwCl [(h0, .inr (4, [.ref q1, .ref q2, .ref q3, .ref q4, .null, .null, .null, .null, .null, .null, .null, .int 0, .int 0, .int 0, .int 0])), (q1, .inl (G 0, 20, .inl (fun _ => 0))), (q2, .inl (G 0, 20, .inl (fun _ => 0))), (q3, .inl (G 0, 20, .inl (fun _ => 0))), (q4, .inl (G 0, 20, .inl (fun _ => 0))), (q5, .inl (G 0, 20, .inl (fun _ => 0)))] H := hP
  have hD : va_D A [(h0, .inr (4, [.ref q1, .ref q2, .ref q3, .ref q4, .null, .null, .null, .null, .null, .null, .null, .int 0, .int 0, .int 0, .int 0])), (q1, .inl (G 0, 20, .inl (fun _ => 0))), (q2, .inl (G 0, 20, .inl (fun _ => 0))), (q3, .inl (G 0, 20, .inl (fun _ => 0))), (q4, .inl (G 0, 20, .inl (fun _ => 0))), (q5, .inl (G 0, 20, .inl (fun _ => 0)))] := hD
  refine cr_putF (k := 4) (v := .ref q5) (ty := .array .int) hx hb hts (ci := 4) rfl hown hK hP hD hS (by decide) (am_tb 57 (by decide +kernel) rfl) rfl hin rfl (by decide +kernel) rfl rfl (Nat.le_of_ble_eq_true rfl) (show decode cX4_init 41 = .ok (.putfield 24, 3) from by decide +kernel) (fun H locs hP hD hS => ?_)
  have hP : va_P D vwCl [(h0, .inr (4, [.ref q1, .ref q2, .ref q3, .ref q4, .ref q5, .null, .null, .null, .null, .null, .null, .int 0, .int 0, .int 0, .int 0])), (q1, .inl (G 0, 20, .inl (fun _ => 0))), (q2, .inl (G 0, 20, .inl (fun _ => 0))), (q3, .inl (G 0, 20, .inl (fun _ => 0))), (q4, .inl (G 0, 20, .inl (fun _ => 0))), (q5, .inl (G 0, 20, .inl (fun _ => 0)))] H := hP
  have hD : va_D A [(h0, .inr (4, [.ref q1, .ref q2, .ref q3, .ref q4, .ref q5, .null, .null, .null, .null, .null, .null, .int 0, .int 0, .int 0, .int 0])), (q1, .inl (G 0, 20, .inl (fun _ => 0))), (q2, .inl (G 0, 20, .inl (fun _ => 0))), (q3, .inl (G 0, 20, .inl (fun _ => 0))), (q4, .inl (G 0, 20, .inl (fun _ => 0))), (q5, .inl (G 0, 20, .inl (fun _ => 0)))] := hD
  refine lv_aload_n hx hb (show decode cX4_init 44 = .ok (.aload_n 0, 1) from by decide +kernel) rfl (lv_at hl 0 rfl) ?_
  refine lv_bipush hx hb (show decode cX4_init 45 = .ok (.bipush 20, 2) from by decide +kernel) (v := 20) rfl ?_
  refine cr_newi (N := 20) hx hb hts hK hP hD hS hA (by decide) (by decide +kernel) (by omega) (show 5 + 1 ≤ 11 by omega) (show 100 + 20 ≤ 172 by omega) (show decode cX4_init 47 = .ok (.newarray .int, 2) from by decide +kernel) (fun q6 H hP hD hS => ?_)
  have hP : va_P D vwCl [(h0, .inr (4, [.ref q1, .ref q2, .ref q3, .ref q4, .ref q5, .null, .null, .null, .null, .null, .null, .int 0, .int 0, .int 0, .int 0])), (q1, .inl (G 0, 20, .inl (fun _ => 0))), (q2, .inl (G 0, 20, .inl (fun _ => 0))), (q3, .inl (G 0, 20, .inl (fun _ => 0))), (q4, .inl (G 0, 20, .inl (fun _ => 0))), (q5, .inl (G 0, 20, .inl (fun _ => 0))), (q6, .inl (G 0, 20, .inl (fun _ => 0)))] H := hP
  have hD : va_D A [(h0, .inr (4, [.ref q1, .ref q2, .ref q3, .ref q4, .ref q5, .null, .null, .null, .null, .null, .null, .int 0, .int 0, .int 0, .int 0])), (q1, .inl (G 0, 20, .inl (fun _ => 0))), (q2, .inl (G 0, 20, .inl (fun _ => 0))), (q3, .inl (G 0, 20, .inl (fun _ => 0))), (q4, .inl (G 0, 20, .inl (fun _ => 0))), (q5, .inl (G 0, 20, .inl (fun _ => 0))), (q6, .inl (G 0, 20, .inl (fun _ => 0)))] := hD
  refine cr_putF (k := 5) (v := .ref q6) (ty := .array .int) hx hb hts (ci := 4) rfl hown hK hP hD hS (by decide) (am_tb 59 (by decide +kernel) rfl) rfl hin rfl (by decide +kernel) rfl rfl (Nat.le_of_ble_eq_true rfl) (show decode cX4_init 49 = .ok (.putfield 27, 3) from by decide +kernel) (fun H locs hP hD hS => ?_)
  have hP : va_P D vwCl [(h0, .inr (4, [.ref q1, .ref q2, .ref q3, .ref q4, .ref q5, .ref q6, .null, .null, .null, .null, .null, .int 0, .int 0, .int 0, .int 0])), (q1, .inl (G 0, 20, .inl (fun _ => 0))), (q2, .inl (G 0, 20, .inl (fun _ => 0))), (q3, .inl (G 0, 20, .inl (fun _ => 0))), (q4, .inl (G 0, 20, .inl (fun _ => 0))), (q5, .inl (G 0, 20, .inl (fun _ => 0))), (q6, .inl (G 0, 20, .inl (fun _ => 0)))] H := hP
  have hD : va_D A [(h0, .inr (4, [.ref q1, .ref q2, .ref q3, .ref q4, .ref q5, .ref q6, .null, .null, .null, .null, .null, .int 0, .int 0, .int 0, .int 0])), (q1, .inl (G 0, 20, .inl (fun _ => 0))), (q2, .inl (G 0, 20, .inl (fun _ => 0))), (q3, .inl (G 0, 20, .inl (fun _ => 0))), (q4, .inl (G 0, 20, .inl (fun _ => 0))), (q5, .inl (G 0, 20, .inl (fun _ => 0))), (q6, .inl (G 0, 20, .inl (fun _ => 0)))] := hD
  refine lv_aload_n hx hb (show decode cX4_init 52 = .ok (.aload_n 0, 1) from by decide +kernel) rfl (lv_at hl 0 rfl) ?_
  refine lv_bipush hx hb (show decode cX4_init 53 = .ok (.bipush 20, 2) from by decide +kernel) (v := 20) rfl ?_
  refine cr_newi (N := 20) hx hb hts hK hP hD hS hA (by decide) (by decide +kernel) (by omega) (show 6 + 1 ≤ 11 by omega) (show 120 + 20 ≤ 172 by omega) (show decode cX4_init 55 = .ok (.newarray .int, 2) from by decide +kernel) (fun q7 H hP hD hS => ?_)
  have hP : va_P D vwCl [(h0, .inr (4, [.ref q1, .ref q2, .ref q3, .ref q4, .ref q5, .ref q6, .null, .null, .null, .null, .null, .int 0, .int 0, .int 0, .int 0])), (q1, .inl (G 0, 20, .inl (fun _ => 0))), (q2, .inl (G 0, 20, .inl (fun _ => 0))), (q3, .inl (G 0, 20, .inl (fun _ => 0))), (q4, .inl (G 0, 20, .inl (fun _ => 0))), (q5, .inl (G 0, 20, .inl (fun _ => 0))), (q6, .inl (G 0, 20, .inl (fun _ => 0))), (q7, .inl (G 0, 20, .inl (fun _ => 0)))] H := hP
  have hD : va_D A [(h0, .inr (4, [.ref q1, .ref q2, .ref q3, .ref q4, .ref q5, .ref q6, .null, .null, .null, .null, .null, .int 0, .int 0, .int 0, .int 0])), (q1, .inl (G 0, 20, .inl (fun _ => 0))), (q2, .inl (G 0, 20, .inl (fun _ => 0))), (q3, .inl (G 0, 20, .inl (fun _ => 0))), (q4, .inl (G 0, 20, .inl (fun _ => 0))), (q5, .inl (G 0, 20, .inl (fun _ => 0))), (q6, .inl (G 0, 20, .inl (fun _ => 0))), (q7, .inl (G 0, 20, .inl (fun _ => 0)))] := hD
  refine cr_putF (k := 6) (v := .ref q7) (ty := .array .int) hx hb hts (ci := 4) rfl hown hK hP hD hS (by decide) (am_tb 62 (by decide +kernel) rfl) rfl hin rfl (by decide +kernel) rfl rfl (Nat.le_of_ble_eq_true rfl) (show decode cX4_init 57 = .ok (.putfield 30, 3) from by decide +kernel) (fun H locs hP hD hS => ?_)
  have hP : va_P D vwCl [(h0, .inr (4, [.ref q1, .ref q2, .ref q3, .ref q4, .ref q5, .ref q6, .ref q7, .null, .null, .null, .null, .int 0, .int 0, .int 0, .int 0])), (q1, .inl (G 0, 20, .inl (fun _ => 0))), (q2, .inl (G 0, 20, .inl (fun _ => 0))), (q3, .inl (G 0, 20, .inl (fun _ => 0))), (q4, .inl (G 0, 20, .inl (fun _ => 0))), (q5, .inl (G 0, 20, .inl (fun _ => 0))), (q6, .inl (G 0, 20, .inl (fun _ => 0))), (q7, .inl (G 0, 20, .inl (fun _ => 0)))] H := hP
  have hD : va_D A [(h0, .inr (4, [.ref q1, .ref q2, .ref q3, .ref q4, .ref q5, .ref q6, .ref q7, .null, .null, .null, .null, .int 0, .int 0, .int 0, .int 0])), (q1, .inl (G 0, 20, .inl (fun _ => 0))), (q2, .inl (G 0, 20, .inl (fun _ => 0))), (q3, .inl (G 0, 20, .inl (fun _ => 0))), (q4, .inl (G 0, 20, .inl (fun _ => 0))), (q5, .inl (G 0, 20, .inl (fun _ => 0))), (q6, .inl (G 0, 20, .inl (fun _ => 0))), (q7, .inl (G 0, 20, .inl (fun _ => 0)))] := hD
  refine lv_aload_n hx hb (show decode cX4_init 60 = .ok (.aload_n 0, 1) from by decide +kernel) rfl (lv_at hl 0 rfl) ?_
  refine lv_bipush hx hb (show decode cX4_init 61 = .ok (.bipush 20, 2) from by decide +kernel) (v := 20) rfl ?_
  refine cr_newi (N := 20) hx hb hts hK hP hD hS hA (by decide) (by decide +kernel) (by omega) (show 7 + 1 ≤ 11 by omega) (show 140 + 20 ≤ 172 by omega) (show decode cX4_init 63 = .ok (.newarray .int, 2) from by decide +kernel) (fun q8 H hP hD hS => ?_)
  have hP : va_P D vwCl [(h0, .inr (4, [.ref q1, .ref q2, .ref q3, .ref q4, .ref q5, .ref q6, .ref q7, .null, .null, .null, .null, .int 0, .int 0, .int 0, .int 0])), (q1, .inl (G 0, 20, .inl (fun _ => 0))), (q2, .inl (G 0, 20, .inl (fun _ => 0))), (q3, .inl (G 0, 20, .inl (fun _ => 0))), (q4, .inl (G 0, 20, .inl (fun _ => 0))), (q5, .inl (G 0, 20, .inl (fun _ => 0))), (q6, .inl (G 0, 20, .inl (fun _ => 0))), (q7, .inl (G 0, 20, .inl (fun _ => 0))), (q8, .inl (G 0, 20, .inl (fun _ => 0)))] H := hP
  have hD : va_D A [(h0, .inr (4, [.ref q1, .ref q2, .ref q3, .ref q4, .ref q5, .ref q6, .ref q7, .null, .null, .null, .null, .int 0, .int 0, .int 0, .int 0])), (q1, .inl (G 0, 20, .inl (fun _ => 0))), (q2, .inl (G 0, 20, .inl (fun _ => 0))), (q3, .inl (G 0, 20, .inl (fun _ => 0))), (q4, .inl (G 0, 20, .inl (fun _ => 0))), (q5, .inl (G 0, 20, .inl (fun _ => 0))), (q6, .inl (G 0, 20, .inl (fun _ => 0))), (q7, .inl (G 0, 20, .inl (fun _ => 0))), (q8, .inl (G 0, 20, .inl (fun _ => 0)))] := hD
  refine cr_putF (k := 7) (v := .ref q8) (ty := .array .int) hx hb hts (ci := 4) rfl hown hK hP hD hS (by decide) (am_tb 65 (by decide +kernel) rfl) rfl hin rfl (by decide +kernel) rfl rfl (Nat.le_of_ble_eq_true rfl) (show decode cX4_init 65 = .ok (.putfield 33, 3) from by decide +kernel) (fun H locs hP hD hS => ?_)
  have hP : va_P D vwCl [(h0, .inr (4, [.ref q1, .ref q2, .ref q3, .ref q4, .ref q5, .ref q6, .ref q7, .ref q8, .null, .null, .null, .int 0, .int 0, .int 0, .int 0])), (q1, .inl (G 0, 20, .inl (fun _ => 0))), (q2, .inl (G 0, 20, .inl (fun _ => 0))), (q3, .inl (G 0, 20, .inl (fun _ => 0))), (q4, .inl (G 0, 20, .inl (fun _ => 0))), (q5, .inl (G 0, 20, .inl (fun _ => 0))), (q6, .inl (G 0, 20, .inl (fun _ => 0))), (q7, .inl (G 0, 20, .inl (fun _ => 0))), (q8, .inl (G 0, 20, .inl (fun _ => 0)))] H := hP
  have hD : va_D A [(h0, .inr (4, [.ref q1, .ref q2, .ref q3, .ref q4, .ref q5, .ref q6, .ref q7, .ref q8, .null, .null, .null, .int 0, .int 0, .int 0, .int 0])), (q1, .inl (G 0, 20, .inl (fun _ => 0))), (q2, .inl (G 0, 20, .inl (fun _ => 0))), (q3, .inl (G 0, 20, .inl (fun _ => 0))), (q4, .inl (G 0, 20, .inl (fun _ => 0))), (q5, .inl (G 0, 20, .inl (fun _ => 0))), (q6, .inl (G 0, 20, .inl (fun _ => 0))), (q7, .inl (G 0, 20, .inl (fun _ => 0))), (q8, .inl (G 0, 20, .inl (fun _ => 0)))] := hD
  refine lv_aload_n hx hb (show decode cX4_init 68 = .ok (.aload_n 0, 1) from by decide +kernel) rfl (lv_at hl 0 rfl) ?_
  refine va_getsN (A := A) (host := "BusBlocks") hx hb ((hZ.2.2.1 ("FIRST_LAYOVERS", 1000) (by decide +kernel)).narrow hAm) hS hown (hts _ (am_tb 30 (by decide +kernel) rfl)) (fun _ z => z) (show decode cX4_init 69 = .ok (.getstatic 36, 3) from by decide +kernel) ?_
  refine cr_clone (j := 0) hx hb (hl.1.trans hml.symm) hts hK hP hD hS hA (hro 0 H hS (by omega)) (hc5 0 (by omega)) hown (am_tb 32 (by decide +kernel) rfl) (am_tb 33 (by decide +kernel) rfl) (am_tb 34 (by decide +kernel) rfl) (am_tb 35 (by decide +kernel) rfl) (am_tb 36 (by decide +kernel) rfl) (am_tb 37 (by decide +kernel) rfl) (Nat.le_of_ble_eq_true rfl) (Nat.le_of_ble_eq_true rfl) (show 8 + 1 ≤ 11 by omega) (show 160 + 4 ≤ 172 by omega) (show decode cX4_init 72 = .ok (.invokevirtual 39, 3) from by decide +kernel) (fun q9 H hP hD hS _ => ?_)
  have hP : va_P D vwCl [(h0, .inr (4, [.ref q1, .ref q2, .ref q3, .ref q4, .ref q5, .ref q6, .ref q7, .ref q8, .null, .null, .null, .int 0, .int 0, .int 0, .int 0])), (q1, .inl (G 0, 20, .inl (fun _ => 0))), (q2, .inl (G 0, 20, .inl (fun _ => 0))), (q3, .inl (G 0, 20, .inl (fun _ => 0))), (q4, .inl (G 0, 20, .inl (fun _ => 0))), (q5, .inl (G 0, 20, .inl (fun _ => 0))), (q6, .inl (G 0, 20, .inl (fun _ => 0))), (q7, .inl (G 0, 20, .inl (fun _ => 0))), (q8, .inl (G 0, 20, .inl (fun _ => 0))), (q9, .inl (G 0, 4, .inl (h.1 1000)))] H := hP
  have hD : va_D A [(h0, .inr (4, [.ref q1, .ref q2, .ref q3, .ref q4, .ref q5, .ref q6, .ref q7, .ref q8, .null, .null, .null, .int 0, .int 0, .int 0, .int 0])), (q1, .inl (G 0, 20, .inl (fun _ => 0))), (q2, .inl (G 0, 20, .inl (fun _ => 0))), (q3, .inl (G 0, 20, .inl (fun _ => 0))), (q4, .inl (G 0, 20, .inl (fun _ => 0))), (q5, .inl (G 0, 20, .inl (fun _ => 0))), (q6, .inl (G 0, 20, .inl (fun _ => 0))), (q7, .inl (G 0, 20, .inl (fun _ => 0))), (q8, .inl (G 0, 20, .inl (fun _ => 0))), (q9, .inl (G 0, 4, .inl (h.1 1000)))] := hD
  refine va_castA hx hb hown (hts _ (am_tb 38 (by decide +kernel) rfl)) hP 9 rfl hnmI (show decode cX4_init 75 = .ok (.checkcast 40, 3) from by decide +kernel) ?_
  refine cr_putF (k := 8) (v := .ref q9) (ty := .array .int) hx hb hts (ci := 4) rfl hown hK hP hD hS (by decide) (am_tb 66 (by decide +kernel) rfl) rfl hin rfl (by decide +kernel) rfl rfl (Nat.le_of_ble_eq_true rfl) (show decode cX4_init 78 = .ok (.putfield 44, 3) from by decide +kernel) (fun H locs hP hD hS => ?_)
  have hP : va_P D vwCl [(h0, .inr (4, [.ref q1, .ref q2, .ref q3, .ref q4, .ref q5, .ref q6, .ref q7, .ref q8, .ref q9, .null, .null, .int 0, .int 0, .int 0, .int 0])), (q1, .inl (G 0, 20, .inl (fun _ => 0))), (q2, .inl (G 0, 20, .inl (fun _ => 0))), (q3, .inl (G 0, 20, .inl (fun _ => 0))), (q4, .inl (G 0, 20, .inl (fun _ => 0))), (q5, .inl (G 0, 20, .inl (fun _ => 0))), (q6, .inl (G 0, 20, .inl (fun _ => 0))), (q7, .inl (G 0, 20, .inl (fun _ => 0))), (q8, .inl (G 0, 20, .inl (fun _ => 0))), (q9, .inl (G 0, 4, .inl (h.1 1000)))] H := hP
  have hD : va_D A [(h0, .inr (4, [.ref q1, .ref q2, .ref q3, .ref q4, .ref q5, .ref q6, .ref q7, .ref q8, .ref q9, .null, .null, .int 0, .int 0, .int 0, .int 0])), (q1, .inl (G 0, 20, .inl (fun _ => 0))), (q2, .inl (G 0, 20, .inl (fun _ => 0))), (q3, .inl (G 0, 20, .inl (fun _ => 0))), (q4, .inl (G 0, 20, .inl (fun _ => 0))), (q5, .inl (G 0, 20, .inl (fun _ => 0))), (q6, .inl (G 0, 20, .inl (fun _ => 0))), (q7, .inl (G 0, 20, .inl (fun _ => 0))), (q8, .inl (G 0, 20, .inl (fun _ => 0))), (q9, .inl (G 0, 4, .inl (h.1 1000)))] := hD
  refine lv_aload_n hx hb (show decode cX4_init 81 = .ok (.aload_n 0, 1) from by decide +kernel) rfl (lv_at hl 0 rfl) ?_
  refine va_getsN (A := A) (host := "BusBlocks") hx hb ((hZ.2.2.1 ("FIRST_RELIEFS", 1001) (by decide +kernel)).narrow hAm) hS hown (hts _ (am_tb 39 (by decide +kernel) rfl)) (fun _ z => z) (show decode cX4_init 82 = .ok (.getstatic 47, 3) from by decide +kernel) ?_
  refine cr_clone (j := 1) hx hb (hl.1.trans hml.symm) hts hK hP hD hS hA (hro 1 H hS (by omega)) (hc5 1 (by omega)) hown (am_tb 32 (by decide +kernel) rfl) (am_tb 33 (by decide +kernel) rfl) (am_tb 34 (by decide +kernel) rfl) (am_tb 35 (by decide +kernel) rfl) (am_tb 36 (by decide +kernel) rfl) (am_tb 37 (by decide +kernel) rfl) (Nat.le_of_ble_eq_true rfl) (Nat.le_of_ble_eq_true rfl) (show 9 + 1 ≤ 11 by omega) (show 164 + 4 ≤ 172 by omega) (show decode cX4_init 85 = .ok (.invokevirtual 39, 3) from by decide +kernel) (fun q10 H hP hD hS _ => ?_)
  have hP : va_P D vwCl [(h0, .inr (4, [.ref q1, .ref q2, .ref q3, .ref q4, .ref q5, .ref q6, .ref q7, .ref q8, .ref q9, .null, .null, .int 0, .int 0, .int 0, .int 0])), (q1, .inl (G 0, 20, .inl (fun _ => 0))), (q2, .inl (G 0, 20, .inl (fun _ => 0))), (q3, .inl (G 0, 20, .inl (fun _ => 0))), (q4, .inl (G 0, 20, .inl (fun _ => 0))), (q5, .inl (G 0, 20, .inl (fun _ => 0))), (q6, .inl (G 0, 20, .inl (fun _ => 0))), (q7, .inl (G 0, 20, .inl (fun _ => 0))), (q8, .inl (G 0, 20, .inl (fun _ => 0))), (q9, .inl (G 0, 4, .inl (h.1 1000))), (q10, .inl (G 0, 4, .inl (h.1 1001)))] H := hP
  have hD : va_D A [(h0, .inr (4, [.ref q1, .ref q2, .ref q3, .ref q4, .ref q5, .ref q6, .ref q7, .ref q8, .ref q9, .null, .null, .int 0, .int 0, .int 0, .int 0])), (q1, .inl (G 0, 20, .inl (fun _ => 0))), (q2, .inl (G 0, 20, .inl (fun _ => 0))), (q3, .inl (G 0, 20, .inl (fun _ => 0))), (q4, .inl (G 0, 20, .inl (fun _ => 0))), (q5, .inl (G 0, 20, .inl (fun _ => 0))), (q6, .inl (G 0, 20, .inl (fun _ => 0))), (q7, .inl (G 0, 20, .inl (fun _ => 0))), (q8, .inl (G 0, 20, .inl (fun _ => 0))), (q9, .inl (G 0, 4, .inl (h.1 1000))), (q10, .inl (G 0, 4, .inl (h.1 1001)))] := hD
  refine va_castA hx hb hown (hts _ (am_tb 38 (by decide +kernel) rfl)) hP 10 rfl hnmI (show decode cX4_init 88 = .ok (.checkcast 40, 3) from by decide +kernel) ?_
  refine cr_putF (k := 9) (v := .ref q10) (ty := .array .int) hx hb hts (ci := 4) rfl hown hK hP hD hS (by decide) (am_tb 69 (by decide +kernel) rfl) rfl hin rfl (by decide +kernel) rfl rfl (Nat.le_of_ble_eq_true rfl) (show decode cX4_init 91 = .ok (.putfield 50, 3) from by decide +kernel) (fun H locs hP hD hS => ?_)
  have hP : va_P D vwCl [(h0, .inr (4, [.ref q1, .ref q2, .ref q3, .ref q4, .ref q5, .ref q6, .ref q7, .ref q8, .ref q9, .ref q10, .null, .int 0, .int 0, .int 0, .int 0])), (q1, .inl (G 0, 20, .inl (fun _ => 0))), (q2, .inl (G 0, 20, .inl (fun _ => 0))), (q3, .inl (G 0, 20, .inl (fun _ => 0))), (q4, .inl (G 0, 20, .inl (fun _ => 0))), (q5, .inl (G 0, 20, .inl (fun _ => 0))), (q6, .inl (G 0, 20, .inl (fun _ => 0))), (q7, .inl (G 0, 20, .inl (fun _ => 0))), (q8, .inl (G 0, 20, .inl (fun _ => 0))), (q9, .inl (G 0, 4, .inl (h.1 1000))), (q10, .inl (G 0, 4, .inl (h.1 1001)))] H := hP
  have hD : va_D A [(h0, .inr (4, [.ref q1, .ref q2, .ref q3, .ref q4, .ref q5, .ref q6, .ref q7, .ref q8, .ref q9, .ref q10, .null, .int 0, .int 0, .int 0, .int 0])), (q1, .inl (G 0, 20, .inl (fun _ => 0))), (q2, .inl (G 0, 20, .inl (fun _ => 0))), (q3, .inl (G 0, 20, .inl (fun _ => 0))), (q4, .inl (G 0, 20, .inl (fun _ => 0))), (q5, .inl (G 0, 20, .inl (fun _ => 0))), (q6, .inl (G 0, 20, .inl (fun _ => 0))), (q7, .inl (G 0, 20, .inl (fun _ => 0))), (q8, .inl (G 0, 20, .inl (fun _ => 0))), (q9, .inl (G 0, 4, .inl (h.1 1000))), (q10, .inl (G 0, 4, .inl (h.1 1001)))] := hD
  refine lv_aload_n hx hb (show decode cX4_init 94 = .ok (.aload_n 0, 1) from by decide +kernel) rfl (lv_at hl 0 rfl) ?_
  refine va_getsN (A := A) (host := "BusBlocks") hx hb ((hZ.2.2.1 ("FIRST_VALUES", 1004) (by decide +kernel)).narrow hAm) hS hown (hts _ (am_tb 41 (by decide +kernel) rfl)) (fun _ z => z) (show decode cX4_init 95 = .ok (.getstatic 53, 3) from by decide +kernel) ?_
  refine cr_clone (j := 4) hx hb (hl.1.trans hml.symm) hts hK hP hD hS hA (hro 4 H hS (by omega)) (hc5 4 (by omega)) hown (am_tb 32 (by decide +kernel) rfl) (am_tb 33 (by decide +kernel) rfl) (am_tb 34 (by decide +kernel) rfl) (am_tb 35 (by decide +kernel) rfl) (am_tb 36 (by decide +kernel) rfl) (am_tb 37 (by decide +kernel) rfl) (Nat.le_of_ble_eq_true rfl) (Nat.le_of_ble_eq_true rfl) (show 10 + 1 ≤ 11 by omega) (show 168 + 4 ≤ 172 by omega) (show decode cX4_init 98 = .ok (.invokevirtual 39, 3) from by decide +kernel) (fun q11 H hP hD hS _ => ?_)
  have hP : va_P D vwCl [(h0, .inr (4, [.ref q1, .ref q2, .ref q3, .ref q4, .ref q5, .ref q6, .ref q7, .ref q8, .ref q9, .ref q10, .null, .int 0, .int 0, .int 0, .int 0])), (q1, .inl (G 0, 20, .inl (fun _ => 0))), (q2, .inl (G 0, 20, .inl (fun _ => 0))), (q3, .inl (G 0, 20, .inl (fun _ => 0))), (q4, .inl (G 0, 20, .inl (fun _ => 0))), (q5, .inl (G 0, 20, .inl (fun _ => 0))), (q6, .inl (G 0, 20, .inl (fun _ => 0))), (q7, .inl (G 0, 20, .inl (fun _ => 0))), (q8, .inl (G 0, 20, .inl (fun _ => 0))), (q9, .inl (G 0, 4, .inl (h.1 1000))), (q10, .inl (G 0, 4, .inl (h.1 1001))), (q11, .inl (G 0, 4, .inl (h.1 1004)))] H := hP
  have hD : va_D A [(h0, .inr (4, [.ref q1, .ref q2, .ref q3, .ref q4, .ref q5, .ref q6, .ref q7, .ref q8, .ref q9, .ref q10, .null, .int 0, .int 0, .int 0, .int 0])), (q1, .inl (G 0, 20, .inl (fun _ => 0))), (q2, .inl (G 0, 20, .inl (fun _ => 0))), (q3, .inl (G 0, 20, .inl (fun _ => 0))), (q4, .inl (G 0, 20, .inl (fun _ => 0))), (q5, .inl (G 0, 20, .inl (fun _ => 0))), (q6, .inl (G 0, 20, .inl (fun _ => 0))), (q7, .inl (G 0, 20, .inl (fun _ => 0))), (q8, .inl (G 0, 20, .inl (fun _ => 0))), (q9, .inl (G 0, 4, .inl (h.1 1000))), (q10, .inl (G 0, 4, .inl (h.1 1001))), (q11, .inl (G 0, 4, .inl (h.1 1004)))] := hD
  refine va_castA hx hb hown (hts _ (am_tb 38 (by decide +kernel) rfl)) hP 11 rfl hnmI (show decode cX4_init 101 = .ok (.checkcast 40, 3) from by decide +kernel) ?_
  refine cr_putF (k := 10) (v := .ref q11) (ty := .array .int) hx hb hts (ci := 4) rfl hown hK hP hD hS (by decide) (am_tb 72 (by decide +kernel) rfl) rfl hin rfl (by decide +kernel) rfl rfl (Nat.le_of_ble_eq_true rfl) (show decode cX4_init 104 = .ok (.putfield 56, 3) from by decide +kernel) (fun H locs hP hD hS => ?_)
  have hP : va_P D vwCl [(h0, .inr (4, [.ref q1, .ref q2, .ref q3, .ref q4, .ref q5, .ref q6, .ref q7, .ref q8, .ref q9, .ref q10, .ref q11, .int 0, .int 0, .int 0, .int 0])), (q1, .inl (G 0, 20, .inl (fun _ => 0))), (q2, .inl (G 0, 20, .inl (fun _ => 0))), (q3, .inl (G 0, 20, .inl (fun _ => 0))), (q4, .inl (G 0, 20, .inl (fun _ => 0))), (q5, .inl (G 0, 20, .inl (fun _ => 0))), (q6, .inl (G 0, 20, .inl (fun _ => 0))), (q7, .inl (G 0, 20, .inl (fun _ => 0))), (q8, .inl (G 0, 20, .inl (fun _ => 0))), (q9, .inl (G 0, 4, .inl (h.1 1000))), (q10, .inl (G 0, 4, .inl (h.1 1001))), (q11, .inl (G 0, 4, .inl (h.1 1004)))] H := hP
  have hD : va_D A [(h0, .inr (4, [.ref q1, .ref q2, .ref q3, .ref q4, .ref q5, .ref q6, .ref q7, .ref q8, .ref q9, .ref q10, .ref q11, .int 0, .int 0, .int 0, .int 0])), (q1, .inl (G 0, 20, .inl (fun _ => 0))), (q2, .inl (G 0, 20, .inl (fun _ => 0))), (q3, .inl (G 0, 20, .inl (fun _ => 0))), (q4, .inl (G 0, 20, .inl (fun _ => 0))), (q5, .inl (G 0, 20, .inl (fun _ => 0))), (q6, .inl (G 0, 20, .inl (fun _ => 0))), (q7, .inl (G 0, 20, .inl (fun _ => 0))), (q8, .inl (G 0, 20, .inl (fun _ => 0))), (q9, .inl (G 0, 4, .inl (h.1 1000))), (q10, .inl (G 0, 4, .inl (h.1 1001))), (q11, .inl (G 0, 4, .inl (h.1 1004)))] := hD
  refine lv_aload_n hx hb (show decode cX4_init 107 = .ok (.aload_n 0, 1) from by decide +kernel) rfl (lv_at hl 0 rfl) ?_
  refine lv_iconst hx hb (show decode cX4_init 108 = .ok (.iconst 0, 1) from by decide +kernel) (v := 0) rfl ?_
  refine cr_putI (k := 11) (v := .int 0) (ty := .int) hx hb hts (ci := 4) rfl hown hK hP hD hS (by decide) (am_tb 76 (by decide +kernel) rfl) rfl rfl (by decide +kernel) rfl rfl (Nat.le_of_ble_eq_true rfl) (show decode cX4_init 109 = .ok (.putfield 59, 3) from by decide +kernel) (fun H locs hP hD hS => ?_)
  have hP : va_P D vwCl [(h0, .inr (4, [.ref q1, .ref q2, .ref q3, .ref q4, .ref q5, .ref q6, .ref q7, .ref q8, .ref q9, .ref q10, .ref q11, .int 0, .int 0, .int 0, .int 0])), (q1, .inl (G 0, 20, .inl (fun _ => 0))), (q2, .inl (G 0, 20, .inl (fun _ => 0))), (q3, .inl (G 0, 20, .inl (fun _ => 0))), (q4, .inl (G 0, 20, .inl (fun _ => 0))), (q5, .inl (G 0, 20, .inl (fun _ => 0))), (q6, .inl (G 0, 20, .inl (fun _ => 0))), (q7, .inl (G 0, 20, .inl (fun _ => 0))), (q8, .inl (G 0, 20, .inl (fun _ => 0))), (q9, .inl (G 0, 4, .inl (h.1 1000))), (q10, .inl (G 0, 4, .inl (h.1 1001))), (q11, .inl (G 0, 4, .inl (h.1 1004)))] H := hP
  have hD : va_D A [(h0, .inr (4, [.ref q1, .ref q2, .ref q3, .ref q4, .ref q5, .ref q6, .ref q7, .ref q8, .ref q9, .ref q10, .ref q11, .int 0, .int 0, .int 0, .int 0])), (q1, .inl (G 0, 20, .inl (fun _ => 0))), (q2, .inl (G 0, 20, .inl (fun _ => 0))), (q3, .inl (G 0, 20, .inl (fun _ => 0))), (q4, .inl (G 0, 20, .inl (fun _ => 0))), (q5, .inl (G 0, 20, .inl (fun _ => 0))), (q6, .inl (G 0, 20, .inl (fun _ => 0))), (q7, .inl (G 0, 20, .inl (fun _ => 0))), (q8, .inl (G 0, 20, .inl (fun _ => 0))), (q9, .inl (G 0, 4, .inl (h.1 1000))), (q10, .inl (G 0, 4, .inl (h.1 1001))), (q11, .inl (G 0, 4, .inl (h.1 1004)))] := hD
  refine lv_aload_n hx hb (show decode cX4_init 112 = .ok (.aload_n 0, 1) from by decide +kernel) rfl (lv_at hl 0 rfl) ?_
  refine lv_iconst hx hb (show decode cX4_init 113 = .ok (.iconst 0, 1) from by decide +kernel) (v := 0) rfl ?_
  refine cr_putI (k := 12) (v := .int 0) (ty := .int) hx hb hts (ci := 4) rfl hown hK hP hD hS (by decide) (am_tb 80 (by decide +kernel) rfl) rfl rfl (by decide +kernel) rfl rfl (Nat.le_of_ble_eq_true rfl) (show decode cX4_init 114 = .ok (.putfield 63, 3) from by decide +kernel) (fun H locs hP hD hS => ?_)
  have hP : va_P D vwCl [(h0, .inr (4, [.ref q1, .ref q2, .ref q3, .ref q4, .ref q5, .ref q6, .ref q7, .ref q8, .ref q9, .ref q10, .ref q11, .int 0, .int 0, .int 0, .int 0])), (q1, .inl (G 0, 20, .inl (fun _ => 0))), (q2, .inl (G 0, 20, .inl (fun _ => 0))), (q3, .inl (G 0, 20, .inl (fun _ => 0))), (q4, .inl (G 0, 20, .inl (fun _ => 0))), (q5, .inl (G 0, 20, .inl (fun _ => 0))), (q6, .inl (G 0, 20, .inl (fun _ => 0))), (q7, .inl (G 0, 20, .inl (fun _ => 0))), (q8, .inl (G 0, 20, .inl (fun _ => 0))), (q9, .inl (G 0, 4, .inl (h.1 1000))), (q10, .inl (G 0, 4, .inl (h.1 1001))), (q11, .inl (G 0, 4, .inl (h.1 1004)))] H := hP
  have hD : va_D A [(h0, .inr (4, [.ref q1, .ref q2, .ref q3, .ref q4, .ref q5, .ref q6, .ref q7, .ref q8, .ref q9, .ref q10, .ref q11, .int 0, .int 0, .int 0, .int 0])), (q1, .inl (G 0, 20, .inl (fun _ => 0))), (q2, .inl (G 0, 20, .inl (fun _ => 0))), (q3, .inl (G 0, 20, .inl (fun _ => 0))), (q4, .inl (G 0, 20, .inl (fun _ => 0))), (q5, .inl (G 0, 20, .inl (fun _ => 0))), (q6, .inl (G 0, 20, .inl (fun _ => 0))), (q7, .inl (G 0, 20, .inl (fun _ => 0))), (q8, .inl (G 0, 20, .inl (fun _ => 0))), (q9, .inl (G 0, 4, .inl (h.1 1000))), (q10, .inl (G 0, 4, .inl (h.1 1001))), (q11, .inl (G 0, 4, .inl (h.1 1004)))] := hD
  refine lv_aload_n hx hb (show decode cX4_init 117 = .ok (.aload_n 0, 1) from by decide +kernel) rfl (lv_at hl 0 rfl) ?_
  refine lv_iconst hx hb (show decode cX4_init 118 = .ok (.iconst 0, 1) from by decide +kernel) (v := 0) rfl ?_
  refine cr_putI (k := 13) (v := .int 0) (ty := .int) hx hb hts (ci := 4) rfl hown hK hP hD hS (by decide) (am_tb 81 (by decide +kernel) rfl) rfl rfl (by decide +kernel) rfl rfl (Nat.le_of_ble_eq_true rfl) (show decode cX4_init 119 = .ok (.putfield 66, 3) from by decide +kernel) (fun H locs hP hD hS => ?_)
  have hP : va_P D vwCl [(h0, .inr (4, [.ref q1, .ref q2, .ref q3, .ref q4, .ref q5, .ref q6, .ref q7, .ref q8, .ref q9, .ref q10, .ref q11, .int 0, .int 0, .int 0, .int 0])), (q1, .inl (G 0, 20, .inl (fun _ => 0))), (q2, .inl (G 0, 20, .inl (fun _ => 0))), (q3, .inl (G 0, 20, .inl (fun _ => 0))), (q4, .inl (G 0, 20, .inl (fun _ => 0))), (q5, .inl (G 0, 20, .inl (fun _ => 0))), (q6, .inl (G 0, 20, .inl (fun _ => 0))), (q7, .inl (G 0, 20, .inl (fun _ => 0))), (q8, .inl (G 0, 20, .inl (fun _ => 0))), (q9, .inl (G 0, 4, .inl (h.1 1000))), (q10, .inl (G 0, 4, .inl (h.1 1001))), (q11, .inl (G 0, 4, .inl (h.1 1004)))] H := hP
  have hD : va_D A [(h0, .inr (4, [.ref q1, .ref q2, .ref q3, .ref q4, .ref q5, .ref q6, .ref q7, .ref q8, .ref q9, .ref q10, .ref q11, .int 0, .int 0, .int 0, .int 0])), (q1, .inl (G 0, 20, .inl (fun _ => 0))), (q2, .inl (G 0, 20, .inl (fun _ => 0))), (q3, .inl (G 0, 20, .inl (fun _ => 0))), (q4, .inl (G 0, 20, .inl (fun _ => 0))), (q5, .inl (G 0, 20, .inl (fun _ => 0))), (q6, .inl (G 0, 20, .inl (fun _ => 0))), (q7, .inl (G 0, 20, .inl (fun _ => 0))), (q8, .inl (G 0, 20, .inl (fun _ => 0))), (q9, .inl (G 0, 4, .inl (h.1 1000))), (q10, .inl (G 0, 4, .inl (h.1 1001))), (q11, .inl (G 0, 4, .inl (h.1 1004)))] := hD
  refine lv_aload_n hx hb (show decode cX4_init 122 = .ok (.aload_n 0, 1) from by decide +kernel) rfl (lv_at hl 0 rfl) ?_
  refine lv_iconst hx hb (show decode cX4_init 123 = .ok (.iconst 0, 1) from by decide +kernel) (v := 0) rfl ?_
  refine cr_putI (k := 14) (v := .int 0) (ty := .int) hx hb hts (ci := 4) rfl hown hK hP hD hS (by decide) (am_tb 83 (by decide +kernel) rfl) rfl rfl (by decide +kernel) rfl rfl (Nat.le_of_ble_eq_true rfl) (show decode cX4_init 124 = .ok (.putfield 69, 3) from by decide +kernel) (fun H locs hP hD hS => ?_)
  have hP : va_P D vwCl [(h0, .inr (4, [.ref q1, .ref q2, .ref q3, .ref q4, .ref q5, .ref q6, .ref q7, .ref q8, .ref q9, .ref q10, .ref q11, .int 0, .int 0, .int 0, .int 0])), (q1, .inl (G 0, 20, .inl (fun _ => 0))), (q2, .inl (G 0, 20, .inl (fun _ => 0))), (q3, .inl (G 0, 20, .inl (fun _ => 0))), (q4, .inl (G 0, 20, .inl (fun _ => 0))), (q5, .inl (G 0, 20, .inl (fun _ => 0))), (q6, .inl (G 0, 20, .inl (fun _ => 0))), (q7, .inl (G 0, 20, .inl (fun _ => 0))), (q8, .inl (G 0, 20, .inl (fun _ => 0))), (q9, .inl (G 0, 4, .inl (h.1 1000))), (q10, .inl (G 0, 4, .inl (h.1 1001))), (q11, .inl (G 0, 4, .inl (h.1 1004)))] H := hP
  have hD : va_D A [(h0, .inr (4, [.ref q1, .ref q2, .ref q3, .ref q4, .ref q5, .ref q6, .ref q7, .ref q8, .ref q9, .ref q10, .ref q11, .int 0, .int 0, .int 0, .int 0])), (q1, .inl (G 0, 20, .inl (fun _ => 0))), (q2, .inl (G 0, 20, .inl (fun _ => 0))), (q3, .inl (G 0, 20, .inl (fun _ => 0))), (q4, .inl (G 0, 20, .inl (fun _ => 0))), (q5, .inl (G 0, 20, .inl (fun _ => 0))), (q6, .inl (G 0, 20, .inl (fun _ => 0))), (q7, .inl (G 0, 20, .inl (fun _ => 0))), (q8, .inl (G 0, 20, .inl (fun _ => 0))), (q9, .inl (G 0, 4, .inl (h.1 1000))), (q10, .inl (G 0, 4, .inl (h.1 1001))), (q11, .inl (G 0, 4, .inl (h.1 1004)))] := hD
  exact W.vret hx hb hr (fun t ht hW9 => ⟨⟨[(h0, .inr (4, [.ref q1, .ref q2, .ref q3, .ref q4, .ref q5, .ref q6, .ref q7, .ref q8, .ref q9, .ref q10, .ref q11, .int 0, .int 0, .int 0, .int 0])), (q1, .inl (G 0, 20, .inl (fun _ => 0))), (q2, .inl (G 0, 20, .inl (fun _ => 0))), (q3, .inl (G 0, 20, .inl (fun _ => 0))), (q4, .inl (G 0, 20, .inl (fun _ => 0))), (q5, .inl (G 0, 20, .inl (fun _ => 0))), (q6, .inl (G 0, 20, .inl (fun _ => 0))), (q7, .inl (G 0, 20, .inl (fun _ => 0))), (q8, .inl (G 0, 20, .inl (fun _ => 0))), (q9, .inl (G 0, 4, .inl (h.1 1000))), (q10, .inl (G 0, 4, .inl (h.1 1001))), (q11, .inl (G 0, 4, .inl (h.1 1004)))], rfl, ⟨(fun j => match j with | 0 => h0 | 1 => q1 | 2 => q2 | 3 => q3 | 4 => q4 | 5 => q5 | 6 => q6 | 7 => q7 | 8 => q8 | 9 => q9 | 10 => q10 | 11 => q11 | _ => 0), rfl, rfl⟩, by rw [ht]; exact hP, hD⟩, hS.F ht⟩) hS.2.2 (show decode cX4_init 127 = .ok (.return_, 1) from by decide +kernel)
def wDc (G : Nat → Nat) (h : HP) (q : Nat → Nat) (tb : Nat) : va_W := [(q 0, .inr (0, [.ref tb, .ref (q 1), .ref (q 2), .ref (q 3), .int 0, .int 0])), ((q 1), .inl (G 0, 40, .inl (fun _ => 0))), ((q 2), .inl (G 0, 16, .inl (fun _ => 0))), ((q 3), .inl (G 0, 16, .inl (fun _ => 0)))]
set_option maxHeartbeats 4000000 in
set_option maxRecDepth 100000 in
theorem ct_D {l : Launch} {D : va_G} {G ad : Nat → Nat} {h : HP} (hGm : ∀ x, G 4 ≤ x → am_A G x) (hc5 : ∀ j, j < 5 → D.1 (10 + j) = G 0) (h0 : Nat) (hh0 : G 4 ≤ h0) (tb : Nat) : Ct l D G ad h yX0_init cX0_init 2 1 16 3 72 h0 (.inr (0, [.null, .null, .null, .null, .int 0, .int 0])) [.ref tb] (fun w => ∃ q : Nat → Nat, q 0 = h0 ∧ w = wDc G h q tb) := by
  intro sz
  refine Met.ofW (cc := cX0_init) (maxL := 2) (ret := none) (by decide) rfl ?_
  intro p e s m args below meth c s₁ B hml hv
  obtain ⟨rfl, hsz, hP, hS0⟩ := hv
  obtain ⟨⟨hWr, hK, hZ, hG⟩, hAO⟩ := id hS0
  have hx := B.exec
  have hb := B.bytes
  have hr := B.returns
  have hts0 := atoms_spec (ws := Cond.code yX0_init cX0_init 2 none :: am_U) B.pre
  have hts : ∀ w ∈ am_U, w.before (.ref h0 :: [.ref tb] : List Value).toArray s = true := fun w hw => hts0 w (List.mem_cons_of_mem _ hw)
  have hown : s.vm.findClass RX0 = some m.cls := findClass_of_methodNamed B.named
  have hlocks := B.notSynchronized
  have hin : meth.name = "<init>" := (name_of_methodNamed B.named B.method).1
  have hnmI : s.vm.findClass "[I" = some (G 0) := by
    have e9 : "[" ++ FieldType.int.toString = "[I" := by decide +kernel
    have h2 := (hK.2 0 (G 0, .int) rfl).2
    rw [← e9]; exact h2
  subst hsz
  have hD0 : va_D (va_A [(h0, (.inr (0, [.null, .null, .null, .null, .int 0, .int 0])))] s.heap.size) [(h0, (.inr (0, [.null, .null, .null, .null, .int 0, .int 0])))] := va_D_one
  generalize hAe : va_A [(h0, (.inr (0, [.null, .null, .null, .null, .int 0, .int 0])))] s.heap.size = A at hD0 ⊢
  have hA : ∀ q : Nat, s.heap.size ≤ q → A q := fun q hq => by rw [← hAe]; exact Or.inr hq
  have hAG : ∀ x, A x → G 4 ≤ x := fun x hx' => by
    rw [← hAe] at hx'
    rcases hx' with ⟨k, e', hk'⟩ | z
    · match k, hk' with
      | 0, hk' => cases hk'; exact hh0
      | k + 1, hk' => simp at hk'
    · exact Nat.le_trans hG.1 z
  have hAm : ∀ x, A x → am_A G x := fun x hx' => hGm x (hAG x hx')
  have hro : ∀ j (H : Heap) {locs : List Loc}, va_S A s.heap H locs → j < 5 → am_rc D H (ad (1000 + j)) j 4 (h.1 (1000 + j)) := fun j H locs hS hj => by
    obtain ⟨a1, a2, -⟩ := hWr.2.2.1 j (5, 4, []) (by match j, hj with | 0, _ => rfl | 1, _ => rfl | 2, _ => rfl | 3, _ => rfl | 4, _ => rfl | j + 5, z => omega)
    exact a1.kept (hS.2.1 _ a1.lt (fun z => absurd (hAG _ z) (by omega)))
  have hD := hD0
  have hS : va_S A s.heap s.heap [] := va_S.rf
  have hl := lv_entry (.ref h0 :: [.ref tb]) (n := 2) (Nat.le_of_ble_eq_true rfl)
  rw [lg_entry_eq]
  generalize (lg_sl (.ref h0 :: [.ref tb]) ++ List.replicate (2 - (lg_sl (.ref h0 :: [.ref tb])).length) Slot.unset).toArray = ls at hl ⊢
  have hl : lv_has ls 2 [(0, .ref h0), (1, .ref tb)] := hl
  refine lv_aload_n hx hb (show decode cX0_init 0 = .ok (.aload_n 0, 1) from by decide +kernel) rfl (lv_at hl 0 rfl) ?_
  refine W.objInit hx hb hown (hts _ (am_tb 122 (by decide +kernel) rfl)) (hts _ (am_tb 22 (by decide +kernel) rfl)) (hts _ (am_tb 23 (by decide +kernel) rfl)) rfl (hl.1.trans hml.symm) rfl (show decode cX0_init 1 = .ok (.invokespecial 5, 3) from by decide +kernel) (Nat.le_of_ble_eq_true rfl) (Nat.le_of_ble_eq_true rfl) ?_
  refine W.eq (g2 := F0 m 4 ls []) rfl ?_
  refine lv_aload_n hx hb (show decode cX0_init 4 = .ok (.aload_n 0, 1) from by decide +kernel) rfl (lv_at hl 0 rfl) ?_
  refine lv_aload_n hx hb (show decode cX0_init 5 = .ok (.aload_n 1, 1) from by decide +kernel) rfl (lv_at hl 1 rfl) ?_
  refine cr_putF (k := 0) (v := .ref tb) (ty := .object "BusBlocks$Timetable") hx hb hts (ci := 0) rfl hown hK hP hD hS (by decide) (am_tb 123 (by decide +kernel) rfl) rfl hin rfl (by decide +kernel) rfl rfl (Nat.le_of_ble_eq_true rfl) (show decode cX0_init 6 = .ok (.putfield 11, 3) from by decide +kernel) (fun H locs hP hD hS => ?_)
  have hP : va_P D vwCl [(h0, .inr (0, [.ref tb, .null, .null, .null, .int 0, .int 0]))] H := hP
  have hD : va_D A [(h0, .inr (0, [.ref tb, .null, .null, .null, .int 0, .int 0]))] := hD
  refine lv_aload_n hx hb (show decode cX0_init 9 = .ok (.aload_n 0, 1) from by decide +kernel) rfl (lv_at hl 0 rfl) ?_
  refine lv_bipush hx hb (show decode cX0_init 10 = .ok (.bipush 40, 2) from by decide +kernel) (v := 40) rfl ?_
  refine cr_newi (N := 40) hx hb hts hK hP hD hS hA (by decide) (by decide +kernel) (by omega) (show 0 + 1 ≤ 3 by omega) (show 0 + 40 ≤ 72 by omega) (show decode cX0_init 12 = .ok (.newarray .int, 2) from by decide +kernel) (fun q1 H hP hD hS => ?_)
  have hP : va_P D vwCl [(h0, .inr (0, [.ref tb, .null, .null, .null, .int 0, .int 0])), (q1, .inl (G 0, 40, .inl (fun _ => 0)))] H := hP
  have hD : va_D A [(h0, .inr (0, [.ref tb, .null, .null, .null, .int 0, .int 0])), (q1, .inl (G 0, 40, .inl (fun _ => 0)))] := hD
  refine cr_putF (k := 1) (v := .ref q1) (ty := .array .int) hx hb hts (ci := 0) rfl hown hK hP hD hS (by decide) (am_tb 124 (by decide +kernel) rfl) rfl hin rfl (by decide +kernel) rfl rfl (Nat.le_of_ble_eq_true rfl) (show decode cX0_init 14 = .ok (.putfield 15, 3) from by decide +kernel) (fun H locs hP hD hS => ?_)
  have hP : va_P D vwCl [(h0, .inr (0, [.ref tb, .ref q1, .null, .null, .int 0, .int 0])), (q1, .inl (G 0, 40, .inl (fun _ => 0)))] H := hP
  have hD : va_D A [(h0, .inr (0, [.ref tb, .ref q1, .null, .null, .int 0, .int 0])), (q1, .inl (G 0, 40, .inl (fun _ => 0)))] := hD
  refine lv_aload_n hx hb (show decode cX0_init 17 = .ok (.aload_n 0, 1) from by decide +kernel) rfl (lv_at hl 0 rfl) ?_
  refine lv_bipush hx hb (show decode cX0_init 18 = .ok (.bipush 16, 2) from by decide +kernel) (v := 16) rfl ?_
  refine cr_newi (N := 16) hx hb hts hK hP hD hS hA (by decide) (by decide +kernel) (by omega) (show 1 + 1 ≤ 3 by omega) (show 40 + 16 ≤ 72 by omega) (show decode cX0_init 20 = .ok (.newarray .int, 2) from by decide +kernel) (fun q2 H hP hD hS => ?_)
  have hP : va_P D vwCl [(h0, .inr (0, [.ref tb, .ref q1, .null, .null, .int 0, .int 0])), (q1, .inl (G 0, 40, .inl (fun _ => 0))), (q2, .inl (G 0, 16, .inl (fun _ => 0)))] H := hP
  have hD : va_D A [(h0, .inr (0, [.ref tb, .ref q1, .null, .null, .int 0, .int 0])), (q1, .inl (G 0, 40, .inl (fun _ => 0))), (q2, .inl (G 0, 16, .inl (fun _ => 0)))] := hD
  refine cr_putF (k := 2) (v := .ref q2) (ty := .array .int) hx hb hts (ci := 0) rfl hown hK hP hD hS (by decide) (am_tb 125 (by decide +kernel) rfl) rfl hin rfl (by decide +kernel) rfl rfl (Nat.le_of_ble_eq_true rfl) (show decode cX0_init 22 = .ok (.putfield 19, 3) from by decide +kernel) (fun H locs hP hD hS => ?_)
  have hP : va_P D vwCl [(h0, .inr (0, [.ref tb, .ref q1, .ref q2, .null, .int 0, .int 0])), (q1, .inl (G 0, 40, .inl (fun _ => 0))), (q2, .inl (G 0, 16, .inl (fun _ => 0)))] H := hP
  have hD : va_D A [(h0, .inr (0, [.ref tb, .ref q1, .ref q2, .null, .int 0, .int 0])), (q1, .inl (G 0, 40, .inl (fun _ => 0))), (q2, .inl (G 0, 16, .inl (fun _ => 0)))] := hD
  refine lv_aload_n hx hb (show decode cX0_init 25 = .ok (.aload_n 0, 1) from by decide +kernel) rfl (lv_at hl 0 rfl) ?_
  refine lv_bipush hx hb (show decode cX0_init 26 = .ok (.bipush 16, 2) from by decide +kernel) (v := 16) rfl ?_
  refine cr_newi (N := 16) hx hb hts hK hP hD hS hA (by decide) (by decide +kernel) (by omega) (show 2 + 1 ≤ 3 by omega) (show 56 + 16 ≤ 72 by omega) (show decode cX0_init 28 = .ok (.newarray .int, 2) from by decide +kernel) (fun q3 H hP hD hS => ?_)
  have hP : va_P D vwCl [(h0, .inr (0, [.ref tb, .ref q1, .ref q2, .null, .int 0, .int 0])), (q1, .inl (G 0, 40, .inl (fun _ => 0))), (q2, .inl (G 0, 16, .inl (fun _ => 0))), (q3, .inl (G 0, 16, .inl (fun _ => 0)))] H := hP
  have hD : va_D A [(h0, .inr (0, [.ref tb, .ref q1, .ref q2, .null, .int 0, .int 0])), (q1, .inl (G 0, 40, .inl (fun _ => 0))), (q2, .inl (G 0, 16, .inl (fun _ => 0))), (q3, .inl (G 0, 16, .inl (fun _ => 0)))] := hD
  refine cr_putF (k := 3) (v := .ref q3) (ty := .array .int) hx hb hts (ci := 0) rfl hown hK hP hD hS (by decide) (am_tb 126 (by decide +kernel) rfl) rfl hin rfl (by decide +kernel) rfl rfl (Nat.le_of_ble_eq_true rfl) (show decode cX0_init 30 = .ok (.putfield 22, 3) from by decide +kernel) (fun H locs hP hD hS => ?_)
  have hP : va_P D vwCl [(h0, .inr (0, [.ref tb, .ref q1, .ref q2, .ref q3, .int 0, .int 0])), (q1, .inl (G 0, 40, .inl (fun _ => 0))), (q2, .inl (G 0, 16, .inl (fun _ => 0))), (q3, .inl (G 0, 16, .inl (fun _ => 0)))] H := hP
  have hD : va_D A [(h0, .inr (0, [.ref tb, .ref q1, .ref q2, .ref q3, .int 0, .int 0])), (q1, .inl (G 0, 40, .inl (fun _ => 0))), (q2, .inl (G 0, 16, .inl (fun _ => 0))), (q3, .inl (G 0, 16, .inl (fun _ => 0)))] := hD
  refine lv_aload_n hx hb (show decode cX0_init 33 = .ok (.aload_n 0, 1) from by decide +kernel) rfl (lv_at hl 0 rfl) ?_
  refine lv_iconst hx hb (show decode cX0_init 34 = .ok (.iconst 0, 1) from by decide +kernel) (v := 0) rfl ?_
  refine cr_putI (k := 4) (v := .int 0) (ty := .int) hx hb hts (ci := 0) rfl hown hK hP hD hS (by decide) (am_tb 127 (by decide +kernel) rfl) rfl rfl (by decide +kernel) rfl rfl (Nat.le_of_ble_eq_true rfl) (show decode cX0_init 35 = .ok (.putfield 25, 3) from by decide +kernel) (fun H locs hP hD hS => ?_)
  have hP : va_P D vwCl [(h0, .inr (0, [.ref tb, .ref q1, .ref q2, .ref q3, .int 0, .int 0])), (q1, .inl (G 0, 40, .inl (fun _ => 0))), (q2, .inl (G 0, 16, .inl (fun _ => 0))), (q3, .inl (G 0, 16, .inl (fun _ => 0)))] H := hP
  have hD : va_D A [(h0, .inr (0, [.ref tb, .ref q1, .ref q2, .ref q3, .int 0, .int 0])), (q1, .inl (G 0, 40, .inl (fun _ => 0))), (q2, .inl (G 0, 16, .inl (fun _ => 0))), (q3, .inl (G 0, 16, .inl (fun _ => 0)))] := hD
  refine lv_aload_n hx hb (show decode cX0_init 38 = .ok (.aload_n 0, 1) from by decide +kernel) rfl (lv_at hl 0 rfl) ?_
  refine lv_iconst hx hb (show decode cX0_init 39 = .ok (.iconst 0, 1) from by decide +kernel) (v := 0) rfl ?_
  refine cr_putI (k := 5) (v := .int 0) (ty := .int) hx hb hts (ci := 0) rfl hown hK hP hD hS (by decide) (am_tb 128 (by decide +kernel) rfl) rfl rfl (by decide +kernel) rfl rfl (Nat.le_of_ble_eq_true rfl) (show decode cX0_init 40 = .ok (.putfield 29, 3) from by decide +kernel) (fun H locs hP hD hS => ?_)
  have hP : va_P D vwCl [(h0, .inr (0, [.ref tb, .ref q1, .ref q2, .ref q3, .int 0, .int 0])), (q1, .inl (G 0, 40, .inl (fun _ => 0))), (q2, .inl (G 0, 16, .inl (fun _ => 0))), (q3, .inl (G 0, 16, .inl (fun _ => 0)))] H := hP
  have hD : va_D A [(h0, .inr (0, [.ref tb, .ref q1, .ref q2, .ref q3, .int 0, .int 0])), (q1, .inl (G 0, 40, .inl (fun _ => 0))), (q2, .inl (G 0, 16, .inl (fun _ => 0))), (q3, .inl (G 0, 16, .inl (fun _ => 0)))] := hD
  exact W.vret hx hb hr (fun t ht hW9 => ⟨⟨[(h0, .inr (0, [.ref tb, .ref q1, .ref q2, .ref q3, .int 0, .int 0])), (q1, .inl (G 0, 40, .inl (fun _ => 0))), (q2, .inl (G 0, 16, .inl (fun _ => 0))), (q3, .inl (G 0, 16, .inl (fun _ => 0)))], rfl, ⟨(fun j => match j with | 0 => h0 | 1 => q1 | 2 => q2 | 3 => q3 | _ => 0), rfl, rfl⟩, by rw [ht]; exact hP, hD⟩, hS.F ht⟩) hS.2.2 (show decode cX0_init 43 = .ok (.return_, 1) from by decide +kernel)
def wUc (G : Nat → Nat) (h : HP) (q : Nat → Nat) (tb : Nat) : va_W := [(q 0, .inr (1, [.ref tb, .ref (q 1)])), ((q 1), .inl (G 0, 20, .inl (fun _ => 0)))]
set_option maxHeartbeats 4000000 in
set_option maxRecDepth 100000 in
theorem ct_U {l : Launch} {D : va_G} {G ad : Nat → Nat} {h : HP} (hGm : ∀ x, G 4 ≤ x → am_A G x) (hc5 : ∀ j, j < 5 → D.1 (10 + j) = G 0) (h0 : Nat) (hh0 : G 4 ≤ h0) (tb : Nat) : Ct l D G ad h yX1_init cX1_init 2 1 16 1 20 h0 (.inr (1, [.null, .null])) [.ref tb] (fun w => ∃ q : Nat → Nat, q 0 = h0 ∧ w = wUc G h q tb) := by
  intro sz
  refine Met.ofW (cc := cX1_init) (maxL := 2) (ret := none) (by decide) rfl ?_
  intro p e s m args below meth c s₁ B hml hv
  obtain ⟨rfl, hsz, hP, hS0⟩ := hv
  obtain ⟨⟨hWr, hK, hZ, hG⟩, hAO⟩ := id hS0
  have hx := B.exec
  have hb := B.bytes
  have hr := B.returns
  have hts0 := atoms_spec (ws := Cond.code yX1_init cX1_init 2 none :: am_U) B.pre
  have hts : ∀ w ∈ am_U, w.before (.ref h0 :: [.ref tb] : List Value).toArray s = true := fun w hw => hts0 w (List.mem_cons_of_mem _ hw)
  have hown : s.vm.findClass RX1 = some m.cls := findClass_of_methodNamed B.named
  have hlocks := B.notSynchronized
  have hin : meth.name = "<init>" := (name_of_methodNamed B.named B.method).1
  have hnmI : s.vm.findClass "[I" = some (G 0) := by
    have e9 : "[" ++ FieldType.int.toString = "[I" := by decide +kernel
    have h2 := (hK.2 0 (G 0, .int) rfl).2
    rw [← e9]; exact h2
  subst hsz
  have hD0 : va_D (va_A [(h0, (.inr (1, [.null, .null])))] s.heap.size) [(h0, (.inr (1, [.null, .null])))] := va_D_one
  generalize hAe : va_A [(h0, (.inr (1, [.null, .null])))] s.heap.size = A at hD0 ⊢
  have hA : ∀ q : Nat, s.heap.size ≤ q → A q := fun q hq => by rw [← hAe]; exact Or.inr hq
  have hAG : ∀ x, A x → G 4 ≤ x := fun x hx' => by
    rw [← hAe] at hx'
    rcases hx' with ⟨k, e', hk'⟩ | z
    · match k, hk' with
      | 0, hk' => cases hk'; exact hh0
      | k + 1, hk' => simp at hk'
    · exact Nat.le_trans hG.1 z
  have hAm : ∀ x, A x → am_A G x := fun x hx' => hGm x (hAG x hx')
  have hro : ∀ j (H : Heap) {locs : List Loc}, va_S A s.heap H locs → j < 5 → am_rc D H (ad (1000 + j)) j 4 (h.1 (1000 + j)) := fun j H locs hS hj => by
    obtain ⟨a1, a2, -⟩ := hWr.2.2.1 j (5, 4, []) (by match j, hj with | 0, _ => rfl | 1, _ => rfl | 2, _ => rfl | 3, _ => rfl | 4, _ => rfl | j + 5, z => omega)
    exact a1.kept (hS.2.1 _ a1.lt (fun z => absurd (hAG _ z) (by omega)))
  have hD := hD0
  have hS : va_S A s.heap s.heap [] := va_S.rf
  have hl := lv_entry (.ref h0 :: [.ref tb]) (n := 2) (Nat.le_of_ble_eq_true rfl)
  rw [lg_entry_eq]
  generalize (lg_sl (.ref h0 :: [.ref tb]) ++ List.replicate (2 - (lg_sl (.ref h0 :: [.ref tb])).length) Slot.unset).toArray = ls at hl ⊢
  have hl : lv_has ls 2 [(0, .ref h0), (1, .ref tb)] := hl
  refine lv_aload_n hx hb (show decode cX1_init 0 = .ok (.aload_n 0, 1) from by decide +kernel) rfl (lv_at hl 0 rfl) ?_
  refine W.objInit hx hb hown (hts _ (am_tb 147 (by decide +kernel) rfl)) (hts _ (am_tb 22 (by decide +kernel) rfl)) (hts _ (am_tb 23 (by decide +kernel) rfl)) rfl (hl.1.trans hml.symm) rfl (show decode cX1_init 1 = .ok (.invokespecial 3, 3) from by decide +kernel) (Nat.le_of_ble_eq_true rfl) (Nat.le_of_ble_eq_true rfl) ?_
  refine W.eq (g2 := F0 m 4 ls []) rfl ?_
  refine lv_aload_n hx hb (show decode cX1_init 4 = .ok (.aload_n 0, 1) from by decide +kernel) rfl (lv_at hl 0 rfl) ?_
  refine lv_aload_n hx hb (show decode cX1_init 5 = .ok (.aload_n 1, 1) from by decide +kernel) rfl (lv_at hl 1 rfl) ?_
  refine cr_putF (k := 0) (v := .ref tb) (ty := .object "BusBlocks$Timetable") hx hb hts (ci := 1) rfl hown hK hP hD hS (by decide) (am_tb 148 (by decide +kernel) rfl) rfl hin rfl (by decide +kernel) rfl rfl (Nat.le_of_ble_eq_true rfl) (show decode cX1_init 6 = .ok (.putfield 9, 3) from by decide +kernel) (fun H locs hP hD hS => ?_)
  have hP : va_P D vwCl [(h0, .inr (1, [.ref tb, .null]))] H := hP
  have hD : va_D A [(h0, .inr (1, [.ref tb, .null]))] := hD
  refine lv_aload_n hx hb (show decode cX1_init 9 = .ok (.aload_n 0, 1) from by decide +kernel) rfl (lv_at hl 0 rfl) ?_
  refine lv_bipush hx hb (show decode cX1_init 10 = .ok (.bipush 20, 2) from by decide +kernel) (v := 20) rfl ?_
  refine cr_newi (N := 20) hx hb hts hK hP hD hS hA (by decide) (by decide +kernel) (by omega) (show 0 + 1 ≤ 1 by omega) (show 0 + 20 ≤ 20 by omega) (show decode cX1_init 12 = .ok (.newarray .int, 2) from by decide +kernel) (fun q1 H hP hD hS => ?_)
  have hP : va_P D vwCl [(h0, .inr (1, [.ref tb, .null])), (q1, .inl (G 0, 20, .inl (fun _ => 0)))] H := hP
  have hD : va_D A [(h0, .inr (1, [.ref tb, .null])), (q1, .inl (G 0, 20, .inl (fun _ => 0)))] := hD
  refine cr_putF (k := 1) (v := .ref q1) (ty := .array .int) hx hb hts (ci := 1) rfl hown hK hP hD hS (by decide) (am_tb 149 (by decide +kernel) rfl) rfl hin rfl (by decide +kernel) rfl rfl (Nat.le_of_ble_eq_true rfl) (show decode cX1_init 14 = .ok (.putfield 15, 3) from by decide +kernel) (fun H locs hP hD hS => ?_)
  have hP : va_P D vwCl [(h0, .inr (1, [.ref tb, .ref q1])), (q1, .inl (G 0, 20, .inl (fun _ => 0)))] H := hP
  have hD : va_D A [(h0, .inr (1, [.ref tb, .ref q1])), (q1, .inl (G 0, 20, .inl (fun _ => 0)))] := hD
  exact W.vret hx hb hr (fun t ht hW9 => ⟨⟨[(h0, .inr (1, [.ref tb, .ref q1])), (q1, .inl (G 0, 20, .inl (fun _ => 0)))], rfl, ⟨(fun j => match j with | 0 => h0 | 1 => q1 | _ => 0), rfl, rfl⟩, by rw [ht]; exact hP, hD⟩, hS.F ht⟩) hS.2.2 (show decode cX1_init 17 = .ok (.return_, 1) from by decide +kernel)
def wXc (G : Nat → Nat) (h : HP) (q : Nat → Nat) : va_W := [(q 0, .inr (3, [.ref (q 1), .ref (q 2), .int 0, .int 0])), ((q 1), .inl (G 0, 60, .inl (fun _ => 0))), ((q 2), .inl (G 0, 6, .inl (fun _ => 0)))]
set_option maxHeartbeats 4000000 in
set_option maxRecDepth 100000 in
theorem ct_X {l : Launch} {D : va_G} {G ad : Nat → Nat} {h : HP} (hGm : ∀ x, G 4 ≤ x → am_A G x) (hc5 : ∀ j, j < 5 → D.1 (10 + j) = G 0) (h0 : Nat) (hh0 : G 4 ≤ h0) : Ct l D G ad h yX3_init cX3_init 1 1 16 2 66 h0 (.inr (3, [.null, .null, .int 0, .int 0])) [] (fun w => ∃ q : Nat → Nat, q 0 = h0 ∧ w = wXc G h q) := by
  intro sz
  refine Met.ofW (cc := cX3_init) (maxL := 1) (ret := none) (by decide) rfl ?_
  intro p e s m args below meth c s₁ B hml hv
  obtain ⟨rfl, hsz, hP, hS0⟩ := hv
  obtain ⟨⟨hWr, hK, hZ, hG⟩, hAO⟩ := id hS0
  have hx := B.exec
  have hb := B.bytes
  have hr := B.returns
  have hts0 := atoms_spec (ws := Cond.code yX3_init cX3_init 1 none :: am_U) B.pre
  have hts : ∀ w ∈ am_U, w.before (.ref h0 :: [] : List Value).toArray s = true := fun w hw => hts0 w (List.mem_cons_of_mem _ hw)
  have hown : s.vm.findClass RX3 = some m.cls := findClass_of_methodNamed B.named
  have hlocks := B.notSynchronized
  have hin : meth.name = "<init>" := (name_of_methodNamed B.named B.method).1
  have hnmI : s.vm.findClass "[I" = some (G 0) := by
    have e9 : "[" ++ FieldType.int.toString = "[I" := by decide +kernel
    have h2 := (hK.2 0 (G 0, .int) rfl).2
    rw [← e9]; exact h2
  subst hsz
  have hD0 : va_D (va_A [(h0, (.inr (3, [.null, .null, .int 0, .int 0])))] s.heap.size) [(h0, (.inr (3, [.null, .null, .int 0, .int 0])))] := va_D_one
  generalize hAe : va_A [(h0, (.inr (3, [.null, .null, .int 0, .int 0])))] s.heap.size = A at hD0 ⊢
  have hA : ∀ q : Nat, s.heap.size ≤ q → A q := fun q hq => by rw [← hAe]; exact Or.inr hq
  have hAG : ∀ x, A x → G 4 ≤ x := fun x hx' => by
    rw [← hAe] at hx'
    rcases hx' with ⟨k, e', hk'⟩ | z
    · match k, hk' with
      | 0, hk' => cases hk'; exact hh0
      | k + 1, hk' => simp at hk'
    · exact Nat.le_trans hG.1 z
  have hAm : ∀ x, A x → am_A G x := fun x hx' => hGm x (hAG x hx')
  have hro : ∀ j (H : Heap) {locs : List Loc}, va_S A s.heap H locs → j < 5 → am_rc D H (ad (1000 + j)) j 4 (h.1 (1000 + j)) := fun j H locs hS hj => by
    obtain ⟨a1, a2, -⟩ := hWr.2.2.1 j (5, 4, []) (by match j, hj with | 0, _ => rfl | 1, _ => rfl | 2, _ => rfl | 3, _ => rfl | 4, _ => rfl | j + 5, z => omega)
    exact a1.kept (hS.2.1 _ a1.lt (fun z => absurd (hAG _ z) (by omega)))
  have hD := hD0
  have hS : va_S A s.heap s.heap [] := va_S.rf
  have hl := lv_entry (.ref h0 :: []) (n := 1) (Nat.le_of_ble_eq_true rfl)
  rw [lg_entry_eq]
  generalize (lg_sl (.ref h0 :: []) ++ List.replicate (1 - (lg_sl (.ref h0 :: [])).length) Slot.unset).toArray = ls at hl ⊢
  have hl : lv_has ls 1 [(0, .ref h0)] := hl
  refine lv_aload_n hx hb (show decode cX3_init 0 = .ok (.aload_n 0, 1) from by decide +kernel) rfl (lv_at hl 0 rfl) ?_
  refine W.objInit hx hb hown (hts _ (am_tb 160 (by decide +kernel) rfl)) (hts _ (am_tb 22 (by decide +kernel) rfl)) (hts _ (am_tb 23 (by decide +kernel) rfl)) rfl (hl.1.trans hml.symm) rfl (show decode cX3_init 1 = .ok (.invokespecial 3, 3) from by decide +kernel) (Nat.le_of_ble_eq_true rfl) (Nat.le_of_ble_eq_true rfl) ?_
  refine W.eq (g2 := F0 m 4 ls []) rfl ?_
  refine lv_aload_n hx hb (show decode cX3_init 4 = .ok (.aload_n 0, 1) from by decide +kernel) rfl (lv_at hl 0 rfl) ?_
  refine lv_bipush hx hb (show decode cX3_init 5 = .ok (.bipush 60, 2) from by decide +kernel) (v := 60) rfl ?_
  refine cr_newi (N := 60) hx hb hts hK hP hD hS hA (by decide) (by decide +kernel) (by omega) (show 0 + 1 ≤ 2 by omega) (show 0 + 60 ≤ 66 by omega) (show decode cX3_init 7 = .ok (.newarray .int, 2) from by decide +kernel) (fun q1 H hP hD hS => ?_)
  have hP : va_P D vwCl [(h0, .inr (3, [.null, .null, .int 0, .int 0])), (q1, .inl (G 0, 60, .inl (fun _ => 0)))] H := hP
  have hD : va_D A [(h0, .inr (3, [.null, .null, .int 0, .int 0])), (q1, .inl (G 0, 60, .inl (fun _ => 0)))] := hD
  refine cr_putF (k := 0) (v := .ref q1) (ty := .array .int) hx hb hts (ci := 3) rfl hown hK hP hD hS (by decide) (am_tb 161 (by decide +kernel) rfl) rfl hin rfl (by decide +kernel) rfl rfl (Nat.le_of_ble_eq_true rfl) (show decode cX3_init 9 = .ok (.putfield 9, 3) from by decide +kernel) (fun H locs hP hD hS => ?_)
  have hP : va_P D vwCl [(h0, .inr (3, [.ref q1, .null, .int 0, .int 0])), (q1, .inl (G 0, 60, .inl (fun _ => 0)))] H := hP
  have hD : va_D A [(h0, .inr (3, [.ref q1, .null, .int 0, .int 0])), (q1, .inl (G 0, 60, .inl (fun _ => 0)))] := hD
  refine lv_aload_n hx hb (show decode cX3_init 12 = .ok (.aload_n 0, 1) from by decide +kernel) rfl (lv_at hl 0 rfl) ?_
  refine lv_bipush hx hb (show decode cX3_init 13 = .ok (.bipush 6, 2) from by decide +kernel) (v := 6) rfl ?_
  refine cr_newi (N := 6) hx hb hts hK hP hD hS hA (by decide) (by decide +kernel) (by omega) (show 1 + 1 ≤ 2 by omega) (show 60 + 6 ≤ 66 by omega) (show decode cX3_init 15 = .ok (.newarray .int, 2) from by decide +kernel) (fun q2 H hP hD hS => ?_)
  have hP : va_P D vwCl [(h0, .inr (3, [.ref q1, .null, .int 0, .int 0])), (q1, .inl (G 0, 60, .inl (fun _ => 0))), (q2, .inl (G 0, 6, .inl (fun _ => 0)))] H := hP
  have hD : va_D A [(h0, .inr (3, [.ref q1, .null, .int 0, .int 0])), (q1, .inl (G 0, 60, .inl (fun _ => 0))), (q2, .inl (G 0, 6, .inl (fun _ => 0)))] := hD
  refine cr_putF (k := 1) (v := .ref q2) (ty := .array .int) hx hb hts (ci := 3) rfl hown hK hP hD hS (by decide) (am_tb 162 (by decide +kernel) rfl) rfl hin rfl (by decide +kernel) rfl rfl (Nat.le_of_ble_eq_true rfl) (show decode cX3_init 17 = .ok (.putfield 15, 3) from by decide +kernel) (fun H locs hP hD hS => ?_)
  have hP : va_P D vwCl [(h0, .inr (3, [.ref q1, .ref q2, .int 0, .int 0])), (q1, .inl (G 0, 60, .inl (fun _ => 0))), (q2, .inl (G 0, 6, .inl (fun _ => 0)))] H := hP
  have hD : va_D A [(h0, .inr (3, [.ref q1, .ref q2, .int 0, .int 0])), (q1, .inl (G 0, 60, .inl (fun _ => 0))), (q2, .inl (G 0, 6, .inl (fun _ => 0)))] := hD
  refine lv_aload_n hx hb (show decode cX3_init 20 = .ok (.aload_n 0, 1) from by decide +kernel) rfl (lv_at hl 0 rfl) ?_
  refine lv_iconst hx hb (show decode cX3_init 21 = .ok (.iconst 0, 1) from by decide +kernel) (v := 0) rfl ?_
  refine cr_putI (k := 2) (v := .int 0) (ty := .int) hx hb hts (ci := 3) rfl hown hK hP hD hS (by decide) (am_tb 163 (by decide +kernel) rfl) rfl rfl (by decide +kernel) rfl rfl (Nat.le_of_ble_eq_true rfl) (show decode cX3_init 22 = .ok (.putfield 18, 3) from by decide +kernel) (fun H locs hP hD hS => ?_)
  have hP : va_P D vwCl [(h0, .inr (3, [.ref q1, .ref q2, .int 0, .int 0])), (q1, .inl (G 0, 60, .inl (fun _ => 0))), (q2, .inl (G 0, 6, .inl (fun _ => 0)))] H := hP
  have hD : va_D A [(h0, .inr (3, [.ref q1, .ref q2, .int 0, .int 0])), (q1, .inl (G 0, 60, .inl (fun _ => 0))), (q2, .inl (G 0, 6, .inl (fun _ => 0)))] := hD
  refine lv_aload_n hx hb (show decode cX3_init 25 = .ok (.aload_n 0, 1) from by decide +kernel) rfl (lv_at hl 0 rfl) ?_
  refine lv_iconst hx hb (show decode cX3_init 26 = .ok (.iconst 0, 1) from by decide +kernel) (v := 0) rfl ?_
  refine cr_putI (k := 3) (v := .int 0) (ty := .int) hx hb hts (ci := 3) rfl hown hK hP hD hS (by decide) (am_tb 165 (by decide +kernel) rfl) rfl rfl (by decide +kernel) rfl rfl (Nat.le_of_ble_eq_true rfl) (show decode cX3_init 27 = .ok (.putfield 22, 3) from by decide +kernel) (fun H locs hP hD hS => ?_)
  have hP : va_P D vwCl [(h0, .inr (3, [.ref q1, .ref q2, .int 0, .int 0])), (q1, .inl (G 0, 60, .inl (fun _ => 0))), (q2, .inl (G 0, 6, .inl (fun _ => 0)))] H := hP
  have hD : va_D A [(h0, .inr (3, [.ref q1, .ref q2, .int 0, .int 0])), (q1, .inl (G 0, 60, .inl (fun _ => 0))), (q2, .inl (G 0, 6, .inl (fun _ => 0)))] := hD
  exact W.vret hx hb hr (fun t ht hW9 => ⟨⟨[(h0, .inr (3, [.ref q1, .ref q2, .int 0, .int 0])), (q1, .inl (G 0, 60, .inl (fun _ => 0))), (q2, .inl (G 0, 6, .inl (fun _ => 0)))], rfl, ⟨(fun j => match j with | 0 => h0 | 1 => q1 | 2 => q2 | _ => 0), rfl, rfl⟩, by rw [ht]; exact hP, hD⟩, hS.F ht⟩) hS.2.2 (show decode cX3_init 30 = .ok (.return_, 1) from by decide +kernel)
