/-! A SHELF: its places are made in turn (printed by wip/whole/gen/shelf.py). -/
theorem cr_at {X w : va_W} {i : Nat} {a : Nat × va_E} (h : w[i]? = some a) : (X ++ w)[X.length + i]? = some a := by
  rw [List.getElem?_append_right (by omega), Nat.add_sub_cancel_left]; exact h
def CtT (l : Launch) (D : va_G) (G ad : Nat → Nat) (h : HP) : Prop := ∀ q, G 4 ≤ q → Ct l D G ad h yX4_init cX4_init 1 1 16 11 172 q (.inr (4, [.null, .null, .null, .null, .null, .null, .null, .null, .null, .null, .null, .int 0, .int 0, .int 0, .int 0])) [] (fun w => ∃ q' : Nat → Nat, q' 0 = q ∧ w = wTc G h q')
section CRS
variable {p : Program} {l : Launch} {e : Env} {R : Room} {s : State} {m : MethodId} {args : Array Value} {below : List Frame} {meth : Method} {c : Code} {H : Heap} {locs : List Loc} {cells slots : Nat} {Q : State → Prop}
variable {ls : Array Slot} {D : va_G} {A : Nat → Prop} {G ad : Nat → Nat} {h : HP} {h0 arr N : Nat} {f : Nat → Option Nat} {iv nv iv' n : Int32} {Y : va_W}
set_option maxHeartbeats 4000000 in
set_option maxRecDepth 100000 in
theorem sh_step (hx : p.tables.exec = Jvm.exec) (hb : c.code = cX2_init) (hml : c.maxLocals = 3) (hown : s.vm.findClass RX2 = some m.cls) (hts : ∀ w ∈ am_U, w.before args s = true) (hT : CtT l D G ad h) (hS0 : ScC D G ad h s) (hAG : ∀ x, A x → G 4 ≤ x ∧ am_A G x) (hA : ∀ x, s.heap.size ≤ x → A x)
    (hin : vp_in iv N) (hlen : Int32.ofNat N = nv) (hlt : ¬ nv ≤ iv) (hnx : iv + Int32.ofInt 1 = iv')
    (hP : va_P D vwCl ((h0, .inr (2, [.ref arr])) :: (arr, .inl (G 3, N, .inr (.inr (.inr (.inr f))))) :: Y) H) (hD : va_D A ((h0, .inr (2, [.ref arr])) :: (arr, .inl (G 3, N, .inr (.inr (.inr (.inr f))))) :: Y)) (hS : va_S A s.heap H locs) (hl : lv_has ls 3 [(2, .int iv), (0, .ref h0), (1, .int n)]) (hc : cells + 12 ≤ R.cells) (hs : slots + 187 ≤ R.slots) (hfr : 2 ≤ R.frames) (hlo : 36 ≤ R.locals)
    (kk : ∀ (q : Nat → Nat) (H1 : Heap) (locs1 : List Loc) (ls1 : Array Slot), va_P D vwCl ((h0, .inr (2, [.ref arr])) :: (arr, .inl (G 3, N, .inr (.inr (.inr (.inr (va_up f iv.toNatClampNeg (some (q 0)))))))) :: (Y ++ wTc G h q)) H1 → va_D A ((h0, .inr (2, [.ref arr])) :: (arr, .inl (G 3, N, .inr (.inr (.inr (.inr (va_up f iv.toNatClampNeg (some (q 0)))))))) :: (Y ++ wTc G h q)) → va_S A s.heap H1 locs1 → lv_has ls1 3 [(2, .int iv'), (0, .ref h0), (1, .int n)] → W p l e R s m args below meth c H1 locs1 (cells + 12) (slots + 187) Q (F0 m 18 ls1 [])) : W p l e R s m args below meth c H locs cells slots Q (F0 m 18 ls []) := by
  obtain ⟨⟨hWr, hK, hZ, hG⟩, hAO⟩ := id hS0
  have hc2 : vwCl[2]? = some (RX2, TX2, 1) := rfl
  have hc4 : vwCl[4]? = some (RX4, TX4, 15) := rfl
  refine lv_iload_n hx hb (show decode cX2_init 18 = .ok (.iload_n 2, 1) from by decide +kernel) rfl (lv_at hl 0 rfl) ?_
  refine lv_aload_n hx hb (show decode cX2_init 19 = .ok (.aload_n 0, 1) from by decide +kernel) rfl (lv_at hl 1 rfl) ?_
  refine va_get (ref := RX2) hx hb hts (am_clsU hc2) hown hK hP 0 rfl hc2 0 (by decide) (hts _ (am_tb 187 (by decide +kernel) rfl)) (fun _ z => z) (v := .ref arr) rfl (show decode cX2_init 20 = .ok (.getfield 15, 3) from by decide +kernel) ?_
  refine va_alen hx hb hK hP 1 3 rfl rfl hlen (show decode cX2_init 23 = .ok (.arraylength, 1) from by decide +kernel) ?_
  refine lv_icmp_ge (tgt := 46) hx hb (show decode cX2_init 24 = .ok (.if_icmp .ge 22, 3) from by decide +kernel) rfl (fun z => absurd z hlt) (fun _ => ?_)
  refine lv_aload_n hx hb (show decode cX2_init 27 = .ok (.aload_n 0, 1) from by decide +kernel) rfl (lv_at hl 1 rfl) ?_
  refine va_get (ref := RX2) hx hb hts (am_clsU hc2) hown hK hP 0 rfl hc2 0 (by decide) (hts _ (am_tb 187 (by decide +kernel) rfl)) (fun _ z => z) (v := .ref arr) rfl (show decode cX2_init 28 = .ok (.getfield 15, 3) from by decide +kernel) ?_
  refine lv_iload_n hx hb (show decode cX2_init 31 = .ok (.iload_n 2, 1) from by decide +kernel) rfl (lv_at hl 0 rfl) ?_
  refine va_new (fs := [.null, .null, .null, .null, .null, .null, .null, .null, .null, .null, .null, .int 0, .int 0, .int 0, .int 0]) hx hb hts (am_clsU hc4) tyX4 tyX4_ok hown (hts _ (am_tb 184 (by decide +kernel) rfl)) (hts _ (am_tb 25 (by decide +kernel) rfl)) (hts _ (am_tb 2 (by decide +kernel) rfl)) hK hP hD hS hA hc4 (fun j hj => match j, hj with | 0, _ => rfl | 1, _ => rfl | 2, _ => rfl | 3, _ => rfl | 4, _ => rfl | 5, _ => rfl | 6, _ => rfl | 7, _ => rfl | 8, _ => rfl | 9, _ => rfl | 10, _ => rfl | 11, _ => rfl | 12, _ => rfl | 13, _ => rfl | 14, _ => rfl | j + 15, z => absurd z (by omega)) (Nat.le_trans (by omega) hc) (Nat.le_trans (by omega) hs) (show decode cX2_init 32 = .ok (.new 13, 3) from by decide +kernel) (fun q H hPn hDn hS => ?_)
  refine lv_dup hx hb (show decode cX2_init 35 = .ok (.dup, 1) from by decide +kernel) rfl ?_
  refine cr_callN (host := "BusBlocks") (X := (h0, .inr (2, [.ref arr])) :: (arr, .inl (G 3, N, .inr (.inr (.inr (.inr f))))) :: Y) (As := []) (n := 0) (rest := [.ref q, .int iv, .ref arr]) hx hb (hl.1.trans hml.symm) hown hts (hT q (hAG q (hDn.2 _ _ (cr_at (X := (h0, .inr (2, [.ref arr])) :: (arr, .inl (G 3, N, .inr (.inr (.inr (.inr f))))) :: Y) (i := 0) rfl))).1) hS0 hAG hPn hDn hS hA rfl ⟨by decide, by decide⟩ rfl (by decide +kernel) (am_tb 28 (by decide +kernel) rfl) (am_tb 2 (by decide +kernel) rfl) (am_tb 186 (by decide +kernel) rfl) (am_tb 27 (by decide +kernel) rfl) (by omega) (by omega) (Nat.le_of_ble_eq_true rfl) (by omega) (by omega) (show decode cX2_init 36 = .ok (.invokespecial 21, 3) from by decide +kernel) (fun w H locs hw hP hD hS => ?_)
  obtain ⟨q', hq', rfl⟩ := hw
  subst hq'
  refine va_astq hx hb hK hP hD hS 1 3 (((h0, .inr (2, [.ref arr])) :: (arr, .inl (G 3, N, .inr (.inr (.inr (.inr f))))) :: Y : va_W).length + 0) 4 rfl rfl (cr_at rfl) hc4 hin (show decode cX2_init 39 = .ok (.aastore, 1) from by decide +kernel) (fun H locs hP hD hS => ?_)
  have hP : va_P D vwCl ((h0, .inr (2, [.ref arr])) :: (arr, .inl (G 3, N, .inr (.inr (.inr (.inr (va_up f iv.toNatClampNeg (some (q' 0)))))))) :: (Y ++ wTc G h q')) H := hP
  have hD : va_D A ((h0, .inr (2, [.ref arr])) :: (arr, .inl (G 3, N, .inr (.inr (.inr (.inr (va_up f iv.toNatClampNeg (some (q' 0)))))))) :: (Y ++ wTc G h q')) := hD
  refine lv_iinc (k := 0) hx hb (show decode cX2_init 40 = .ok (.iinc 2 1, 3) from by decide +kernel) hl rfl hnx (by decide) rfl (fun ls hl => ?_)
  refine lv_goto (tgt := 18) hx hb (show decode cX2_init 43 = .ok (.goto (-25), 3) from by decide +kernel) rfl ?_
  exact kk q' H locs ls hP hD hS hl
end CRS
def wSc6 (G : Nat → Nat) (h : HP) (a b : Nat) (q : Nat → Nat → Nat) : va_W := (a, .inr (2, [.ref b])) :: (b, .inl (G 3, 6, .inr (.inr (.inr (.inr (fun j => ([q 0 0, q 1 0, q 2 0, q 3 0, q 4 0, q 5 0] : List Nat)[j]?)))))) :: (((((([] ++ wTc G h (q 0)) ++ wTc G h (q 1)) ++ wTc G h (q 2)) ++ wTc G h (q 3)) ++ wTc G h (q 4)) ++ wTc G h (q 5))
theorem up_S6 (q : Nat → Nat → Nat) : (va_up (va_up (va_up (va_up (va_up (va_up (fun _ => none) 0 (some (q 0 0))) 1 (some (q 1 0))) 2 (some (q 2 0))) 3 (some (q 3 0))) 4 (some (q 4 0))) 5 (some (q 5 0))) = fun j => ([q 0 0, q 1 0, q 2 0, q 3 0, q 4 0, q 5 0] : List Nat)[j]? := by
  funext j
  rcases j with _ | _ | _ | _ | _ | _ | j <;> simp [va_up]
set_option maxHeartbeats 4000000 in
set_option maxRecDepth 100000 in
theorem ct_S6 {l : Launch} {D : va_G} {G ad : Nat → Nat} {h : HP} (hGm : ∀ x, G 4 ≤ x → am_A G x) (hT : CtT l D G ad h) (h0 : Nat) (hh0 : G 4 ≤ h0) : Ct l D G ad h yX2_init cX2_init 3 2 40 73 1128 h0 (.inr (2, [.null])) [.int 6] (fun w => ∃ (b : Nat) (q : Nat → Nat → Nat), w = wSc6 G h h0 b q) := by
  intro sz
  refine Met.ofW (cc := cX2_init) (maxL := 3) (ret := none) (by decide) rfl ?_
  intro p e s m args below meth c s₁ B hml hv
  obtain ⟨rfl, hsz, hP, hS0⟩ := hv
  obtain ⟨⟨hWr, hK, hZ, hG⟩, hAO⟩ := id hS0
  have hx := B.exec
  have hb := B.bytes
  have hr := B.returns
  have hts0 := atoms_spec (ws := Cond.code yX2_init cX2_init 3 none :: am_U) B.pre
  have hts : ∀ w ∈ am_U, w.before (.ref h0 :: [.int 6] : List Value).toArray s = true := fun w hw => hts0 w (List.mem_cons_of_mem _ hw)
  have hown : s.vm.findClass RX2 = some m.cls := findClass_of_methodNamed B.named
  have hlocks := B.notSynchronized
  have hin : meth.name = "<init>" := (name_of_methodNamed B.named B.method).1
  subst hsz
  have hD0 : va_D (va_A [(h0, (.inr (2, [.null])))] s.heap.size) [(h0, (.inr (2, [.null])))] := va_D_one
  generalize hAe : va_A [(h0, (.inr (2, [.null])))] s.heap.size = A at hD0 ⊢
  have hA : ∀ q : Nat, s.heap.size ≤ q → A q := fun q hq => by rw [← hAe]; exact Or.inr hq
  have hAG : ∀ x, A x → G 4 ≤ x := fun x hx' => by
    rw [← hAe] at hx'
    rcases hx' with ⟨k, e', hk'⟩ | z
    · match k, hk' with
      | 0, hk' => cases hk'; exact hh0
      | k + 1, hk' => simp at hk'
    · exact Nat.le_trans hG.1 z
  have hAGm : ∀ x, A x → G 4 ≤ x ∧ am_A G x := fun x hx' => ⟨hAG x hx', hGm x (hAG x hx')⟩
  have hD := hD0
  have hS : va_S A s.heap s.heap [] := va_S.rf
  have hl := lv_entry (.ref h0 :: [.int 6]) (n := 3) (Nat.le_of_ble_eq_true rfl)
  rw [lg_entry_eq]
  generalize (lg_sl (.ref h0 :: [.int 6]) ++ List.replicate (3 - (lg_sl (.ref h0 :: [.int 6])).length) Slot.unset).toArray = ls at hl ⊢
  have hl : lv_has ls 3 [(0, .ref h0), (1, .int 6)] := hl
  refine lv_aload_n hx hb (show decode cX2_init 0 = .ok (.aload_n 0, 1) from by decide +kernel) rfl (lv_at hl 0 rfl) ?_
  refine W.objInit hx hb hown (hts _ (am_tb 180 (by decide +kernel) rfl)) (hts _ (am_tb 22 (by decide +kernel) rfl)) (hts _ (am_tb 23 (by decide +kernel) rfl)) rfl (hl.1.trans hml.symm) rfl (show decode cX2_init 1 = .ok (.invokespecial 1, 3) from by decide +kernel) (Nat.le_of_ble_eq_true rfl) (Nat.le_of_ble_eq_true rfl) ?_
  refine W.eq (g2 := F0 m 4 ls []) rfl ?_
  refine lv_aload_n hx hb (show decode cX2_init 4 = .ok (.aload_n 0, 1) from by decide +kernel) rfl (lv_at hl 0 rfl) ?_
  refine lv_iconst hx hb (show decode cX2_init 5 = .ok (.iconst 0, 1) from by decide +kernel) (v := 0) rfl ?_
  refine lv_iload_n hx hb (show decode cX2_init 6 = .ok (.iload_n 1, 1) from by decide +kernel) rfl (lv_at hl 1 rfl) ?_
  refine va_mmax hx hb (hml.trans hl.1.symm) hown (hts _ (am_tb 181 (by decide +kernel) rfl)) (hts _ (am_tb 182 (by decide +kernel) rfl)) (hts _ (am_tb 7 (by decide +kernel) rfl)) (hts _ (am_tb 183 (by decide +kernel) rfl)) (Nat.le_of_ble_eq_true rfl) (Nat.le_of_ble_eq_true rfl) (Nat.zero_le _) (Nat.zero_le _) (show decode cX2_init 7 = .ok (.invokestatic 7, 3) from by decide +kernel) ?_
  rw [show (if (0 : Int32) < 6 then (6 : Int32) else 0) = 6 from by decide]
  refine va_newq (C := "BusBlocks$Timetable") hx hb hown (hts _ (am_tb 184 (by decide +kernel) rfl)) hAO hK hP hD hS hA (N' := 6) (by decide) (by decide +kernel) (by omega) (show 0 + 1 ≤ 73 by omega) (show 0 + 6 ≤ 1128 by omega) (show decode cX2_init 10 = .ok (.anewarray 13, 3) from by decide +kernel) (fun arr cA H hK1 hP hD hS => ?_)
  obtain ⟨-, ⟨-, -, -, -, -, g1⟩⟩ := hK1.2 4 (cA, .object "BusBlocks$Timetable") rfl
  obtain ⟨-, ⟨-, -, -, -, -, g2⟩⟩ := hK.2 3 (G 3, .object "BusBlocks$Timetable") rfl
  cases g1.symm.trans g2
  refine cr_putF (k := 0) (v := .ref arr) (ty := .array (.object "BusBlocks$Timetable")) hx hb hts (ci := 2) rfl hown hK hP hD hS (by decide) (am_tb 187 (by decide +kernel) rfl) rfl hin rfl (by decide +kernel) rfl rfl (Nat.le_of_ble_eq_true rfl) (show decode cX2_init 13 = .ok (.putfield 15, 3) from by decide +kernel) (fun H locs hP hD hS => ?_)
  have hP : va_P D vwCl [(h0, .inr (2, [.ref arr])), (arr, .inl (G 3, 6, .inr (.inr (.inr (.inr (fun _ => none))))))] H := hP
  have hD : va_D A [(h0, .inr (2, [.ref arr])), (arr, .inl (G 3, 6, .inr (.inr (.inr (.inr (fun _ => none))))))] := hD
  refine lv_iconst hx hb (show decode cX2_init 16 = .ok (.iconst 0, 1) from by decide +kernel) (v := 0) rfl ?_
  refine lv_istore_n hx hb (show decode cX2_init 17 = .ok (.istore_n 2, 1) from by decide +kernel) rfl hl (by decide) rfl (fun ls hl => ?_)
  have hl : lv_has ls 3 [(2, .int 0), (0, .ref h0), (1, .int 6)] := hl
  refine sh_step (N := 6) (iv := 0) (nv := 6) (iv' := 1) hx hb hml hown hts hT hS0 hAGm hA (by unfold vp_in; decide +kernel) (by decide +kernel) (by decide +kernel) (by decide +kernel) hP hD hS hl (show 1 + 12 ≤ 73 by omega) (show 6 + 187 ≤ 1128 by omega) (Nat.le_of_ble_eq_true rfl) (Nat.le_of_ble_eq_true rfl) (fun q0 H locs ls hP hD hS hl => ?_)
  refine sh_step (N := 6) (iv := 1) (nv := 6) (iv' := 2) hx hb hml hown hts hT hS0 hAGm hA (by unfold vp_in; decide +kernel) (by decide +kernel) (by decide +kernel) (by decide +kernel) hP hD hS hl (show 13 + 12 ≤ 73 by omega) (show 193 + 187 ≤ 1128 by omega) (Nat.le_of_ble_eq_true rfl) (Nat.le_of_ble_eq_true rfl) (fun q1 H locs ls hP hD hS hl => ?_)
  refine sh_step (N := 6) (iv := 2) (nv := 6) (iv' := 3) hx hb hml hown hts hT hS0 hAGm hA (by unfold vp_in; decide +kernel) (by decide +kernel) (by decide +kernel) (by decide +kernel) hP hD hS hl (show 25 + 12 ≤ 73 by omega) (show 380 + 187 ≤ 1128 by omega) (Nat.le_of_ble_eq_true rfl) (Nat.le_of_ble_eq_true rfl) (fun q2 H locs ls hP hD hS hl => ?_)
  refine sh_step (N := 6) (iv := 3) (nv := 6) (iv' := 4) hx hb hml hown hts hT hS0 hAGm hA (by unfold vp_in; decide +kernel) (by decide +kernel) (by decide +kernel) (by decide +kernel) hP hD hS hl (show 37 + 12 ≤ 73 by omega) (show 567 + 187 ≤ 1128 by omega) (Nat.le_of_ble_eq_true rfl) (Nat.le_of_ble_eq_true rfl) (fun q3 H locs ls hP hD hS hl => ?_)
  refine sh_step (N := 6) (iv := 4) (nv := 6) (iv' := 5) hx hb hml hown hts hT hS0 hAGm hA (by unfold vp_in; decide +kernel) (by decide +kernel) (by decide +kernel) (by decide +kernel) hP hD hS hl (show 49 + 12 ≤ 73 by omega) (show 754 + 187 ≤ 1128 by omega) (Nat.le_of_ble_eq_true rfl) (Nat.le_of_ble_eq_true rfl) (fun q4 H locs ls hP hD hS hl => ?_)
  refine sh_step (N := 6) (iv := 5) (nv := 6) (iv' := 6) hx hb hml hown hts hT hS0 hAGm hA (by unfold vp_in; decide +kernel) (by decide +kernel) (by decide +kernel) (by decide +kernel) hP hD hS hl (show 61 + 12 ≤ 73 by omega) (show 941 + 187 ≤ 1128 by omega) (Nat.le_of_ble_eq_true rfl) (Nat.le_of_ble_eq_true rfl) (fun q5 H locs ls hP hD hS hl => ?_)
  refine lv_iload_n hx hb (show decode cX2_init 18 = .ok (.iload_n 2, 1) from by decide +kernel) rfl (lv_at hl 0 rfl) ?_
  refine lv_aload_n hx hb (show decode cX2_init 19 = .ok (.aload_n 0, 1) from by decide +kernel) rfl (lv_at hl 1 rfl) ?_
  have hc2 : vwCl[2]? = some (RX2, TX2, 1) := rfl
  refine va_get (ref := RX2) hx hb hts (am_clsU hc2) hown hK hP 0 rfl hc2 0 (by decide) (hts _ (am_tb 187 (by decide +kernel) rfl)) (fun _ z => z) (v := .ref arr) rfl (show decode cX2_init 20 = .ok (.getfield 15, 3) from by decide +kernel) ?_
  refine va_alen hx hb hK hP 1 3 rfl rfl (v := 6) rfl (show decode cX2_init 23 = .ok (.arraylength, 1) from by decide +kernel) ?_
  refine lv_icmp_ge (tgt := 46) hx hb (show decode cX2_init 24 = .ok (.if_icmp .ge 22, 3) from by decide +kernel) rfl (fun _ => ?_) (fun z => absurd (by decide +kernel) z)
  refine W.vret hx hb hr (fun t ht hW9 => ⟨⟨_, rfl, ⟨arr, (fun j => match j with | 0 => q0 | 1 => q1 | 2 => q2 | 3 => q3 | 4 => q4 | 5 => q5 | _ => fun _ => 0), ?_⟩, by rw [ht]; exact hP, hD⟩, hS.F ht⟩) hS.2.2 (show decode cX2_init 46 = .ok (.return_, 1) from by decide +kernel)
  have hu := up_S6 (fun j => match j with | 0 => q0 | 1 => q1 | 2 => q2 | 3 => q3 | 4 => q4 | 5 => q5 | _ => fun _ => 0)
  show _ = wSc6 G h h0 arr (fun j => match j with | 0 => q0 | 1 => q1 | 2 => q2 | 3 => q3 | 4 => q4 | 5 => q5 | _ => fun _ => 0)
  unfold wSc6
  rw [← hu]
  rfl
def wSc2 (G : Nat → Nat) (h : HP) (a b : Nat) (q : Nat → Nat → Nat) : va_W := (a, .inr (2, [.ref b])) :: (b, .inl (G 3, 2, .inr (.inr (.inr (.inr (fun j => ([q 0 0, q 1 0] : List Nat)[j]?)))))) :: (([] ++ wTc G h (q 0)) ++ wTc G h (q 1))
theorem up_S2 (q : Nat → Nat → Nat) : (va_up (va_up (fun _ => none) 0 (some (q 0 0))) 1 (some (q 1 0))) = fun j => ([q 0 0, q 1 0] : List Nat)[j]? := by
  funext j
  rcases j with _ | _ | j <;> simp [va_up]
set_option maxHeartbeats 4000000 in
set_option maxRecDepth 100000 in
theorem ct_S2 {l : Launch} {D : va_G} {G ad : Nat → Nat} {h : HP} (hGm : ∀ x, G 4 ≤ x → am_A G x) (hT : CtT l D G ad h) (h0 : Nat) (hh0 : G 4 ≤ h0) : Ct l D G ad h yX2_init cX2_init 3 2 40 25 376 h0 (.inr (2, [.null])) [.int 2] (fun w => ∃ (b : Nat) (q : Nat → Nat → Nat), w = wSc2 G h h0 b q) := by
  intro sz
  refine Met.ofW (cc := cX2_init) (maxL := 3) (ret := none) (by decide) rfl ?_
  intro p e s m args below meth c s₁ B hml hv
  obtain ⟨rfl, hsz, hP, hS0⟩ := hv
  obtain ⟨⟨hWr, hK, hZ, hG⟩, hAO⟩ := id hS0
  have hx := B.exec
  have hb := B.bytes
  have hr := B.returns
  have hts0 := atoms_spec (ws := Cond.code yX2_init cX2_init 3 none :: am_U) B.pre
  have hts : ∀ w ∈ am_U, w.before (.ref h0 :: [.int 2] : List Value).toArray s = true := fun w hw => hts0 w (List.mem_cons_of_mem _ hw)
  have hown : s.vm.findClass RX2 = some m.cls := findClass_of_methodNamed B.named
  have hlocks := B.notSynchronized
  have hin : meth.name = "<init>" := (name_of_methodNamed B.named B.method).1
  subst hsz
  have hD0 : va_D (va_A [(h0, (.inr (2, [.null])))] s.heap.size) [(h0, (.inr (2, [.null])))] := va_D_one
  generalize hAe : va_A [(h0, (.inr (2, [.null])))] s.heap.size = A at hD0 ⊢
  have hA : ∀ q : Nat, s.heap.size ≤ q → A q := fun q hq => by rw [← hAe]; exact Or.inr hq
  have hAG : ∀ x, A x → G 4 ≤ x := fun x hx' => by
    rw [← hAe] at hx'
    rcases hx' with ⟨k, e', hk'⟩ | z
    · match k, hk' with
      | 0, hk' => cases hk'; exact hh0
      | k + 1, hk' => simp at hk'
    · exact Nat.le_trans hG.1 z
  have hAGm : ∀ x, A x → G 4 ≤ x ∧ am_A G x := fun x hx' => ⟨hAG x hx', hGm x (hAG x hx')⟩
  have hD := hD0
  have hS : va_S A s.heap s.heap [] := va_S.rf
  have hl := lv_entry (.ref h0 :: [.int 2]) (n := 3) (Nat.le_of_ble_eq_true rfl)
  rw [lg_entry_eq]
  generalize (lg_sl (.ref h0 :: [.int 2]) ++ List.replicate (3 - (lg_sl (.ref h0 :: [.int 2])).length) Slot.unset).toArray = ls at hl ⊢
  have hl : lv_has ls 3 [(0, .ref h0), (1, .int 2)] := hl
  refine lv_aload_n hx hb (show decode cX2_init 0 = .ok (.aload_n 0, 1) from by decide +kernel) rfl (lv_at hl 0 rfl) ?_
  refine W.objInit hx hb hown (hts _ (am_tb 180 (by decide +kernel) rfl)) (hts _ (am_tb 22 (by decide +kernel) rfl)) (hts _ (am_tb 23 (by decide +kernel) rfl)) rfl (hl.1.trans hml.symm) rfl (show decode cX2_init 1 = .ok (.invokespecial 1, 3) from by decide +kernel) (Nat.le_of_ble_eq_true rfl) (Nat.le_of_ble_eq_true rfl) ?_
  refine W.eq (g2 := F0 m 4 ls []) rfl ?_
  refine lv_aload_n hx hb (show decode cX2_init 4 = .ok (.aload_n 0, 1) from by decide +kernel) rfl (lv_at hl 0 rfl) ?_
  refine lv_iconst hx hb (show decode cX2_init 5 = .ok (.iconst 0, 1) from by decide +kernel) (v := 0) rfl ?_
  refine lv_iload_n hx hb (show decode cX2_init 6 = .ok (.iload_n 1, 1) from by decide +kernel) rfl (lv_at hl 1 rfl) ?_
  refine va_mmax hx hb (hml.trans hl.1.symm) hown (hts _ (am_tb 181 (by decide +kernel) rfl)) (hts _ (am_tb 182 (by decide +kernel) rfl)) (hts _ (am_tb 7 (by decide +kernel) rfl)) (hts _ (am_tb 183 (by decide +kernel) rfl)) (Nat.le_of_ble_eq_true rfl) (Nat.le_of_ble_eq_true rfl) (Nat.zero_le _) (Nat.zero_le _) (show decode cX2_init 7 = .ok (.invokestatic 7, 3) from by decide +kernel) ?_
  rw [show (if (0 : Int32) < 2 then (2 : Int32) else 0) = 2 from by decide]
  refine va_newq (C := "BusBlocks$Timetable") hx hb hown (hts _ (am_tb 184 (by decide +kernel) rfl)) hAO hK hP hD hS hA (N' := 2) (by decide) (by decide +kernel) (by omega) (show 0 + 1 ≤ 25 by omega) (show 0 + 2 ≤ 376 by omega) (show decode cX2_init 10 = .ok (.anewarray 13, 3) from by decide +kernel) (fun arr cA H hK1 hP hD hS => ?_)
  obtain ⟨-, ⟨-, -, -, -, -, g1⟩⟩ := hK1.2 4 (cA, .object "BusBlocks$Timetable") rfl
  obtain ⟨-, ⟨-, -, -, -, -, g2⟩⟩ := hK.2 3 (G 3, .object "BusBlocks$Timetable") rfl
  cases g1.symm.trans g2
  refine cr_putF (k := 0) (v := .ref arr) (ty := .array (.object "BusBlocks$Timetable")) hx hb hts (ci := 2) rfl hown hK hP hD hS (by decide) (am_tb 187 (by decide +kernel) rfl) rfl hin rfl (by decide +kernel) rfl rfl (Nat.le_of_ble_eq_true rfl) (show decode cX2_init 13 = .ok (.putfield 15, 3) from by decide +kernel) (fun H locs hP hD hS => ?_)
  have hP : va_P D vwCl [(h0, .inr (2, [.ref arr])), (arr, .inl (G 3, 2, .inr (.inr (.inr (.inr (fun _ => none))))))] H := hP
  have hD : va_D A [(h0, .inr (2, [.ref arr])), (arr, .inl (G 3, 2, .inr (.inr (.inr (.inr (fun _ => none))))))] := hD
  refine lv_iconst hx hb (show decode cX2_init 16 = .ok (.iconst 0, 1) from by decide +kernel) (v := 0) rfl ?_
  refine lv_istore_n hx hb (show decode cX2_init 17 = .ok (.istore_n 2, 1) from by decide +kernel) rfl hl (by decide) rfl (fun ls hl => ?_)
  have hl : lv_has ls 3 [(2, .int 0), (0, .ref h0), (1, .int 2)] := hl
  refine sh_step (N := 2) (iv := 0) (nv := 2) (iv' := 1) hx hb hml hown hts hT hS0 hAGm hA (by unfold vp_in; decide +kernel) (by decide +kernel) (by decide +kernel) (by decide +kernel) hP hD hS hl (show 1 + 12 ≤ 25 by omega) (show 2 + 187 ≤ 376 by omega) (Nat.le_of_ble_eq_true rfl) (Nat.le_of_ble_eq_true rfl) (fun q0 H locs ls hP hD hS hl => ?_)
  refine sh_step (N := 2) (iv := 1) (nv := 2) (iv' := 2) hx hb hml hown hts hT hS0 hAGm hA (by unfold vp_in; decide +kernel) (by decide +kernel) (by decide +kernel) (by decide +kernel) hP hD hS hl (show 13 + 12 ≤ 25 by omega) (show 189 + 187 ≤ 376 by omega) (Nat.le_of_ble_eq_true rfl) (Nat.le_of_ble_eq_true rfl) (fun q1 H locs ls hP hD hS hl => ?_)
  refine lv_iload_n hx hb (show decode cX2_init 18 = .ok (.iload_n 2, 1) from by decide +kernel) rfl (lv_at hl 0 rfl) ?_
  refine lv_aload_n hx hb (show decode cX2_init 19 = .ok (.aload_n 0, 1) from by decide +kernel) rfl (lv_at hl 1 rfl) ?_
  have hc2 : vwCl[2]? = some (RX2, TX2, 1) := rfl
  refine va_get (ref := RX2) hx hb hts (am_clsU hc2) hown hK hP 0 rfl hc2 0 (by decide) (hts _ (am_tb 187 (by decide +kernel) rfl)) (fun _ z => z) (v := .ref arr) rfl (show decode cX2_init 20 = .ok (.getfield 15, 3) from by decide +kernel) ?_
  refine va_alen hx hb hK hP 1 3 rfl rfl (v := 2) rfl (show decode cX2_init 23 = .ok (.arraylength, 1) from by decide +kernel) ?_
  refine lv_icmp_ge (tgt := 46) hx hb (show decode cX2_init 24 = .ok (.if_icmp .ge 22, 3) from by decide +kernel) rfl (fun _ => ?_) (fun z => absurd (by decide +kernel) z)
  refine W.vret hx hb hr (fun t ht hW9 => ⟨⟨_, rfl, ⟨arr, (fun j => match j with | 0 => q0 | 1 => q1 | _ => fun _ => 0), ?_⟩, by rw [ht]; exact hP, hD⟩, hS.F ht⟩) hS.2.2 (show decode cX2_init 46 = .ok (.return_, 1) from by decide +kernel)
  have hu := up_S2 (fun j => match j with | 0 => q0 | 1 => q1 | _ => fun _ => 0)
  show _ = wSc2 G h h0 arr (fun j => match j with | 0 => q0 | 1 => q1 | _ => fun _ => 0)
  unfold wSc2
  rw [← hu]
  rfl
