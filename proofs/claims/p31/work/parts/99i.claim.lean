/-! THE CLAIM: the law from its entry (written by gen/claim31.py around the skeleton's words). -/
/-! THE CLAIM OUT OF ONE WALK OF THE LAW'S BODY. Your part is whole_start (and what it stands on); all else here is the same for every law, but numbers. -/
def R_law : String := "BusBlocksLaw"
def lw_P (b : Addr) (xs : List Int32) (args : Array Value) (s : State) : Prop := args = #[.ref b] ∧ s.IntsAt b xs ∧ xs.length ≤ 260 ∧ (Jvm.Cond.and given_1 narrow_1).before args s = true
/-- what a walk over the start with the record d0 says of its end, said of the start itself -/
theorem lw_closed {s t : State} {o : Outcome} {d0 : Drawn} {L : List Loc} {k n : Nat} (hd0 : s.drawn.sameBut d0 lw_cs) (hv : ∃ v, o = .returned v) (hW : (s.setDrawn d0).WarmedH t.vm) (hs : (s.setDrawn d0).sameButNew ({ t with vm := s.vm } : State) L k n) : State.butDraws s t lw_cs (fun t1 => Framed s o t1 L k n) := by
  have h2 : t.drawn = d0 := congrArg State.drawn hs.1
  refine ⟨⟨hv, hW, State.sameButNew.setDrawn hs s.drawn⟩, ?_, by decide⟩
  rw [h2]
  exact hd0
def lw_Q (_ : Array Value) (s : State) (o : Outcome) (t : State) : Prop := o = .returned (some (.int 1)) ∧ State.butDraws s t lw_cs (fun t1 => Framed s o t1 [] 600086 7301442)
def lw_Z (below : List Frame) (a : Array Value) (s : State) : State → Prop := fun t => ∃ o, t.status = .running ∧ Ended t below o ∧ lw_Q a s o t
/-- the law's own end, with 1 on the stack, nothing written that was there before, its room as the claim has it; d0: the record of draws at this point (at the entry s.drawn: begin with 'refine W.base ?_' and 'have hd0 := Drawn.sameBut.refl s.drawn lw_cs') -/
theorem lw_ret {p : Program} {l : Launch} {e : Env} {s : State} {m : MethodId} {below : List Frame} {meth : Method} {c : Code} {b : Nat} {d0 : Drawn} (hd0 : s.drawn.sameBut d0 lw_cs) (hx : p.tables.exec = Jvm.exec) (hb : c.code = code) (hr : meth.sig.returnType = ret) (hlocks : meth.locks = false) {pc : Nat} {H : Heap} {ls : Array Slot} (hdg : decode code pc = .ok (.ireturn, 1)) : W p l e room_1 (s.setDrawn d0) m #[Value.ref b] below meth c H [] 600086 7301442 (lw_Z below #[Value.ref b] s) (F0 m pc ls [.int 1]) := by
  intro T hT X
  obtain ⟨fs, hret, hrun, hended, hW, hframe⟩ := X.leave (v := some (.int 1)) (hlocks := hlocks) (fun h => by rw [hr] at h; cases h)
  have hmeth' : T.vm.method? m = some meth := X.method'
  refine ⟨T.setFrames fs, ?_, .returned (some (.int 1)), hrun, hended, rfl, lw_closed hd0 ⟨_, rfl⟩ hW hframe⟩
  jvm_step X.here [X.here.top, hx, hb, hdg, hmeth', hr, ret, narrow_b1]
  (try refine ⟨rfl, ?_⟩); (try refine ⟨rfl, ?_⟩)
  first | (intro acts; rw [hret _ acts rfl rfl rfl]) | rw [hret _ _ rfl rfl rfl]
  exact Steps.refl _
/-- what holds at the law's entry: the machine, the code, the tables' words (any of lw_tbl by 'hts w (by decide +kernel)'), the script of L ints xs at the cell b, what the Statement gives of the start (any of its parts by flat_of_before) -/
def lw_At (p : Program) (s : State) (m : MethodId) (meth : Method) (c : Code) (b L : Nat) (xs : Nat → Int32) : Prop :=
  p.tables.exec = Jvm.exec ∧ c.code = code ∧ meth.sig.returnType = ret ∧ c.maxLocals = 14 ∧ s.vm.findClass R_law = some m.cls ∧ (∀ w ∈ lw_tbl, w.before #[Value.ref b] s = true) ∧ va_X b L xs s s.heap ∧ b < s.heap.size ∧ meth.locks = false ∧ (Jvm.Cond.and given_1 narrow_1).before #[Value.ref b] s = true
theorem ok_law {l : Launch} (hl : l.stackTraces = false) {L : Nat} (hL : L ≤ 260) : ∀ q ∈ m_inv (m_L_law L), am_Ok l WL (ROL L) q.2 := by
  have hw : WL.length ≤ 1000 := by decide +kernel
  have hr : (ROL L).length ≤ 900 := Nat.le_of_ble_eq_true rfl
  have he : ([(5, L, [])] : List Sh).length ≤ 800 := Nat.le_of_ble_eq_true rfl
  exact am_c (ok_K 0 plB_L hw hr (ok_B_trip hl [] [(5, L, [])] 15) nv_trip) (am_c (ok_K 0 plB_L hw hr (ok_B_blockAll hl [] [(5, L, [])] 15) nv_blockAll) (am_c (ok_K 0 plB_L hw hr (ok_B_keep hl [] [(5, L, [])] 15) nv_keep) (am_c (ok_K 0 plB_L hw hr (ok_B_goBack hl [] [(5, L, [])] 15) nv_goBack) (am_c (ok_K 0 plB_L hw hr (ok_B_undo hl [] [(5, L, [])] 15) nv_undo) (am_c (ok_K 0 plB_L hw hr (ok_B_count hl [] [(5, L, [])] 15) nv_count) (am_c (ok_K 1 plB_L hw hr (ok_L_call hl [] [(5, L, [])]) nv_call) (am_c (ok_K 0 plB_L hw hr (ok_L_seen hl [] [(5, L, [])] 0) nv_seen) (am_c (ok_K 164 plB_L hw hr (ok_L_refused hl (e2 := [(5, L, [])]) he 0) nv_refused) (am_c (ok_L_drawn hl hL WL) (am_c (ok_L_part hl [(2, 64, [])] [(5, L, [])] 0) (am_n)))))))))))
theorem law_W0 {D : va_G} {G t : Nat → Nat} {s : State} {n : Nat} {xs : Nat → Int32} (hA : ∀ x, am_A G x ↔ s.heap.size ≤ x) (hG4 : G 4 = s.heap.size) (hrow : ∀ j, j < 5 → am_rc D s.heap (t j) j 4 ((hI 0 xs).1 (1000 + j))) {ad : Nat → Nat} (had : ∀ j, j < 5 → ad (1000 + j) = t j) {H : Heap} {locs : List Loc} (hS : va_S (am_A G) s.heap H locs) (j : Nat) (hj : j < 5) : am_rc D H (ad (1000 + j)) j 4 ((hI n xs).1 (1000 + j)) ∧ (ad (1000 + j) < G 4 ∧ ¬ am_A G (ad (1000 + j))) ∧ 5 = 5 := by
  have h1 := hrow j hj
  have h2 := h1.lt
  rw [had j hj, hI_row (n' := 0) (xs' := xs) j hj]
  have h3 : ¬ am_A G (t j) := fun z => by have := (hA _).mp z; omega
  exact ⟨h1.kept (hS.2.1 _ h2 h3), ⟨by rw [hG4]; exact h2, h3⟩, rfl⟩
theorem law_bud (L : Nat) (h : HP) : m_bud (m_L_law L) h = (h.1 2000 0).toNatClampNeg := rfl
theorem law_end {p : Program} {e : Env} {s : State} {m : MethodId} {below : List Frame} {meth : Method} {c : Code} {l : Launch} {b L : Nat} {D : va_G} {G ad : Nat → Nat} {ro : List Sh} (hx : p.tables.exec = Jvm.exec) (hb : c.code = code) (hr : meth.sig.returnType = ret) (hlocks : meth.locks = false) (hA : ∀ x, am_A G x ↔ s.heap.size ≤ x) : am_End p l e room_1 s m #[Value.ref b] below meth c D G ad WL ro (m_L_law L) 3000 code LQ (lw_Z below #[Value.ref b] s) := by
  refine ⟨?_, ?_, ?_, ?_, ?_, ?_⟩
  · intro v h pc A H locs hrt hP hdg hW hS
    obtain ⟨p1, p2⟩ := hP
    cases p1
    have hbd : m_bud (m_L_law L) h ≤ 4400 := by rw [law_bud]; exact p2
    refine va_forget (fun q hq => (hA _).mp (hS.2.2 q hq)) ?_
    refine W.widen (k := 600086) (n := 7301442) (by omega) (by omega) ?_
    exact lw_ret (d0 := s.drawn) (Drawn.sameBut.refl s.drawn lw_cs) hx hb hr hlocks hdg
  · intro v h pc A H locs hrt
    cases (show (some FieldType.boolean) = some .long from hrt)
  · intro v h pc A H locs hrt
    cases (show (some FieldType.boolean) = some .double from hrt)
  · intro h pc A H locs hrt
    cases (show (some FieldType.boolean) = none from hrt)
  · intro E h pc i xq A st H locs h1
    cases (show (none : Option String) = some E from h1)
  · intro E h0 h pc A st ce q H locs h1
    have h2 : LQ (.inr E) h := h1
    cases h2.1
theorem law_has {t : Nat → Nat} {a0 : Nat} {u : Nat → Nat → Nat} {a : Nat → Nat} {v6 v7 : Nat → Nat → Nat} {ao b : Nat} {ls : Array Slot} (ht : t 5 = b) (hl : lv_has ls 14 [(2, .ref ao), (1, .ref a0), (0, .ref b)]) : am_has (adI t a0 u a v6 v7 ao) [.ref 1005, .ref 38, .ref 135, rA, rA, rA, rA, rA, rA, rA, rA, rA, rA, rA] ls := by
  refine am_has.mono hl rfl (fun z hz => ?_)
  obtain ⟨v, h1, h2, h3⟩ := am_lv_mem.mp hz
  obtain ⟨i, w⟩ := z
  dsimp only at h1 h3
  match i, h1 with
  | 0, h1 =>
    cases h1
    have e : w = .ref b := by rw [h3, ← ht]; rfl
    subst e
    simp
  | 1, h1 =>
    cases h1
    have e : w = .ref a0 := h3
    subst e
    simp
  | 2, h1 =>
    cases h1
    have e : w = .ref ao := h3
    subst e
    simp
  | 3, h1 => cases h1; cases h2
  | 4, h1 => cases h1; cases h2
  | 5, h1 => cases h1; cases h2
  | 6, h1 => cases h1; cases h2
  | 7, h1 => cases h1; cases h2
  | 8, h1 => cases h1; cases h2
  | 9, h1 => cases h1; cases h2
  | 10, h1 => cases h1; cases h2
  | 11, h1 => cases h1; cases h2
  | 12, h1 => cases h1; cases h2
  | 13, h1 => cases h1; cases h2
  | i + 14, h1 => cases h1
section CRB
variable {p : Program} {l : Launch} {e : Env} {R : Room} {s : State} {m : MethodId} {args : Array Value} {below : List Frame} {meth : Method} {c : Code} {H : Heap} {locs : List Loc} {cells slots : Nat} {Q : State → Prop}
variable {cc : ByteArray} {pc : Nat} {ls : Array Slot} {D : va_G} {G t : Nat → Nat} {xs : Nat → Int32}
/-- a body is called -/
theorem cr_callB {own : String} {index : Nat} {y : MethodName} {bytes : ByteArray} {mL fr lo : Nat} (hx : p.tables.exec = Jvm.exec) (hb : c.code = cc) (hsz : ls.size = c.maxLocals) (hown : s.vm.findClass own = some m.cls) (hts : ∀ w ∈ am_U, w.before args s = true) (hM : Cs l D G t xs y bytes mL fr lo) (hS0 : ScC D G (ad0 t) (hI 200 xs) s) (hAG : ∀ x, am_A G x → G 4 ≤ x ∧ am_A G x) (hS : va_S (am_A G) s.heap H locs)
    (hyc : y.cls ≠ "java/lang/invoke/MethodHandle" ∧ y.cls ≠ "java/lang/invoke/VarHandle") (hds : (parseMethodDescriptor y.desc).map (fun d => d.parameters.length) = some 0) (w1 : Cond.code y bytes mL (some .boolean) ∈ am_U) (w2 : Cond.initialized y.cls ∈ am_U) (w3 : Cond.methodLink own index y ∈ am_U) (w4 : Cond.static y ∈ am_U) (hfr : fr + 1 ≤ R.frames) (hlo : 8 + (mL + 11) + lo ≤ R.locals) (hc : cells + 1001 ≤ R.cells) (hs : slots + 8106 ≤ R.slots) (hdg : decode cc pc = .ok (.invokestatic index, 3))
    (kk : ∀ (H1 : Heap) (locs1 : List Loc), va_S (am_A G) s.heap H1 locs1 → W p l e R s m args below meth c H1 locs1 (cells + 1001) (slots + 8106) Q (F0 m (pc + 3) ls [.int 1])) : W p l e R s m args below meth c H locs cells slots Q (F0 m pc ls []) := by
  have hws : ∀ w ∈ (Cond.code y bytes mL (some .boolean) :: am_U), ∀ (a' : Array Value) (U : State), s.WarmedH U.vm → w.before a' U = true := fun w hw a' U hW => by
    rcases List.mem_cons.mp hw with rfl | hw
    · exact am_U_warm hts hW _ w1
    · exact am_U_warm hts hW _ hw
  refine va_calli (va_runS (As := []) (rest := []) (n := 0) ⟨hx, hb, hsz.symm, hown, hts⟩ hM ⟨⟨rfl, rfl, hfr, hlo, hws, List.mem_cons_self, hts _ w1, hts _ w2, hyc, fun sig hsig => ?_, hts _ w3⟩, hts _ w4⟩ ⟨Cs.blind, fun U hU hW => ⟨rfl, hS0.go hS hAG hU hW⟩⟩ rfl rfl rfl rfl (Nat.le_of_ble_eq_true rfl) hdg ⟨hc, hs⟩) hS (fun q _ h' => h') (fun q h' => h') (fun r u t H1 locs1 ht hvm hr hB hz1 hk1 hS1 => ?_)
  · rw [hsig] at hds; exact (Option.some.inj hds).symm
  · subst hr
    exact kk H1 locs1 hS1
end CRB
theorem cu_L_four : Cond.code yL_four cL_four 1 (some .boolean) ∈ am_U := am_in_U (List.mem_append_right _ (List.mem_append_right _ (List.mem_append_right _ (List.mem_append_right _ (List.mem_of_getElem? (i := 74) (show tables_1_4[74]? = some _ from rfl)))))) rfl
theorem cu_L_many : Cond.code yL_many cL_many 2 (some .boolean) ∈ am_U := am_in_U (List.mem_append_right _ (List.mem_append_right _ (List.mem_append_right _ (List.mem_append_right _ (List.mem_of_getElem? (i := 83) (show tables_1_4[83]? = some _ from rfl)))))) rfl
theorem cu_L_texts : Cond.code yL_texts cL_texts 2 (some .boolean) ∈ am_U := am_in_U (List.mem_append_right _ (List.mem_append_right _ (List.mem_append_right _ (List.mem_append_right _ (List.mem_of_getElem? (i := 87) (show tables_1_4[87]? = some _ from rfl)))))) rfl
set_option maxHeartbeats 8000000 in
set_option maxRecDepth 100000 in
theorem whole_start {p : Program} {e : Env} {s : State} {m : MethodId} {below : List Frame} {meth : Method} {c : Code} (l : Launch) (hflags : l.flags = flags0) {b L : Nat} {xs : Nat → Int32} (hL : L ≤ 260) (C0 : lw_At p s m meth c b L xs) : W p l e room_1 s m #[Value.ref b] below meth c s.heap [] 0 0 (lw_Z below #[Value.ref b] s) (entryFrame m ([Value.ref b] : List Value).toArray 14) := by
  obtain ⟨hx, hb, hr, hml, hown, hts, hX, hbl, hlocks, hgv⟩ := id C0
  have hst : l.stackTraces = false := by
    unfold Launch.stackTraces
    rw [hflags]
    decide +kernel
  have htu : ∀ w ∈ am_U, w.before #[Value.ref b] s = true := fun w hw => hts w (List.mem_filter.mp hw).1
  obtain ⟨D, G, t, hA, hG4, hc5, hK, hG, hrow, ht5, hscr, hZ, hAO⟩ := en_all hts hX hgv
  have hown : s.vm.findClass RL = some m.cls := hown
  have hGA : ∀ x, am_A G x ↔ G 4 ≤ x := fun x => by rw [hG4]; exact hA x
  have hGm : ∀ x, G 4 ≤ x → am_A G x := fun x hx' => (hGA x).mpr hx'
  have hA1 : ∀ q : Nat, s.heap.size ≤ q → am_A G q := fun q hq => (hA q).mpr hq
  have hAG : ∀ x, am_A G x → G 4 ≤ x ∧ am_A G x := fun x hx' => ⟨(hGA x).mp hx', hx'⟩
  have hS : va_S (am_A G) s.heap s.heap [] := va_S.rf
  have hSn : ∀ n, ScC D G (ad0 t) (hI n xs) s := fun n => by
    refine ⟨⟨⟨fun k q h => by simp [am_wl] at h, ⟨fun i j p q h => by simp [am_wl] at h, fun k q h => by simp [am_wl] at h⟩, fun j s' hj => ?_, fun s' hs' => absurd hs' List.not_mem_nil⟩, hK, hZ _ ad_row, hG⟩, hAO⟩
    have hj5 : j < 5 := (List.getElem?_eq_some_iff.mp hj).1
    obtain rfl := ro_at hj
    exact law_W0 hA hG4 hrow ad_row va_S.rf j hj5
  have hT : CtT l D G (ad0 t) (hI 4000 xs) := fun q hq => ct_T hGm hc5 q hq
  have hl := lv_entry ([.ref b]) (n := 14) (Nat.le_of_ble_eq_true rfl)
  rw [lg_entry_eq]
  generalize (lg_sl ([.ref b]) ++ List.replicate (14 - (lg_sl ([.ref b])).length) Slot.unset).toArray = ls at hl ⊢
  have hl : lv_has ls 14 [(0, .ref b)] := hl
  refine cr_callB (own := RL) (index := 217) hx hb (hl.1.trans hml.symm) hown htu (cs_four hst (xs := xs) hGA hc5) (hSn 200) hAG hS ⟨by decide, by decide⟩ (by decide +kernel) cu_L_four (am_tb 0 (by decide +kernel) rfl) (am_tb 792 (by decide +kernel) rfl) (am_tb 793 (by decide +kernel) rfl) (Nat.le_of_ble_eq_true rfl) (Nat.le_of_ble_eq_true rfl) (Nat.le_of_ble_eq_true rfl) (Nat.le_of_ble_eq_true rfl) (show decode code 0 = .ok (.invokestatic 217, 3) from by decide +kernel) (fun H locs hS => ?_)
  refine lv_if_eq (off := 15) (tgt := 18) hx hb (show decode code 3 = .ok (.ifCond .eq 15, 3) from by decide +kernel) rfl (fun z => absurd z one0) (fun _ => ?_)
  refine cr_callB (own := RL) (index := 221) hx hb (hl.1.trans hml.symm) hown htu (cs_many hst (xs := xs) hGA hc5) (hSn 200) hAG hS ⟨by decide, by decide⟩ (by decide +kernel) cu_L_many (am_tb 0 (by decide +kernel) rfl) (am_tb 801 (by decide +kernel) rfl) (am_tb 802 (by decide +kernel) rfl) (Nat.le_of_ble_eq_true rfl) (Nat.le_of_ble_eq_true rfl) (Nat.le_of_ble_eq_true rfl) (Nat.le_of_ble_eq_true rfl) (show decode code 6 = .ok (.invokestatic 221, 3) from by decide +kernel) (fun H locs hS => ?_)
  refine lv_if_eq (off := 9) (tgt := 18) hx hb (show decode code 9 = .ok (.ifCond .eq 9, 3) from by decide +kernel) rfl (fun z => absurd z one0) (fun _ => ?_)
  refine cr_callB (own := RL) (index := 224) hx hb (hl.1.trans hml.symm) hown htu (cs_texts hst (xs := xs) hGA hc5) (hSn 200) hAG hS ⟨by decide, by decide⟩ (by decide +kernel) cu_L_texts (am_tb 0 (by decide +kernel) rfl) (am_tb 805 (by decide +kernel) rfl) (am_tb 806 (by decide +kernel) rfl) (Nat.le_of_ble_eq_true rfl) (Nat.le_of_ble_eq_true rfl) (Nat.le_of_ble_eq_true rfl) (Nat.le_of_ble_eq_true rfl) (show decode code 12 = .ok (.invokestatic 224, 3) from by decide +kernel) (fun H locs hS => ?_)
  refine lv_if_ne (off := 5) (tgt := 20) hx hb (show decode code 15 = .ok (.ifCond .ne 5, 3) from by decide +kernel) rfl (fun _ => ?_) (fun z => absurd z one0)
  have hP : va_P D vwCl [] H := fun k q h => by simp at h
  have hD : va_D (am_A G) [] := ⟨fun i j p q h => by simp at h, fun k q h => by simp at h⟩
  refine va_new (fs := [.null, .null, .null, .null, .null, .null, .null, .null, .int 0, .int 0]) (ci := 5) hx hb htu (am_clsU (ci := 5) rfl) tyX5 tyX5_ok hown (htu _ (am_tb 16 (by decide +kernel) rfl)) (htu _ (am_tb 17 (by decide +kernel) rfl)) (htu _ (am_tb 1 (by decide +kernel) rfl)) hK hP hD hS hA1 rfl (fun j hj => match j, hj with | 0, _ => rfl | 1, _ => rfl | 2, _ => rfl | 3, _ => rfl | 4, _ => rfl | 5, _ => rfl | 6, _ => rfl | 7, _ => rfl | 8, _ => rfl | 9, _ => rfl | j + 10, z => absurd z (by omega)) (Nat.le_of_ble_eq_true rfl) (Nat.le_of_ble_eq_true rfl) (show decode code 20 = .ok (.new 18, 3) from by decide +kernel) (fun a0 H hPn hDn hS => ?_)
  refine lv_dup hx hb (show decode code 23 = .ok (.dup, 1) from by decide +kernel) rfl ?_
  refine cr_callI (own := RL) (X := []) (As := []) (n := 0) (rest := [.ref a0]) hx hb (hl.1.trans hml.symm) hown htu (ct_B hGm hc5 hT a0 (hAG _ (hDn.2 0 _ rfl)).1) (hSn 4000) hAG hPn hDn hS hA1 rfl ⟨by decide, by decide⟩ rfl (by decide +kernel) (am_tb 20 (by decide +kernel) rfl) (am_tb 1 (by decide +kernel) rfl) (am_tb 18 (by decide +kernel) rfl) (am_tb 19 (by decide +kernel) rfl) (Nat.le_of_ble_eq_true rfl) (Nat.le_of_ble_eq_true rfl) (Nat.le_of_ble_eq_true rfl) (Nat.le_of_ble_eq_true rfl) (Nat.le_of_ble_eq_true rfl) (show decode code 24 = .ok (.invokespecial 134, 3) from by decide +kernel) (fun w H locs hw hP hD hS => ?_)
  obtain ⟨u, a, v6, v7, rfl⟩ := hw
  have hP : va_P D vwCl (wBc G (hI 4000 xs) a0 u a v6 v7) H := hP
  have hD : va_D (am_A G) (wBc G (hI 4000 xs) a0 u a v6 v7) := hD
  refine lv_astore_n hx hb (show decode code 27 = .ok (.astore_n 1, 1) from by decide +kernel) rfl hl (by decide) rfl (fun ls hl => ?_)
  have hl : lv_has ls 14 [(1, .ref a0), (0, .ref b)] := hl
  refine lv_bipush hx hb (show decode code 28 = .ok (.bipush 64, 2) from by decide +kernel) (v := 64) rfl ?_
  refine cr_newl (N := 64) hx hb htu hK hP hD hS hA1 (by decide) (by decide +kernel) (by omega) (Nat.le_of_ble_eq_true rfl) (Nat.le_of_ble_eq_true rfl) (show decode code 30 = .ok (.newarray .long, 2) from by decide +kernel) (fun ao H hP hD hS => ?_)
  refine lv_astore_n hx hb (show decode code 32 = .ok (.astore_n 2, 1) from by decide +kernel) rfl hl (by decide) rfl (fun ls hl => ?_)
  have hl : lv_has ls 14 [(2, .ref ao), (1, .ref a0), (0, .ref b)] := hl
  obtain ⟨hP, hD⟩ := wY_WL (t := t) hP hD
  have hW : am_W D G (adI t a0 u a v6 v7 ao) (hI 4000 xs) WL (ROL L) H := by
    refine ⟨hP, hD, fun j s' hj => ?_, oks_WL⟩
    have hj6 : j < 6 := (List.getElem?_eq_some_iff.mp hj).1
    by_cases h5 : j < 5
    · have e : s' = (5, 4, []) := match j, hj with | 0, hj => (Option.some.inj hj).symm | 1, hj => (Option.some.inj hj).symm | 2, hj => (Option.some.inj hj).symm | 3, hj => (Option.some.inj hj).symm | 4, hj => (Option.some.inj hj).symm | j + 5, _ => absurd h5 (by omega)
      subst e
      exact law_W0 hA hG4 hrow ad_row hS j h5
    · have e5 : j = 5 := by omega
      subst e5
      have e : s' = (5, L, []) := (Option.some.inj hj).symm
      subst e
      have h3 : ¬ am_A G b := fun z => by have := (hA _).mp z; omega
      have e6 : adI t a0 u a v6 v7 ao (1000 + 5) = b := ht5
      show am_rc D H (adI t a0 u a v6 v7 ao (1000 + 5)) 5 L xs ∧ (adI t a0 u a v6 v7 ao (1000 + 5) < G 4 ∧ ¬ am_A G (adI t a0 u a v6 v7 ao (1000 + 5))) ∧ 5 = 5
      rw [e6]
      exact ⟨hscr.kept (hS.2.1 _ hbl h3), ⟨by rw [hG4]; exact hbl, h3⟩, rfl⟩
  have k := lw_start (P := LQ) hL (at_ini 4000 xs) (fun H h => ⟨rfl, h⟩) (am_X p l e room_1 s m #[Value.ref b] below meth c D G (adI t a0 u a v6 v7 ao) WL (ROL L) (m_L_law L) 3000 (lw_Z below #[Value.ref b] s))
    (fun d hd => am_core (own := RL) (cc := code) hx hb hown htu hG hK (hZ _ ad_row) (mok_L_law L) (ok_law hst hL) (Nat.le_of_ble_eq_true rfl) (Nat.le_of_ble_eq_true rfl) (Nat.le_of_ble_eq_true rfl) (Nat.le_of_ble_eq_true rfl) (fun h o k ho => ⟨fun x => by rw [law_bud, law_bud, am_si_ne (by omega)], fun x => by rw [law_bud, law_bud]⟩) (law_end hx hb hr hlocks hA) d hd) am_X_fg
  have k2 := k 0 ls H locs (by rw [hml]; rfl) (law_has ht5 hl) hW hS
  have e1 : m_bud (m_L_law L) (hI 4000 xs) = 4000 := by
    rw [law_bud]
    show (nI 4000).toNatClampNeg = 4000
    exact nI_clamp (by omega)
  dsimp only at k2
  rw [e1] at k2
  exact W.widen (k := 4000) (n := 3000 + 6 * 4000) (Nat.le_of_ble_eq_true rfl) (Nat.le_of_ble_eq_true rfl) k2
set_option maxHeartbeats 4000000 in
theorem lw_walk (l : Launch) (hflags : l.flags = flags0) (b : Addr) (xs : List Int32) : MetFree l x (headSpec (Jvm.Cond.code x code maxLocals ret :: tables_1) room_1) (lw_P b xs) (fun _ _ _ _ _ => True) lw_Q := by
  refine MetFree.of_bodyS (code := code) (maxLocals := maxLocals) (ret := ret) (by decide) ?_ ?_
  · intro args s m h hn
    obtain ⟨meth, c, h1, h2, h3, h4, h5, h6, -, -⟩ := Cond.code_spec hn (atoms_spec (ws := Jvm.Cond.code x code maxLocals ret :: tables_1) h _ List.mem_cons_self)
    exact ⟨meth, c, h1, h2, h3, h4, h5, h6⟩
  · intro p e s m args below meth c s₁ B hml0 hP _
    obtain ⟨rfl, hx, hbd, hgv⟩ := hP
    obtain ⟨scr, harrAt, hlist, hof, hsmall⟩ := hx
    obtain ⟨hcb, hkn, -, -⟩ := State.arrayAt?_spec harrAt
    have hown : s.vm.findClass R_law = some m.cls := findClass_of_methodNamed B.named
    have hts0 : ∀ c ∈ (Jvm.Cond.code x code maxLocals ret :: tables_1), c.before #[Value.ref b] s = true := atoms_spec (ws := Jvm.Cond.code x code maxLocals ret :: tables_1) B.pre
    have hts : ∀ w ∈ lw_tbl, w.before #[Value.ref b] s = true := k2_hts_sels lw_privs (fun w hw => hts0 w (List.mem_cons_of_mem _ hw)) lw_privs_ok
    have hml : c.maxLocals = 14 := B.maxLocals_eq (hts0 _ List.mem_cons_self)
    have X₀ : Stand p l e room_1 s m #[Value.ref b] below meth c s₁ [] 0 0 := Stand.of_body B
    have hh0 : s₁.heap = s.heap := by rw [B.state]; rfl
    have hsz : scr.slots.size = xs.length := by rw [← Array.length_toList, hlist, List.length_map]
    have hval : ∀ j : Nat, j < xs.length → scr.slots[j]? = some (.int (xs.getD j 0)) := fun j hj => by
      rw [← Array.getElem?_toList, hlist]
      simp [hj]
    have hbl : b < s.heap.size := (Array.getElem?_eq_some_iff.mp hcb).1
    have hX : va_X b xs.length (fun j => xs.getD j 0) s s.heap := ⟨scr, hcb, hof, hkn, hsz, hval⟩
    have K : W p l e room_1 s m #[Value.ref b] below meth c s₁.heap [] 0 0 (lw_Z below #[Value.ref b] s) (entryFrame m ([Value.ref b] : List Value).toArray 14) := by
      rw [hh0]
      exact whole_start l hflags hbd ⟨B.exec, B.bytes, B.returns, hml, hown, hts, hX, hbl, B.notSynchronized, hgv⟩
    obtain ⟨t, a1, o, b1, b2, b3⟩ := K s₁ rfl X₀
    exact ⟨t, o, a1, b1, b2, b3⟩
theorem lw_pre_spec {args : Array Value} {s : State} (h : (Jvm.Cond.and given_1 narrow_1).before args s = true) (hr : rest_1_c.before args s = true) : ∃ (b : Addr) (xs : List Int32), lw_P b xs args s := by
  have hs := flat_of_before _ h
  have hq := flat_of_before _ hr
  have hc : (Cond.count 1).before args s = true := hs _ (by decide +kernel)
  have harr : (Cond.arrayOf (.arg 0) .int).before args s = true := hs _ (by decide +kernel)
  have hle : (Cond.le (.length (.arg 0)) (.int 260)).before args s = true := hs _ (by decide +kernel)
  have hlen : (Cond.isInt (.length (.arg 0))).before args s = true := hq _ (by decide +kernel)
  have hall : (Cond.all (.arg 0) (.isInt (.elem (.arg 0) (.index 0)))).before args s = true := hq _ (by decide +kernel)
  obtain ⟨b, xs, hb, hx⟩ := State.ints_of_pre rfl harr hlen hall
  have hsm : xs.length < 2 ^ 31 := hx.choose_spec.2.2.2
  have hev : (Term.length (.arg 0)).eval args s none [] s = some (.int xs.length.toInt32) := hx.length_eval hb
  have hv := Cond.le_ints hev (show (Term.int 260).eval args s none [] s = some (.int 260) from rfl)
  have hd : xs.length.toInt32 ≤ 260 := by
    simpa [Cond.before, Cond.holds, hv] using hle
  have hN : xs.length ≤ 260 := (Int32.ofNat_le_ofNat hsm (by decide)).mp (show Int32.ofNat xs.length ≤ Int32.ofNat 260 from hd)
  exact ⟨b, xs, Cond.one_arg hc (show args[0]? = some (.ref b) from hb), hx, hN, h⟩
theorem lw_comes (l : Launch) (hflags : l.flags = flags0) : Comes l x (Jvm.Cond.code x code maxLocals ret :: tables_1) room_1 (fun tb e args s => Calls_1 tb e args s ∧ rest_1 tb e args s ∧ Pre_1 tb e args s)
    (fun _ _ args s o t => lw_Q args s o t) := by
  intro p e ha hc hk s m args below hf hfit hheap happ hpre
  obtain ⟨b, xs, hP⟩ := lw_pre_spec hpre.2.2 hpre.2.1
  obtain ⟨k, o, h1, h2, h3, hQ⟩ := lw_walk l hflags b xs p e ha hc hk s m args below hf ((Spec.applies_iff_loose hf).mp happ).1 hP trivial
  exact ⟨k, o, h1, h2, h3, hQ⟩
theorem lw_frame {s t : State} {o : Outcome} {args : Array Value} (h : State.butDraws s t lw_cs (fun t1 => Framed s o t1 [] 600086 7301442)) :
    State.butDraws s t [Jvm.Choice.named "NaN.bits"] (fun t1 => Framed s o t1 (fieldLocs frame_1_writes args s ++ arrayLocs frame_1_arrays args s ++ staticLocs frame_1_statics s) 600086 7301442) := h
theorem lw_limb (L : Cond) (hL : ∀ (args : Array Value) (s t : State), L.after args s (.returned (some (.int 1))) t = true) :
    ArmFor flags0 classFile x code maxLocals ret World_1 tables_1 room_1 Calls_1 rest_1 Pre_1
      (fun tb e a s o t => postC L tb e a s o t ∧ State.butDraws s t [Jvm.Choice.named "NaN.bits"] (fun t1 => Framed s o t1 (fieldLocs frame_1_writes a s ++ arrayLocs frame_1_arrays a s ++ staticLocs frame_1_statics s) 600086 7301442)) := by
  intro l hflags _ _ p e ha hc hk s m args below hf hfit hheap happ hpre
  obtain ⟨k, o, h1, h2, h3, rfl, hF⟩ := lw_comes l hflags p e ha hc hk s m args below hf hfit hheap happ hpre
  exact ⟨k, _, h1, h2, h3, hL args s _, lw_frame hF⟩
theorem i_vc : Claimed_1_1 ∧ Claimed_1_2 := ⟨lw_limb limb_1_1 (fun args s t => by simp [limb_1_1, Cond.after, Cond.holds, Cond.value]), lw_limb limb_1_2 (fun args s t => Cond.after_iff.mpr (by
  first | (rw [show limb_1_2 = Cond.eq .result (.int 1) from rfl, Cond.eq_ints (x := 1) (y := 1) rfl rfl]; simp; done) | (simp [limb_1_2, Cond.value, Term.eval]; done)))⟩

