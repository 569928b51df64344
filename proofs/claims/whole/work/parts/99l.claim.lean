/-! THE CLAIM: the law from its entry. -/
/-! THE CLAIM OUT OF ONE WALK OF THE LAW'S BODY. Your part is whole_start (and what it stands on); all else here is the same for every law, but numbers. -/
def R_law : String := "BusBlocksLaw"
def lw_P (b : Addr) (xs : List Int32) (args : Array Value) (s : State) : Prop := args = #[.ref b] ∧ s.IntsAt b xs ∧ xs.length ≤ 3072 ∧ (Jvm.Cond.and given_1 narrow_1).before args s = true
/-- what a walk over the start with the record d0 says of its end, said of the start itself -/
theorem lw_closed {s t : State} {o : Outcome} {d0 : Drawn} {L : List Loc} {k n : Nat} (hd0 : s.drawn.sameBut d0 lw_cs) (hv : ∃ v, o = .returned v) (hW : (s.setDrawn d0).WarmedH t.vm) (hs : (s.setDrawn d0).sameButNew ({ t with vm := s.vm } : State) L k n) : State.butDraws s t lw_cs (fun t1 => Framed s o t1 L k n) := by
  have h2 : t.drawn = d0 := congrArg State.drawn hs.1
  refine ⟨⟨hv, hW, State.sameButNew.setDrawn hs s.drawn⟩, ?_, by decide⟩
  rw [h2]
  exact hd0
def lw_Q (_ : Array Value) (s : State) (o : Outcome) (t : State) : Prop := o = .returned (some (.int 1)) ∧ State.butDraws s t lw_cs (fun t1 => Framed s o t1 [] 601024 7293034)
def lw_Z (below : List Frame) (a : Array Value) (s : State) : State → Prop := fun t => ∃ o, t.status = .running ∧ Ended t below o ∧ lw_Q a s o t
/-- the law's own end, with 1 on the stack, nothing written that was there before, its room as the claim has it; d0: the record of draws at this point (at the entry s.drawn: begin with 'refine W.base ?_' and 'have hd0 := Drawn.sameBut.refl s.drawn lw_cs') -/
theorem lw_ret {p : Program} {l : Launch} {e : Env} {s : State} {m : MethodId} {below : List Frame} {meth : Method} {c : Code} {b : Nat} {d0 : Drawn} (hd0 : s.drawn.sameBut d0 lw_cs) (hx : p.tables.exec = Jvm.exec) (hb : c.code = code) (hr : meth.sig.returnType = ret) (hlocks : meth.locks = false) {pc : Nat} {H : Heap} {ls : Array Slot} (hdg : decode code pc = .ok (.ireturn, 1)) : W p l e room_1 (s.setDrawn d0) m #[Value.ref b] below meth c H [] 601024 7293034 (lw_Z below #[Value.ref b] s) (F0 m pc ls [.int 1]) := by
  intro T hT X
  obtain ⟨fs, hret, hrun, hended, hW, hframe⟩ := X.leave (v := some (.int 1)) (hlocks := hlocks) (fun h => by rw [hr] at h; cases h)
  have hmeth' : T.vm.method? m = some meth := X.method'
  refine ⟨T.setFrames fs, ?_, .returned (some (.int 1)), hrun, hended, rfl, lw_closed hd0 ⟨_, rfl⟩ hW hframe⟩
  jvm_step X.here [X.here.top, hx, hb, hdg, hmeth', hr, ret, narrow_b1]
  (try refine ⟨rfl, ?_⟩); (try refine ⟨rfl, ?_⟩)
  first | (intro acts; rw [hret _ acts rfl rfl rfl]) | rw [hret _ _ rfl rfl rfl]
  exact Steps.refl _
/-- what holds at the law's entry: the machine, the code, the tables' words (any of lw_tbl by 'hts w (by decide +kernel)'), the script of L ints xs at the cell b, what the Statement gives of the start (any of its parts by flat_of_before) -/
def lw_At (p : Program) (s : State) (m : MethodId) (meth : Method) (c : Code) (b L : Nat) (xs : Nat → Int32) : Prop :=
  p.tables.exec = Jvm.exec ∧ c.code = code ∧ meth.sig.returnType = ret ∧ c.maxLocals = 9 ∧ s.vm.findClass R_law = some m.cls ∧ (∀ w ∈ lw_tbl, w.before #[Value.ref b] s = true) ∧ va_X b L xs s s.heap ∧ b < s.heap.size ∧ meth.locks = false ∧ (Jvm.Cond.and given_1 narrow_1).before #[Value.ref b] s = true
theorem law_W0 {D : va_G} {G t : Nat → Nat} {s : State} {xs : Nat → Int32} (hA : ∀ x, am_A G x ↔ s.heap.size ≤ x) (hG4 : G 4 = s.heap.size) (hrow : ∀ j, j < 5 → am_rc D s.heap (t j) j 4 ((hI xs).1 (1000 + j))) {ad : Nat → Nat} (had : ∀ j, j < 5 → ad (1000 + j) = t j) {H : Heap} {locs : List Loc} (hS : va_S (am_A G) s.heap H locs) (j : Nat) (hj : j < 5) : am_rc D H (ad (1000 + j)) j 4 ((hI xs).1 (1000 + j)) ∧ (ad (1000 + j) < G 4 ∧ ¬ am_A G (ad (1000 + j))) ∧ 5 = 5 := by
  have h1 := hrow j hj
  have h2 := h1.lt
  rw [had j hj]
  have h3 : ¬ am_A G (t j) := fun z => by have := (hA _).mp z; omega
  exact ⟨h1.kept (hS.2.1 _ h2 h3), ⟨by rw [hG4]; exact h2, h3⟩, rfl⟩
theorem oks_WL : ∀ s ∈ WL, am_oks s := oks_of (by decide +kernel)
theorem law_bud (h : HP) : m_bud m_law h = (h.1 2000 0).toNatClampNeg := rfl
theorem law_end {p : Program} {e : Env} {s : State} {m : MethodId} {below : List Frame} {meth : Method} {c : Code} {l : Launch} {b : Nat} {D : va_G} {G ad : Nat → Nat} {ro : List Sh} (hx : p.tables.exec = Jvm.exec) (hb : c.code = code) (hr : meth.sig.returnType = ret) (hlocks : meth.locks = false) (hA : ∀ x, am_A G x ↔ s.heap.size ≤ x) : am_End p l e room_1 s m #[Value.ref b] below meth c D G ad WL ro m_law 2975 code LPq (lw_Z below #[Value.ref b] s) := by
  refine ⟨?_, ?_, ?_, ?_, ?_, ?_⟩
  · intro v h pc A H locs hrt hP hdg hW hS
    obtain ⟨p1, p2⟩ := hP
    cases p1
    have hbd : m_bud m_law h ≤ 2000 := by rw [law_bud]; exact p2
    refine va_forget (fun q hq => (hA _).mp (hS.2.2 q hq)) ?_
    refine W.widen (k := 601024) (n := 7293034) (by omega) (by omega) ?_
    exact lw_ret (d0 := s.drawn) (Drawn.sameBut.refl s.drawn lw_cs) hx hb hr hlocks hdg
  · intro v h pc A H locs hrt
    cases (show (some FieldType.boolean) = some .long from hrt)
  · intro v h pc A H locs hrt
    cases (show (some FieldType.boolean) = some .double from hrt)
  · intro h pc A H locs hrt
    cases (show (some FieldType.boolean) = none from hrt)
  · intro E h pc i xq A st H locs h1
    cases (show (none : Option String) = some E from h1)
  · intro E h0 h pc A st ce q H locs h1
    have h2 : LPq (.inr E) h := h1
    cases h2.1
theorem law_has {t : Nat → Nat} {a0 : Nat} {u : Nat → Nat → Nat} {a : Nat → Nat} {v6 v7 : Nat → Nat → Nat} {q : Nat → Nat} {ao b : Nat} {ls : Array Slot} (ht : t 5 = b) (hq : q 0 = q 0) (hl : lv_has ls 9 [(4, .int 0), (3, .ref ao), (2, .ref (q 0)), (1, .ref a0), (0, .ref b)]) : am_has (adI t a0 u a v6 v7 q ao) (LSq 0 (.retAddr 0) (.retAddr 0)) ls := by
  refine am_has.mono hl rfl (fun z hz => ?_)
  obtain ⟨v, h1, h2, h3⟩ := am_lv_mem.mp hz
  obtain ⟨i, w⟩ := z
  dsimp only at h1 h3
  match i, h1 with
  | 0, h1 =>
    cases h1
    have e : w = .ref b := by rw [h3, ← ht]; rfl
    subst e
    simp
  | 1, h1 =>
    cases h1
    have e : w = .ref a0 := h3
    subst e
    simp
  | 2, h1 =>
    cases h1
    have e : w = .ref (q 0) := h3
    subst e
    simp
  | 3, h1 =>
    cases h1
    have e : w = .ref ao := h3
    subst e
    simp
  | 4, h1 =>
    cases h1
    have e : w = .int 0 := h3
    subst e
    simp
  | 5, h1 => cases h1; cases h2
  | 6, h1 => cases h1; cases h2
  | 7, h1 => cases h1; cases h2
  | 8, h1 => cases h1; cases h2
  | i + 9, h1 => cases h1
set_option maxHeartbeats 8000000 in
set_option maxRecDepth 100000 in
theorem whole_start {p : Program} {e : Env} {s : State} {m : MethodId} {below : List Frame} {meth : Method} {c : Code} (l : Launch) (hflags : l.flags = flags0) {b L : Nat} {xs : Nat → Int32} (hL : L ≤ 3072) (C0 : lw_At p s m meth c b L xs) : W p l e room_1 s m #[Value.ref b] below meth c s.heap [] 0 0 (lw_Z below #[Value.ref b] s) (entryFrame m ([Value.ref b] : List Value).toArray 9) := by
  obtain ⟨hx, hb, hr, hml, hown, hts, hX, hbl, hlocks, hgv⟩ := id C0
  have hst : l.stackTraces = false := by
    unfold Launch.stackTraces
    rw [hflags]
    decide +kernel
  have htu : ∀ w ∈ am_U, w.before #[Value.ref b] s = true := fun w hw => hts w (List.mem_filter.mp hw).1
  obtain ⟨D, G, t, hA, hG4, hc5, hK, hG, hrow, ht5, hscr, hZ, hAO⟩ := en_all hts hX hgv
  have hown : s.vm.findClass RL = some m.cls := hown
  have hGm : ∀ x, G 4 ≤ x → am_A G x := fun x hx' => (hA x).mpr (by rw [← hG4]; exact hx')
  have hA1 : ∀ q : Nat, s.heap.size ≤ q → am_A G q := fun q hq => (hA q).mpr hq
  have hAG : ∀ x, am_A G x → G 4 ≤ x ∧ am_A G x := fun x hx' => ⟨by rw [hG4]; exact (hA x).mp hx', hx'⟩
  have had0 : ∀ j, j < 5 → adI t 0 (fun _ _ => 0) (fun _ => 0) (fun _ _ => 0) (fun _ _ => 0) (fun _ => 0) 0 (1000 + j) = t j := fun j hj => match j, hj with | 0, _ => rfl | 1, _ => rfl | 2, _ => rfl | 3, _ => rfl | 4, _ => rfl | j + 5, z => absurd z (by omega)
  have hS : va_S (am_A G) s.heap s.heap [] := va_S.rf
  have hP : va_P D vwCl [] s.heap := fun k q h => by simp at h
  have hD : va_D (am_A G) [] := ⟨fun i j p q h => by simp at h, fun k q h => by simp at h⟩
  have hS0 : ScC D G (adI t 0 (fun _ _ => 0) (fun _ => 0) (fun _ _ => 0) (fun _ _ => 0) (fun _ => 0) 0) (hI xs) s := by
    refine ⟨⟨⟨hP, hD, fun j s' hj => ?_, fun s' hs' => absurd hs' List.not_mem_nil⟩, hK, hZ _ had0, hG⟩, hAO⟩
    have hj5 : j < 5 := (List.getElem?_eq_some_iff.mp hj).1
    have e : s' = (5, 4, []) := match j, hj with | 0, hj => (Option.some.inj hj).symm | 1, hj => (Option.some.inj hj).symm | 2, hj => (Option.some.inj hj).symm | 3, hj => (Option.some.inj hj).symm | 4, hj => (Option.some.inj hj).symm | j + 5, _ => absurd hj5 (by omega)
    subst e
    exact law_W0 hA hG4 hrow had0 hS j hj5
  have hT : CtT l D G (adI t 0 (fun _ _ => 0) (fun _ => 0) (fun _ _ => 0) (fun _ _ => 0) (fun _ => 0) 0) (hI xs) := fun q hq => ct_T hGm hc5 q hq
  have hl := lv_entry ([.ref b]) (n := 9) (Nat.le_of_ble_eq_true rfl)
  rw [lg_entry_eq]
  generalize (lg_sl ([.ref b]) ++ List.replicate (9 - (lg_sl ([.ref b])).length) Slot.unset).toArray = ls at hl ⊢
  have hl : lv_has ls 9 [(0, .ref b)] := hl
  refine va_new (fs := [.null, .null, .null, .null, .null, .null, .null, .null, .int 0, .int 0]) (ci := 5) hx hb htu (am_clsU (ci := 5) rfl) tyX5 tyX5_ok hown (hts _ (lw_tb 19 (by decide +kernel))) (hts _ (lw_tb 20 (by decide +kernel))) (hts _ (lw_tb 1 (by decide +kernel))) hK hP hD hS hA1 rfl (fun j hj => match j, hj with | 0, _ => rfl | 1, _ => rfl | 2, _ => rfl | 3, _ => rfl | 4, _ => rfl | 5, _ => rfl | 6, _ => rfl | 7, _ => rfl | 8, _ => rfl | 9, _ => rfl | j + 10, z => absurd z (by omega)) (Nat.le_of_ble_eq_true rfl) (Nat.le_of_ble_eq_true rfl) (show decode code 0 = .ok (.new 8, 3) from by decide +kernel) (fun a0 H hPn hDn hS => ?_)
  refine lv_dup hx hb (show decode code 3 = .ok (.dup, 1) from by decide +kernel) rfl ?_
  refine cr_callI (own := RL) (X := []) (As := []) (n := 0) (rest := [.ref a0]) hx hb (hl.1.trans hml.symm) hown htu (ct_B hGm hc5 hT a0 (hAG _ (hDn.2 0 _ rfl)).1) hS0 hAG hPn hDn hS hA1 rfl ⟨by decide, by decide⟩ rfl (by decide +kernel) (am_tb 23 (by decide +kernel) rfl) (am_tb 1 (by decide +kernel) rfl) (am_tb 21 (by decide +kernel) rfl) (am_tb 22 (by decide +kernel) rfl) (Nat.le_of_ble_eq_true rfl) (Nat.le_of_ble_eq_true rfl) (Nat.le_of_ble_eq_true rfl) (Nat.le_of_ble_eq_true rfl) (Nat.le_of_ble_eq_true rfl) (show decode code 4 = .ok (.invokespecial 89, 3) from by decide +kernel) (fun w H locs hw hP hD hS => ?_)
  obtain ⟨u, a, v6, v7, rfl⟩ := hw
  have hP : va_P D vwCl (wBc G (hI xs) a0 u a v6 v7) H := hP
  have hD : va_D (am_A G) (wBc G (hI xs) a0 u a v6 v7) := hD
  refine lv_astore_n hx hb (show decode code 7 = .ok (.astore_n 1, 1) from by decide +kernel) rfl hl (by decide) rfl (fun ls hl => ?_)
  have hl : lv_has ls 9 [(1, .ref a0), (0, .ref b)] := hl
  refine va_new (fs := [.null, .null, .null, .int 0, .null, .null, .null, .int 0, .int 0, .int 0, .null, .null, .int 0, .null, .int 0, .long 0]) (ci := 6) hx hb htu (am_clsU (ci := 6) rfl) tyX6 tyX6_ok hown (hts _ (lw_tb 878 (by decide +kernel))) (hts _ (lw_tb 879 (by decide +kernel))) (hts _ (lw_tb 8 (by decide +kernel))) hK hP hD hS hA1 rfl (fun j hj => match j, hj with | 0, _ => rfl | 1, _ => rfl | 2, _ => rfl | 3, _ => rfl | 4, _ => rfl | 5, _ => rfl | 6, _ => rfl | 7, _ => rfl | 8, _ => rfl | 9, _ => rfl | 10, _ => rfl | 11, _ => rfl | 12, _ => rfl | 13, _ => rfl | 14, _ => rfl | 15, _ => rfl | j + 16, z => absurd z (by omega)) (Nat.le_of_ble_eq_true rfl) (Nat.le_of_ble_eq_true rfl) (show decode code 8 = .ok (.new 90, 3) from by decide +kernel) (fun qm H hPn hDn hS => ?_)
  refine lv_dup hx hb (show decode code 11 = .ok (.dup, 1) from by decide +kernel) rfl ?_
  refine cr_callI (own := RL) (X := wBc G (hI xs) a0 u a v6 v7) (As := []) (n := 0) (rest := [.ref qm]) hx hb (hl.1.trans hml.symm) hown htu (ct_M hGm qm (hAG _ (hDn.2 _ _ (cr_at (X := wBc G (hI xs) a0 u a v6 v7) (i := 0) rfl))).1) hS0 hAG hPn hDn hS hA1 rfl ⟨by decide, by decide⟩ rfl (by decide +kernel) (am_tb 882 (by decide +kernel) rfl) (am_tb 8 (by decide +kernel) rfl) (am_tb 880 (by decide +kernel) rfl) (am_tb 881 (by decide +kernel) rfl) (Nat.le_of_ble_eq_true rfl) (Nat.le_of_ble_eq_true rfl) (Nat.le_of_ble_eq_true rfl) (Nat.le_of_ble_eq_true rfl) (Nat.le_of_ble_eq_true rfl) (show decode code 12 = .ok (.invokespecial 92, 3) from by decide +kernel) (fun w H locs hw hP hD hS => ?_)
  obtain ⟨q, hq, rfl⟩ := hw
  subst hq
  refine lv_astore_n hx hb (show decode code 15 = .ok (.astore_n 2, 1) from by decide +kernel) rfl hl (by decide) rfl (fun ls hl => ?_)
  have hl : lv_has ls 9 [(2, .ref (q 0)), (1, .ref a0), (0, .ref b)] := hl
  refine lv_iconst hx hb (show decode code 16 = .ok (.iconst 1, 1) from by decide +kernel) (v := 1) rfl ?_
  refine cr_newl (N := 1) hx hb htu hK hP hD hS hA1 (by decide) (by decide +kernel) (by omega) (Nat.le_of_ble_eq_true rfl) (Nat.le_of_ble_eq_true rfl) (show decode code 17 = .ok (.newarray .long, 2) from by decide +kernel) (fun ao H hP hD hS => ?_)
  refine lv_astore_n hx hb (show decode code 19 = .ok (.astore_n 3, 1) from by decide +kernel) rfl hl (by decide) rfl (fun ls hl => ?_)
  have hl : lv_has ls 9 [(3, .ref ao), (2, .ref (q 0)), (1, .ref a0), (0, .ref b)] := hl
  refine lv_iconst hx hb (show decode code 20 = .ok (.iconst 0, 1) from by decide +kernel) (v := 0) rfl ?_
  refine lv_istore hx hb (show decode code 21 = .ok (.istore 4, 2) from by decide +kernel) hl (by decide) rfl (fun ls hl => ?_)
  have hl : lv_has ls 9 [(4, .int 0), (3, .ref ao), (2, .ref (q 0)), (1, .ref a0), (0, .ref b)] := hl
  obtain ⟨hP, hD⟩ := wY_WL (t := t) hP hD
  have had : ∀ j, j < 5 → adI t a0 u a v6 v7 q ao (1000 + j) = t j := fun j hj => match j, hj with | 0, _ => rfl | 1, _ => rfl | 2, _ => rfl | 3, _ => rfl | 4, _ => rfl | j + 5, z => absurd z (by omega)
  have hW : am_W D G (adI t a0 u a v6 v7 q ao) (hI xs) WL (ROL L) H := by
    refine ⟨hP, hD, fun j s' hj => ?_, oks_WL⟩
    have hj6 : j < 6 := (List.getElem?_eq_some_iff.mp hj).1
    by_cases h5 : j < 5
    · have e : s' = (5, 4, []) := match j, hj with | 0, hj => (Option.some.inj hj).symm | 1, hj => (Option.some.inj hj).symm | 2, hj => (Option.some.inj hj).symm | 3, hj => (Option.some.inj hj).symm | 4, hj => (Option.some.inj hj).symm | j + 5, _ => absurd h5 (by omega)
      subst e
      exact law_W0 hA hG4 hrow had hS j h5
    · have e5 : j = 5 := by omega
      subst e5
      have e : s' = (5, L, []) := (Option.some.inj hj).symm
      subst e
      have h3 : ¬ am_A G b := fun z => by have := (hA _).mp z; omega
      have e6 : adI t a0 u a v6 v7 q ao (1000 + 5) = b := ht5
      show am_rc D H (adI t a0 u a v6 v7 q ao (1000 + 5)) 5 L xs ∧ (adI t a0 u a v6 v7 q ao (1000 + 5) < G 4 ∧ ¬ am_A G (adI t a0 u a v6 v7 q ao (1000 + 5))) ∧ 5 = 5
      rw [e6]
      exact ⟨hscr.kept (hS.2.1 _ hbl h3), ⟨by rw [hG4]; exact hbl, h3⟩, rfl⟩
  have k := law_loop hL 513 0 146 (hI xs) (by omega) (by omega) (LR_hI xs) rfl (by omega) (am_X p l e room_1 s m #[Value.ref b] below meth c D G (adI t a0 u a v6 v7 q ao) WL (ROL L) m_law 2975 (lw_Z below #[Value.ref b] s))
    (fun d hd => am_core (own := RL) (cc := code) hx hb hown htu hG hK (hZ _ had) ⟨chk_law, am_n, lk_law, am_n, am_n⟩ (ok_law hst L) (Nat.le_of_ble_eq_true rfl) (Nat.le_of_ble_eq_true rfl) (Nat.le_of_ble_eq_true rfl) (Nat.le_of_ble_eq_true rfl) (fun h o k ho => ⟨fun x => ?_, fun x => rfl⟩) (law_end hx hb hr hlocks hA) d hd) am_X_fg
  · have k2 := k 0 ls H locs (by rw [hml]; rfl) (law_has ht5 rfl hl) hW hS
    have e1 : m_bud m_law (hI xs) = 146 := by
      rw [law_bud]
      show (nI 146).toNatClampNeg = 146
      exact nI_clamp (by omega)
    dsimp only at k2
    rw [e1] at k2
    exact k2
  · show ((am_up h.1 o k x) 2000 0).toNatClampNeg = (h.1 2000 0).toNatClampNeg
    rw [am_up_ne (by omega)]
set_option maxHeartbeats 4000000 in
theorem lw_walk (l : Launch) (hflags : l.flags = flags0) (b : Addr) (xs : List Int32) : MetFree l x (headSpec (Jvm.Cond.code x code maxLocals ret :: tables_1) room_1) (lw_P b xs) (fun _ _ _ _ _ => True) lw_Q := by
  refine MetFree.of_bodyS (code := code) (maxLocals := maxLocals) (ret := ret) (by decide) ?_ ?_
  · intro args s m h hn
    obtain ⟨meth, c, h1, h2, h3, h4, h5, h6, -, -⟩ := Cond.code_spec hn (atoms_spec (ws := Jvm.Cond.code x code maxLocals ret :: tables_1) h _ List.mem_cons_self)
    exact ⟨meth, c, h1, h2, h3, h4, h5, h6⟩
  · intro p e s m args below meth c s₁ B hml0 hP _
    obtain ⟨rfl, hx, hbd, hgv⟩ := hP
    obtain ⟨scr, harrAt, hlist, hof, hsmall⟩ := hx
    obtain ⟨hcb, hkn, -, -⟩ := State.arrayAt?_spec harrAt
    have hown : s.vm.findClass R_law = some m.cls := findClass_of_methodNamed B.named
    have hts0 : ∀ c ∈ (Jvm.Cond.code x code maxLocals ret :: tables_1), c.before #[Value.ref b] s = true := atoms_spec (ws := Jvm.Cond.code x code maxLocals ret :: tables_1) B.pre
    have hts : ∀ w ∈ lw_tbl, w.before #[Value.ref b] s = true := k2_hts_sels lw_privs (fun w hw => hts0 w (List.mem_cons_of_mem _ hw)) lw_privs_ok
    have hml : c.maxLocals = 9 := B.maxLocals_eq (hts0 _ List.mem_cons_self)
    have X₀ : Stand p l e room_1 s m #[Value.ref b] below meth c s₁ [] 0 0 := Stand.of_body B
    have hh0 : s₁.heap = s.heap := by rw [B.state]; rfl
    have hsz : scr.slots.size = xs.length := by rw [← Array.length_toList, hlist, List.length_map]
    have hval : ∀ j : Nat, j < xs.length → scr.slots[j]? = some (.int (xs.getD j 0)) := fun j hj => by
      rw [← Array.getElem?_toList, hlist]
      simp [hj]
    have hbl : b < s.heap.size := (Array.getElem?_eq_some_iff.mp hcb).1
    have hX : va_X b xs.length (fun j => xs.getD j 0) s s.heap := ⟨scr, hcb, hof, hkn, hsz, hval⟩
    have K : W p l e room_1 s m #[Value.ref b] below meth c s₁.heap [] 0 0 (lw_Z below #[Value.ref b] s) (entryFrame m ([Value.ref b] : List Value).toArray 9) := by
      rw [hh0]
      exact whole_start l hflags hbd ⟨B.exec, B.bytes, B.returns, hml, hown, hts, hX, hbl, B.notSynchronized, hgv⟩
    obtain ⟨t, a1, o, b1, b2, b3⟩ := K s₁ rfl X₀
    exact ⟨t, o, a1, b1, b2, b3⟩
theorem lw_pre_spec {args : Array Value} {s : State} (h : (Jvm.Cond.and given_1 narrow_1).before args s = true) (hr : rest_1_c.before args s = true) : ∃ (b : Addr) (xs : List Int32), lw_P b xs args s := by
  have hs := flat_of_before _ h
  have hq := flat_of_before _ hr
  have hc : (Cond.count 1).before args s = true := hs _ (by decide +kernel)
  have harr : (Cond.arrayOf (.arg 0) .int).before args s = true := hs _ (by decide +kernel)
  have hle : (Cond.le (.length (.arg 0)) (.int 3072)).before args s = true := hs _ (by decide +kernel)
  have hlen : (Cond.isInt (.length (.arg 0))).before args s = true := hq _ (by decide +kernel)
  have hall : (Cond.all (.arg 0) (.isInt (.elem (.arg 0) (.index 0)))).before args s = true := hq _ (by decide +kernel)
  obtain ⟨b, xs, hb, hx⟩ := State.ints_of_pre rfl harr hlen hall
  have hsm : xs.length < 2 ^ 31 := hx.choose_spec.2.2.2
  have hev : (Term.length (.arg 0)).eval args s none [] s = some (.int xs.length.toInt32) := hx.length_eval hb
  have hv := Cond.le_ints hev (show (Term.int 3072).eval args s none [] s = some (.int 3072) from rfl)
  have hd : xs.length.toInt32 ≤ 3072 := by
    simpa [Cond.before, Cond.holds, hv] using hle
  have hN : xs.length ≤ 3072 := (Int32.ofNat_le_ofNat hsm (by decide)).mp (show Int32.ofNat xs.length ≤ Int32.ofNat 3072 from hd)
  exact ⟨b, xs, Cond.one_arg hc (show args[0]? = some (.ref b) from hb), hx, hN, h⟩
theorem lw_comes (l : Launch) (hflags : l.flags = flags0) : Comes l x (Jvm.Cond.code x code maxLocals ret :: tables_1) room_1 (fun tb e args s => Calls_1 tb e args s ∧ rest_1 tb e args s ∧ Pre_1 tb e args s)
    (fun _ _ args s o t => lw_Q args s o t) := by
  intro p e ha hc hk s m args below hf hfit hheap happ hpre
  obtain ⟨b, xs, hP⟩ := lw_pre_spec hpre.2.2 hpre.2.1
  obtain ⟨k, o, h1, h2, h3, hQ⟩ := lw_walk l hflags b xs p e ha hc hk s m args below hf ((Spec.applies_iff_loose hf).mp happ).1 hP trivial
  exact ⟨k, o, h1, h2, h3, hQ⟩
theorem lw_frame {s t : State} {o : Outcome} {args : Array Value} (h : State.butDraws s t lw_cs (fun t1 => Framed s o t1 [] 601024 7293034)) :
    State.butDraws s t [Jvm.Choice.named "NaN.bits"] (fun t1 => Framed s o t1 (fieldLocs frame_1_writes args s ++ arrayLocs frame_1_arrays args s ++ staticLocs frame_1_statics s) 601024 7293034) := h
theorem lw_limb (L : Cond) (hL : ∀ (args : Array Value) (s t : State), L.after args s (.returned (some (.int 1))) t = true) :
    ArmFor flags0 classFile x code maxLocals ret World_1 tables_1 room_1 Calls_1 rest_1 Pre_1
      (fun tb e a s o t => postC L tb e a s o t ∧ State.butDraws s t [Jvm.Choice.named "NaN.bits"] (fun t1 => Framed s o t1 (fieldLocs frame_1_writes a s ++ arrayLocs frame_1_arrays a s ++ staticLocs frame_1_statics s) 601024 7293034)) := by
  intro l hflags _ _ p e ha hc hk s m args below hf hfit hheap happ hpre
  obtain ⟨k, o, h1, h2, h3, rfl, hF⟩ := lw_comes l hflags p e ha hc hk s m args below hf hfit hheap happ hpre
  exact ⟨k, _, h1, h2, h3, hL args s _, lw_frame hF⟩
theorem i_vc : Claimed_1_1 ∧ Claimed_1_2 := ⟨lw_limb limb_1_1 (fun args s t => by simp [limb_1_1, Cond.after, Cond.holds, Cond.value]), lw_limb limb_1_2 (fun args s t => Cond.after_iff.mpr (by
  first | (rw [show limb_1_2 = Cond.eq .result (.int 1) from rfl, Cond.eq_ints (x := 1) (y := 1) rfl rfl]; simp; done) | (simp [limb_1_2, Cond.value, Term.eval]; done)))⟩

