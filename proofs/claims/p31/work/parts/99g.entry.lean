/-! THE LAW'S ENTRY: what the statement gives of the start (written by gen/entry31.py). -/
section CRI
variable {p : Program} {l : Launch} {e : Env} {R : Room} {s : State} {m : MethodId} {args : Array Value} {below : List Frame} {meth : Method} {c : Code} {H : Heap} {locs : List Loc} {cells slots : Nat} {Q : State → Prop}
theorem cr_runI {y : MethodName} {bytes cc : ByteArray} {maxL nL mc ms n index : Nat} {ws : List Cond} {rm : Room} {Pc : Array Value → State → Prop} {Qc : Array Value → State → Outcome → State → Prop} {free : Addr → Prop} {Ts : List Cond} {own : String} {b : Addr} {As rest : List Value} {g : JFrame}
    (S : CallFix p m c cc nL s args Ts own) (hM : Met l y ws rm Pc Qc mc ms free) (hrc : rm.cells = mc) (hrs : rm.slots = ms) (hfr : rm.frames + 1 ≤ R.frames) (hlo : 8 + (maxL + 11) + rm.locals ≤ R.locals) (hws : ∀ w ∈ ws, ∀ (a' : Array Value) (U : State), s.WarmedH U.vm → w.before a' U = true) (hcw : Cond.code y bytes maxL none ∈ ws) (hcode : (Cond.code y bytes maxL none).before args s = true) (hini : (Cond.initialized y.cls).before args s = true) (hy : y.cls ≠ "java/lang/invoke/MethodHandle" ∧ y.cls ≠ "java/lang/invoke/VarHandle") (hlen : ∀ sig, parseMethodDescriptor y.desc = some sig → n = sig.parameters.length) (hl : (Cond.methodLink own index y).before args s = true) (hx1 : y.name = "<init>") (hx2 : (Cond.instanceMethod y).before args s = true) (hp : PreS s H Pc (.ref b :: As))
    (hg : g.method = m) (hn : As.length = n) (hsize : g.locals.size = nL) (hstack : g.stack = As.reverse ++ .ref b :: rest) (hW : 2 * g.monitorRoom + (rest.map fun v => v.category).sum ≤ 8) (hdg : decode cc g.pc = .ok (.invokespecial index, 3)) (hf : cells + mc ≤ R.cells ∧ slots + ms ≤ R.slots) :
    va_Run p l e R s m args below meth c H locs cells slots mc ms g rest (Qc (Value.ref b :: As).toArray) (free) := by
  have hK : Back l R p e below s args y 3 8 (PreOf R mc ms Pc) (PostOf Qc mc ms free) := back_of (bytes := bytes) (maxL := maxL) (ret := none) hM hp.1 hrc hrs hfr hlo hws hcw (fun a' U hW => word_at hW (Or.inl (by first | rfl | simp [Cond.onTables, Cond.keeps, Cond.steady])) hini)
  obtain ⟨hx, hb, hml, ho, -⟩ := S
  have hPc := hp.2
  intro T hT X
  obtain ⟨v, vm₁, ⟨U', l2, c2, s2⟩, hW₁, X', ⟨g', mk, t, L, e1, e2, hq, h1, hL, h2, h3⟩, st⟩ := callI X hx (bytes := bytes) (maxL := maxL) ho hx1 hl hx2 hcode hy hK hg (hsize.trans hml.symm) (a := b) (argsL := As) (rest := rest) (fun sig h => hn.trans (hlen sig h)) hstack hW (by rw [hb]; exact hdg)
    (fun vm₁ hW₁ => ⟨hf.1, hf.2, hPc (T.setVm vm₁) hT hW₁⟩)
  dsimp only [Pt.U, Pt.locs, Pt.cells, Pt.slots] at X' e1 e2 h1 h2 h3 st
  subst h1; subst h2; subst h3
  exact ⟨v, (T.setVm vm₁).calling g' mk (Value.ref b :: As).toArray, t, U', L, hT, X', hL, e1, e2, hq, st⟩
variable {cc : ByteArray} {pc : Nat} {ls : Array Slot} {rest : List Value} {D : va_G} {A : Nat → Prop} {G ad : Nat → Nat} {h : HP}
/-- a constructor is called: of any class -/
theorem cr_callI {own : String} {index : Nat} {y : MethodName} {bytes : ByteArray} {mL fr lo mc ms n q : Nat} {ee : va_E} {As : List Value} {X : va_W} {post : va_W → Prop} (hx : p.tables.exec = Jvm.exec) (hb : c.code = cc) (hsz : ls.size = c.maxLocals) (hown : s.vm.findClass own = some m.cls) (hts : ∀ w ∈ am_U, w.before args s = true) (hM : Ct l D G ad h y bytes mL fr lo mc ms q ee As post) (hS0 : ScC D G ad h s) (hAG : ∀ x, A x → G 4 ≤ x ∧ am_A G x) (hP : va_P D vwCl (X ++ [(q, ee)]) H) (hD : va_D A (X ++ [(q, ee)])) (hS : va_S A s.heap H locs) (hA : ∀ x, s.heap.size ≤ x → A x)
    (hy : y.name = "<init>") (hyc : y.cls ≠ "java/lang/invoke/MethodHandle" ∧ y.cls ≠ "java/lang/invoke/VarHandle") (hn : As.length = n) (hds : (parseMethodDescriptor y.desc).map (fun d => d.parameters.length) = some n) (w1 : Cond.code y bytes mL none ∈ am_U) (w2 : Cond.initialized y.cls ∈ am_U) (w3 : Cond.methodLink own index y ∈ am_U) (w4 : Cond.instanceMethod y ∈ am_U) (hfr : fr + 1 ≤ R.frames) (hlo : 8 + (mL + 11) + lo ≤ R.locals) (hcat : (rest.map fun v => v.category).sum ≤ 8) (hc : cells + mc ≤ R.cells) (hs : slots + ms ≤ R.slots) (hdg : decode cc pc = .ok (.invokespecial index, 3))
    (kk : ∀ (w : va_W) (H1 : Heap) (locs1 : List Loc), post w → va_P D vwCl (X ++ w) H1 → va_D A (X ++ w) → va_S A s.heap H1 locs1 → W p l e R s m args below meth c H1 locs1 (cells + mc) (slots + ms) Q (F0 m (pc + 3) ls rest)) : W p l e R s m args below meth c H locs cells slots Q (F0 m pc ls (As.reverse ++ .ref q :: rest)) := by
  have hq : (X ++ [(q, ee)])[X.length]? = some (q, ee) := by rw [List.getElem?_append_right (Nat.le_refl _), Nat.sub_self]; rfl
  have hF : ∀ x, va_A [(q, ee)] H.size x → A x := fun x hx' => by
    rcases hx' with ⟨k, e', hk'⟩ | z
    · match k, hk' with
      | 0, hk' => cases hk'; exact hD.2 _ _ hq
      | k + 1, hk' => simp at hk'
    · exact hA x (Nat.le_trans hS.1 z)
  have hws : ∀ w ∈ (Cond.code y bytes mL none :: am_U), ∀ (a' : Array Value) (U : State), s.WarmedH U.vm → w.before a' U = true := fun w hw a' U hW => by
    rcases List.mem_cons.mp hw with rfl | hw
    · exact am_U_warm hts hW _ w1
    · exact am_U_warm hts hW _ hw
  refine va_callv (cr_runI (As := As) (rest := rest) ⟨hx, hb, hsz.symm, hown, hts⟩ (hM H.size) rfl rfl hfr hlo hws List.mem_cons_self (hts _ w1) (hts _ w2) hyc (fun sig hsig => ?_) (hts _ w3) hy (hts _ w4) ⟨Ct.blind, fun U hU hW => ⟨rfl, by rw [hU], ?_, hS0.go hS hAG hU hW⟩⟩ rfl hn rfl rfl (by show 2 * 0 + _ ≤ 8; omega) hdg ⟨hc, hs⟩) hS (fun q' _ h' => hF q' h') hF (fun u t H1 locs1 ht hvm hw hB hz1 hk1 hS1 => ?_)
  · rw [hsig] at hds; exact (Option.some.inj hds).symm
  · rw [hU]; exact am_P1 (hP _ _ hq)
  · obtain ⟨hP1, hD1⟩ := hB
    rw [ht] at hP1
    obtain ⟨j1, j2⟩ := cr_join hP hD hk1 hF hP1 hD1
    exact kk u H1 locs1 hw j1 j2 hS1
end CRI
theorem lw_tb {w : Cond} (n : Nat) (h : tables_1[n]? = some w) : w ∈ lw_tbl := List.mem_append_right _ (List.mem_of_getElem? h)
theorem len_lt {t : Term} {v : Value} {args : Array Value} {s : State} (h : (Term.length t).eval args s none [] s = some v) : ∃ (a : Nat) (cell : Cell), t.eval args s none [] s = some (.ref a) ∧ s.arrayAt? a = some cell ∧ v = .int cell.slots.size.toInt32 ∧ cell.slots.size < 2147483648 := by
  simp only [Term.eval, Option.bind_eq_bind] at h
  cases ht : t.eval args s none [] s with
  | none => simp [ht] at h
  | some x =>
    cases x <;> simp [ht] at h
    case ref a =>
      obtain ⟨cell, hcell, h⟩ := Option.bind_eq_some_iff.mp h
      by_cases hn : cell.slots.size < 2147483648
      · rw [if_pos hn] at h; cases h; exact ⟨a, cell, rfl, hcell, rfl, hn⟩
      · rw [if_neg hn] at h; cases h
theorem en_row {args : Array Value} {s : State} {nm : String} {f : Nat → Int32} {A : Nat → Prop} {g0 : Nat} {D : va_G} {j : Nat} (hlay : (Cond.laysStatic "BusBlocks" nm "[I").before args s = true) (hini : (Cond.initialized "BusBlocks").before args s = true)
    (h1 : (Cond.arrayOf (.static "BusBlocks" nm "[I") .int).before args s = true) (h2 : (Cond.eq (.length (.static "BusBlocks" nm "[I")) (.int (Int32.ofNat 4))).before args s = true) (h3 : ∀ i : Nat, i < 4 → (Cond.eq (.elem (.static "BusBlocks" nm "[I") (.int (Int32.ofNat i))) (.int (f i))).before args s = true) (h4 : (Cond.exactly (.static "BusBlocks" nm "[I") "[I").before args s = true) (hg : s.vm.findClass "[I" = some g0) (hD : D.1 (10 + j) = g0) (hA : ∀ a : Nat, a < s.heap.size → ¬ A a) : ∃ t : Nat, am_rc D s.heap t j 4 f ∧ va_Z "BusBlocks" nm "[I" (.ref t) A s s.heap := by
  have hlen := va_eqt h2
  obtain ⟨t, ht, cell, c1, c2, c3, c4, c5, c6, c7⟩ := va_Tof (N := 4) (f := fun i => .int (f i)) (A := A) (by decide) h1 hlen (fun i hi => va_eqt (h3 i hi)) hA
  obtain ⟨a, cell2, e1, e2, e3, e4⟩ := len_lt hlen
  cases ht.symm.trans e1
  obtain ⟨e5, -, e6, -⟩ := State.arrayAt?_spec e2
  cases c1.symm.trans e5
  obtain ⟨a3, c3', cell3, k3, x1, x2, x3, x4, x5, x6, x7⟩ := Cond.exactly_spec h4
  cases ht.symm.trans x1
  cases c1.symm.trans x3
  cases hg.symm.trans x2
  have hsz : cell.slots.size = 4 := by
    have h9 : Int32.ofNat 4 = cell.slots.size.toInt32 := Value.int.inj e3
    have h8 : (nI 4).toInt = (nI cell.slots.size).toInt := congrArg Int32.toInt h9
    rw [nI_toInt (by omega), nI_toInt (by omega)] at h8
    omega
  exact ⟨t, ⟨cell, c1, x6.trans hD.symm, c3, fun k h => c2.1 k h, hsz, c6⟩, va_Zref hlay hini ht hA⟩
theorem en_str {args : Array Value} {s : State} {own tx : String} {k : Nat} (h1 : (Cond.stringRef own k tx).before args s = true) (h2 : (Cond.exactly (.string own k) "java/lang/String").before args s = true) : ∃ a, vk_R own k tx a s := by
  obtain ⟨a, c, cell, k', x1, -⟩ := Cond.exactly_spec h2
  exact ⟨a, vk_R.of h1 x1⟩
theorem en_q {args : Array Value} {s : State} {C n d : String} {A : Nat → Prop} (hl : (Cond.laysStatic C n d).before args s = true) (hini : (Cond.initialized C).before args s = true) (h : (Cond.isRef (.static C n d)).before args s = true) (hA : ∀ a : Nat, a < s.heap.size → ¬ A a) : vx_Zq C n d A s s.heap := by
  refine ⟨va_Zqof hl hini h hA, ?_⟩
  obtain ⟨c, k, i, f, a, cell, hc, hi, hst, ha, hcell, hs, hcls, hlt, hty⟩ := Cond.laysStatic_spec hl
  exact ⟨c, k, i, f, a, cell, hc, hi, hst, ha, hcell, hs, hcls, hlt, hty, hA a (Array.getElem?_eq_some_iff.mp hcell).1⟩
def enG (g0 g1 g2 g3 sz : Nat) : Nat → Nat := fun k => if k = 0 then g0 else if k = 1 then g1 else if k = 2 then g2 else if k = 3 then g3 else if k = 4 then sz else if sz + 10 ≤ k then 1 else 0
def enD (D0 : va_G) (g0 gx : Nat) : va_G := (fun k => if k < 10 then D0.1 k else if k = 15 then gx else g0, D0.2)
theorem enG_A (g0 g1 g2 g3 sz x : Nat) : am_A (enG g0 g1 g2 g3 sz) x ↔ sz ≤ x := by
  show enG g0 g1 g2 g3 sz (10 + x) = 1 ↔ _
  unfold enG
  rw [if_neg (by omega), if_neg (by omega), if_neg (by omega), if_neg (by omega), if_neg (by omega)]
  split
  · exact ⟨fun _ => by omega, fun _ => rfl⟩
  · exact ⟨fun h => absurd h (by omega), fun h => by omega⟩
theorem enD_row (D0 : va_G) (g0 gx j : Nat) (hj : j < 5) : (enD D0 g0 gx).1 (10 + j) = g0 := by
  show (if 10 + j < 10 then D0.1 (10 + j) else if 10 + j = 15 then gx else g0) = g0
  rw [if_neg (by omega), if_neg (by omega)]
theorem en_D {args : Array Value} {s : State} (hts : ∀ w ∈ am_U, w.before args s = true) : ∃ D0 : va_G, ∀ (k : Nat) (q : vw_C), vwCl[k]? = some q → u_Kn s q.1 q.2.1 q.2.2 (D0.1 k) (D0.2 k) := by
  obtain ⟨c0, i0, k0⟩ := u_known (C := RX0) (T := TX0) (N := 6) (n := 6) hts (am_clsU (ci := 0) rfl) (hts _ (am_tb 118 (by decide +kernel) rfl))
  obtain ⟨c1, i1, k1⟩ := u_known (C := RX1) (T := TX1) (N := 2) (n := 2) hts (am_clsU (ci := 1) rfl) (hts _ (am_tb 143 (by decide +kernel) rfl))
  obtain ⟨c2, i2, k2⟩ := u_known (C := RX2) (T := TX2) (N := 1) (n := 1) hts (am_clsU (ci := 2) rfl) (hts _ (am_tb 176 (by decide +kernel) rfl))
  obtain ⟨c3, i3, k3⟩ := u_known (C := RX3) (T := TX3) (N := 4) (n := 4) hts (am_clsU (ci := 3) rfl) (hts _ (am_tb 156 (by decide +kernel) rfl))
  obtain ⟨c4, i4, k4⟩ := u_known (C := RX4) (T := TX4) (N := 15) (n := 15) hts (am_clsU (ci := 4) rfl) (hts _ (am_tb 25 (by decide +kernel) rfl))
  obtain ⟨c5, i5, k5⟩ := u_known (C := RX5) (T := TX5) (N := 10) (n := 10) hts (am_clsU (ci := 5) rfl) (hts _ (am_tb 17 (by decide +kernel) rfl))
  refine ⟨(fun k => match k with | 0 => c0 | 1 => c1 | 2 => c2 | 3 => c3 | 4 => c4 | _ => c5, fun k => match k with | 0 => i0 | 1 => i1 | 2 => i2 | 3 => i3 | 4 => i4 | _ => i5), fun k q hq => ?_⟩
  match k, hq with
  | 0, hq => cases hq; exact k0
  | 1, hq => cases hq; exact k1
  | 2, hq => cases hq; exact k2
  | 3, hq => cases hq; exact k3
  | 4, hq => cases hq; exact k4
  | 5, hq => cases hq; exact k5
  | k + 6, hq => simp [vwCl] at hq
set_option maxHeartbeats 4000000 in
set_option maxRecDepth 100000 in
theorem en_all {s : State} {b L : Nat} {xs : Nat → Int32} (hts : ∀ w ∈ lw_tbl, w.before #[Value.ref b] s = true) (hX : va_X b L xs s s.heap) (hgv : (Jvm.Cond.and given_1 narrow_1).before #[Value.ref b] s = true) : ∃ (D : va_G) (G t : Nat → Nat), (∀ x, am_A G x ↔ s.heap.size ≤ x) ∧ G 4 = s.heap.size ∧ (∀ j, j < 5 → D.1 (10 + j) = G 0) ∧ va_K D vwCl (am_tys G) s ∧ am_g D G s ∧ (∀ j, j < 5 → am_rc D s.heap (t j) j 4 ((hI 0 xs).1 (1000 + j))) ∧ t 5 = b ∧ am_rc D s.heap b 5 L xs ∧ (∀ ad : Nat → Nat, (∀ j, j < 5 → ad (1000 + j) = t j) → am_Z ad G s s.heap) ∧ va_AO "BusBlocks$Timetable" s := by
  have hs := flat_of_before _ hgv
  have htu : ∀ w ∈ am_U, w.before #[Value.ref b] s = true := fun w hw => hts w (List.mem_filter.mp hw).1
  obtain ⟨D0, hKn⟩ := en_D htu
  obtain ⟨g0, k0, y0, f0, e0, d0⟩ := Cond.arrayClass_spec (type := .int) (hts _ (lw_tb 116 (by decide +kernel)))
  obtain ⟨g2, k2, y2, f2, e2, d2⟩ := Cond.arrayClass_spec (type := .long) (hts _ (lw_tb 851 (by decide +kernel)))
  have hAO : (Cond.arrayOver (.object "BusBlocks$Timetable")).before #[Value.ref b] s = true := hts _ (lw_tb 185 (by decide +kernel))
  obtain ⟨y3, g3, k3, r1, r2, r3, r4, r5⟩ := Cond.arrayOver_spec hAO
  obtain ⟨scr, x1, ⟨x2, kx, x3, cx, x4⟩, x5, x6, x7⟩ := hX
  have hnm : s.vm.findClass "[I" = some g0 := by
    have e9 : "[" ++ FieldType.int.toString = "[I" := by decide +kernel
    rw [← e9]; exact f0
  have hA : ∀ a : Nat, a < s.heap.size → ¬ am_A (enG g0 g0 g2 g3 s.heap.size) a := fun a ha z => absurd ((enG_A _ _ _ _ _ _).mp z) (by omega)
  have hini : (Cond.initialized "BusBlocks").before #[Value.ref b] s = true := hts _ (lw_tb 1 (by decide +kernel))
  obtain ⟨t0, a0, z0⟩ := en_row (D := enD D0 g0 scr.cls) (j := 0) (nm := "FIRST_LAYOVERS") (f := fLay) (A := am_A (enG g0 g0 g2 g3 s.heap.size)) (hts _ (lw_tb 31 (by decide +kernel))) hini (hs _ (by decide +kernel)) (hs _ (by decide +kernel)) (fun i hi => match i, hi with | 0, _ => hs _ (by decide +kernel) | 1, _ => hs _ (by decide +kernel) | 2, _ => hs _ (by decide +kernel) | 3, _ => hs _ (by decide +kernel) | i + 4, z => absurd z (by omega)) (hs _ (by decide +kernel)) hnm (enD_row D0 g0 scr.cls 0 (by omega)) hA
  obtain ⟨t1, a1, z1⟩ := en_row (D := enD D0 g0 scr.cls) (j := 1) (nm := "FIRST_RELIEFS") (f := fRel) (A := am_A (enG g0 g0 g2 g3 s.heap.size)) (hts _ (lw_tb 40 (by decide +kernel))) hini (hs _ (by decide +kernel)) (hs _ (by decide +kernel)) (fun i hi => match i, hi with | 0, _ => hs _ (by decide +kernel) | 1, _ => hs _ (by decide +kernel) | 2, _ => hs _ (by decide +kernel) | 3, _ => hs _ (by decide +kernel) | i + 4, z => absurd z (by omega)) (hs _ (by decide +kernel)) hnm (enD_row D0 g0 scr.cls 1 (by omega)) hA
  obtain ⟨t2, a2, z2⟩ := en_row (D := enD D0 g0 scr.cls) (j := 2) (nm := "LEAST_VALUES") (f := fLst) (A := am_A (enG g0 g0 g2 g3 s.heap.size)) (hts _ (lw_tb 585 (by decide +kernel))) hini (hs _ (by decide +kernel)) (hs _ (by decide +kernel)) (fun i hi => match i, hi with | 0, _ => hs _ (by decide +kernel) | 1, _ => hs _ (by decide +kernel) | 2, _ => hs _ (by decide +kernel) | 3, _ => hs _ (by decide +kernel) | i + 4, z => absurd z (by omega)) (hs _ (by decide +kernel)) hnm (enD_row D0 g0 scr.cls 2 (by omega)) hA
  obtain ⟨t3, a3, z3⟩ := en_row (D := enD D0 g0 scr.cls) (j := 3) (nm := "MOST_VALUES") (f := fMst) (A := am_A (enG g0 g0 g2 g3 s.heap.size)) (hts _ (lw_tb 587 (by decide +kernel))) hini (hs _ (by decide +kernel)) (hs _ (by decide +kernel)) (fun i hi => match i, hi with | 0, _ => hs _ (by decide +kernel) | 1, _ => hs _ (by decide +kernel) | 2, _ => hs _ (by decide +kernel) | 3, _ => hs _ (by decide +kernel) | i + 4, z => absurd z (by omega)) (hs _ (by decide +kernel)) hnm (enD_row D0 g0 scr.cls 3 (by omega)) hA
  obtain ⟨t4, a4, z4⟩ := en_row (D := enD D0 g0 scr.cls) (j := 4) (nm := "FIRST_VALUES") (f := fSet) (A := am_A (enG g0 g0 g2 g3 s.heap.size)) (hts _ (lw_tb 42 (by decide +kernel))) hini (hs _ (by decide +kernel)) (hs _ (by decide +kernel)) (fun i hi => match i, hi with | 0, _ => hs _ (by decide +kernel) | 1, _ => hs _ (by decide +kernel) | 2, _ => hs _ (by decide +kernel) | 3, _ => hs _ (by decide +kernel) | i + 4, z => absurd z (by omega)) (hs _ (by decide +kernel)) hnm (enD_row D0 g0 scr.cls 4 (by omega)) hA
  refine ⟨enD D0 g0 scr.cls, enG g0 g0 g2 g3 s.heap.size, fun j => match j with | 0 => t0 | 1 => t1 | 2 => t2 | 3 => t3 | 4 => t4 | _ => b, fun x => enG_A _ _ _ _ _ _, rfl, fun j hj => enD_row D0 g0 scr.cls j hj, ⟨fun k q hq => ?_, fun k q hq => ?_⟩, ⟨Nat.le_refl _, fun j => ?_⟩, fun j hj => ?_, rfl, ⟨scr, x1, rfl, x5, x2, x6, x7⟩, fun ad had => ⟨?_, ?_, ?_, ?_, ?_⟩, va_AO.of hAO⟩
  · have hlt : k < 6 := (List.getElem?_eq_some_iff.mp hq).1
    have h9 := hKn k q hq
    show u_Kn s q.1 q.2.1 q.2.2 (if k < 10 then D0.1 k else if k = 15 then scr.cls else g0) (D0.2 k)
    rw [if_pos (by omega)]
    exact h9
  · match k, hq with
    | 0, hq => cases hq; exact ⟨fun n z => ⟨fun k h => (by cases h), k0, e0, y0, d0⟩, f0⟩
    | 1, hq => cases hq; exact ⟨fun n z => ⟨fun k h => (by cases h), k0, e0, y0, d0⟩, f0⟩
    | 2, hq => cases hq; exact ⟨fun n z => ⟨fun k h => (by cases h), k2, e2, y2, d2⟩, f2⟩
    | 3, hq => cases hq; exact ⟨fun n z => ⟨fun k h => (by cases h), k3, r3, y3, r4⟩, k3, y3, r3, r4, r1, r5⟩
    | k + 4, hq => simp [am_tys] at hq
  · show ArrOfT s (if 10 + j < 10 then D0.1 (10 + j) else if 10 + j = 15 then scr.cls else g0) .int
    rw [if_neg (by omega)]
    split
    · exact fun n z => ⟨fun k h => (by cases h), kx, x3, cx, x4⟩
    · exact fun n z => ⟨fun k h => (by cases h), k0, e0, y0, d0⟩
  · match j, hj with
    | 0, _ => exact a0
    | 1, _ => exact a1
    | 2, _ => exact a2
    | 3, _ => exact a3
    | 4, _ => exact a4
    | j + 5, z => omega
  · exact en_q (hts _ (lw_tb 259 (by decide +kernel))) (hts _ (lw_tb 8 (by decide +kernel))) (hs _ (by decide +kernel)) hA
  · exact en_q (hts _ (lw_tb 261 (by decide +kernel))) (hts _ (lw_tb 8 (by decide +kernel))) (hs _ (by decide +kernel)) hA
  · exact am_c (by show va_Z "BusBlocks" "FIRST_LAYOVERS" "[I" (.ref (ad (1000 + 0))) _ s s.heap; rw [had 0 (by omega)]; exact z0) (am_c (by show va_Z "BusBlocks" "FIRST_RELIEFS" "[I" (.ref (ad (1000 + 1))) _ s s.heap; rw [had 1 (by omega)]; exact z1) (am_c (by show va_Z "BusBlocks" "LEAST_VALUES" "[I" (.ref (ad (1000 + 2))) _ s s.heap; rw [had 2 (by omega)]; exact z2) (am_c (by show va_Z "BusBlocks" "MOST_VALUES" "[I" (.ref (ad (1000 + 3))) _ s s.heap; rw [had 3 (by omega)]; exact z3) (am_c (by show va_Z "BusBlocks" "FIRST_VALUES" "[I" (.ref (ad (1000 + 4))) _ s s.heap; rw [had 4 (by omega)]; exact z4) (am_n)))))
  · exact am_c (en_str (hts _ (lw_tb 273 (by decide +kernel))) (hs _ (by decide +kernel))) (am_c (en_str (hts _ (lw_tb 542 (by decide +kernel))) (hs _ (by decide +kernel))) (am_c (en_str (hts _ (lw_tb 561 (by decide +kernel))) (hs _ (by decide +kernel))) (am_c (en_str (hts _ (lw_tb 567 (by decide +kernel))) (hs _ (by decide +kernel))) (am_c (en_str (hts _ (lw_tb 705 (by decide +kernel))) (hs _ (by decide +kernel))) (am_c (en_str (hts _ (lw_tb 741 (by decide +kernel))) (hs _ (by decide +kernel))) (am_c (en_str (hts _ (lw_tb 309 (by decide +kernel))) (hs _ (by decide +kernel))) (am_c (en_str (hts _ (lw_tb 583 (by decide +kernel))) (hs _ (by decide +kernel))) (am_c (en_str (hts _ (lw_tb 598 (by decide +kernel))) (hs _ (by decide +kernel))) (am_c (en_str (hts _ (lw_tb 618 (by decide +kernel))) (hs _ (by decide +kernel))) (am_c (en_str (hts _ (lw_tb 658 (by decide +kernel))) (hs _ (by decide +kernel))) (am_c (en_str (hts _ (lw_tb 663 (by decide +kernel))) (hs _ (by decide +kernel))) (am_c (en_str (hts _ (lw_tb 409 (by decide +kernel))) (hs _ (by decide +kernel))) (am_c (en_str (hts _ (lw_tb 418 (by decide +kernel))) (hs _ (by decide +kernel))) (am_n))))))))))))))
  · exact am_c (va_Nc.of (hs _ (by decide +kernel))) (am_c (va_Nc.of (hs _ (by decide +kernel))) (am_c (va_Nc.of (hs _ (by decide +kernel))) (am_n)))
