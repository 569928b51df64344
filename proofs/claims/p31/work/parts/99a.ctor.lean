/-! CONSTRUCTORS: rows over a world that grows at its end. -/
section CRT
variable {p : Program} {l : Launch} {e : Env} {R : Room} {s : State} {m : MethodId} {args : Array Value} {below : List Frame} {meth : Method} {c : Code} {H : Heap} {locs : List Loc} {cells slots : Nat} {Q : State → Prop}
variable {cc : ByteArray} {pc : Nat} {ls : Array Slot} {rest : List Value} {D : va_G} {A : Nat → Prop} {ws : va_W} {H0 : Heap} {G : Nat → Nat}
theorem cr_newi (hx : p.tables.exec = Jvm.exec) (hb : c.code = cc) (hts : ∀ w ∈ am_U, w.before args s = true) (hK : va_K D vwCl (am_tys G) s) (hP : va_P D vwCl ws H) (hD : va_D A ws) (hS : va_S A H0 H locs) (hA : ∀ q, H0.size ≤ q → A q) {n : Int32} {N : Nat} (hn : ¬ n < 0) (hN : n.toNatClampNeg = N) (hN2 : N ≤ 1000) (hc : cells + 1 ≤ R.cells) (hs : slots + N ≤ R.slots) (hdg : decode cc pc = .ok (.newarray .int, 2))
    (kk : ∀ (q : Nat) (H1 : Heap), va_P D vwCl (ws ++ [(q, .inl (G 0, N, .inl (fun _ => 0)))]) H1 → va_D A (ws ++ [(q, .inl (G 0, N, .inl (fun _ => 0)))]) → va_S A H0 H1 locs → W p l e R s m args below meth c H1 locs (cells + 1) (slots + N) Q (F0 m (pc + 2) ls (.ref q :: rest))) : W p l e R s m args below meth c H locs cells slots Q (F0 m pc ls (.int n :: rest)) := by
  refine va_newa (atype := .int) (ty := .int) (a0 := (N, .inl (fun _ => 0))) hx hb (hts _ (am_tb 116 (by decide +kernel) rfl)) rfl hK hP hD hS hA (fun _ => rfl) hn hN (by show N * 4 ≤ _; omega) hc hs hdg (fun q cA H1 hK1 hP1 hD1 hS1 => ?_)
  have h1 := (hK1.2 4 (cA, .int) rfl).2
  have h2 := (hK.2 0 (G 0, .int) rfl).2
  have e : cA = G 0 := Option.some.inj (h1.symm.trans h2)
  subst e
  exact kk q H1 hP1 hD1 hS1
theorem cr_newl (hx : p.tables.exec = Jvm.exec) (hb : c.code = cc) (hts : ∀ w ∈ am_U, w.before args s = true) (hK : va_K D vwCl (am_tys G) s) (hP : va_P D vwCl ws H) (hD : va_D A ws) (hS : va_S A H0 H locs) (hA : ∀ q, H0.size ≤ q → A q) {n : Int32} {N : Nat} (hn : ¬ n < 0) (hN : n.toNatClampNeg = N) (hN2 : N ≤ 1000) (hc : cells + 1 ≤ R.cells) (hs : slots + N ≤ R.slots) (hdg : decode cc pc = .ok (.newarray .long, 2))
    (kk : ∀ (q : Nat) (H1 : Heap), va_P D vwCl (ws ++ [(q, .inl (G 2, N, .inr (.inl (fun _ => 0))))]) H1 → va_D A (ws ++ [(q, .inl (G 2, N, .inr (.inl (fun _ => 0))))]) → va_S A H0 H1 locs → W p l e R s m args below meth c H1 locs (cells + 1) (slots + N) Q (F0 m (pc + 2) ls (.ref q :: rest))) : W p l e R s m args below meth c H locs cells slots Q (F0 m pc ls (.int n :: rest)) := by
  refine va_newa (atype := .long) (ty := .long) (a0 := (N, .inr (.inl (fun _ => 0)))) hx hb (hts _ (am_tb 851 (by decide +kernel) rfl)) rfl hK hP hD hS hA (fun _ => rfl) hn hN (by show N * 8 ≤ _; omega) hc hs hdg (fun q cA H1 hK1 hP1 hD1 hS1 => ?_)
  have h1 := (hK1.2 4 (cA, .long) rfl).2
  have h2 := (hK.2 2 (G 2, .long) rfl).2
  have e : cA = G 2 := Option.some.inj (h1.symm.trans h2)
  subst e
  exact kk q H1 hP1 hD1 hS1
/-- a final field of the object at the head of the world -/
theorem cr_putF (hx : p.tables.exec = Jvm.exec) (hb : c.code = cc) (hts : ∀ w ∈ am_U, w.before args s = true) {own : String} {index ci k h0 : Nat} {T : u_T} {N : Nat} {fs : List Value} {Y : va_W} {v : Value} {ty : FieldType} (hc : vwCl[ci]? = some (own, T, N)) (hown : s.vm.findClass own = some m.cls) (hK : va_K D vwCl (am_tys G) s) (hP : va_P D vwCl ((h0, .inr (ci, fs)) :: Y) H) (hD : va_D A ((h0, .inr (ci, fs)) :: Y)) (hS : va_S A H0 H locs) (hk : k < N) (hlink : Cond.fieldLink own index own (T k).2.1 (T k).2.2.1 ∈ am_U) (hfin : (T k).2.2.2 = true) (hin : meth.name = "<init>") (hdecl : (T k).1 = own) (hd : parseFieldDescriptor (T k).2.2.1 = some ty) (hn : narrow ty v = v) (hfit : fits ty v = true) (hl : k < fs.length) (hdg : decode cc pc = .ok (.putfield index, 3))
    (kk : ∀ (H1 : Heap) (locs1 : List Loc), va_P D vwCl ((h0, .inr (ci, fs.set k v)) :: Y) H1 → va_D A ((h0, .inr (ci, fs.set k v)) :: Y) → va_S A H0 H1 locs1 → W p l e R s m args below meth c H1 locs1 cells slots Q (F0 m (pc + 3) ls rest)) : W p l e R s m args below meth c H locs cells slots Q (F0 m pc ls (v :: .ref h0 :: rest)) := by
  obtain ⟨-, ⟨ty0, hty⟩, hnm⟩ := am_cls hc
  exact va_putF hx hb hts (am_clsU hc) ty0 hty hnm hown hK hP hD hS 0 rfl hc k hk (hts _ hlink) (fun x h9 => by rw [hdecl] at h9; exact h9) hfin hin hdecl hd hn hfit hl hdg kk
/-- another one -/
theorem cr_putI (hx : p.tables.exec = Jvm.exec) (hb : c.code = cc) (hts : ∀ w ∈ am_U, w.before args s = true) {own : String} {index ci k h0 : Nat} {T : u_T} {N : Nat} {fs : List Value} {Y : va_W} {v : Value} {ty : FieldType} (hc : vwCl[ci]? = some (own, T, N)) (hown : s.vm.findClass own = some m.cls) (hK : va_K D vwCl (am_tys G) s) (hP : va_P D vwCl ((h0, .inr (ci, fs)) :: Y) H) (hD : va_D A ((h0, .inr (ci, fs)) :: Y)) (hS : va_S A H0 H locs) (hk : k < N) (hlink : Cond.fieldLink own index own (T k).2.1 (T k).2.2.1 ∈ am_U) (hfin : (T k).2.2.2 = false) (hdecl : (T k).1 = own) (hd : parseFieldDescriptor (T k).2.2.1 = some ty) (hn : narrow ty v = v) (hfit : fits ty v = true) (hl : k < fs.length) (hdg : decode cc pc = .ok (.putfield index, 3))
    (kk : ∀ (H1 : Heap) (locs1 : List Loc), va_P D vwCl ((h0, .inr (ci, fs.set k v)) :: Y) H1 → va_D A ((h0, .inr (ci, fs.set k v)) :: Y) → va_S A H0 H1 locs1 → W p l e R s m args below meth c H1 locs1 cells slots Q (F0 m (pc + 3) ls rest)) : W p l e R s m args below meth c H locs cells slots Q (F0 m pc ls (v :: .ref h0 :: rest)) := by
  obtain ⟨-, ⟨ty0, hty⟩, hnm⟩ := am_cls hc
  exact va_put hx hb hts (am_clsU hc) ty0 hty hnm hown hK hP hD hS 0 rfl hc k hk (hts _ hlink) (fun x h9 => by rw [hdecl] at h9; exact h9) hfin hd hn hfit hl hdg kk
/-- behind a constructor: what it made takes the place of its object -/
theorem cr_join {X w1 : va_W} {q : Nat} {ee : va_E} {H1 : Heap} (hP : va_P D vwCl (X ++ [(q, ee)]) H) (hD : va_D A (X ++ [(q, ee)])) (hk : ∀ x : Nat, x < H.size → ¬ va_A [(q, ee)] H.size x → H1[x]? = H[x]?) (hF : ∀ x, va_A [(q, ee)] H.size x → A x) (hP1 : va_P D vwCl w1 H1) (hD1 : va_D (va_A [(q, ee)] H.size) w1) : va_P D vwCl (X ++ w1) H1 ∧ va_D A (X ++ w1) := by
  have hX : ∀ (i : Nat) (x : Nat × va_E), X[i]? = some x → i < X.length ∧ (X ++ [(q, ee)])[i]? = some x := fun i x hi => by
    have hl := (List.getElem?_eq_some_iff.mp hi).1
    exact ⟨hl, by rw [List.getElem?_append_left hl]; exact hi⟩
  have hq : (X ++ [(q, ee)])[X.length]? = some (q, ee) := by rw [List.getElem?_append_right (Nat.le_refl _), Nat.sub_self]; rfl
  have hne : ∀ (i : Nat) (x : Nat × va_E), X[i]? = some x → x.1 < H.size ∧ ¬ va_A [(q, ee)] H.size x.1 := fun i x hi => by
    obtain ⟨h1, h2⟩ := hX i x hi
    have h3 := (hP i x h2).lt
    refine ⟨h3, fun z => ?_⟩
    rcases z with ⟨k, e', hk'⟩ | z
    · match k, hk' with
      | 0, hk' =>
        cases hk'
        have := hD.1 i X.length x _ h2 hq rfl
        omega
      | k + 1, hk' => simp at hk'
    · omega
  refine ⟨fun k x hx => ?_, fun i j a b hi hj hab => ?_, fun k x hx => ?_⟩
  · by_cases hl : k < X.length
    · rw [List.getElem?_append_left hl] at hx
      obtain ⟨h1, h2⟩ := hne k x hx
      exact (hP k x (hX k x hx).2).kept (hk _ h1 h2)
    · rw [List.getElem?_append_right (by omega)] at hx
      exact hP1 _ x hx
  · by_cases h1 : i < X.length
    · rw [List.getElem?_append_left h1] at hi
      by_cases h2 : j < X.length
      · rw [List.getElem?_append_left h2] at hj
        exact hD.1 i j a b (hX i a hi).2 (hX j b hj).2 hab
      · rw [List.getElem?_append_right (by omega)] at hj
        exact absurd (by rw [hab]; exact hD1.2 _ b hj) (hne i a hi).2
    · rw [List.getElem?_append_right (by omega)] at hi
      by_cases h2 : j < X.length
      · rw [List.getElem?_append_left h2] at hj
        exact absurd (by rw [← hab]; exact hD1.2 _ a hi) (hne j b hj).2
      · rw [List.getElem?_append_right (by omega)] at hj
        have := hD1.1 _ _ a b hi hj hab
        omega
  · by_cases hl : k < X.length
    · rw [List.getElem?_append_left hl] at hx
      exact hD.2 k x (hX k x hx).2
    · rw [List.getElem?_append_right (by omega)] at hx
      exact hF _ (hD1.2 _ x hx)
end CRT
/-- what a constructor rests on, at any later heap -/
theorem am_S.go {D : va_G} {G ad : Nat → Nat} {h : HP} {s : State} {A : Nat → Prop} {H : Heap} {locs : List Loc} (hS0 : am_S D G ad h [] RO s) (hS : va_S A s.heap H locs) (hA : ∀ x, A x → G 4 ≤ x ∧ am_A G x) {U : State} (hU : U.heap = H) (hW : s.WarmedH U.vm) : am_S D G ad h [] RO U := by
  obtain ⟨⟨w1, w2, w3, w4⟩, hK, hZ, hG⟩ := hS0
  refine ⟨⟨fun k q hq => by simp [am_wl] at hq, w2, fun j sh hj => ?_, w4⟩, va_K.moved hW.alike hK, ?_, ?_, fun j => arrOfT_moved hW.alike (hG.2 j)⟩
  · obtain ⟨a1, a2, a3⟩ := w3 j sh hj
    refine ⟨a1.kept ?_, a2, a3⟩
    rw [hU]
    exact hS.2.1 _ a1.lt (fun z => absurd (hA _ z).1 (by omega))
  · rw [hU]
    exact (hZ.kept (fun a ha hn => hS.2.1 a ha (fun z => hn (hA a z).2))).moved hW.alike hW
  · rw [hU]; exact Nat.le_trans hG.1 hS.1
def ScC (D : va_G) (G ad : Nat → Nat) (h : HP) (U : State) : Prop := am_S D G ad h [] RO U ∧ va_AO "BusBlocks$Timetable" U
theorem ScC.go {D : va_G} {G ad : Nat → Nat} {h : HP} {s : State} {A : Nat → Prop} {H : Heap} {locs : List Loc} (hS0 : ScC D G ad h s) (hS : va_S A s.heap H locs) (hA : ∀ x, A x → G 4 ≤ x ∧ am_A G x) {U : State} (hU : U.heap = H) (hW : s.WarmedH U.vm) : ScC D G ad h U := ⟨am_S.go hS0.1 hS hA hU hW, va_AO.moved hW.alike hS0.2⟩
/-- a constructor's contract -/
def Ct (l : Launch) (D : va_G) (G ad : Nat → Nat) (h : HP) (y : MethodName) (cc : ByteArray) (mL fr lo mc ms : Nat) (q : Nat) (ee : va_E) (as : List Value) (post : va_W → Prop) : Prop :=
  ∀ sz, Met l y (Cond.code y cc mL none :: am_U) { frames := fr, cells := mc, slots := ms, locals := lo } (va_Pc (.ref q :: as) (fun U => U.heap.size = sz ∧ va_P D vwCl [(q, ee)] U.heap ∧ ScC D G ad h U)) (va_Qv post (fun w t => va_P D vwCl w t.heap ∧ va_D (va_A [(q, ee)] sz) w) (va_A [(q, ee)] sz)) mc ms (va_A [(q, ee)] sz)
theorem Ct.blind {D : va_G} {G ad : Nat → Nat} {h : HP} {q : Nat} {ee : va_E} {as : List Value} {sz : Nat} : FrameBlind (va_Pc (.ref q :: as) (fun U => U.heap.size = sz ∧ va_P D vwCl [(q, ee)] U.heap ∧ ScC D G ad h U)) := fun a U g mk hq => by
  obtain ⟨q0, q1, q2, ⟨qW, qK, qZ, qG⟩, qA⟩ := hq
  exact ⟨q0, q1, q2, ⟨qW, va_K.moved (u := U) (U := U.calling g mk a) (Vm.Alike.refl U.vm) qK, am_Z.moved (u := U) (U := U.calling g mk a) (Vm.Alike.refl U.vm) (State.WarmedH.refl U) qZ, qG⟩, va_AO.moved (u := U) (U := U.calling g mk a) (Vm.Alike.refl U.vm) qA⟩
section CRC
variable {p : Program} {l : Launch} {e : Env} {R : Room} {s : State} {m : MethodId} {args : Array Value} {below : List Frame} {meth : Method} {c : Code} {H : Heap} {locs : List Loc} {cells slots : Nat} {Q : State → Prop}
variable {cc : ByteArray} {pc : Nat} {ls : Array Slot} {rest : List Value} {D : va_G} {A : Nat → Prop} {G ad : Nat → Nat} {h : HP}
/-- a constructor is called: of a nest mate -/
theorem cr_callN {own host : String} {index : Nat} {y : MethodName} {bytes : ByteArray} {mL fr lo mc ms n q : Nat} {ee : va_E} {As : List Value} {X : va_W} {post : va_W → Prop} (hx : p.tables.exec = Jvm.exec) (hb : c.code = cc) (hsz : ls.size = c.maxLocals) (hown : s.vm.findClass own = some m.cls) (hts : ∀ w ∈ am_U, w.before args s = true) (hM : Ct l D G ad h y bytes mL fr lo mc ms q ee As post) (hS0 : ScC D G ad h s) (hAG : ∀ x, A x → G 4 ≤ x ∧ am_A G x) (hP : va_P D vwCl (X ++ [(q, ee)]) H) (hD : va_D A (X ++ [(q, ee)])) (hS : va_S A s.heap H locs) (hA : ∀ x, s.heap.size ≤ x → A x)
    (hy : y.name = "<init>") (hyc : y.cls ≠ "java/lang/invoke/MethodHandle" ∧ y.cls ≠ "java/lang/invoke/VarHandle") (hn : As.length = n) (hds : (parseMethodDescriptor y.desc).map (fun d => d.parameters.length) = some n) (w1 : Cond.code y bytes mL none ∈ am_U) (w2 : Cond.initialized y.cls ∈ am_U) (w3 : Cond.methodLinkNest own index y host ∈ am_U) (w4 : Cond.instanceMethod y ∈ am_U) (hfr : fr + 1 ≤ R.frames) (hlo : 8 + (mL + 11) + lo ≤ R.locals) (hcat : (rest.map fun v => v.category).sum ≤ 8) (hc : cells + mc ≤ R.cells) (hs : slots + ms ≤ R.slots) (hdg : decode cc pc = .ok (.invokespecial index, 3))
    (kk : ∀ (w : va_W) (H1 : Heap) (locs1 : List Loc), post w → va_P D vwCl (X ++ w) H1 → va_D A (X ++ w) → va_S A s.heap H1 locs1 → W p l e R s m args below meth c H1 locs1 (cells + mc) (slots + ms) Q (F0 m (pc + 3) ls rest)) : W p l e R s m args below meth c H locs cells slots Q (F0 m pc ls (As.reverse ++ .ref q :: rest)) := by
  have hq : (X ++ [(q, ee)])[X.length]? = some (q, ee) := by rw [List.getElem?_append_right (Nat.le_refl _), Nat.sub_self]; rfl
  have hF : ∀ x, va_A [(q, ee)] H.size x → A x := fun x hx' => by
    rcases hx' with ⟨k, e', hk'⟩ | z
    · match k, hk' with
      | 0, hk' => cases hk'; exact hD.2 _ _ hq
      | k + 1, hk' => simp at hk'
    · exact hA x (Nat.le_trans hS.1 z)
  have hws : ∀ w ∈ (Cond.code y bytes mL none :: am_U), ∀ (a' : Array Value) (U : State), s.WarmedH U.vm → w.before a' U = true := fun w hw a' U hW => by
    rcases List.mem_cons.mp hw with rfl | hw
    · exact am_U_warm hts hW _ w1
    · exact am_U_warm hts hW _ hw
  refine va_callv (va_runIN (As := As) (rest := rest) (host := host) ⟨hx, hb, hsz.symm, hown, hts⟩ (hM H.size) ⟨⟨⟨rfl, rfl, hfr, hlo, hws, List.mem_cons_self⟩, hts _ w1, hts _ w2, hyc, fun sig hsig => ?_, hts _ w3⟩, hy, hts _ w4⟩ ⟨Ct.blind, fun U hU hW => ⟨rfl, by rw [hU], ?_, hS0.go hS hAG hU hW⟩⟩ rfl hn rfl rfl (by show 2 * 0 + _ ≤ 8; omega) hdg ⟨hc, hs⟩) hS (fun q' _ h' => hF q' h') hF (fun u t H1 locs1 ht hvm hw hB hz1 hk1 hS1 => ?_)
  · rw [hsig] at hds; exact (Option.some.inj hds).symm
  · rw [hU]; exact am_P1 (hP _ _ hq)
  · obtain ⟨hP1, hD1⟩ := hB
    rw [ht] at hP1
    obtain ⟨j1, j2⟩ := cr_join hP hD hk1 hF hP1 hD1
    exact kk u H1 locs1 hw j1 j2 hS1
end CRC
section CRL
variable {p : Program} {l : Launch} {e : Env} {R : Room} {s : State} {m : MethodId} {args : Array Value} {below : List Frame} {meth : Method} {c : Code} {H : Heap} {locs : List Loc} {cells slots : Nat} {Q : State → Prop}
variable {cc : ByteArray} {pc : Nat} {ls : Array Slot} {rest : List Value} {D : va_G} {A : Nat → Prop} {ws : va_W} {H0 : Heap} {G : Nat → Nat}
/-- a row that is only read is copied -/
theorem cr_clone (hx : p.tables.exec = Jvm.exec) (hb : c.code = cc) (hml : ls.size = c.maxLocals) (hts : ∀ w ∈ am_U, w.before args s = true) (hK : va_K D vwCl (am_tys G) s) (hP : va_P D vwCl ws H) (hD : va_D A ws) (hS : va_S A H0 H locs) (hA : ∀ q, H0.size ≤ q → A q) {own : String} {index a j : Nat} {f : Nat → Int32} (hr : am_rc D H a j 4 f) (hcls : D.1 (10 + j) = G 0) (hown : s.vm.findClass own = some m.cls)
    (w1 : Cond.methodLink own index ⟨"[I", "clone", "()Ljava/lang/Object;"⟩ ∈ am_U) (w2 : Cond.sameMethod "[I" "java/lang/Object" "clone" "()Ljava/lang/Object;" ∈ am_U) (w3 : Cond.native ⟨"java/lang/Object", "clone", "()Ljava/lang/Object;"⟩ ∈ am_U) (w4 : Cond.instanceMethod ⟨"java/lang/Object", "clone", "()Ljava/lang/Object;"⟩ ∈ am_U) (w5 : Cond.selects "[I" ⟨"[I", "clone", "()Ljava/lang/Object;"⟩ ⟨"java/lang/Object", "clone", "()Ljava/lang/Object;"⟩ ∈ am_U) (w6 : Cond.castable "[I" "java/lang/Cloneable" ∈ am_U)
    (hframes : 1 ≤ R.frames) (hlocals : (rest.map fun v => v.category).sum + 14 ≤ R.locals) (hc : cells + 1 ≤ R.cells) (hs : slots + 4 ≤ R.slots) (hdg : decode cc pc = .ok (.invokevirtual index, 3))
    (kk : ∀ (q : Nat) (H1 : Heap), va_P D vwCl (ws ++ [(q, .inl (G 0, 4, .inl f))]) H1 → va_D A (ws ++ [(q, .inl (G 0, 4, .inl f))]) → va_S A H0 H1 locs → (∀ x : Nat, x < H.size → H1[x]? = H[x]?) → W p l e R s m args below meth c H1 locs (cells + 1) (slots + 4) Q (F0 m (pc + 3) ls (.ref q :: rest))) : W p l e R s m args below meth c H locs cells slots Q (F0 m pc ls (.ref a :: rest)) := by
  obtain ⟨cell, r1, r2, r3, r4, r5, r6⟩ := hr
  have hcell0 : cell.cls = G 0 := r2.trans hcls
  have hnm : s.vm.findClass "[I" = some (G 0) := by
    have e : "[" ++ FieldType.int.toString = "[I" := by decide +kernel
    have h2 := (hK.2 0 (G 0, .int) rfl).2
    rw [← e]; exact h2
  have hslots : cell.slots = (arrV (G 0) 4 (fun i => .int (f i))).slots := by
    apply Array.ext_getElem?
    intro i
    by_cases hi : i < 4
    · rw [r6 i hi, arrV_read _ _ hi]
    · rw [Array.getElem?_eq_none (by omega), Array.getElem?_eq_none (by rw [arrV_size]; omega)]
  have hcellE : ({ cls := cell.cls, slots := cell.slots } : Cell) = vp_cell (G 0) (4, .inl f) := by rw [hcell0, hslots]; rfl
  obtain ⟨c0, t0', f1, f2, f3⟩ := Cond.castable_spec (hts _ w6)
  cases hnm.symm.trans f1
  intro T hT X
  have hcellT : T.heap[a]? = some cell := by rw [hT]; exact r1
  obtain ⟨-, kA, hkA, comp, hkind⟩ := State.isArrayOf_alike X.warmed.alike ((hK.2 0 (G 0, .int) rfl).1 0 (fun _ => .null))
  obtain ⟨-, kS, hkS, compS, hkindS⟩ := (hK.2 0 (G 0, .int) rfl).1 0 (fun _ => .null)
  obtain ⟨vm', X', st⟩ := X.cloneArray hx hown (hts _ w1) (hts _ w2) (hts _ w3) (hts _ w4) (hts _ w5) (a := a) (cell := cell) hcellT r4 r3 (by rw [hcell0]; exact hnm) f2 (by rw [hcell0]; exact f3)
    (fun i v hv => by
      rw [hcell0]
      have hk' : T.vm.classes[G 0]? = some kA := hkA
      have hfit : fits .int v = true := by
        by_cases hi : i < 4
        · rw [r6 i hi] at hv; cases hv; rfl
        · rw [Array.getElem?_eq_none (by omega)] at hv; cases hv
      simpa [State.fitsSlot, State.slotType?, hk', hkind] using hfit)
    (g := F0 m pc ls (.ref a :: rest)) rfl hml rfl (by rw [hb]; exact hdg) hframes (by show 2 * 0 + _ + 14 ≤ _; omega) hc (by rw [r5]; exact hs) (hloader := by rw [hcell0]; exact Vm.clonesLoader_of_array hkS hkindS)
  rw [hcellE, r5] at X'
  rw [hcellE, hT] at st
  generalize hH1 : H.push (vp_cell (G 0) (4, .inl f)) = H1
  have z1 : H1.size = H.size + 1 := by rw [← hH1, Array.size_push]
  have e1 : H1[H.size]? = some (vp_cell (G 0) (4, .inl f)) := by rw [← hH1, Array.getElem?_push_size]
  have o1 : ∀ q : Nat, q < H.size → H1[q]? = H[q]? := fun q hq => by rw [← hH1, Array.getElem?_push, if_neg (Nat.ne_of_lt hq)]
  have hk : ∀ (k : Nat) (y : Nat × va_E), ws[k]? = some y → H1[y.1]? = H[y.1]? := fun k y hy => o1 y.1 ((hP k y hy).lt)
  obtain ⟨t, b1, b2⟩ := kk H.size H1 ((hP.kept hk).app (fun k y hy => by
      have hz : k < 1 := (List.getElem?_eq_some_iff.mp hy).1
      rw [show k = 0 by omega] at hy
      cases hy
      exact e1)) (hD.push hP rfl (hA _ hS.1)) ⟨Nat.le_trans hS.1 (by omega), fun x h1 h2 => (o1 x (Nat.lt_of_lt_of_le h1 hS.1)).trans (hS.2.1 x h1 h2), hS.2.2⟩ o1 _ (by rw [← hH1, ← hT]; rfl) X'
  exact ⟨t, st t b1, b2⟩
end CRL
