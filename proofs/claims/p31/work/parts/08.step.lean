section AMSTEP
variable {p : Program} {l : Launch} {e : Env} {R : Room} {s : State} {m : MethodId} {args : Array Value} {below : List Frame} {meth : Method} {c : Code} {T : State} {H H0 : Heap} {locs : List Loc} {cells slots : Nat} {Q : State → Prop}
theorem am_res {mc ms : Nat} {A : Nat → Prop} {Qc : Array Value → State → Outcome → State → Prop} {XC : String → State → State → Prop} {a : Array Value} {g : JFrame} {rest : List Value} (hT : T.heap = H) (hS : va_S A H0 H locs)
    (hQF : ∀ st o t, Qc a st o t → va_F A st t) (hXF : ∀ E st t, XC E st t → va_F A st t)
    (hD : (∃ (v : Option Value) (vm₁ : Vm) (B : Pt), s.WarmedH vm₁ ∧ Stand p l e R s m args below meth c B.U B.locs B.cells B.slots ∧ PostOf Qc mc ms A ⟨T.setVm vm₁, locs, cells, slots⟩ a v B ∧
      ∀ target, Steps p.tables e below (B.U.setTop { g with pc := g.pc + 3, stack := v.toList ++ rest }) target → Steps p.tables e below (T.setTop g) target) ∨
    (∃ (q : Addr) (vm₁ : Vm) (B : Pt), s.WarmedH vm₁ ∧ Stand p l e R s m args below meth c B.U B.locs B.cells B.slots ∧ vx_Post XC 1 6 A ⟨T.setVm vm₁, locs, cells, slots⟩ a q B ∧
      Steps p.tables e below (T.setTop g) ((B.U.setTop { g with stack := rest }).pushFrame (.throwing q))))
    (kR : ∀ (v : Option Value) (st₀ t : State) (H1 : Heap) (locs1 : List Loc), st₀.heap = H → t.heap = H1 → Qc a st₀ (.returned v) t → va_S A H0 H1 locs1 → W p l e R s m args below meth c H1 locs1 (cells + mc) (slots + ms) Q { g with pc := g.pc + 3, stack := v.toList ++ rest })
    (kX : ∀ (E : String) (ce : Cell) (q : Addr) (st₀ t : State) (H1 : Heap) (locs1 : List Loc), st₀.heap = H → t.heap = H1 → XC E st₀ t → va_S A H0 H1 locs1 → H1[q]? = some ce → ce.vm = .none → s.vm.findClass E = some ce.cls → vx_W p l e R s m args below meth c H1 locs1 (cells + 1) (slots + 6) Q { g with stack := rest } q) :
    ∃ t, Steps p.tables e below (T.setTop g) t ∧ Q t := by
  rcases hD with ⟨v, vm₁, ⟨U', l2, c2, s2⟩, hW₁, X', ⟨g', mk, t, L, e1, e2, hq, h1, hL, h2, h3⟩, st⟩ | ⟨q, vm₁, ⟨U', l2, c2, s2⟩, hW₁, X', ⟨g', mk, t, L, E, ce, e1, e2, hq, hce, hcv, hcl, h1, hL, h2, h3⟩, st⟩
  · dsimp only [Pt.U, Pt.locs, Pt.cells, Pt.slots] at X' e1 e2 h1 h2 h3 st hq
    subst h1; subst h2; subst h3
    have h0 : ((T.setVm vm₁).calling g' mk a).heap = H := hT
    obtain ⟨-, -, k3⟩ := vx_keep (A1 := A) h0 e1 hS (fun _ _ h => h) (fun _ h => h) hL (hQF _ _ _ hq)
    obtain ⟨t2, a1, b1⟩ := kR v _ t U'.heap (locs ++ L) h0 e1.symm hq k3 U' rfl X'
    exact ⟨t2, st t2 a1, b1⟩
  · dsimp only [Pt.U, Pt.locs, Pt.cells, Pt.slots] at X' e1 e2 h1 h2 h3 st hcl hq
    subst h1; subst h2; subst h3
    have h0 : ((T.setVm vm₁).calling g' mk a).heap = H := hT
    obtain ⟨-, -, k3⟩ := vx_keep (A1 := A) h0 e1 hS (fun _ _ h => h) (fun _ h => h) hL (hXF _ _ _ hq)
    obtain ⟨t2, a1, b1⟩ := kX E ce q _ t U'.heap (locs ++ L) h0 e1.symm hq k3 (by rw [e1]; exact hce) hcv (vx_cls hW₁ hcl) U' rfl X'
    exact ⟨t2, st.trans a1, b1⟩
variable {D : va_G} {G ad : Nat → Nat} {sh ro : List Sh} {own : String} {cc : ByteArray}
theorem am_blind {h : HP} {as : List Value} : FrameBlind (va_Pc as (am_S D G ad h sh ro)) := by
  intro a U g mk q
  obtain ⟨qa, qW, qK, qZ, qG⟩ := q
  refine ⟨qa, qW, va_K.moved (u := U) (U := U.calling g mk a) (Vm.Alike.refl U.vm) qK, am_Z.moved (u := U) (U := U.calling g mk a) (Vm.Alike.refl U.vm) (State.WarmedH.refl U) qZ, qG⟩
theorem am_pre {h : HP} {as : List Value} (hG : am_g D G s) (hK : va_K D vwCl (am_tys G) s) (hZ : am_Z ad G s s.heap) (hW : am_W D G ad h sh ro H) (hS : va_S (am_A G) s.heap H locs) : ∀ vm₁ : Vm, s.WarmedH vm₁ → T.heap = H → va_Pc as (am_S D G ad h sh ro) as.toArray (T.setVm vm₁) := by
  intro vm₁ hW₁ hT
  refine ⟨rfl, ?_, va_K.moved (u := s) (U := T.setVm vm₁) hW₁.alike hK, ?_, ?_⟩
  · show am_W D G ad h sh ro T.heap
    rw [hT]; exact hW
  · show am_Z ad G (T.setVm vm₁) T.heap
    rw [hT]
    exact (hZ.kept hS.2.1).moved (u := s) (U := T.setVm vm₁) hW₁.alike hW₁
  · refine ⟨?_, fun j => arrOfT_moved (u := s) (E := T.setVm vm₁) hW₁.alike (hG.2 j)⟩
    show G 4 ≤ T.heap.size
    rw [hT]; exact Nat.le_trans hG.1 hS.1
theorem am_code {cd : CD} {w : Cond} (hts : ∀ w ∈ am_U, w.before args s = true) (hw : w = .code (c_y cd) (c_b cd) (c_mL cd) (c_rt cd) ∨ c_k cd = 4 ∧ ∃ hh, w = .codeWith (c_y cd) (c_b cd) (c_mL cd) (c_rt cd) hh) (hU : w ∈ am_U) :
    ∀ (U : State) (mk : MethodId), s.WarmedH U.vm → U.methodNamed? (c_y cd) = some mk → ∃ (methY : Method) (cY : Code), U.vm.method? mk = some methY ∧ methY.code = some cY ∧ cY.maxLocals = c_mL cd := by
  intro U mk hW hn
  rcases hw with rfl | ⟨-, hh, rfl⟩
  · obtain ⟨methY, cY, h1, h2, -, h3, -⟩ := Cond.code_spec hn (am_okw_warm (a' := args) hW (List.mem_filter.mp hU).2 (hts _ hU))
    exact ⟨methY, cY, h1, h2, h3⟩
  · obtain ⟨m9, methY, cY, hn9, h1, h2, -, h3, -⟩ := Cond.codeWith_spec (am_okw_warm (a' := args) hW (List.mem_filter.mp hU).2 (hts _ hU))
    cases hn.symm.trans hn9
    exact ⟨methY, cY, h1, h2, h3⟩
/-- a call, whatever its kind -/
theorem am_docall {cd : CD} {i : Nat} {virt : Bool} {pc xq : Nat} {A : Array Slot} {st : List Value} {h : HP} (hx : p.tables.exec = Jvm.exec) (hb : c.code = cc) (hsz : A.size = c.maxLocals) (hown : s.vm.findClass own = some m.cls) (hts : ∀ w ∈ am_U, w.before args s = true)
    (hG : am_g D G s) (hK : va_K D vwCl (am_tys G) s) (hZ : am_Z ad G s s.heap) (hW : am_W D G ad h sh ro H) (hS : va_S (am_A G) s.heap H locs) (hlnk : am_lnk own i cd) (hok : am_Ok l sh ro cd)
    (hdg : decode cc pc = .ok (bif virt then .invokevirtual i else .invokestatic i, 3)) (hk : am_kind sh virt (c_k cd) (st.take (c_n cd)).reverse = true) (hn : c_n cd ≤ st.length) (hcat : am_csum (st.drop (c_n cd)) ≤ 10) (hfr : c_fr cd + 1 ≤ R.frames) (hlo : 10 + (c_mL cd + 11) + c_lo cd ≤ R.locals) (hc1 : cells + (c_mc cd + 1) ≤ R.cells) (hs1 : slots + (6 * c_mc cd + 6) ≤ R.slots)
    (hg0 : g_ok (c_g cd sh ro (st.take (c_n cd)).reverse h) = true) (hg1 : c_part cd = true → g_pre (c_g cd sh ro (st.take (c_n cd)).reverse h))
    (kR : g_thr (c_g cd sh ro (st.take (c_n cd)).reverse h) = none → ∀ (H1 : Heap) (locs1 : List Loc), am_W D G ad (g_hp (c_g cd sh ro (st.take (c_n cd)).reverse h)) sh ro H1 → va_S (am_A G) s.heap H1 locs1 →
      W p l e R s m args below meth c H1 locs1 (cells + c_mc cd) (slots + 6 * c_mc cd) Q (F0 m (pc + 3) A ((((g_val (c_g cd sh ro (st.take (c_n cd)).reverse h)).toList ++ st.drop (c_n cd))).map (am_cv ad xq))))
    (kX : ∀ (E : String), c_thr cd = true → g_thr (c_g cd sh ro (st.take (c_n cd)).reverse h) = some E → ∀ (ce : Cell) (q : Addr) (H1 : Heap) (locs1 : List Loc), am_W D G ad (g_hp (c_g cd sh ro (st.take (c_n cd)).reverse h)) sh ro H1 → va_S (am_A G) s.heap H1 locs1 → H1[q]? = some ce → ce.vm = .none → s.vm.findClass E = some ce.cls →
      vx_W p l e R s m args below meth c H1 locs1 (cells + 1) (slots + 6) Q (F0 m pc A ((st.drop (c_n cd)).map (am_cv ad xq))) q) :
    W p l e R s m args below meth c H locs cells slots Q (F0 m pc A (st.map (am_cv ad xq))) := by
  intro T hT X
  obtain ⟨w, hw, hwU, hM⟩ := hok
  obtain ⟨hM0, hM⟩ := hM D G ad xq (st.take (c_n cd)).reverse h hg0
  obtain ⟨hth, hM⟩ := hM (by
    cases hp : c_part cd with
    | false => exact hM0 hp
    | true => exact hg1 hp)
  generalize hg : c_g cd sh ro (st.take (c_n cd)).reverse h = g at kR kX hth hM
  obtain ⟨hy, hini, hcase⟩ := hlnk
  have hws : ∀ w' ∈ w :: am_U, ∀ (a' : Array Value) (U : State), s.WarmedH U.vm → w'.before a' U = true := fun w' hw' a' U hWU => by
    rcases List.mem_cons.mp hw' with rfl | hw'
    · exact am_okw_warm hWU (List.mem_filter.mp hwU).2 (hts _ hwU)
    · exact am_okw_warm hWU (List.mem_filter.mp hw').2 (hts _ hw')
  have hB : vx_Back l R p e below s args (c_y cd) 3 10 (PreOf R (c_mc cd + 1) (6 * c_mc cd + 6) (va_Pc ((st.take (c_n cd)).reverse.map (am_cv ad xq)) (am_S D G ad h sh ro))) (PostOf (am_Qc D G ad sh ro g) (c_mc cd) (6 * c_mc cd) (am_A G)) (vx_Post (am_XC D G ad sh ro g) 1 6 (am_A G)) :=
    am_back (maxL := c_mL cd) hM am_blind rfl rfl hfr hlo hws (am_code hts hw hwU) (fun a' U hWU => am_okw_warm hWU (List.mem_filter.mp hini).2 (hts _ hini))
  have hsplit : st.map (am_cv ad xq) = ((st.take (c_n cd)).reverse.map (am_cv ad xq)).reverse ++ (st.drop (c_n cd)).map (am_cv ad xq) := by
    rw [← List.map_reverse, List.reverse_reverse, ← List.map_append, List.take_append_drop]
  have hWr : 2 * (F0 m pc A (st.map (am_cv ad xq))).monitorRoom + (((st.drop (c_n cd)).map (am_cv ad xq)).map fun v => v.category).sum ≤ 10 := by
    show 2 * 0 + _ ≤ 10
    rw [am_csum_eq]; omega
  have hlen : (st.take (c_n cd)).reverse.length = c_n cd := by rw [List.length_reverse, List.length_take]; omega
  have kR' : ∀ (a : Array Value) (v : Option Value) (st₀ t : State) (H1 : Heap) (locs1 : List Loc), st₀.heap = H → t.heap = H1 → am_Qc D G ad sh ro g a st₀ (.returned v) t → va_S (am_A G) s.heap H1 locs1 → W p l e R s m args below meth c H1 locs1 (cells + c_mc cd) (slots + 6 * c_mc cd) Q { F0 m pc A (st.map (am_cv ad xq)) with pc := (F0 m pc A (st.map (am_cv ad xq))).pc + 3, stack := v.toList ++ (st.drop (c_n cd)).map (am_cv ad xq) } := by
    intro a v st₀ t H1 locs1 _ e1 hq hS1
    obtain ⟨q1, q2, q3, q4, -⟩ := hq
    cases q2
    rw [e1] at q3
    have k := kR q1 H1 locs1 q3 hS1
    have e2 : ((g_val g).toList ++ st.drop (c_n cd)).map (am_cv ad xq) = ((g_val g).map (am_cv ad 0)).toList ++ (st.drop (c_n cd)).map (am_cv ad xq) := by
      cases hv : g_val g with
      | none => rfl
      | some v => simp only [Option.toList_some, Option.map_some, List.cons_append, List.nil_append, List.map_cons, am_cv_xq (xq := xq) (yq := 0) (q4 v hv)]
    rw [e2] at k
    exact k
  have kX' : ∀ (E : String) (ce : Cell) (q : Addr) (st₀ t : State) (H1 : Heap) (locs1 : List Loc), st₀.heap = H → t.heap = H1 → am_XC D G ad sh ro g E st₀ t → va_S (am_A G) s.heap H1 locs1 → H1[q]? = some ce → ce.vm = .none → s.vm.findClass E = some ce.cls → vx_W p l e R s m args below meth c H1 locs1 (cells + 1) (slots + 6) Q { F0 m pc A (st.map (am_cv ad xq)) with stack := (st.drop (c_n cd)).map (am_cv ad xq) } q := by
    intro E ce q st₀ t H1 locs1 _ e1 hq hS1 hce hcv hcl
    obtain ⟨q1, q2, -⟩ := hq
    rw [e1] at q2
    refine kX E ?_ q1 ce q H1 locs1 q2 hS1 hce hcv hcl
    cases ht : c_thr cd with
    | true => rfl
    | false => rw [hth ht] at q1; cases q1
  rcases hcase with ⟨hk10, hpar, hstat, hlink⟩ | ⟨hk10, hpar, hinst, hsel, ⟨T0, N0, hcl0⟩, hlink⟩
  · have hv : virt = false := by
      cases virt with
      | false => rfl
      | true =>
        simp only [am_kind, cond_true, Bool.and_eq_true] at hk
        have := Nat.le_of_ble_eq_true hk.1.1
        omega
    subst hv
    have hdg : decode c.code (F0 m pc A (st.map (am_cv ad xq))).pc = .ok (.invokestatic i, 3) := by rw [hb]; exact hdg
    have hlens : ∀ sig, parseMethodDescriptor (c_y cd).desc = some sig → ((st.take (c_n cd)).reverse.map (am_cv ad xq)).length = sig.parameters.length := by
      intro sig hsig
      rw [hsig] at hpar
      rw [List.length_map, hlen]
      exact (Option.some.inj hpar).symm
    have hpre : ∀ vm₁ : Vm, s.WarmedH vm₁ → PreOf R (c_mc cd + 1) (6 * c_mc cd + 6) (va_Pc ((st.take (c_n cd)).reverse.map (am_cv ad xq)) (am_S D G ad h sh ro)) ⟨T.setVm vm₁, locs, cells, slots⟩ ((st.take (c_n cd)).reverse.map (am_cv ad xq)).toArray := fun vm₁ hW₁ => ⟨hc1, hs1, am_pre hG hK hZ hW hS vm₁ hW₁ hT⟩
    refine am_res (a := ((st.take (c_n cd)).reverse.map (am_cv ad xq)).toArray) hT hS (fun _ _ _ q => q.2.2.2.2) (fun _ _ _ q => q.2.2) ?_ (kR' _) kX'
    rcases hlink with ⟨hk1, hlink⟩ | ⟨hk1, host, hlink⟩
    · rcases hw with rfl | ⟨-, hh, rfl⟩
      · exact vx_callS X hx hown (hts _ hlink) (hts _ hstat) (hts _ hini) (hts _ hwU) hy hB rfl hsz hlens hsplit hWr hdg hpre
      · exact am_callSW X hx hown (hts _ hlink) (hts _ hstat) (hts _ hini) (hts _ hwU) hy hB rfl hsz hlens hsplit hWr hdg hpre
    · rcases hw with rfl | ⟨hk4, -⟩
      · exact am_callSN X hx hown (hts _ hlink) (hts _ hstat) (hts _ hini) (hts _ hwU) hy hB rfl hsz hlens hsplit hWr hdg hpre
      · omega
  · have hv : virt = true := by
      cases virt with
      | true => rfl
      | false =>
        simp only [am_kind, cond_false, Bool.or_eq_true] at hk
        rcases hk with (hk | hk) | hk <;> (have := am_beq hk; omega)
    subst hv
    have hdg : decode c.code (F0 m pc A (st.map (am_cv ad xq))).pc = .ok (.invokevirtual i, 3) := by rw [hb]; exact hdg
    simp only [am_kind, cond_true, Bool.and_eq_true] at hk
    obtain ⟨-, hrcv⟩ := hk
    cases has : (st.take (c_n cd)).reverse with
    | nil => rw [has] at hrcv; cases hrcv
    | cons v0 as =>
      rw [has] at hrcv hsplit hB
      cases v0 with
      | ref o =>
        simp only [am_rcv, Bool.and_eq_true] at hrcv
        obtain ⟨ho, hrcv⟩ := hrcv
        split at hrcv
        next k cj fs hsh =>
          simp only [Bool.and_eq_true] at hrcv
          have e1 := am_beq hrcv.1
          have e2 := am_beq hrcv.2
          subst e1
          have hat := am_wl_at (G := G) (ad := ad) (h := h) hsh
          obtain ⟨cellB, g1, g2, g3⟩ := va_recv hK hW.1 (ci := cj) (q0 := o) (by rw [← e2]; exact hcl0) hat
          have hlens : ∀ sig, parseMethodDescriptor (c_y cd).desc = some sig → (as.map (am_cv ad xq)).length = sig.parameters.length := by
            intro sig hsig
            rw [hsig] at hpar
            rw [has, List.length_cons] at hlen
            rw [List.length_map]
            have := Option.some.inj hpar
            dsimp only at this
            omega
          have hpre : ∀ vm₁ : Vm, s.WarmedH vm₁ → PreOf R (c_mc cd + 1) (6 * c_mc cd + 6) (va_Pc ((Value.ref o :: as).map (am_cv ad xq)) (am_S D G ad h sh ro)) ⟨T.setVm vm₁, locs, cells, slots⟩ (Value.ref (ad o) :: as.map (am_cv ad xq)).toArray := fun vm₁ hW₁ => ⟨hc1, hs1, am_pre hG hK hZ hW hS vm₁ hW₁ hT⟩
          have hsplit : (F0 m pc A (st.map (am_cv ad xq))).stack = (as.map (am_cv ad xq)).reverse ++ .ref (ad o) :: (st.drop (c_n cd)).map (am_cv ad xq) := by
            refine hsplit.trans ?_
            rw [List.map_cons, List.reverse_cons, List.append_assoc]
            rfl
          refine am_res (a := (Value.ref (ad o) :: as.map (am_cv ad xq)).toArray) hT hS (fun _ _ _ q => q.2.2.2.2) (fun _ _ _ q => q.2.2) ?_ (kR' _) kX'
          rcases hw with rfl | ⟨hk4, -⟩
          · rcases hlink with hlink | ⟨host, hlink⟩
            · exact vx_callV X hx hown (hts _ hlink) (hts _ hinst) (hts _ hsel) (hts _ hwU) hy hB (by rw [hT]; exact g1) g2 g3 rfl hsz hlens hsplit hWr hdg hpre
            · exact am_callVN X hx hown (hts _ hlink) (hts _ hinst) (hts _ hsel) (hts _ hwU) hy hB (by rw [hT]; exact g1) g2 g3 rfl hsz hlens hsplit hWr hdg hpre
          · omega
        next => cases hrcv
      | _ => cases hrcv
end AMSTEP
