/-! CONTRACTS out of what the abstract machine says. -/
def am_MQ (below : List Frame) (Qc : Array Value → State → Outcome → State → Prop) (XC : String → State → State → Prop) (a : Array Value) (s : State) (mc ms : Nat) (free : Addr → Prop) : State → Prop := fun t =>
  ∃ o, t.status = .running ∧ Ended t below o ∧ am_Q Qc XC mc ms free a s o t
theorem am_ofW {l : Launch} {y : MethodName} {ws' : List Cond} {rm : Room} {Pc : Array Value → State → Prop} {Qc : Array Value → State → Outcome → State → Prop} {XC : String → State → State → Prop} {mc ms : Nat} {free : Addr → Prop} {cc : ByteArray} {maxL : Nat} {ret : Option FieldType}
    (hy : plainFor y = true)
    (body : ∀ p e s m args below meth c s₁, BodyLoose p l y (headSpec (Cond.code y cc maxL ret :: ws') rm) cc maxL ret e s m args below meth c s₁ → c.maxLocals = maxL → (∀ x ∈ c.exceptionTable.toList, False) → Pc args s →
      W p l e (headSpec (Cond.code y cc maxL ret :: ws') rm).room s m args below meth c s.heap [] 0 0 (am_MQ below Qc XC args s mc ms free) (entryFrame m args maxL)) : am_Met l y (Cond.code y cc maxL ret :: ws') rm Pc Qc XC mc ms free := by
  refine MetFree.of_bodySF (code := cc) (maxLocals := maxL) (ret := ret) hy ?_ ?_
  · intro args s m h hn
    obtain ⟨meth, c, h1, h2, h3, h4, h5, h6, -, -⟩ := Cond.code_spec hn (atoms_spec (ws := Cond.code y cc maxL ret :: ws') h _ List.mem_cons_self)
    exact ⟨meth, c, h1, h2, h3, h4, h5, h6⟩
  · intro p e s m args below meth c s₁ B hml hP _
    have hh0 : s₁.heap = s.heap := by rw [B.state]; rfl
    have ht : ∀ x ∈ c.exceptionTable.toList, False := by
      obtain ⟨meth9, c9, h1, h2, -, -, -, -, h7, -⟩ := Cond.code_spec B.named (atoms_spec (ws := Cond.code y cc maxL ret :: ws') B.pre _ List.mem_cons_self)
      cases Option.some.inj (h1.symm.trans B.method)
      cases Option.some.inj (h2.symm.trans (Stand.of_body B).code)
      intro x hx
      rw [Array.isEmpty_iff.mp h7] at hx
      cases hx
    obtain ⟨t, a1, o, b1, b2, b3⟩ := body p e s m args below meth c s₁ B hml ht hP s₁ hh0 (Stand.of_body B)
    exact ⟨t, o, a1, b1, b2, b3⟩
theorem am_W.kept {D : va_G} {G ad : Nat → Nat} {h : HP} {sh ro : List Sh} {H H1 : Heap} (hW : am_W D G ad h sh ro H) (hk : ∀ q : Nat, q < H.size → H1[q]? = H[q]?) : am_W D G ad h sh ro H1 :=
  ⟨hW.1.kept (fun k q hq => hk _ (hW.1 k q hq).lt), hW.2.1, fun j s hj => ⟨(hW.2.2.1 j s hj).1.kept (hk _ (hW.2.2.1 j s hj).1.lt), (hW.2.2.1 j s hj).2⟩, hW.2.2.2⟩
/-- what a method's answer has to be -/
def am_eq (g : GR) : AR → HP → Prop
  | .inl v, h => g_thr g = none ∧ g_val g = v ∧ g_hp g = h
  | .inr E, h => g_thr g = some E ∧ g_hp g = h
/-- a place where a method throws: 'new E; dup; ldc text; invokespecial; athrow' -/
def am_thok (own : String) (cc : ByteArray) (M : MI) (pc : Nat) (E : String) : Prop := ∃ (ik is ic : Nat) (names : List String) (text : String), (own = "BusBlocks" ∧ (is, text) ∈ am_strs) ∧ Bundle.fit E = true ∧ (∀ n ∈ names, Bundle.fit n = true) ∧
  (∀ w ∈ Cond.classLink own ik E :: Cond.initialized E :: vx_atS own ic E names, w ∈ am_U ∧ vx_ot w = true) ∧ names.length + 3 < m_fr M ∧ 8 + (13 * (names.length + 1) + 43) ≤ m_lo M ∧
  decode cc pc = .ok (.new ik, 3) ∧ decode cc (pc + 3) = .ok (.dup, 1) ∧
  ((decode cc (pc + 4) = .ok (.ldc is, 2) ∧ decode cc (pc + 6) = .ok (.invokespecial ic, 3) ∧ decode cc (pc + 9) = .ok (.athrow, 1)) ∨
   (decode cc (pc + 4) = .ok (.ldc_w is, 3) ∧ decode cc (pc + 7) = .ok (.invokespecial ic, 3) ∧ decode cc (pc + 10) = .ok (.athrow, 1)))
theorem am_Wmono {p : Program} {l : Launch} {e : Env} {R : Room} {s : State} {m : MethodId} {args : Array Value} {below : List Frame} {meth : Method} {c : Code} {H : Heap} {locs : List Loc} {cells slots : Nat} {Q Q' : State → Prop} {g : JFrame} (hQ : ∀ t, Q t → Q' t)
    (k : W p l e R s m args below meth c H locs cells slots Q g) : W p l e R s m args below meth c H locs cells slots Q' g := fun T hT X => by
  obtain ⟨t, a, b⟩ := k T hT X
  exact ⟨t, a, hQ t b⟩
theorem am_Vmono {p : Program} {l : Launch} {e : Env} {R : Room} {s : State} {m : MethodId} {args : Array Value} {below : List Frame} {meth : Method} {c : Code} {H : Heap} {locs : List Loc} {cells slots : Nat} {Q Q' : State → Prop} {g : JFrame} {q : Addr} (hQ : ∀ t, Q t → Q' t)
    (k : vx_W p l e R s m args below meth c H locs cells slots Q g q) : vx_W p l e R s m args below meth c H locs cells slots Q' g q := fun T hT X => by
  obtain ⟨t, a, b⟩ := k T hT X
  exact ⟨t, a, hQ t b⟩
theorem am_ofMQ {below : List Frame} {Qc : Array Value → State → Outcome → State → Prop} {XC : String → State → State → Prop} {a : Array Value} {s : State} {mc ms : Nat} {free : Addr → Prop} (t : State) (h : MQ below Qc a s mc ms free t) : am_MQ below Qc XC a s mc ms free t := by
  obtain ⟨o, h1, h2, h3, h4⟩ := h
  exact ⟨o, h1, h2, Or.inl ⟨h3, h4⟩⟩
theorem am_ofVQ {below : List Frame} {Qc : Array Value → State → Outcome → State → Prop} {XC : String → State → State → Prop} {a : Array Value} {s : State} {mc ms : Nat} {free : Addr → Prop} (t : State) (h : vx_MQ below (fun _ _ _ _ => False) XC a s 1 6 free t) : am_MQ below Qc XC a s mc ms free t := by
  obtain ⟨o, h1, h2, h3⟩ := h
  rcases h3 with ⟨h3, -⟩ | h3
  · exact h3.elim
  · exact ⟨o, h1, h2, Or.inr h3⟩
theorem am_nar {rt : Option FieldType} {v : Int32} (h : am_rt rt v) : ∃ ty, rt = some ty ∧ narrow ty (.int v) = .int v := by
  unfold am_rt at h
  split at h
  · exact ⟨.int, rfl, rfl⟩
  · rcases h with rfl | rfl <;> exact ⟨.boolean, rfl, rfl⟩
  · exact h.elim
section AMMET
variable {p : Program} {l : Launch} {e : Env} {R : Room} {s : State} {m : MethodId} {args : Array Value} {below : List Frame} {meth : Method} {c : Code} {D : va_G} {G ad : Nat → Nat} {sh ro : List Sh} {cc : ByteArray} {own : String}
/-- the ends of a method without handlers -/
theorem am_ends {M : MI} {g : GR} (hx : p.tables.exec = Jvm.exec) (hb : c.code = cc) (hr : meth.sig.returnType = m_rt M) (hlocks : meth.locks = false) (hnt : ∀ x ∈ c.exceptionTable.toList, False) (hl : l.stackTraces = false) (hown : s.vm.findClass own = some m.cls)
    (hts : ∀ w ∈ am_U, w.before args s = true) (hZ : am_Z ad G s s.heap) (hth : ∀ q ∈ m_thr M, am_thok own cc M q.1 q.2) (hhd : m_hdl M = []) (hfr : m_fr M ≤ R.frames) (hlo : m_lo M ≤ R.locals) (hc1 : 1 ≤ R.cells) (hs1 : 6 ≤ R.slots) (hbud : ∀ h, m_bud M h = 0) (mc : Nat) :
    am_End p l e R s m args below meth c D G ad sh ro M 0 cc (am_eq g) (am_MQ below (am_Qc D G ad sh ro g) (am_XC D G ad sh ro g) args s mc (6 * mc) (am_A G)) := by
  refine ⟨?_, ?_, ?_, ?_, ?_, ?_⟩
  · intro v h pc A H locs hrt hP hdg hW hS
    obtain ⟨p1, p2, p3⟩ := hP
    obtain ⟨ty, e1, e2⟩ := am_nar hrt
    rw [hbud h]
    refine am_Wmono am_ofMQ (W.widen (Nat.zero_le mc) (Nat.zero_le _) (W.zret hx hb (hr.trans e1) e2 (fun t ht _ => ⟨p1, ?_, ?_, ?_, hS.F ht⟩) hS.2.2 hdg))
    · rw [p2]; rfl
    · rw [p3, ht]; exact hW
    · intro v' hv'; rw [p2] at hv'; cases hv'; rfl
  · intro v h pc A H locs hrt hP hdg hW hS
    obtain ⟨p1, p2, p3⟩ := hP
    rw [hbud h]
    refine am_Wmono am_ofMQ (W.widen (Nat.zero_le mc) (Nat.zero_le _) (W.lret hx hb (hr.trans hrt) (fun t ht _ => ⟨p1, ?_, ?_, ?_, hS.F ht⟩) hS.2.2 hdg))
    · rw [p2]; rfl
    · rw [p3, ht]; exact hW
    · intro v' hv'; rw [p2] at hv'; cases hv'; rfl
  · intro v h pc A H locs hrt hP hdg hW hS
    obtain ⟨p1, p2, p3⟩ := hP
    rw [hbud h]
    refine am_Wmono am_ofMQ (W.widen (Nat.zero_le mc) (Nat.zero_le _) (W.dret hx hb (hr.trans hrt) (fun t ht _ => ⟨p1, ?_, ?_, ?_, hS.F ht⟩) hS.2.2 hdg))
    · rw [p2]; rfl
    · rw [p3, ht]; exact hW
    · intro v' hv'; rw [p2] at hv'; cases hv'; rfl
  · intro h pc A H locs hrt hP hdg hW hS
    obtain ⟨p1, p2, p3⟩ := hP
    rw [hbud h]
    refine am_Wmono am_ofMQ (W.widen (Nat.zero_le mc) (Nat.zero_le _) (W.vret hx hb (hr.trans hrt) (fun t ht _ => ⟨p1, ?_, ?_, ?_, hS.F ht⟩) hS.2.2 hdg))
    · rw [p2]; rfl
    · rw [p3, ht]; exact hW
    · intro v' hv'; rw [p2] at hv'; cases hv'
  · intro E h pc i xq A st H locs hpc hcs hP hdg hA hW hS
    obtain ⟨p1, p2⟩ := hP
    rw [hbud h]
    obtain ⟨ik, is, ic, names, text, ⟨hown2, hstr⟩, hE, hN, hwd, hf, hlo2, d0, d3, hd⟩ := hth _ (am_lk_mem hpc)
    subst hown2
    obtain ⟨sa, hsa⟩ := hZ.2.2.2.1 _ hstr
    have w1 := fun w hw => hts w (hwd w hw).1
    have w2 := fun w hw => (hwd w hw).2
    have hX : ∀ t : State, s.vm.Alike t.vm → H.size ≤ t.heap.size → (∀ q : Nat, q < H.size → t.heap[q]? = H[q]?) → am_XC D G ad sh ro g E s t := fun t _ h1 h2 => by
      refine ⟨p1, ?_, Nat.le_trans hS.1 h1, fun q q1 q2 => ?_⟩
      · rw [p2]; exact hW.kept h2
      · rw [h2 q (Nat.lt_of_lt_of_le q1 hS.1)]; exact hS.2.1 q q1 q2
    have hcs2 : ((st.map (am_cv ad xq)).map fun v => v.category).sum ≤ 8 := by rw [am_csum_eq]; exact hcs
    rcases hd with ⟨d4, d6, d9⟩ | ⟨d4, d7, d10⟩
    · exact am_Wmono am_ofVQ (vx_throwS (mc := 1) (ms := 6) hx hb hl hown hE hN (w1 _ List.mem_cons_self) (w1 _ (List.mem_cons_of_mem _ List.mem_cons_self)) hsa (fun w hw => w1 w (List.mem_cons_of_mem _ (List.mem_cons_of_mem _ hw))) w2 hZ.1 hZ.2.1 hS hA d0 d3 d4 d6 d9 (fun x hx => (hnt x hx).elim) (by omega) (by omega) (by omega) (by omega) hlocks hX hS.2.2 (Nat.le_refl _) (Nat.le_refl _))
    · exact am_Wmono am_ofVQ (vx_throwSW (mc := 1) (ms := 6) hx hb hl hown hE hN (w1 _ List.mem_cons_self) (w1 _ (List.mem_cons_of_mem _ List.mem_cons_self)) hsa (fun w hw => w1 w (List.mem_cons_of_mem _ (List.mem_cons_of_mem _ hw))) w2 hZ.1 hZ.2.1 hS hA d0 d3 d4 d7 d10 (fun x hx => (hnt x hx).elim) (by omega) (by omega) (by omega) (by omega) hlocks hX hS.2.2 (Nat.le_refl _) (Nat.le_refl _))
  · intro E h0 h pc A st ce q H locs hP hA _ hW hS hce hcv hcl
    rw [hhd] at hP
    obtain ⟨p1, p2⟩ : g_thr g = some E ∧ g_hp g = h := hP
    rw [hbud h0]
    exact am_Vmono am_ofVQ (vx_out (mc := 1) (ms := 6) (fun x hx => (hnt x hx).elim) hlocks hce hcv hcl (fun t ht _ => ⟨p1, by rw [p2, ht]; exact hW, hS.F ht⟩) hS.2.2 (Nat.le_refl _) (by omega))
end AMMET
theorem am_X_fg {p : Program} {l : Launch} {e : Env} {R : Room} {s : State} {m : MethodId} {args : Array Value} {below : List Frame} {meth : Method} {c : Code} {D : va_G} {G ad : Nat → Nat} {sh ro : List Sh} {M : MI} {so : Nat} {Q : State → Prop} (pc : Nat) (ls st : List Value) (h : HP) (i : Nat)
    (q : am_X p l e R s m args below meth c D G ad sh ro M so Q (pc, ls.set i (.retAddr 0), st, h)) : am_X p l e R s m args below meth c D G ad sh ro M so Q (pc, ls, st, h) := by
  intro xq A H locs hn hl hW hS
  refine q xq A H locs (am_len_set hn) (am_has.mono hl (by rw [List.length_set]) fun q hq => ?_) hW hS
  obtain ⟨v, hv, hr, e⟩ := am_lv_mem.mp hq
  by_cases ht : q.1 = i
  · rw [ht] at hv
    have hlt := (List.getElem?_eq_some_iff.mp hv).1
    rw [List.length_set] at hlt
    rw [List.getElem?_set_self hlt] at hv
    cases hv
    cases hr
  · rw [List.getElem?_set_ne (Ne.symm ht)] at hv
    exact am_lv_mem.mpr ⟨v, hv, hr, e⟩
/-- A METHOD'S CONTRACT: its facts, its callees' contracts, and what the abstract machine says from its entry -/
theorem am_met {l : Launch} (hl : l.stackTraces = false) {sh ro : List Sh} {cd : CD} {M : MI} {own : String} (hy : (c_y cd).cls = own) (hpl : plainFor (c_y cd) = true) (hcw : Cond.code (c_y cd) (c_b cd) (c_mL cd) (c_rt cd) ∈ am_U) (hrt : c_rt cd = m_rt M) (hfr : c_fr cd = m_fr M) (hlo : c_lo cd = m_lo M) (hB : m_B M = 1) (hbud : ∀ h, m_bud M h = 0) (hhd : m_hdl M = [])
    (hMok : am_Mok own (c_b cd) M) (hth : ∀ q ∈ m_thr M, am_thok own (c_b cd) M q.1 q.2) (hok : ∀ q ∈ m_inv M, am_Ok l sh ro q.2) (hnp : c_part cd = false → ∀ as h, g_ok (c_g cd sh ro as h) = true → g_pre (c_g cd sh ro as h)) (hnt : c_thr cd = false → ∀ as h, g_ok (c_g cd sh ro as h) = true → g_thr (c_g cd sh ro as h) = none)
    (hev : ∀ (as : List Value) (h : HP), g_ok (c_g cd sh ro as h) = true → g_pre (c_g cd sh ro as h) → (am_loc as).length ≤ c_mL cd ∧ am_Ev M sh ro (am_eq (c_g cd sh ro as h)) (0, am_ent as (c_mL cd), [], h)) : am_Ok l sh ro cd := by
  refine ⟨_, Or.inl rfl, hcw, fun D G ad xq as h hg => ⟨fun hp => hnp hp as h hg, fun hg2 => ⟨fun ht => hnt ht as h hg, ?_⟩⟩⟩
  obtain ⟨hlen, hev⟩ := hev as h hg hg2
  generalize c_g cd sh ro as h = g at hg hg2 hev
  refine am_ofW hpl ?_
  intro p e s m args below meth c s₁ B hml ht hPc
  obtain ⟨rfl, hW, hK, hZ, hG⟩ := hPc
  have hts0 := atoms_spec (ws := Cond.code (c_y cd) (c_b cd) (c_mL cd) (c_rt cd) :: am_U) B.pre
  have hts : ∀ w ∈ am_U, w.before (as.map (am_cv ad xq)).toArray s = true := fun w hw => hts0 w (List.mem_cons_of_mem _ hw)
  have hown : s.vm.findClass own = some m.cls := by rw [← hy]; exact findClass_of_methodNamed B.named
  have hE := am_ends (p := p) (e := e) (R := (headSpec (Cond.code (c_y cd) (c_b cd) (c_mL cd) (c_rt cd) :: am_U) (am_rm cd)).room) (s := s) (m := m) (args := (as.map (am_cv ad xq)).toArray) (below := below) (meth := meth) (c := c) (D := D) (G := G) (ad := ad) (sh := sh) (ro := ro) (M := M) (g := g)
    B.exec B.bytes (B.returns.trans hrt) B.notSynchronized ht hl hown hts hZ hth hhd (Nat.le_of_eq hfr.symm) (Nat.le_of_eq hlo.symm) (Nat.le_add_left 1 _) (Nat.le_add_left 6 _) hbud (c_mc cd)
  have k := hev (am_X p l e (headSpec (Cond.code (c_y cd) (c_b cd) (c_mL cd) (c_rt cd) :: am_U) (am_rm cd)).room s m (as.map (am_cv ad xq)).toArray below meth c D G ad sh ro M 0 (am_MQ below (am_Qc D G ad sh ro g) (am_XC D G ad sh ro g) (as.map (am_cv ad xq)).toArray s (c_mc cd) (6 * c_mc cd) (am_A G)))
    (fun d hd => am_core (own := own) B.exec B.bytes hown hts hG hK hZ hMok hok (Nat.le_of_eq hfr.symm) (Nat.le_of_eq hlo.symm) (by rw [hB]; exact Nat.le_add_left 1 _) (by rw [hB]; show 0 + 6 * 1 ≤ 6 * c_mc cd + 6; omega) (fun h o k _ => ⟨fun x => by rw [hbud, hbud], fun x => by rw [hbud, hbud]⟩) hE d hd) am_X_fg
  have hent := am_ent_has ad xq as (c_mL cd) hlen
  have hl2 : (am_ent as (c_mL cd)).length = c.maxLocals := by
    rw [hml]; simp [am_ent]; omega
  have k2 := k xq _ s.heap [] hl2 hent hW va_S.rf
  dsimp only at k2
  rw [hbud] at k2
  rw [lg_entry_eq]
  exact k2
