/-! CONTRACTS of the law's methods: with cells that are made, and with handlers. -/
theorem am_ce_ag {G ad : Nat → Nat} {h h' : HP} {k : Nat} {s : Sh} (e : h'.1 k = h.1 k ∧ h'.2 k = h.2 k) : am_ce G ad h' k s = am_ce G ad h k s := by
  have e3 : ∀ j f, am_fv h' k j f = am_fv h k j f := fun j f => by unfold am_fv; rw [e.1, e.2]
  unfold am_ce
  rw [e.1, e.2]
  simp only [e3]
theorem am_W.ag {D : va_G} {G ad : Nat → Nat} {h h' : HP} {sh ro : List Sh} {H : Heap} (hW : am_W D G ad h sh ro H) (h1 : sh.length ≤ 1000) (h2 : ro.length ≤ 900) (e : ∀ k, k < 1900 → h'.1 k = h.1 k ∧ h'.2 k = h.2 k) : am_W D G ad h' sh ro H := by
  have hwl : am_wl G ad h' sh = am_wl G ad h sh := by
    unfold am_wl
    apply List.ext_getElem?
    intro k
    rw [List.getElem?_mapIdx, List.getElem?_mapIdx]
    cases hk : sh[k]? with
    | none => rfl
    | some s =>
      have := (List.getElem?_eq_some_iff.mp hk).1
      simp only [Option.map_some]
      rw [am_ce_ag (e k (by omega))]
  refine ⟨by rw [hwl]; exact hW.1, by rw [hwl]; exact hW.2.1, fun j s hj => ?_, hW.2.2.2⟩
  have hl := (List.getElem?_eq_some_iff.mp hj).1
  rw [(e (1000 + j) (by omega)).1]
  exact hW.2.2.1 j s hj
theorem ghost_ag (h : HP) (x : Int32) : ∀ k, k < 1900 → (am_si h 2000 0 x).1 k = h.1 k ∧ (am_si h 2000 0 x).2 k = h.2 k := fun k hk => ⟨am_si_ne (by omega), rfl⟩
def gG (x : Int32) (g : GR) (h : HP) : GR := (g_ok g, g_pre g, g_thr g, g_val g, am_si (g_hp g) 2000 0 (h.1 2000 0 + x))
def dG (x : Int32) (cd : CD) : CD := (c_k cd, c_y cd, c_b cd, c_mL cd, c_rt cd, c_n cd, c_fr cd, c_lo cd, c_mc cd, c_thr cd, c_part cd, fun sh ro as h => gG x (c_g cd sh ro as h) h)
theorem am_Metmono {l : Launch} {y : MethodName} {ws : List Cond} {rm : Room} {Pc : Array Value → State → Prop} {Qc Qc' : Array Value → State → Outcome → State → Prop} {XC XC' : String → State → State → Prop} {mc ms : Nat} {free : Addr → Prop} (h1 : ∀ a s o t, Qc a s o t → Qc' a s o t) (h2 : ∀ E s t, XC E s t → XC' E s t) (h : am_Met l y ws rm Pc Qc XC mc ms free) : am_Met l y ws rm Pc Qc' XC' mc ms free := by
  intro p e ha hc hk s m args below hf happ hP hT
  obtain ⟨k, o, a1, a2, a3, a4⟩ := h p e ha hc hk s m args below hf happ hP hT
  refine ⟨k, o, a1, a2, a3, ?_⟩
  rcases a4 with ⟨b1, b2⟩ | ⟨q, b1, E, ce, L, b2, b3⟩
  · exact Or.inl ⟨h1 _ _ _ _ b1, b2⟩
  · exact Or.inr ⟨q, b1, E, ce, L, h2 _ _ _ b2, b3⟩
theorem ok_g {l : Launch} {sh ro : List Sh} {cd : CD} (x : Int32) (h1 : sh.length ≤ 1000) (h2 : ro.length ≤ 900) (hok : am_Ok l sh ro cd) : am_Ok l sh ro (dG x cd) := by
  obtain ⟨w, hw1, hw2, H⟩ := hok
  refine ⟨w, hw1, hw2, fun D G ad xq as h hg => ?_⟩
  obtain ⟨a, b⟩ := H D G ad xq as h hg
  refine ⟨a, fun hp => ⟨(b hp).1, ?_⟩⟩
  exact am_Metmono (fun _ _ _ _ q => ⟨q.1, q.2.1, q.2.2.1.ag h1 h2 (ghost_ag _ _), q.2.2.2⟩) (fun _ _ _ q => ⟨q.1, q.2.1.ag h1 h2 (ghost_ag _ _), q.2.2⟩) (b hp).2
theorem am_ofWH {l : Launch} {y : MethodName} {ws' : List Cond} {rm : Room} {Pc : Array Value → State → Prop} {Qc : Array Value → State → Outcome → State → Prop} {XC : String → State → State → Prop} {mc ms : Nat} {free : Addr → Prop} {cc : ByteArray} {maxL : Nat} {ret : Option FieldType} {hh : List (Nat × Nat × Nat × Nat)}
    (hy : plainFor y = true)
    (body : ∀ p e s m args below meth c s₁, BodyLoose p l y (headSpec (Cond.codeWith y cc maxL ret hh :: ws') rm) cc maxL ret e s m args below meth c s₁ → c.maxLocals = maxL → c.exceptionTable.toList = tableOf hh → Pc args s →
      W p l e (headSpec (Cond.codeWith y cc maxL ret hh :: ws') rm).room s m args below meth c s.heap [] 0 0 (am_MQ below Qc XC args s mc ms free) (entryFrame m args maxL)) : am_Met l y (Cond.codeWith y cc maxL ret hh :: ws') rm Pc Qc XC mc ms free := by
  refine MetFree.of_bodySF (code := cc) (maxLocals := maxL) (ret := ret) hy ?_ ?_
  · intro args s m h hn
    obtain ⟨m9, meth, c, hn9, h1, h2, h3, h4, -, h5, h6, -⟩ := Cond.codeWith_spec (atoms_spec (ws := Cond.codeWith y cc maxL ret hh :: ws') h _ List.mem_cons_self)
    cases hn.symm.trans hn9
    exact ⟨meth, c, h1, h2, h3, h4, h5, h6⟩
  · intro p e s m args below meth c s₁ B hml hP _
    have hh0 : s₁.heap = s.heap := by rw [B.state]; rfl
    have ht := vx_table (x := y) B (atoms_spec (ws := Cond.codeWith y cc maxL ret hh :: ws') B.pre _ List.mem_cons_self)
    obtain ⟨t, a1, o, b1, b2, b3⟩ := body p e s m args below meth c s₁ B hml ht hP s₁ hh0 (Stand.of_body B)
    exact ⟨t, o, a1, b1, b2, b3⟩
abbrev Hs : Type := List (String × Int32 × Nat × Nat)
def hcode : Hs → String → Int32
  | [], _ => 0
  | q :: r, E => if q.1 = E then q.2.1 else hcode r E
def ordOk : Hs → Bool
  | [] => true
  | q :: r => r.all (fun x => decide ((x.1, q.1) ∈ am_ncs)) && ordOk r
/-- what a method's answer has to be: its value, and the world; of what is made at most mc cells -/
def am_eqB (g : GR) (mc : Nat) : AR → HP → Prop
  | .inl v, h => g_val g = v ∧ (∀ k, k < 1900 → (g_hp g).1 k = h.1 k ∧ (g_hp g).2 k = h.2 k) ∧ (h.1 2000 0).toNatClampNeg ≤ mc
  | .inr _, _ => False
section MEB
variable {p : Program} {l : Launch} {e : Env} {R : Room} {s : State} {m : MethodId} {args : Array Value} {below : List Frame} {meth : Method} {c : Code} {D : va_G} {G ad : Nat → Nat} {sh ro : List Sh} {cc : ByteArray} {own : String}
theorem am_endsB {M : MI} {g : GR} {mc : Nat} (hx : p.tables.exec = Jvm.exec) (hb : c.code = cc) (hr : meth.sig.returnType = m_rt M) (hlocks : meth.locks = false) (hgt : g_thr g = none) (hthr : m_thr M = []) (hhd : m_hdl M = []) (hbud : ∀ h, m_bud M h = (h.1 2000 0).toNatClampNeg) (h1 : sh.length ≤ 1000) (h2 : ro.length ≤ 900) :
    am_End p l e R s m args below meth c D G ad sh ro M 0 cc (am_eqB g mc) (am_MQ below (am_Qc D G ad sh ro g) (am_XC D G ad sh ro g) args s mc (6 * mc) (am_A G)) := by
  refine ⟨?_, ?_, ?_, ?_, ?_, ?_⟩
  · intro v h pc A H locs hrt hP hdg hW hS
    obtain ⟨p2, p3, p4⟩ := hP
    obtain ⟨ty, e1, e2⟩ := am_nar hrt
    have hle : m_bud M h ≤ mc := by rw [hbud h]; exact p4
    refine am_Wmono am_ofMQ (W.widen hle (by omega) (W.zret hx hb (hr.trans e1) e2 (fun t ht _ => ⟨hgt, ?_, ?_, ?_, hS.F ht⟩) hS.2.2 hdg))
    · rw [p2]; rfl
    · rw [ht]; exact hW.ag h1 h2 p3
    · intro v' hv'; rw [p2] at hv'; cases hv'; rfl
  · intro v h pc A H locs hrt hP hdg hW hS
    obtain ⟨p2, p3, p4⟩ := hP
    have hle : m_bud M h ≤ mc := by rw [hbud h]; exact p4
    refine am_Wmono am_ofMQ (W.widen hle (by omega) (W.lret hx hb (hr.trans hrt) (fun t ht _ => ⟨hgt, ?_, ?_, ?_, hS.F ht⟩) hS.2.2 hdg))
    · rw [p2]; rfl
    · rw [ht]; exact hW.ag h1 h2 p3
    · intro v' hv'; rw [p2] at hv'; cases hv'; rfl
  · intro v h pc A H locs hrt hP hdg hW hS
    obtain ⟨p2, p3, p4⟩ := hP
    have hle : m_bud M h ≤ mc := by rw [hbud h]; exact p4
    refine am_Wmono am_ofMQ (W.widen hle (by omega) (W.dret hx hb (hr.trans hrt) (fun t ht _ => ⟨hgt, ?_, ?_, ?_, hS.F ht⟩) hS.2.2 hdg))
    · rw [p2]; rfl
    · rw [ht]; exact hW.ag h1 h2 p3
    · intro v' hv'; rw [p2] at hv'; cases hv'; rfl
  · intro h pc A H locs hrt hP hdg hW hS
    obtain ⟨p2, p3, p4⟩ := hP
    have hle : m_bud M h ≤ mc := by rw [hbud h]; exact p4
    refine am_Wmono am_ofMQ (W.widen hle (by omega) (W.vret hx hb (hr.trans hrt) (fun t ht _ => ⟨hgt, ?_, ?_, ?_, hS.F ht⟩) hS.2.2 hdg))
    · rw [p2]; rfl
    · rw [ht]; exact hW.ag h1 h2 p3
    · intro v' hv'; rw [p2] at hv'; cases hv'
  · intro E h pc i xq A st H locs hpc
    rw [hthr] at hpc
    cases (show (none : Option String) = some E from hpc)
  · intro E h0 h pc A st ce q H locs hP
    rw [hhd] at hP
    exact (show False from hP).elim
end MEB
/-- a method's contract, where it makes cells -/
theorem am_metB {l : Launch} {sh ro : List Sh} {cd : CD} {M : MI} {own : String} (hy : (c_y cd).cls = own) (hpl : plainFor (c_y cd) = true) (hcw : Cond.code (c_y cd) (c_b cd) (c_mL cd) (c_rt cd) ∈ am_U) (hrt : c_rt cd = m_rt M) (hfr : c_fr cd = m_fr M) (hlo : c_lo cd = m_lo M) (hB : m_B M = c_mc cd + 1) (hbud : ∀ h, m_bud M h = (h.1 2000 0).toNatClampNeg) (hhd : m_hdl M = []) (hthr : m_thr M = [])
    (hMok : am_Mok own (c_b cd) M) (hok : ∀ q ∈ m_inv M, am_Ok l sh ro q.2) (hnp : c_part cd = true) (hgt : ∀ as h, g_ok (c_g cd sh ro as h) = true → g_thr (c_g cd sh ro as h) = none) (h1 : sh.length ≤ 1000) (h2 : ro.length ≤ 900)
    (hev : ∀ (as : List Value) (h : HP), g_ok (c_g cd sh ro as h) = true → g_pre (c_g cd sh ro as h) → (am_loc as).length ≤ c_mL cd ∧ am_Ev M sh ro (am_eqB (c_g cd sh ro as h) (c_mc cd)) (0, am_ent as (c_mL cd), [], am_si h 2000 0 0)) : am_Ok l sh ro cd := by
  refine ⟨_, Or.inl rfl, hcw, fun D G ad xq as h hg => ⟨fun hp => absurd (hnp.symm.trans hp) (fun z => nomatch z), fun hg2 => ⟨fun _ => hgt as h hg, ?_⟩⟩⟩
  obtain ⟨hlen, hev⟩ := hev as h hg hg2
  have hgt := hgt as h hg
  generalize c_g cd sh ro as h = g at hg hg2 hev hgt
  refine am_ofW hpl ?_
  intro p e s m args below meth c s₁ B hml ht hPc
  obtain ⟨rfl, hW, hK, hZ, hG⟩ := hPc
  have hts0 := atoms_spec (ws := Cond.code (c_y cd) (c_b cd) (c_mL cd) (c_rt cd) :: am_U) B.pre
  have hts : ∀ w ∈ am_U, w.before (as.map (am_cv ad xq)).toArray s = true := fun w hw => hts0 w (List.mem_cons_of_mem _ hw)
  have hown : s.vm.findClass own = some m.cls := by rw [← hy]; exact findClass_of_methodNamed B.named
  have hE := am_endsB (p := p) (l := l) (e := e) (R := (headSpec (Cond.code (c_y cd) (c_b cd) (c_mL cd) (c_rt cd) :: am_U) (am_rm cd)).room) (s := s) (m := m) (args := (as.map (am_cv ad xq)).toArray) (below := below) (meth := meth) (c := c) (D := D) (G := G) (ad := ad) (sh := sh) (ro := ro) (M := M) (g := g) (mc := c_mc cd)
    B.exec B.bytes (B.returns.trans hrt) B.notSynchronized hgt hthr hhd hbud h1 h2
  have k := hev (am_X p l e (headSpec (Cond.code (c_y cd) (c_b cd) (c_mL cd) (c_rt cd) :: am_U) (am_rm cd)).room s m (as.map (am_cv ad xq)).toArray below meth c D G ad sh ro M 0 (am_MQ below (am_Qc D G ad sh ro g) (am_XC D G ad sh ro g) (as.map (am_cv ad xq)).toArray s (c_mc cd) (6 * c_mc cd) (am_A G)))
    (fun d hd => am_core (own := own) B.exec B.bytes hown hts hG hK hZ hMok hok (Nat.le_of_eq hfr.symm) (Nat.le_of_eq hlo.symm) (by rw [hB]; exact Nat.le_refl _) (by rw [hB]; show 0 + 6 * (c_mc cd + 1) ≤ 6 * c_mc cd + 6; omega) (fun h o k ho => ⟨fun x => by rw [hbud, hbud, am_si_ne (by omega)], fun x => by rw [hbud, hbud]⟩) hE d hd) am_X_fg
  have hent := am_ent_has ad xq as (c_mL cd) hlen
  have hl2 : (am_ent as (c_mL cd)).length = c.maxLocals := by
    rw [hml]; simp [am_ent]; omega
  have hW0 : am_W D G ad (am_si h 2000 0 0) sh ro s.heap := hW.ag h1 h2 (ghost_ag h 0)
  have k2 := k xq _ s.heap [] hl2 hent hW0 va_S.rf
  dsimp only at k2
  rw [hbud, am_si1, if_pos ⟨rfl, rfl⟩] at k2
  rw [lg_entry_eq]
  exact k2
/-! handlers that answer with a number -/
def tabQ (pcS pcE : Nat) (hs : Hs) : List (Nat × Nat × Nat × Nat) := hs.map (fun q => (pcS, pcE, q.2.2.2, q.2.2.1))
def hdlQ (cc : ByteArray) (mL hp : Nat) (v : Int32) : Prop := ∃ sl : Nat, sl < mL ∧ decode cc hp = .ok (.astore sl, 2) ∧ (∃ n : Int, decode cc (hp + 2) = .ok (.bipush n, 2) ∧ (Int8.ofInt n).toInt32 = v) ∧ decode cc (hp + 4) = .ok (.ireturn, 1)
def hsQ (cc : ByteArray) (mL : Nat) (hs : Hs) : Prop := ∀ q ∈ hs, Cond.classLink RL q.2.2.1 q.1 ∈ am_U ∧ Cond.castable q.1 q.1 ∈ am_U ∧ q.2.2.1 ≠ 0 ∧ hdlQ cc mL q.2.2.2 q.2.1
theorem h_findQ {E : String} {s : State} {args : Array Value} {cc : ByteArray} {mL pcS pcE pcC : Nat} (hpcS : pcS ≤ pcC) (hpc : pcC < pcE) (hts : ∀ w ∈ am_U, w.before args s = true) (hnc : ∀ q ∈ am_ncs, va_Nc q.1 q.2 s) : ∀ (hs : Hs) (pre : List ExceptionTableEntry), (∀ z ∈ pre, covers z pcC = false ∨ (z.catchType ≠ 0 ∧ ∃ nm : String, (Cond.classLink RL z.catchType nm).before args s = true ∧ va_Nc E nm s)) → hsQ cc mL hs → ordOk hs = true → E ∈ hs.map (fun q => q.1) →
    ∃ (pre' : List ExceptionTableEntry) (q : String × Int32 × Nat × Nat) (suf : List ExceptionTableEntry), pre ++ tableOf (tabQ pcS pcE hs) = pre' ++ ⟨pcS, pcE, q.2.2.2, q.2.2.1⟩ :: suf ∧ (∀ z ∈ pre', covers z pcC = false ∨ (z.catchType ≠ 0 ∧ ∃ nm : String, (Cond.classLink RL z.catchType nm).before args s = true ∧ va_Nc E nm s)) ∧ q ∈ hs ∧ q.1 = E ∧ hcode hs E = q.2.1
  | [], _, _, _, _, hE => absurd hE List.not_mem_nil
  | q :: r, pre, hpre, hok, hord, hE => by
    by_cases e : q.1 = E
    · exact ⟨pre, q, tableOf (tabQ pcS pcE r), rfl, hpre, List.mem_cons_self, e, if_pos e⟩
    · unfold ordOk at hord
      rw [Bool.and_eq_true_iff] at hord
      have hE' : E ∈ r.map (fun q => q.1) := (List.mem_cons.mp hE).resolve_left (fun z => e z.symm)
      obtain ⟨x, hx, hxE⟩ := List.mem_map.mp hE'
      have h1 := of_decide_eq_true (List.all_eq_true.mp hord.1 x hx)
      rw [hxE] at h1
      have h2 := hok q List.mem_cons_self
      obtain ⟨pre', q', suf, a, b, c, d, f⟩ := h_findQ hpcS hpc hts hnc r (pre ++ [⟨pcS, pcE, q.2.2.2, q.2.2.1⟩]) (fun z hz => by
        rcases List.mem_append.mp hz with h | h
        · exact hpre z h
        · rw [List.mem_singleton] at h
          subst h
          exact .inr ⟨h2.2.2.1, q.1, hts _ h2.1, hnc _ h1⟩) (fun q' hq' => hok q' (List.mem_cons_of_mem _ hq')) hord.2 hE'
      refine ⟨pre', q', suf, ?_, b, List.mem_cons_of_mem _ c, d, (if_neg e).trans f⟩
      rw [← a, List.append_assoc]; rfl
/-- what is thrown is one of those that are caught -/
theorem hd_in {P : AR → HP → Prop} (hP : ∀ E h, ¬ P (.inr E) h) {h : HP} {E : String} : ∀ (hs : Hs), am_hd P h (hs.map (fun q => (q.1, q.2.1))) E → E ∈ hs.map (fun q => q.1) ∧ P (.inl (some (.int (hcode hs E)))) h
  | [], q => absurd q (hP E h)
  | x :: r, q => by
    by_cases e : x.1 = E
    · have q1 := q.1 e.symm
      refine ⟨by rw [List.map_cons, e]; exact List.mem_cons_self, ?_⟩
      rw [hcode, if_pos e]; exact q1
    · obtain ⟨a, b⟩ := hd_in hP r (q.2 (fun z => e z.symm))
      refine ⟨List.mem_cons_of_mem _ a, ?_⟩
      rw [hcode, if_neg e]; exact b
/-- the same answers, without a count -/
def am_eqC (g : GR) : AR → HP → Prop
  | .inl v, h => g_val g = v ∧ g_hp g = h
  | .inr _, _ => False
section MEQ
variable {p : Program} {l : Launch} {e : Env} {R : Room} {s : State} {m : MethodId} {args : Array Value} {below : List Frame} {meth : Method} {c : Code} {D : va_G} {G ad : Nat → Nat} {sh ro : List Sh} {cc : ByteArray}
theorem am_endsQ {M : MI} {g : GR} {hs : Hs} {mL pcS pcE : Nat} (hx : p.tables.exec = Jvm.exec) (hb : c.code = cc) (hr : meth.sig.returnType = m_rt M) (hrtI : m_rt M = some .int) (hlocks : meth.locks = false) (hml : c.maxLocals = mL) (htab : c.exceptionTable.toList = tableOf (tabQ pcS pcE hs)) (hown : s.vm.findClass RL = some m.cls) (hts : ∀ w ∈ am_U, w.before args s = true) (hnc : ∀ q ∈ am_ncs, va_Nc q.1 q.2 s) (hgt : g_thr g = none) (hthr : m_thr M = []) (hst : hsQ cc mL hs) (hord : ordOk hs = true)
    (hhd : ∀ pc x, am_lk (m_hdl M) pc = some x → pcS ≤ pc ∧ pc < pcE ∧ x = hs.map (fun q => (q.1, q.2.1))) (hbud : ∀ h, m_bud M h = 0) :
    am_End p l e R s m args below meth c D G ad sh ro M 0 cc (am_eqC g) (am_MQ below (am_Qc D G ad sh ro g) (am_XC D G ad sh ro g) args s 1 (6 * 1) (am_A G)) := by
  have hret : ∀ (v : Int32) (h : HP) (pc : Nat) (A : Array Slot) (H : Heap) (locs : List Loc) (cl sl : Nat), cl ≤ 1 → sl ≤ 6 → am_eqC g (.inl (some (.int v))) h → decode cc pc = .ok (.ireturn, 1) → am_W D G ad h sh ro H → va_S (am_A G) s.heap H locs → W p l e R s m args below meth c H locs cl sl (am_MQ below (am_Qc D G ad sh ro g) (am_XC D G ad sh ro g) args s 1 (6 * 1) (am_A G)) (F0 m pc A [.int v]) := by
    intro v h pc A H locs cl sl h1 h2 hP hdg hW hS
    obtain ⟨p2, p3⟩ := hP
    refine am_Wmono am_ofMQ (W.widen h1 h2 (W.zret hx hb (hr.trans hrtI) (ty := .int) rfl (fun t ht _ => ⟨hgt, ?_, ?_, ?_, hS.F ht⟩) hS.2.2 hdg))
    · rw [p2]; rfl
    · rw [p3, ht]; exact hW
    · intro v' hv'; rw [p2] at hv'; cases hv'; rfl
  refine ⟨?_, ?_, ?_, ?_, ?_, ?_⟩
  · intro v h pc A H locs hrt hP hdg hW hS
    rw [hbud h]
    exact hret v h pc A H locs 0 (0 + 6 * 0) (by omega) (by omega) hP hdg hW hS
  · intro v h pc A H locs hrt
    rw [hrtI] at hrt; cases hrt
  · intro v h pc A H locs hrt
    rw [hrtI] at hrt; cases hrt
  · intro h pc A H locs hrt
    rw [hrtI] at hrt; cases hrt
  · intro E h pc i xq A st H locs hpc
    rw [hthr] at hpc
    cases (show (none : Option String) = some E from hpc)
  · intro E h0 h pc A st ce q H locs hP hA hwf hW hS hce hcv hcl
    rw [hbud h0]
    cases hlk : am_lk (m_hdl M) pc with
    | none => rw [hlk] at hP; exact (show False from hP).elim
    | some x =>
      rw [hlk] at hP
      obtain ⟨z1, z2, z3⟩ := hhd pc x hlk
      subst z3
      obtain ⟨hE, hP⟩ := hd_in (P := am_eqC g) (fun _ _ z => z) hs hP
      obtain ⟨pre', y, suf, f1, f2, f3, f4, f5⟩ := h_findQ (cc := cc) (mL := mL) z1 z2 hts hnc hs [] (fun z hz => absurd hz List.not_mem_nil) hst hord hE
      obtain ⟨w1, w2, w3, sl, s1, s2, ⟨nn, s3, s4⟩, s5⟩ := hst y f3
      have hlv0 : lv_has A mL [] := ⟨hA.trans hml, hwf, fun q hq => absurd hq List.not_mem_nil⟩
      refine vx_catch (E := E) hown pre' _ suf (by rw [htab]; exact f1) f2 ?_ w3 (hts _ w1) (by rw [← f4]; exact hts _ w2) hce hcv hcl ?_
      · show covers ⟨pcS, pcE, _, _⟩ pc = true
        unfold covers
        simp [z1, z2]
      · refine lv_astore (nL := mL) hx hb s2 hlv0 s1 rfl (fun ls' _ => ?_)
        refine lv_bipush hx hb s3 (s4.trans f5.symm) ?_
        exact hret _ h _ ls' H locs (0 + 1) (0 + 6 * 0 + 6) (by omega) (by omega) hP s5 hW hS
end MEQ
/-- a method's contract, where handlers answer with numbers -/
theorem am_metQ {l : Launch} {sh ro : List Sh} {cd : CD} {M : MI} {hs : Hs} {pcS pcE : Nat} (hk4 : c_k cd = 4) (hy : (c_y cd).cls = RL) (hpl : plainFor (c_y cd) = true) (hcw : Cond.codeWith (c_y cd) (c_b cd) (c_mL cd) (c_rt cd) (tabQ pcS pcE hs) ∈ am_U) (hrt : c_rt cd = m_rt M) (hrtI : m_rt M = some .int) (hfr : c_fr cd = m_fr M) (hlo : c_lo cd = m_lo M) (hB : m_B M = 2) (hmc : c_mc cd = 1) (hbud : ∀ h, m_bud M h = 0) (hthr : m_thr M = []) (hst : hsQ (c_b cd) (c_mL cd) hs) (hord : ordOk hs = true)
    (hhd : ∀ pc x, am_lk (m_hdl M) pc = some x → pcS ≤ pc ∧ pc < pcE ∧ x = hs.map (fun q => (q.1, q.2.1)))
    (hMok : am_Mok RL (c_b cd) M) (hok : ∀ q ∈ m_inv M, am_Ok l sh ro q.2) (hnp : c_part cd = true) (hgt : ∀ as h, g_ok (c_g cd sh ro as h) = true → g_thr (c_g cd sh ro as h) = none)
    (hev : ∀ (as : List Value) (h : HP), g_ok (c_g cd sh ro as h) = true → g_pre (c_g cd sh ro as h) → (am_loc as).length ≤ c_mL cd ∧ am_Ev M sh ro (am_eqC (c_g cd sh ro as h)) (0, am_ent as (c_mL cd), [], h)) : am_Ok l sh ro cd := by
  refine ⟨_, Or.inr ⟨hk4, _, rfl⟩, hcw, fun D G ad xq as h hg => ⟨fun hp => absurd (hnp.symm.trans hp) (fun z => nomatch z), fun hg2 => ⟨fun _ => hgt as h hg, ?_⟩⟩⟩
  obtain ⟨hlen, hev⟩ := hev as h hg hg2
  have hgt := hgt as h hg
  generalize c_g cd sh ro as h = g at hg hg2 hev hgt
  refine am_ofWH hpl ?_
  intro p e s m args below meth c s₁ B hml htab hPc
  obtain ⟨rfl, hW, hK, hZ, hG⟩ := hPc
  have hts0 := atoms_spec (ws := Cond.codeWith (c_y cd) (c_b cd) (c_mL cd) (c_rt cd) (tabQ pcS pcE hs) :: am_U) B.pre
  have hts : ∀ w ∈ am_U, w.before (as.map (am_cv ad xq)).toArray s = true := fun w hw => hts0 w (List.mem_cons_of_mem _ hw)
  have hown : s.vm.findClass RL = some m.cls := by rw [← hy]; exact findClass_of_methodNamed B.named
  have hE := am_endsQ (p := p) (l := l) (e := e) (R := (headSpec (Cond.codeWith (c_y cd) (c_b cd) (c_mL cd) (c_rt cd) (tabQ pcS pcE hs) :: am_U) (am_rm cd)).room) (s := s) (m := m) (args := (as.map (am_cv ad xq)).toArray) (below := below) (meth := meth) (c := c) (D := D) (G := G) (ad := ad) (sh := sh) (ro := ro) (M := M) (g := g) (hs := hs)
    B.exec B.bytes (B.returns.trans hrt) hrtI B.notSynchronized hml htab hown hts hZ.2.2.2.2 hgt hthr hst hord hhd hbud
  have k := hev (am_X p l e (headSpec (Cond.codeWith (c_y cd) (c_b cd) (c_mL cd) (c_rt cd) (tabQ pcS pcE hs) :: am_U) (am_rm cd)).room s m (as.map (am_cv ad xq)).toArray below meth c D G ad sh ro M 0 (am_MQ below (am_Qc D G ad sh ro g) (am_XC D G ad sh ro g) (as.map (am_cv ad xq)).toArray s 1 (6 * 1) (am_A G)))
    (fun d hd => am_core (own := RL) B.exec B.bytes hown hts hG hK hZ hMok hok (Nat.le_of_eq hfr.symm) (Nat.le_of_eq hlo.symm) (by rw [hB]; show 2 ≤ c_mc cd + 1; omega) (by rw [hB]; show 0 + 6 * 2 ≤ 6 * c_mc cd + 6; omega) (fun h o k ho => ⟨fun x => by rw [hbud, hbud], fun x => by rw [hbud, hbud]⟩) hE d hd) am_X_fg
  have hent := am_ent_has ad xq as (c_mL cd) hlen
  have hl2 : (am_ent as (c_mL cd)).length = c.maxLocals := by
    rw [hml]; simp [am_ent]; omega
  have k2 := k xq _ s.heap [] hl2 hent hW va_S.rf
  dsimp only at k2
  rw [hbud] at k2
  rw [lg_entry_eq]
  rw [hmc]
  exact k2
/-- what is caught, and answered -/
theorem hd_mk {P : AR → HP → Prop} {h : HP} {E : String} : ∀ (hs : Hs), E ∈ hs.map (fun q => q.1) → P (.inl (some (.int (hcode hs E)))) h → am_hd P h (hs.map (fun q => (q.1, q.2.1))) E
  | [], hE, _ => absurd hE List.not_mem_nil
  | x :: r, hE, hP => by
    refine ⟨fun e => ?_, fun e => ?_⟩
    · rw [hcode, if_pos e.symm] at hP; exact hP
    · rw [hcode, if_neg (fun z => e z.symm)] at hP
      exact hd_mk r ((List.mem_cons.mp hE).resolve_left e) hP
/-- a call, that may throw -/
theorem am_Ev_callH {M : MI} {sh ro : List Sh} {P : AR → HP → Prop} (virt : Bool) {pc i : Nat} {ls st : List Value} {h : HP} {cd : CD} {g : GR} (hcode : (m_code M pc).1 = (bif virt then .invokevirtual i else .invokestatic i)) (hlk : am_lk (m_inv M) i = some cd)
    (hst : (am_kind sh virt (c_k cd) (st.take (c_n cd)).reverse && Nat.ble (c_n cd) st.length && Nat.ble (am_csum (st.drop (c_n cd))) 10 && Nat.ble (c_fr cd + 1) (m_fr M) && Nat.ble (10 + (c_mL cd + 11) + c_lo cd) (m_lo M)) = true) (hg : c_g cd sh ro (st.take (c_n cd)).reverse h = g) (hok : g_ok g = true) (hb1 : m_bud M h + c_mc cd ≤ m_bud M (g_hp g)) (hb2 : m_bud M h + c_mc cd + 1 ≤ m_B M) (hpre : g_pre g)
    (hx : ∀ E, c_thr cd = true → g_thr g = some E → am_hd P (g_hp g) ((am_lk (m_hdl M) pc).getD []) E)
    (k : (c_thr cd = true → g_thr g = none) → am_Ev M sh ro P (pc + 3, ls, (g_val g).toList ++ st.drop (c_n cd), g_hp g)) : am_Ev M sh ro P (pc, ls, st, h) := by
  refine am_Ev_F ?_
  have hkon : am_kon M P (am_Ev M sh ro P) (c_thr cd) pc ls (st.drop (c_n cd)) g := by
    unfold am_kon
    cases ht : c_thr cd with
    | true => exact ⟨fun E hE => hx E ht hE, fun hN => k (fun _ => hN)⟩
    | false => exact k (fun z => nomatch (ht.symm.trans z))
  have hfin : am_fin M P (am_Ev M sh ro P) (c_thr cd) (c_part cd) (c_mc cd) pc ls (st.drop (c_n cd)) h g := by
    unfold am_fin
    rw [hok, Nat.ble_eq_true_of_le hb1, Nat.ble_eq_true_of_le hb2]
    show bif c_part cd then g_pre g ∧ am_kon M P (am_Ev M sh ro P) (c_thr cd) pc ls (st.drop (c_n cd)) g else am_kon M P (am_Ev M sh ro P) (c_thr cd) pc ls (st.drop (c_n cd)) g
    cases c_part cd with
    | true => exact ⟨hpre, hkon⟩
    | false => exact hkon
  have hcall : am_call M sh ro P (am_Ev M sh ro P) virt pc ls st h (am_lk (m_inv M) i) := by
    rw [hlk]
    obtain ⟨k0, y, b, mL, rt, n, fr, lo, mc, thr, part, gg⟩ := cd
    show bif am_kind sh virt k0 (st.take n).reverse && Nat.ble n st.length && Nat.ble (am_csum (st.drop n)) 10 && Nat.ble (fr + 1) (m_fr M) && Nat.ble (10 + (mL + 11) + lo) (m_lo M) then am_fin M P (am_Ev M sh ro P) thr part mc pc ls (st.drop n) h (gg sh ro (st.take n).reverse h) else False
    have hst' : (am_kind sh virt k0 (st.take n).reverse && Nat.ble n st.length && Nat.ble (am_csum (st.drop n)) 10 && Nat.ble (fr + 1) (m_fr M) && Nat.ble (10 + (mL + 11) + lo) (m_lo M)) = true := hst
    rw [hst']
    have hg' : gg sh ro (st.take n).reverse h = g := hg
    rw [hg']
    exact hfin
  unfold am_F
  dsimp only
  cases virt with
  | true =>
    unfold am_Fi
    rw [hcode]
    exact hcall
  | false =>
    unfold am_Fi
    rw [hcode]
    exact hcall
