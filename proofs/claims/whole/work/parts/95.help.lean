/-! THE LAW'S HELPERS: a call of the class with handlers, the answer put into a row of one long. -/
theorem am_ofWH {l : Launch} {y : MethodName} {ws' : List Cond} {rm : Room} {Pc : Array Value → State → Prop} {Qc : Array Value → State → Outcome → State → Prop} {XC : String → State → State → Prop} {mc ms : Nat} {free : Addr → Prop} {cc : ByteArray} {maxL : Nat} {ret : Option FieldType} {hh : List (Nat × Nat × Nat × Nat)}
    (hy : plainFor y = true)
    (body : ∀ p e s m args below meth c s₁, BodyLoose p l y (headSpec (Cond.codeWith y cc maxL ret hh :: ws') rm) cc maxL ret e s m args below meth c s₁ → c.maxLocals = maxL → c.exceptionTable.toList = tableOf hh → Pc args s →
      W p l e (headSpec (Cond.codeWith y cc maxL ret hh :: ws') rm).room s m args below meth c s.heap [] 0 0 (am_MQ below Qc XC args s mc ms free) (entryFrame m args maxL)) : am_Met l y (Cond.codeWith y cc maxL ret hh :: ws') rm Pc Qc XC mc ms free := by
  refine MetFree.of_bodySF (code := cc) (maxLocals := maxL) (ret := ret) hy ?_ ?_
  · intro args s m h hn
    obtain ⟨m9, meth, c, hn9, h1, h2, h3, h4, -, h5, h6, -⟩ := Cond.codeWith_spec (atoms_spec (ws := Cond.codeWith y cc maxL ret hh :: ws') h _ List.mem_cons_self)
    cases hn.symm.trans hn9
    exact ⟨meth, c, h1, h2, h3, h4, h5, h6⟩
  · intro p e s m args below meth c s₁ B hml hP _
    have hh0 : s₁.heap = s.heap := by rw [B.state]; rfl
    have ht := vx_table (x := y) B (atoms_spec (ws := Cond.codeWith y cc maxL ret hh :: ws') B.pre _ List.mem_cons_self)
    obtain ⟨t, a1, o, b1, b2, b3⟩ := body p e s m args below meth c s₁ B hml ht hP s₁ hh0 (Stand.of_body B)
    exact ⟨t, o, a1, b1, b2, b3⟩
abbrev Hs : Type := List (String × Int32 × Nat × Nat)
def hcode : Hs → String → Int32
  | [], _ => 0
  | q :: r, E => if q.1 = E then q.2.1 else hcode r E
def gH (hs : Hs) (out : Nat) (g : GR) : GR := (g_ok g, (g_pre g ∧ ∀ E, g_thr g = some E → E ∈ hs.map (fun q => q.1)), none, some (.int (match g_thr g with | some E => hcode hs E | none => 0)), match g_thr g with | some _ => g_hp g | none => match g_val g with | some (.int r) => am_sl (g_hp g) out 0 r.toInt64 | _ => g_hp g)
def tabH (pcE : Nat) (hs : Hs) : List (Nat × Nat × Nat × Nat) := hs.map (fun q => (0, pcE, q.2.2.2, q.2.2.1))
def ordOk : Hs → Bool
  | [] => true
  | q :: r => r.all (fun x => decide ((x.1, q.1) ∈ am_ncs)) && ordOk r
def hdlOk (cc : ByteArray) (mL hp : Nat) (v : Int32) : Prop := (∃ sl : Nat, sl < mL ∧ decode cc hp = .ok (.astore sl, 2) ∧ (∃ n : Int, decode cc (hp + 2) = .ok (.iconst n, 1) ∧ Int32.ofInt n = v) ∧ decode cc (hp + 3) = .ok (.ireturn, 1)) ∨ (∃ sl : Fin 4, (sl : Nat) < mL ∧ decode cc hp = .ok (.astore_n sl, 1) ∧ (∃ n : Int, decode cc (hp + 1) = .ok (.iconst n, 1) ∧ Int32.ofInt n = v) ∧ decode cc (hp + 2) = .ok (.ireturn, 1))
def hsOk (cc : ByteArray) (mL : Nat) (hs : Hs) : Prop := ∀ q ∈ hs, Cond.classLink RL q.2.2.1 q.1 ∈ am_U ∧ Cond.castable q.1 q.1 ∈ am_U ∧ q.2.2.1 ≠ 0 ∧ hdlOk cc mL q.2.2.2 q.2.1
def Pfx (cc : ByteArray) (mL pcC : Nat) (as st : List Value) : Prop := ∀ (ad : Nat → Nat) (xq : Nat) (p : Program) (l : Launch) (e : Env) (R : Room) (s : State) (m : MethodId) (args : Array Value) (below : List Frame) (meth : Method) (c : Code) (H : Heap) (locs : List Loc) (cells slots : Nat) (Q : State → Prop) (ls : Array Slot), p.tables.exec = Jvm.exec → c.code = cc → lv_has ls mL (lv_args 0 (as.map (am_cv ad xq))) → W p l e R s m args below meth c H locs cells slots Q (F0 m pcC ls (st.map (am_cv ad xq))) → W p l e R s m args below meth c H locs cells slots Q (F0 m 0 ls [])
/-- the handler that takes it -/
theorem h_find {E : String} {s : State} {args : Array Value} {cc : ByteArray} {mL pcE pcC : Nat} (hpc : pcC < pcE) (hts : ∀ w ∈ am_U, w.before args s = true) (hnc : ∀ q ∈ am_ncs, va_Nc q.1 q.2 s) : ∀ (hs : Hs) (pre : List ExceptionTableEntry), (∀ z ∈ pre, covers z pcC = false ∨ (z.catchType ≠ 0 ∧ ∃ nm : String, (Cond.classLink RL z.catchType nm).before args s = true ∧ va_Nc E nm s)) → hsOk cc mL hs → ordOk hs = true → E ∈ hs.map (fun q => q.1) →
    ∃ (pre' : List ExceptionTableEntry) (q : String × Int32 × Nat × Nat) (suf : List ExceptionTableEntry), pre ++ tableOf (tabH pcE hs) = pre' ++ ⟨0, pcE, q.2.2.2, q.2.2.1⟩ :: suf ∧ (∀ z ∈ pre', covers z pcC = false ∨ (z.catchType ≠ 0 ∧ ∃ nm : String, (Cond.classLink RL z.catchType nm).before args s = true ∧ va_Nc E nm s)) ∧ q ∈ hs ∧ q.1 = E ∧ hcode hs E = q.2.1
  | [], _, _, _, _, hE => absurd hE List.not_mem_nil
  | q :: r, pre, hpre, hok, hord, hE => by
    by_cases e : q.1 = E
    · exact ⟨pre, q, tableOf (tabH pcE r), rfl, hpre, List.mem_cons_self, e, if_pos e⟩
    · unfold ordOk at hord
      rw [Bool.and_eq_true_iff] at hord
      have hE' : E ∈ r.map (fun q => q.1) := (List.mem_cons.mp hE).resolve_left (fun z => e z.symm)
      obtain ⟨x, hx, hxE⟩ := List.mem_map.mp hE'
      have h1 := of_decide_eq_true (List.all_eq_true.mp hord.1 x hx)
      rw [hxE] at h1
      have h2 := hok q List.mem_cons_self
      obtain ⟨pre', q', suf, a, b, c, d, f⟩ := h_find hpc hts hnc r (pre ++ [⟨0, pcE, q.2.2.2, q.2.2.1⟩]) (fun z hz => by
        rcases List.mem_append.mp hz with h | h
        · exact hpre z h
        · rw [List.mem_singleton] at h
          subst h
          exact .inr ⟨h2.2.2.1, q.1, hts _ h2.1, hnc _ h1⟩) (fun q' hq' => hok q' (List.mem_cons_of_mem _ hq')) hord.2 hE'
      refine ⟨pre', q', suf, ?_, b, List.mem_cons_of_mem _ c, d, (if_neg e).trans f⟩
      rw [← a, List.append_assoc]; rfl
set_option maxHeartbeats 4000000 in
theorem ok_help {l : Launch} {sh ro : List Sh} {out : Nat} (hout : sh[out]? = some (2, 1, [])) (ho : out < 1000) {cd cd0 : CD} {hs : Hs} {i pcC pcE pcR : Nat} {off : Int}
    (hk4 : c_k cd = 4) (hy : plainFor (c_y cd) = true) (hcls : (c_y cd).cls = RL) (hcw : Cond.codeWith (c_y cd) (c_b cd) (c_mL cd) (c_rt cd) (tabH pcE hs) ∈ am_U) (hrt : c_rt cd = some .int) (hmc : c_mc cd = 1) (hfr : c_fr cd0 + 1 ≤ c_fr cd) (hlo : 8 + (c_mL cd0 + 11) + c_lo cd0 ≤ c_lo cd) (hpart : c_part cd = true)
    (hok0 : am_Ok l sh ro cd0) (hlk : am_lnk RL i cd0) (hmc0 : c_mc cd0 = 0) (dC : decode (c_b cd) pcC = .ok (.invokevirtual i, 3)) (d1 : decode (c_b cd) (pcC + 3) = .ok (.i2l, 1)) (d2 : decode (c_b cd) (pcC + 4) = .ok (.lastore, 1)) (d3 : decode (c_b cd) (pcC + 5) = .ok (.goto off, 3)) (hoff : ((pcC + 5 : Nat) : Int) + off = (pcR : Int)) (d4 : decode (c_b cd) pcR = .ok (.iconst 0, 1)) (d5 : decode (c_b cd) (pcR + 1) = .ok (.ireturn, 1))
    (hpc : pcC < pcE) (hst : hsOk (c_b cd) (c_mL cd) hs) (hord : ordOk hs = true)
    (hg : ∀ as h, g_ok (c_g cd sh ro as h) = true → ∃ as0 : List Value, c_g cd sh ro as h = gH hs out (c_g cd0 sh ro as0 h) ∧ as0.length = c_n cd0 ∧ am_kind sh true (c_k cd0) as0 = true ∧ (∀ D : Nat → Nat, ∀ x, (lg_sl (as.map (am_cv D x))).length ≤ c_mL cd) ∧ (g_thr (c_g cd0 sh ro as0 h) = none → ∃ r, g_val (c_g cd0 sh ro as0 h) = some (.int r)) ∧ Pfx (c_b cd) (c_mL cd) pcC as (as0.reverse ++ [.int 0, .ref out])) : am_Ok l sh ro cd := by
  refine ⟨_, Or.inr ⟨hk4, _, rfl⟩, hcw, fun D G ad xq as h hg0 => ?_⟩
  obtain ⟨as0, e0, hln, hknd, hlen, hval, hpfx⟩ := hg as h hg0
  rw [e0] at hg0 ⊢
  obtain ⟨g0, hg0'⟩ : ∃ g0, c_g cd0 sh ro as0 h = g0 := ⟨_, rfl⟩
  rw [hg0'] at hg0 hval ⊢
  refine ⟨fun hp => absurd (hpart.symm.trans hp) (fun z => nomatch z), fun hp => ⟨fun _ => rfl, ?_⟩⟩
  have hg1 : g_ok g0 = true := hg0
  have hp1 : g_pre g0 := hp.1
  have hp2 : ∀ E, g_thr g0 = some E → E ∈ hs.map (fun q => q.1) := hp.2
  refine am_ofWH hy ?_
  intro p e s m args below meth c s₁ B hml htab hPc
  obtain ⟨rfl, hW, hK, hZ, hG⟩ := hPc
  have hts0 := atoms_spec (ws := Cond.codeWith (c_y cd) (c_b cd) (c_mL cd) (c_rt cd) (tabH pcE hs) :: am_U) B.pre
  have hts : ∀ w ∈ am_U, w.before (as.map (am_cv ad xq)).toArray s = true := fun w hw => hts0 w (List.mem_cons_of_mem _ hw)
  have hown : s.vm.findClass RL = some m.cls := by rw [← hcls]; exact findClass_of_methodNamed B.named
  have hx := B.exec
  have hb := B.bytes
  have hr := B.returns.trans hrt
  have hlocks := B.notSynchronized
  have hle := lv_entry (as.map (am_cv ad xq)) (n := c_mL cd) (hlen ad xq)
  rw [lg_entry_eq]
  generalize (lg_sl (as.map (am_cv ad xq)) ++ List.replicate (c_mL cd - (lg_sl (as.map (am_cv ad xq))).length) Slot.unset).toArray = ls at hle ⊢
  refine hpfx ad xq p l e _ s m _ below meth c s.heap [] 0 0 _ ls hx hb hle ?_
  have hlv0 : lv_has ls (c_mL cd) [] := ⟨hle.1, hle.2.1, fun q hq => absurd hq List.not_mem_nil⟩
  have htk : ((as0.reverse ++ ([.int 0, .ref out] : List Value)).take (c_n cd0)).reverse = as0 := by
    rw [← hln, ← List.length_reverse, List.take_left, List.reverse_reverse]
  have hdr : (as0.reverse ++ ([.int 0, .ref out] : List Value)).drop (c_n cd0) = [.int 0, .ref out] := by
    rw [← hln, ← List.length_reverse, List.drop_left]
  have hne : ∀ (v : Int32) (h' : HP) (H1 : Heap) (locs1 : List Loc) (cl sl pc : Nat) (A : Array Slot), v = (match g_thr g0 with | some E => hcode hs E | none => 0) → h' = g_hp (gH hs out g0) → am_W D G ad h' sh ro H1 → va_S (am_A G) s.heap H1 locs1 → cl ≤ 1 → sl ≤ 6 → decode (c_b cd) pc = .ok (.ireturn, 1) →
      W p l e (headSpec (Cond.codeWith (c_y cd) (c_b cd) (c_mL cd) (c_rt cd) (tabH pcE hs) :: am_U) (am_rm cd)).room s m (as.map (am_cv ad xq)).toArray below meth c H1 locs1 cl sl (am_MQ below (am_Qc D G ad sh ro (gH hs out g0)) (am_XC D G ad sh ro (gH hs out g0)) (as.map (am_cv ad xq)).toArray s (c_mc cd) (6 * c_mc cd) (am_A G)) (F0 m pc A [.int v]) := fun v h' H1 locs1 cl sl pc A ev eh hW1 hS1 h1 h2 hd => by
    rw [hmc]
    refine am_Wmono am_ofMQ (W.widen h1 h2 (W.zret hx hb hr (ty := .int) rfl (fun t ht _ => ⟨rfl, ?_, ?_, ?_, hS1.F ht⟩) hS1.2.2 hd))
    · rw [ev]; rfl
    · rw [← eh, ht]; exact hW1
    · intro v' hv'; cases hv'; rfl
  refine am_docall (R := (headSpec (Cond.codeWith (c_y cd) (c_b cd) (c_mL cd) (c_rt cd) (tabH pcE hs) :: am_U) (am_rm cd)).room) (cells := 0) (slots := 0) (cd := cd0) (i := i) (virt := true) (own := RL) (st := as0.reverse ++ [.int 0, .ref out]) hx hb (hle.1.trans hml.symm) hown hts hG hK hZ hW va_S.rf hlk hok0 dC (by rw [htk]; exact hknd) (by rw [List.length_append, List.length_reverse, hln]; exact Nat.le_add_right _ _) (by rw [hdr]; exact Nat.le_of_ble_eq_true rfl) hfr hlo (show 0 + 1 ≤ 1 from Nat.le_refl 1) (show 0 + 6 ≤ 6 from Nat.le_refl 6) (by rw [htk, hg0']; exact hg1) (fun _ => by rw [htk, hg0']; exact hp1) ?_ ?_
  · rw [htk, hdr, hg0', hmc0]
    intro hN H1 locs1 hW1 hS1
    obtain ⟨r, hr1⟩ := hval hN
    rw [hr1]
    show W p l e _ s m _ below meth c H1 locs1 0 0 _ (F0 m (pcC + 3) ls [.int r, .int 0, .ref (ad out)])
    refine lv_i2l hx hb d1 rfl ?_
    have he := am_wl_at (G := G) (ad := ad) (h := g_hp g0) hout
    rw [am_ce_l rfl] at he
    refine va_last hx hb hK hW1.1 hW1.2.1 hS1 out 2 he rfl (am_in_vp (⟨by decide +kernel, by decide +kernel⟩ : am_in 0 1)) d2 (fun H2 locs2 hP1 _ hS2 => ?_)
    have hW2 := hW1.put2 (h' := am_sl (g_hp g0) out 0 r.toInt64) hout ho (by
      rw [am_ce_l rfl]
      dsimp only
      rw [am_upL_self]
      exact hP1) (am_roW hG.1 hS1 hS2) (fun k hk => ⟨rfl, am_upL_ne hk⟩)
    refine lv_goto (tgt := pcR) hx hb d3 hoff ?_
    refine lv_iconst hx hb d4 (v := 0) rfl ?_
    exact hne 0 _ H2 locs2 0 0 (pcR + 1) ls (by rw [hN]) (by show _ = (match g_thr g0 with | some _ => g_hp g0 | none => match g_val g0 with | some (.int r) => am_sl (g_hp g0) out 0 r.toInt64 | _ => g_hp g0); rw [hN, hr1]) hW2 hS2 (by omega) (by omega) d5
  · rw [htk, hdr, hg0']
    intro E _ hE ce q H1 locs1 hW1 hS1 hce hcv hcl
    obtain ⟨pre', x, suf, f1, f2, f3, f4, f5⟩ := h_find (E := E) hpc hts hZ.2.2.2.2 hs [] (fun z hz => absurd hz List.not_mem_nil) hst hord (hp2 E hE)
    obtain ⟨w1, w2, w3, w4⟩ := hst x f3
    refine vx_catch (E := E) hown pre' _ suf (by rw [htab]; exact f1) f2 ?_ w3 (hts _ w1) (by rw [← f4]; exact hts _ w2) hce hcv hcl ?_
    · show covers ⟨0, pcE, _, _⟩ pcC = true
      unfold covers
      simp [hpc]
    · have eh : g_hp g0 = g_hp (gH hs out g0) := by
        show _ = (match g_thr g0 with | some _ => g_hp g0 | none => _)
        rw [hE]
      have ev : x.2.1 = (match g_thr g0 with | some E => hcode hs E | none => 0) := by rw [hE]; exact f5.symm
      rcases w4 with ⟨sl, s1, s2, ⟨nn, s3, s4⟩, s5⟩ | ⟨sl, s1, s2, ⟨nn, s3, s4⟩, s5⟩
      · refine lv_astore (nL := c_mL cd) hx hb s2 hlv0 s1 rfl (fun ls' _ => ?_)
        refine lv_iconst hx hb s3 s4 ?_
        exact hne _ _ H1 locs1 1 6 _ ls' ev eh hW1 hS1 (by omega) (by omega) s5
      · refine lv_astore_n (nL := c_mL cd) hx hb s2 rfl hlv0 s1 rfl (fun ls' _ => ?_)
        refine lv_iconst hx hb s3 s4 ?_
        exact hne _ _ H1 locs1 1 6 _ ls' ev eh hW1 hS1 (by omega) (by omega) s5
