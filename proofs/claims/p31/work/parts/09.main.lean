section AMMAIN
variable {p : Program} {l : Launch} {e : Env} {R : Room} {s : State} {m : MethodId} {args : Array Value} {below : List Frame} {meth : Method} {c : Code}
/-- what the machine owes at a point of the method that the abstract machine has reached -/
def am_X (p : Program) (l : Launch) (e : Env) (R : Room) (s : State) (m : MethodId) (args : Array Value) (below : List Frame) (meth : Method) (c : Code) (D : va_G) (G ad : Nat → Nat) (sh ro : List Sh) (M : MI) (so : Nat) (Q : State → Prop) (cfg : Cfg) : Prop :=
  ∀ (xq : Nat) (A : Array Slot) (H : Heap) (locs : List Loc), cfg.2.1.length = c.maxLocals → am_has ad cfg.2.1 A → am_W D G ad cfg.2.2.2 sh ro H → va_S (am_A G) s.heap H locs →
    W p l e R s m args below meth c H locs (m_bud M cfg.2.2.2) (so + 6 * m_bud M cfg.2.2.2) Q (F0 m cfg.1 A (cfg.2.2.1.map (am_cv ad xq)))
/-- a method's own facts -/
def am_Mok (own : String) (cc : ByteArray) (M : MI) : Prop :=
  (∀ pc, am_chk cc (m_code M) pc = true) ∧ (∀ q ∈ m_fld M, am_fok own q.1 q.2) ∧ (∀ q ∈ m_inv M, am_lnk own q.1 q.2) ∧ (∀ q ∈ m_cst M, am_cok own q.1 q.2) ∧ (∀ q ∈ m_stc M, am_sok own q.1 q.2)
/-- what the ends of a method give -/
def am_End (p : Program) (l : Launch) (e : Env) (R : Room) (s : State) (m : MethodId) (args : Array Value) (below : List Frame) (meth : Method) (c : Code) (D : va_G) (G ad : Nat → Nat) (sh ro : List Sh) (M : MI) (so : Nat) (cc : ByteArray) (P : AR → HP → Prop) (Q : State → Prop) : Prop :=
  (∀ (v : Int32) (h : HP) (pc : Nat) (A : Array Slot) (H : Heap) (locs : List Loc), am_rt (m_rt M) v → P (.inl (some (.int v))) h → decode cc pc = .ok (.ireturn, 1) → am_W D G ad h sh ro H → va_S (am_A G) s.heap H locs → W p l e R s m args below meth c H locs (m_bud M h) (so + 6 * m_bud M h) Q (F0 m pc A [.int v])) ∧
  (∀ (v : Int64) (h : HP) (pc : Nat) (A : Array Slot) (H : Heap) (locs : List Loc), m_rt M = some .long → P (.inl (some (.long v))) h → decode cc pc = .ok (.lreturn, 1) → am_W D G ad h sh ro H → va_S (am_A G) s.heap H locs → W p l e R s m args below meth c H locs (m_bud M h) (so + 6 * m_bud M h) Q (F0 m pc A [.long v])) ∧
  (∀ (v : UInt64) (h : HP) (pc : Nat) (A : Array Slot) (H : Heap) (locs : List Loc), m_rt M = some .double → P (.inl (some (.double v))) h → decode cc pc = .ok (.dreturn, 1) → am_W D G ad h sh ro H → va_S (am_A G) s.heap H locs → W p l e R s m args below meth c H locs (m_bud M h) (so + 6 * m_bud M h) Q (F0 m pc A [.double v])) ∧
  (∀ (h : HP) (pc : Nat) (A : Array Slot) (H : Heap) (locs : List Loc), m_rt M = none → P (.inl none) h → decode cc pc = .ok (.return_, 1) → am_W D G ad h sh ro H → va_S (am_A G) s.heap H locs → W p l e R s m args below meth c H locs (m_bud M h) (so + 6 * m_bud M h) Q (F0 m pc A [])) ∧
  (∀ (E : String) (h : HP) (pc i xq : Nat) (A : Array Slot) (st : List Value) (H : Heap) (locs : List Loc), am_lk (m_thr M) pc = some E → am_csum st ≤ 8 → P (.inr E) h → decode cc pc = .ok (.new i, 3) → A.size = c.maxLocals → am_W D G ad h sh ro H → va_S (am_A G) s.heap H locs → W p l e R s m args below meth c H locs (m_bud M h) (so + 6 * m_bud M h) Q (F0 m pc A (st.map (am_cv ad xq)))) ∧
  (∀ (E : String) (h0 h : HP) (pc : Nat) (A : Array Slot) (st : List Value) (ce : Cell) (q : Addr) (H : Heap) (locs : List Loc), am_hd P h ((am_lk (m_hdl M) pc).getD []) E → A.size = c.maxLocals → lv_wf A → am_W D G ad h sh ro H → va_S (am_A G) s.heap H locs → H[q]? = some ce → ce.vm = .none → s.vm.findClass E = some ce.cls →
    vx_W p l e R s m args below meth c H locs (m_bud M h0 + 1) (so + 6 * m_bud M h0 + 6) Q (F0 m pc A st) q)
variable {D : va_G} {G ad : Nat → Nat} {sh ro : List Sh} {own : String} {cc : ByteArray} {M : MI} {so : Nat} {P : AR → HP → Prop} {Q : State → Prop}
theorem am_call_inv {X : Cfg → Prop} {virt : Bool} {pc : Nat} {ls st : List Value} {h : HP} {o : Option CD} (q : am_call M sh ro P X virt pc ls st h o) : ∃ cd : CD, o = some cd ∧ am_kind sh virt (c_k cd) (st.take (c_n cd)).reverse = true ∧ c_n cd ≤ st.length ∧ am_csum (st.drop (c_n cd)) ≤ 10 ∧ c_fr cd + 1 ≤ m_fr M ∧ 10 + (c_mL cd + 11) + c_lo cd ≤ m_lo M ∧
    g_ok (c_g cd sh ro (st.take (c_n cd)).reverse h) = true ∧ (c_part cd = true → g_pre (c_g cd sh ro (st.take (c_n cd)).reverse h)) ∧ m_bud M h + c_mc cd ≤ m_bud M (g_hp (c_g cd sh ro (st.take (c_n cd)).reverse h)) ∧ m_bud M h + c_mc cd + 1 ≤ m_B M ∧
    (c_thr cd = true → ∀ E, g_thr (c_g cd sh ro (st.take (c_n cd)).reverse h) = some E → am_hd P (g_hp (c_g cd sh ro (st.take (c_n cd)).reverse h)) ((am_lk (m_hdl M) pc).getD []) E) ∧
    ((c_thr cd = true → g_thr (c_g cd sh ro (st.take (c_n cd)).reverse h) = none) → X (pc + 3, ls, (g_val (c_g cd sh ro (st.take (c_n cd)).reverse h)).toList ++ st.drop (c_n cd), (g_hp (c_g cd sh ro (st.take (c_n cd)).reverse h)))) := by
  cases o with
  | none => exact q.elim
  | some cd =>
    refine ⟨cd, rfl, ?_⟩
    obtain ⟨k, y, b, mL, rt, n, fr, lo, mc, thr, part, g⟩ := cd
    simp only [am_call] at q
    cases hc : am_kind sh virt k (st.take n).reverse && Nat.ble n st.length && Nat.ble (am_csum (st.drop n)) 10 && Nat.ble (fr + 1) (m_fr M) && Nat.ble (10 + (mL + 11) + lo) (m_lo M) with
    | false => rw [hc] at q; exact q.elim
    | true =>
      rw [hc] at q
      simp only [Bool.and_eq_true] at hc
      obtain ⟨⟨⟨⟨h1, h2⟩, h3⟩, h4⟩, h5⟩ := hc
      unfold am_fin at q
      dsimp only [cond_true] at q
      cases hc2 : g_ok (g sh ro (st.take n).reverse h) && Nat.ble (m_bud M h + mc) (m_bud M (g_hp (g sh ro (st.take n).reverse h))) && Nat.ble (m_bud M h + mc + 1) (m_B M) with
      | false => rw [hc2] at q; exact q.elim
      | true =>
        rw [hc2] at q
        simp only [Bool.and_eq_true] at hc2
        have q3 : (part = true → g_pre (g sh ro (st.take n).reverse h)) ∧ am_kon M P X thr pc ls (st.drop n) (g sh ro (st.take n).reverse h) := by
          cases part with
          | true => exact ⟨fun _ => q.1, q.2⟩
          | false => exact ⟨(fun z => nomatch z), q⟩
        obtain ⟨q1, q2⟩ := q3
        refine ⟨h1, Nat.le_of_ble_eq_true h2, Nat.le_of_ble_eq_true h3, Nat.le_of_ble_eq_true h4, Nat.le_of_ble_eq_true h5, hc2.1.1, q1, Nat.le_of_ble_eq_true hc2.1.2, Nat.le_of_ble_eq_true hc2.2, ?_, ?_⟩
        · intro ht E hE
          cases ht
          exact q2.1 E hE
        · intro hN
          cases thr with
          | true => exact q2.2 (hN rfl)
          | false => exact q2
theorem am_ce_arr {h : HP} {o k n : Nat} {fs : List Nat} (hk : (Nat.blt k 4 || Nat.beq k 5) = true) : ∃ (t0 : Nat) (ty : FieldType) (x : ClassId × vp_A), am_ce G ad h o (k, n, fs) = .inl x ∧ (am_tys G)[t0]? = some (x.1, ty) ∧ x.2.1 = n := by
  simp only [Bool.or_eq_true] at hk
  rcases hk with hk | hk
  · have h4 := am_blt hk
    match k, h4 with
    | 0, _ => exact ⟨0, .int, _, am_ce_i rfl, rfl, rfl⟩
    | 1, _ => exact ⟨1, .int, _, am_ce_z rfl, rfl, rfl⟩
    | 2, _ => exact ⟨2, .long, _, am_ce_l rfl, rfl, rfl⟩
    | 3, _ => exact ⟨3, .object "BusBlocks$Timetable", _, am_ce_q rfl, rfl, rfl⟩
    | k + 4, h4 => omega
  · have e := am_beq hk
    subst e
    exact ⟨0, .int, _, am_ce_i rfl, rfl, rfl⟩
theorem am_nar01 {x : Int32} (h : x = 0 ∨ x = 1) : vp_nar .boolean x = x := by
  rcases h with rfl | rfl <;> rfl
theorem am_tsw_sel {X : Cfg → Prop} {ls st : List Value} {h : HP} {x : Int32} {d pc : Nat} : ∀ (os : List Int) (sw : List (Int32 × Nat)) (lo : Int), am_tsw pc lo os sw = true → am_sw X ls st h x d sw →
    (∃ (j : Nat) (off : Int) (t : Nat), os[j]? = some off ∧ x.toInt = lo + j ∧ (pc : Int) + off = (t : Int) ∧ X (t, ls, st, h)) ∨ ((∀ j : Nat, j < os.length → x.toInt ≠ lo + j) ∧ X (d, ls, st, h))
  | [], [], _, _, q => Or.inr ⟨fun j hj => absurd hj (Nat.not_lt_zero j), q⟩
  | [], _ :: _, _, ht, _ => by cases ht
  | _ :: _, [], _, ht, _ => by cases ht
  | o :: os, (k, t) :: sw, lo, ht, q => by
    simp only [am_tsw, Bool.and_eq_true, decide_eq_true_eq] at ht
    obtain ⟨⟨⟨h1, h2⟩, h3⟩, h4⟩ := ht
    by_cases hk : x = k
    · exact Or.inl ⟨0, o, t, rfl, by rw [hk, h2]; simp, h3, q.1 hk⟩
    · rcases am_tsw_sel os sw (lo + 1) h4 (q.2 hk) with ⟨j, off, t', e1, e2, e3, e4⟩ | ⟨e1, e2⟩
      · exact Or.inl ⟨j + 1, off, t', by simpa using e1, by rw [e2]; omega, e3, e4⟩
      · refine Or.inr ⟨fun j hj => ?_, e2⟩
        cases j with
        | zero => intro e; exact hk (Int32.toInt_inj.mp (by rw [h2, e]; simp))
        | succ j => intro e; exact e1 j (by simpa using hj) (by rw [e]; omega)
theorem am_lsw_sel {X : Cfg → Prop} {ls st : List Value} {h : HP} {x : Int32} {d pc : Nat} {dflt : Int} (hd : (pc : Int) + dflt = (d : Int)) : ∀ (ps : List (Int × Int)) (sw : List (Int32 × Nat)), am_lsw pc ps sw = true → am_sw X ls st h x d sw →
    ∃ (t : Nat), (pc : Int) + Op.lookupswitch.offset ps dflt x.toInt = (t : Int) ∧ X (t, ls, st, h)
  | [], [], _, q => ⟨d, by rw [Op.lookupswitch.offset_nil]; exact hd, q⟩
  | [], _ :: _, ht, _ => by cases ht
  | _ :: _, [], ht, _ => by cases ht
  | (a, o) :: ps, (k, t) :: sw, ht, q => by
    simp only [am_lsw, Bool.and_eq_true, decide_eq_true_eq] at ht
    obtain ⟨⟨h1, h2⟩, h3⟩ := ht
    by_cases hk : x = k
    · exact ⟨t, by rw [Op.lookupswitch.offset_cons, if_pos (by rw [hk, h1])]; exact h2, q.1 hk⟩
    · rw [lv_osw hk h1]
      exact am_lsw_sel hd ps sw h3 (q.2 hk)
theorem am_aa_sel {X : Cfg → Prop} {pc : Nat} {ls st : List Value} {h : HP} {x : Int32} : ∀ (fs : List Nat) (j i c : Nat), am_aa X pc ls st h x j fs → x = nI (j + i) → fs[i]? = some c → (j + fs.length < 2 ^ 31) → X (pc + 1, ls, .ref c :: st, h)
  | [], _, _, _, _, _, hc, _ => by simp at hc
  | c0 :: fs, j, 0, c, q, hx, hc, _ => by cases hc; exact q.1 hx
  | c0 :: fs, j, i + 1, c, q, hx, hc, hl => by
    have hi : i < fs.length := by
      have := (List.getElem?_eq_some_iff.mp hc).1
      simpa using this
    rw [List.length_cons] at hl
    refine am_aa_sel fs (j + 1) i c (q.2 ?_) (by rw [hx]; congr 1; omega) (by simpa using hc) (by omega)
    rw [hx, nI_eq (by omega) (by omega)]
    omega
theorem am_fsI {h : HP} {ad : Nat → Nat} {o j : Nat} {x : Int32} {fs : List Nat} (hj : fs[j]? = some 0) : (fs.mapIdx (fun i f => am_cv ad 0 (am_fv h o i f))).set j (.int x) = fs.mapIdx (fun i f => am_cv ad 0 (am_fv (am_si h o j x) o i f)) := by
  apply List.ext_getElem?
  intro k
  have hlt := (List.getElem?_eq_some_iff.mp hj).1
  by_cases hk : k = j
  · subst hk
    rw [List.getElem?_set_self (by rw [List.length_mapIdx]; exact hlt), List.getElem?_mapIdx, hj]
    simp [am_fv, am_up_self, pk_us, am_cv]
  · rw [List.getElem?_set_ne (Ne.symm hk), List.getElem?_mapIdx, List.getElem?_mapIdx]
    cases fs[k]? with
    | none => rfl
    | some f => simp only [Option.map_some, am_fv, am_up_self, pk_un hk]
theorem am_fsL {h : HP} {ad : Nat → Nat} {o j : Nat} {x : Int64} {fs : List Nat} (hj : fs[j]? = some 1) : (fs.mapIdx (fun i f => am_cv ad 0 (am_fv h o i f))).set j (.long x) = fs.mapIdx (fun i f => am_cv ad 0 (am_fv (am_sl h o j x) o i f)) := by
  apply List.ext_getElem?
  intro k
  have hlt := (List.getElem?_eq_some_iff.mp hj).1
  by_cases hk : k = j
  · subst hk
    rw [List.getElem?_set_self (by rw [List.length_mapIdx]; exact hlt), List.getElem?_mapIdx, hj]
    simp [am_fv, am_upL_self, pk_uLs, am_cv]
    rfl
  · rw [List.getElem?_set_ne (Ne.symm hk), List.getElem?_mapIdx, List.getElem?_mapIdx]
    cases fs[k]? with
    | none => rfl
    | some f => simp only [Option.map_some, am_fv, am_upL_self, pk_uLn hk]
set_option maxHeartbeats 4000000 in
theorem am_core (hx : p.tables.exec = Jvm.exec) (hb : c.code = cc) (hown : s.vm.findClass own = some m.cls) (hts : ∀ w ∈ am_U, w.before args s = true) (hG : am_g D G s) (hK : va_K D vwCl (am_tys G) s) (hZ : am_Z ad G s s.heap)
    (hMok : am_Mok own cc M) (hok : ∀ q ∈ m_inv M, am_Ok l sh ro q.2) (hfr : m_fr M ≤ R.frames) (hlo : m_lo M ≤ R.locals) (hB : m_B M ≤ R.cells) (hBs : so + 6 * m_B M ≤ R.slots)
    (hbud : ∀ (h : HP) (o k : Nat), o < 1000 → (∀ x, m_bud M (am_si h o k x) = m_bud M h) ∧ ∀ x, m_bud M (am_sl h o k x) = m_bud M h)
    (hE : am_End p l e R s m args below meth c D G ad sh ro M so cc P Q) (cfg : Cfg) (q : am_F M sh ro P (am_X p l e R s m args below meth c D G ad sh ro M so Q) cfg) : am_X p l e R s m args below meth c D G ad sh ro M so Q cfg := by
  obtain ⟨pc, ls, st, h⟩ := cfg
  intro xq A H locs hn hl hW hS
  obtain ⟨hchk, hfld, hinv, hcst, hstc⟩ := hMok
  obtain ⟨hE1, hE2, hE3, hE4, hE5, hE6⟩ := hE
  have hd := hchk pc
  dsimp only at hn hl hW ⊢
  have hAs : A.size = c.maxLocals := hl.1.trans hn
  have hT : ∀ {i : Instr}, (m_code M pc).1 = i → i ≠ .nop → (am_len i ≠ 0 → decode cc pc = .ok (i, am_len i)) ∧ (∃ len, decode cc pc = .ok (i, len)) ∧ am_chv pc (m_code M pc) = true := fun h1 h2 => am_dec hd h1 h2
  unfold am_F at q
  dsimp only at q
  generalize m_code M pc = en at q hT
  unfold am_Fi at q
  have hcall : ∀ {virt : Bool} {i : Nat}, decode cc pc = .ok (bif virt then .invokevirtual i else .invokestatic i, 3) → am_call M sh ro P (am_X p l e R s m args below meth c D G ad sh ro M so Q) virt pc ls st h (am_lk (m_inv M) i) →
      W p l e R s m args below meth c H locs (m_bud M h) (so + 6 * m_bud M h) Q (F0 m pc A (st.map (am_cv ad xq))) := by
    intro virt i hdg q
    obtain ⟨cd, hcd, c1, c2, c3, c4, c5, c60, c6, c7, c8, c9, c10⟩ := am_call_inv q
    have hmem := am_lk_mem hcd
    refine am_docall (cd := cd) (i := i) (own := own) hx hb hAs hown hts hG hK hZ hW hS (hinv _ hmem) (hok _ hmem) hdg c1 c2 c3 (Nat.le_trans c4 hfr) (Nat.le_trans c5 hlo) (by omega) (by omega) c60 c6 ?_ ?_
    · intro hN H1 locs1 hW1 hS1
      refine W.widen (k := m_bud M (g_hp (c_g cd sh ro (st.take (c_n cd)).reverse h))) (n := so + 6 * m_bud M (g_hp (c_g cd sh ro (st.take (c_n cd)).reverse h))) c7 (by omega) ?_
      exact c10 (fun _ => hN) xq A H1 locs1 hn hl hW1 hS1
    · intro E ht hE0 ce a H1 locs1 hW1 hS1 hce hcv hcl
      exact hE6 E h _ pc A _ ce a H1 locs1 (c9 ht E hE0) hAs hl.2.1 hW1 hS1 hce hcv hcl
  split at q
  · rename_i n heq
    obtain ⟨hdg, -, hv⟩ := hT heq (fun h => by cases h)
    have hdg := hdg (Nat.succ_ne_zero _)
    simp only [am_chv, heq, decide_eq_true_eq] at hv
    exact lv_iconst hx hb hdg hv (q xq A H locs hn hl hW hS)
  · rename_i n heq
    obtain ⟨hdg, -, hv⟩ := hT heq (fun h => by cases h)
    have hdg := hdg (Nat.succ_ne_zero _)
    simp only [am_chv, heq, decide_eq_true_eq] at hv
    exact lv_bipush hx hb hdg hv (q xq A H locs hn hl hW hS)
  · rename_i n heq
    obtain ⟨hdg, -, hv⟩ := hT heq (fun h => by cases h)
    have hdg := hdg (Nat.succ_ne_zero _)
    simp only [am_chv, heq, decide_eq_true_eq] at hv
    exact lv_sipush hx hb hdg hv (q xq A H locs hn hl hW hS)
  · rename_i n heq
    obtain ⟨hdg, -, hv⟩ := hT heq (fun h => by cases h)
    have hdg := hdg (Nat.succ_ne_zero _)
    exact lv_lconst hx hb hdg rfl (q xq A H locs hn hl hW hS)
  · rename_i n heq
    obtain ⟨hdg, -, hv⟩ := hT heq (fun h => by cases h)
    have hdg := hdg (Nat.succ_ne_zero _)
    obtain ⟨h1, q⟩ := am_bt q
    have h2 : n = 1 := Fin.ext (am_beq h1)
    subst h2
    exact lv_dconst1 hx hb hdg (q xq A H locs hn hl hW hS)
  · rename_i heq
    obtain ⟨hdg, -, hv⟩ := hT heq (fun h => by cases h)
    have hdg := hdg (Nat.succ_ne_zero _)
    exact lv_null hx hb hdg (q xq A H locs hn hl hW hS)
  · rename_i n heq
    obtain ⟨hdg, -, hv⟩ := hT heq (fun h => by cases h)
    have hdg := hdg (Nat.succ_ne_zero _)
    split at q
    · rename_i x hc
      have hc2 := hcst _ (am_lk_mem hc)
      exact lv_ldc hx hb hown (hts _ hc2) hdg (q xq A H locs hn hl hW hS)
    · exact q.elim
  · rename_i n heq
    obtain ⟨hdg, -, hv⟩ := hT heq (fun h => by cases h)
    have hdg := hdg (Nat.succ_ne_zero _)
    split at q
    · rename_i x hc
      have hc2 := hcst _ (am_lk_mem hc)
      exact lv_ldcw hx hb hown (hts _ hc2) hdg (q xq A H locs hn hl hW hS)
    · exact q.elim
  · rename_i n heq
    obtain ⟨hdg, -, hv⟩ := hT heq (fun h => by cases h)
    have hdg := hdg (Nat.succ_ne_zero _)
    split at q
    · rename_i x hc
      have hc2 := hcst _ (am_lk_mem hc)
      exact lv_ldc2 hx hb hown (hts _ hc2) hdg (q xq A H locs hn hl hW hS)
    · rename_i x hc
      have hc2 := hcst _ (am_lk_mem hc)
      exact lv_ldc2d hx hb hown (hts _ hc2) hdg (q xq A H locs hn hl hW hS)
    · exact q.elim
  · rename_i n heq
    obtain ⟨hdg, -, hv⟩ := hT heq (fun h => by cases h)
    have hdg := hdg (Nat.succ_ne_zero _)
    simp only [am_chv, heq, decide_eq_true_eq] at hv
    split at q
    · rename_i x ht
      exact lv_iload hx hb hdg (by rw [hv]; exact hl.get ht rfl) (q xq A H locs hn hl hW hS)
    · exact q.elim
  · rename_i n heq
    obtain ⟨hdg, -, hv⟩ := hT heq (fun h => by cases h)
    have hdg := hdg (Nat.succ_ne_zero _)
    simp only [am_chv, heq, decide_eq_true_eq] at hv
    split at q
    · rename_i x ht
      exact lv_iload_n hx hb hdg hv (hl.get ht rfl) (q xq A H locs hn hl hW hS)
    · exact q.elim
  · rename_i n heq
    obtain ⟨hdg, -, hv⟩ := hT heq (fun h => by cases h)
    have hdg := hdg (Nat.succ_ne_zero _)
    simp only [am_chv, heq, decide_eq_true_eq] at hv
    split at q
    · rename_i x ht
      exact lv_lload hx hb hdg (by rw [hv]; exact hl.get ht rfl) (q xq A H locs hn hl hW hS)
    · exact q.elim
  · rename_i n heq
    obtain ⟨hdg, -, hv⟩ := hT heq (fun h => by cases h)
    have hdg := hdg (Nat.succ_ne_zero _)
    simp only [am_chv, heq, decide_eq_true_eq] at hv
    split at q
    · rename_i x ht
      exact lv_lload_n hx hb hdg hv (hl.get ht rfl) (q xq A H locs hn hl hW hS)
    · exact q.elim
  · rename_i n heq
    obtain ⟨hdg, -, hv⟩ := hT heq (fun h => by cases h)
    have hdg := hdg (Nat.succ_ne_zero _)
    simp only [am_chv, heq, decide_eq_true_eq] at hv
    split at q
    · rename_i x ht
      exact lv_dload hx hb hdg (by rw [hv]; exact hl.get ht rfl) (q xq A H locs hn hl hW hS)
    · exact q.elim
  · rename_i n heq
    obtain ⟨hdg, -, hv⟩ := hT heq (fun h => by cases h)
    have hdg := hdg (Nat.succ_ne_zero _)
    simp only [am_chv, heq, decide_eq_true_eq] at hv
    split at q
    · rename_i x ht
      exact lv_dload_n hx hb hdg hv (hl.get ht rfl) (q xq A H locs hn hl hW hS)
    · exact q.elim
  · rename_i n heq
    obtain ⟨hdg, -, hv⟩ := hT heq (fun h => by cases h)
    have hdg := hdg (Nat.succ_ne_zero _)
    simp only [am_chv, heq, decide_eq_true_eq] at hv
    split at q
    · rename_i x ht
      exact lv_aload hx hb hdg (by rw [hv]; exact hl.get ht rfl) (q xq A H locs hn hl hW hS)
    · rename_i ht
      exact lv_aloadN hx hb hdg (by rw [hv]; exact hl.get ht rfl) (q xq A H locs hn hl hW hS)
    · exact q.elim
  · rename_i n heq
    obtain ⟨hdg, -, hv⟩ := hT heq (fun h => by cases h)
    have hdg := hdg (Nat.succ_ne_zero _)
    simp only [am_chv, heq, decide_eq_true_eq] at hv
    split at q
    · rename_i x ht
      exact lv_aload_n hx hb hdg hv (hl.get ht rfl) (q xq A H locs hn hl hW hS)
    · rename_i ht
      exact lv_aload_nN hx hb hdg hv (hl.get ht rfl) (q xq A H locs hn hl hW hS)
    · exact q.elim
  · rename_i n heq
    obtain ⟨hdg, -, hv⟩ := hT heq (fun h => by cases h)
    have hdg := hdg (Nat.succ_ne_zero _)
    simp only [am_chv, heq, decide_eq_true_eq] at hv
    split at q
    · rename_i x r
      subst hv
      obtain ⟨h9, q⟩ := am_bt q
      exact lv_istore hx hb hdg hl (am_ok1_lt h9) rfl (fun A' hA' => q xq A' H locs (am_len_set hn) (am_has.set1 rfl h9 (Or.inr rfl) (by exact hA'))  hW hS)
    · exact q.elim
  · rename_i n heq
    obtain ⟨hdg, -, hv⟩ := hT heq (fun h => by cases h)
    have hdg := hdg (Nat.succ_ne_zero _)
    simp only [am_chv, heq, decide_eq_true_eq] at hv
    split at q
    · rename_i x r
      obtain ⟨h9, q⟩ := am_bt q
      exact lv_istore_n hx hb hdg hv hl (am_ok1_lt h9) rfl (fun A' hA' => q xq A' H locs (am_len_set hn) (am_has.set1 rfl h9 (Or.inr rfl) (by exact hA'))  hW hS)
    · exact q.elim
  · rename_i n heq
    obtain ⟨hdg, -, hv⟩ := hT heq (fun h => by cases h)
    have hdg := hdg (Nat.succ_ne_zero _)
    simp only [am_chv, heq, decide_eq_true_eq] at hv
    split at q
    · rename_i x r
      subst hv
      obtain ⟨h9, q⟩ := am_bt q
      exact lv_astore hx hb hdg hl (am_ok1_lt h9) rfl (fun A' hA' => q xq A' H locs (am_len_set hn) (am_has.set1 rfl h9 (Or.inr rfl) hA') hW hS)
    · rename_i r
      subst hv
      obtain ⟨h9, q⟩ := am_bt q
      exact lv_astoreN hx hb hdg hl (am_ok1_lt h9) rfl (fun A' hA' => q xq A' H locs (am_len_set hn) (am_has.set1 rfl h9 (Or.inr rfl) hA') hW hS)
    · rename_i x r
      subst hv
      obtain ⟨h9, q⟩ := am_bt q
      exact lv_astore hx hb hdg hl (am_ok1_lt h9) rfl (fun A' hA' => q xq A' H locs (am_len_set hn) (am_has.set1 rfl h9 (Or.inl rfl) hA') hW hS)
    · exact q.elim
  · rename_i n heq
    obtain ⟨hdg, -, hv⟩ := hT heq (fun h => by cases h)
    have hdg := hdg (Nat.succ_ne_zero _)
    simp only [am_chv, heq, decide_eq_true_eq] at hv
    split at q
    · rename_i x r
      obtain ⟨h9, q⟩ := am_bt q
      exact lv_astore_n hx hb hdg hv hl (am_ok1_lt h9) rfl (fun A' hA' => q xq A' H locs (am_len_set hn) (am_has.set1 rfl h9 (Or.inr rfl) hA') hW hS)
    · rename_i r
      obtain ⟨h9, q⟩ := am_bt q
      exact lv_astore_nN hx hb hdg hv hl (am_ok1_lt h9) rfl (fun A' hA' => q xq A' H locs (am_len_set hn) (am_has.set1 rfl h9 (Or.inr rfl) hA') hW hS)
    · rename_i x r
      obtain ⟨h9, q⟩ := am_bt q
      exact lv_astore_n hx hb hdg hv hl (am_ok1_lt h9) rfl (fun A' hA' => q xq A' H locs (am_len_set hn) (am_has.set1 rfl h9 (Or.inl rfl) hA') hW hS)
    · exact q.elim
  · rename_i n heq
    obtain ⟨hdg, -, hv⟩ := hT heq (fun h => by cases h)
    have hdg := hdg (Nat.succ_ne_zero _)
    simp only [am_chv, heq, decide_eq_true_eq] at hv
    split at q
    · rename_i x r
      subst hv
      obtain ⟨h9, q⟩ := am_bt q
      exact lv_lstore hx hb hdg hl (am_ok2_lt h9) rfl (fun A' hA' => q xq A' H locs (am_len_set (am_len_set hn)) (am_has.set2 rfl h9 (by exact hA'))  hW hS)
    · exact q.elim
  · rename_i n heq
    obtain ⟨hdg, -, hv⟩ := hT heq (fun h => by cases h)
    have hdg := hdg (Nat.succ_ne_zero _)
    simp only [am_chv, heq, decide_eq_true_eq] at hv
    split at q
    · rename_i x r
      obtain ⟨h9, q⟩ := am_bt q
      exact lv_lstore_n hx hb hdg hv hl (am_ok2_lt h9) rfl (fun A' hA' => q xq A' H locs (am_len_set (am_len_set hn)) (am_has.set2 rfl h9 (by exact hA'))  hW hS)
    · exact q.elim
  · rename_i n heq
    obtain ⟨hdg, -, hv⟩ := hT heq (fun h => by cases h)
    have hdg := hdg (Nat.succ_ne_zero _)
    simp only [am_chv, heq, decide_eq_true_eq] at hv
    split at q
    · rename_i x r
      subst hv
      obtain ⟨h9, q⟩ := am_bt q
      exact lv_dstore hx hb hdg hl (am_ok2_lt h9) rfl (fun A' hA' => q xq A' H locs (am_len_set (am_len_set hn)) (am_has.set2 rfl h9 (by exact hA'))  hW hS)
    · exact q.elim
  · rename_i n heq
    obtain ⟨hdg, -, hv⟩ := hT heq (fun h => by cases h)
    have hdg := hdg (Nat.succ_ne_zero _)
    simp only [am_chv, heq, decide_eq_true_eq] at hv
    split at q
    · rename_i x r
      obtain ⟨h9, q⟩ := am_bt q
      exact lv_dstore_n hx hb hdg hv hl (am_ok2_lt h9) rfl (fun A' hA' => q xq A' H locs (am_len_set (am_len_set hn)) (am_has.set2 rfl h9 (by exact hA'))  hW hS)
    · exact q.elim
  · rename_i n d heq
    obtain ⟨hdg, -, hv⟩ := hT heq (fun h => by cases h)
    have hdg := hdg (Nat.succ_ne_zero _)
    simp only [am_chv, heq, Bool.and_eq_true, decide_eq_true_eq] at hv
    obtain ⟨hv, hv2⟩ := hv
    subst hv
    split at q
    · rename_i x ht
      obtain ⟨k1, hk1⟩ := List.getElem?_of_mem (am_lv_mem (ad := ad) (q := (en.2.2.1, .int x)).mpr ⟨_, ht, rfl, rfl⟩)
      obtain ⟨h9, q⟩ := am_bt q
      exact lv_iinc hx hb hdg hl hk1 (by rw [hv2]) (am_ok1_lt h9) rfl (fun A' hA' => q xq A' H locs (am_len_set hn) (am_has.set1 rfl h9 (Or.inr rfl) hA') hW hS)
    · exact q.elim
  · rename_i heq
    obtain ⟨hdg, -, hv⟩ := hT heq (fun h => by cases h)
    have hdg := hdg (Nat.succ_ne_zero _)
    split at q
    · exact lv_iadd hx hb hdg (q xq A H locs hn hl hW hS)
    · exact q.elim
  · rename_i heq
    obtain ⟨hdg, -, hv⟩ := hT heq (fun h => by cases h)
    have hdg := hdg (Nat.succ_ne_zero _)
    split at q
    · exact lv_isub hx hb hdg (q xq A H locs hn hl hW hS)
    · exact q.elim
  · rename_i heq
    obtain ⟨hdg, -, hv⟩ := hT heq (fun h => by cases h)
    have hdg := hdg (Nat.succ_ne_zero _)
    split at q
    · exact lv_imul hx hb hdg (q xq A H locs hn hl hW hS)
    · exact q.elim
  · rename_i heq
    obtain ⟨hdg, -, hv⟩ := hT heq (fun h => by cases h)
    have hdg := hdg (Nat.succ_ne_zero _)
    split at q
    · exact lv_idiv hx hb hdg q.1 (q.2 xq A H locs hn hl hW hS)
    · exact q.elim
  · rename_i heq
    obtain ⟨hdg, -, hv⟩ := hT heq (fun h => by cases h)
    have hdg := hdg (Nat.succ_ne_zero _)
    split at q
    · exact lv_irem hx hb hdg q.1 (q.2 xq A H locs hn hl hW hS)
    · exact q.elim
  · rename_i heq
    obtain ⟨hdg, -, hv⟩ := hT heq (fun h => by cases h)
    have hdg := hdg (Nat.succ_ne_zero _)
    split at q
    · exact lv_iand hx hb hdg (q xq A H locs hn hl hW hS)
    · exact q.elim
  · rename_i heq
    obtain ⟨hdg, -, hv⟩ := hT heq (fun h => by cases h)
    have hdg := hdg (Nat.succ_ne_zero _)
    split at q
    · exact lv_ior hx hb hdg (q xq A H locs hn hl hW hS)
    · exact q.elim
  · rename_i heq
    obtain ⟨hdg, -, hv⟩ := hT heq (fun h => by cases h)
    have hdg := hdg (Nat.succ_ne_zero _)
    split at q
    · exact lv_ishl hx hb hdg (q xq A H locs hn hl hW hS)
    · exact q.elim
  · rename_i heq
    obtain ⟨hdg, -, hv⟩ := hT heq (fun h => by cases h)
    have hdg := hdg (Nat.succ_ne_zero _)
    split at q
    · exact lv_ishr hx hb hdg (q xq A H locs hn hl hW hS)
    · exact q.elim
  · rename_i heq
    obtain ⟨hdg, -, hv⟩ := hT heq (fun h => by cases h)
    have hdg := hdg (Nat.succ_ne_zero _)
    split at q
    · exact lv_ixor hx hb hdg (q xq A H locs hn hl hW hS)
    · exact q.elim
  · rename_i heq
    obtain ⟨hdg, -, hv⟩ := hT heq (fun h => by cases h)
    have hdg := hdg (Nat.succ_ne_zero _)
    split at q
    · exact lv_ladd hx hb hdg (q xq A H locs hn hl hW hS)
    · exact q.elim
  · rename_i heq
    obtain ⟨hdg, -, hv⟩ := hT heq (fun h => by cases h)
    have hdg := hdg (Nat.succ_ne_zero _)
    split at q
    · exact lv_lsub hx hb hdg (q xq A H locs hn hl hW hS)
    · exact q.elim
  · rename_i heq
    obtain ⟨hdg, -, hv⟩ := hT heq (fun h => by cases h)
    have hdg := hdg (Nat.succ_ne_zero _)
    split at q
    · exact lv_lmul hx hb hdg (q xq A H locs hn hl hW hS)
    · exact q.elim
  · rename_i heq
    obtain ⟨hdg, -, hv⟩ := hT heq (fun h => by cases h)
    have hdg := hdg (Nat.succ_ne_zero _)
    split at q
    · exact lv_ldiv hx hb hdg q.1 (q.2 xq A H locs hn hl hW hS)
    · exact q.elim
  · rename_i heq
    obtain ⟨hdg, -, hv⟩ := hT heq (fun h => by cases h)
    have hdg := hdg (Nat.succ_ne_zero _)
    split at q
    · exact lv_lrem hx hb hdg q.1 (q.2 xq A H locs hn hl hW hS)
    · exact q.elim
  · rename_i heq
    obtain ⟨hdg, -, hv⟩ := hT heq (fun h => by cases h)
    have hdg := hdg (Nat.succ_ne_zero _)
    split at q
    · exact lv_land hx hb hdg (q xq A H locs hn hl hW hS)
    · exact q.elim
  · rename_i heq
    obtain ⟨hdg, -, hv⟩ := hT heq (fun h => by cases h)
    have hdg := hdg (Nat.succ_ne_zero _)
    split at q
    · exact lv_lshr hx hb hdg rfl (q xq A H locs hn hl hW hS)
    · exact q.elim
  · rename_i heq
    obtain ⟨hdg, -, hv⟩ := hT heq (fun h => by cases h)
    have hdg := hdg (Nat.succ_ne_zero _)
    split at q
    · exact W.lcmp hx hb hdg (q xq A H locs hn hl hW hS)
    · exact q.elim
  · rename_i heq
    obtain ⟨hdg, -, hv⟩ := hT heq (fun h => by cases h)
    have hdg := hdg (Nat.succ_ne_zero _)
    split at q
    · exact lv_i2l hx hb hdg rfl (q xq A H locs hn hl hW hS)
    · exact q.elim
  · rename_i heq
    obtain ⟨hdg, -, hv⟩ := hT heq (fun h => by cases h)
    have hdg := hdg (Nat.succ_ne_zero _)
    split at q
    · exact lv_l2i hx hb hdg rfl (q xq A H locs hn hl hW hS)
    · exact q.elim
  · rename_i heq
    obtain ⟨hdg, -, hv⟩ := hT heq (fun h => by cases h)
    have hdg := hdg (Nat.succ_ne_zero _)
    split at q
    · exact lv_i2d hx hb hdg (q xq A H locs hn hl hW hS)
    · exact q.elim
  · rename_i heq
    obtain ⟨hdg, -, hv⟩ := hT heq (fun h => by cases h)
    have hdg := hdg (Nat.succ_ne_zero _)
    split at q
    · exact lv_d2l hx hb hdg (q xq A H locs hn hl hW hS)
    · exact q.elim
  · rename_i heq
    obtain ⟨hdg, -, hv⟩ := hT heq (fun h => by cases h)
    have hdg := hdg (Nat.succ_ne_zero _)
    split at q
    · exact lv_ddiv hx hb hdg q.1 (q.2 xq A H locs hn hl hW hS)
    · exact q.elim
  · rename_i heq
    obtain ⟨hdg, -, hv⟩ := hT heq (fun h => by cases h)
    have hdg := hdg (Nat.succ_ne_zero _)
    split at q
    · exact lv_dmul hx hb hdg q.1 (q.2 xq A H locs hn hl hW hS)
    · exact q.elim
  · rename_i heq
    obtain ⟨hdg, -, hv⟩ := hT heq (fun h => by cases h)
    have hdg := hdg (Nat.succ_ne_zero _)
    split at q
    · exact lv_dsub hx hb hdg q.1 (q.2 xq A H locs hn hl hW hS)
    · exact q.elim
  · rename_i op heq
    obtain ⟨hdg, -, hv⟩ := hT heq (fun h => by cases h)
    have hdg := hdg (Nat.succ_ne_zero _)
    split at q
    · exact lv_dcmp hx hb hdg (q xq A H locs hn hl hW hS)
    · exact q.elim
  · rename_i heq
    obtain ⟨hdg, -, hv⟩ := hT heq (fun h => by cases h)
    have hdg := hdg (Nat.succ_ne_zero _)
    split at q
    · obtain ⟨h9, q⟩ := am_bf q
      exact lv_pop hx hb hdg (by rw [am_cv_cat, h9]; rfl) (q xq A H locs hn hl hW hS)
    · exact q.elim
  · rename_i heq
    obtain ⟨hdg, -, hv⟩ := hT heq (fun h => by cases h)
    have hdg := hdg (Nat.succ_ne_zero _)
    split at q
    · obtain ⟨h9, q⟩ := am_bf q
      exact lv_dup hx hb hdg (by rw [am_cv_cat, h9]; rfl) (q xq A H locs hn hl hW hS)
    · exact q.elim
  · rename_i heq
    obtain ⟨hdg, -, hv⟩ := hT heq (fun h => by cases h)
    have hdg := hdg (Nat.succ_ne_zero _)
    split at q
    · obtain ⟨h9, q⟩ := am_bf q
      simp only [Bool.or_eq_false_iff] at h9
      exact lv_dup2_11 hx hb hdg (by rw [am_cv_cat, h9.1]; rfl) (by rw [am_cv_cat, h9.2]; rfl) (q xq A H locs hn hl hW hS)
    · exact q.elim
  · rename_i o heq
    obtain ⟨hdg, -, hv⟩ := hT heq (fun h => by cases h)
    have hdg := hdg (Nat.succ_ne_zero _)
    simp only [am_chv, heq, decide_eq_true_eq] at hv
    split at q
    · exact lv_if_eq hx hb hdg hv (fun z => q.1 z xq A H locs hn hl hW hS) (fun z => q.2 z xq A H locs hn hl hW hS)
    · exact q.elim
  · rename_i o heq
    obtain ⟨hdg, -, hv⟩ := hT heq (fun h => by cases h)
    have hdg := hdg (Nat.succ_ne_zero _)
    simp only [am_chv, heq, decide_eq_true_eq] at hv
    split at q
    · exact lv_if_ne hx hb hdg hv (fun z => q.1 z xq A H locs hn hl hW hS) (fun z => q.2 z xq A H locs hn hl hW hS)
    · exact q.elim
  · rename_i o heq
    obtain ⟨hdg, -, hv⟩ := hT heq (fun h => by cases h)
    have hdg := hdg (Nat.succ_ne_zero _)
    simp only [am_chv, heq, decide_eq_true_eq] at hv
    split at q
    · exact lv_if_lt hx hb hdg hv (fun z => q.1 z xq A H locs hn hl hW hS) (fun z => q.2 z xq A H locs hn hl hW hS)
    · exact q.elim
  · rename_i o heq
    obtain ⟨hdg, -, hv⟩ := hT heq (fun h => by cases h)
    have hdg := hdg (Nat.succ_ne_zero _)
    simp only [am_chv, heq, decide_eq_true_eq] at hv
    split at q
    · exact lv_if_ge hx hb hdg hv (fun z => q.1 (Int32.not_lt.mpr z) xq A H locs hn hl hW hS) (fun z => q.2 (Int32.not_le.mp z) xq A H locs hn hl hW hS)
    · exact q.elim
  · rename_i o heq
    obtain ⟨hdg, -, hv⟩ := hT heq (fun h => by cases h)
    have hdg := hdg (Nat.succ_ne_zero _)
    simp only [am_chv, heq, decide_eq_true_eq] at hv
    split at q
    · exact lv_if_le hx hb hdg hv (fun z => q.1 z xq A H locs hn hl hW hS) (fun z => q.2 z xq A H locs hn hl hW hS)
    · exact q.elim
  · rename_i o heq
    obtain ⟨hdg, -, hv⟩ := hT heq (fun h => by cases h)
    have hdg := hdg (Nat.succ_ne_zero _)
    simp only [am_chv, heq, decide_eq_true_eq] at hv
    split at q
    · exact lv_if_gt hx hb hdg hv (fun z => q.1 (Int32.not_le.mpr z) xq A H locs hn hl hW hS) (fun z => q.2 (Int32.not_lt.mp z) xq A H locs hn hl hW hS)
    · exact q.elim
  · rename_i o heq
    obtain ⟨hdg, -, hv⟩ := hT heq (fun h => by cases h)
    have hdg := hdg (Nat.succ_ne_zero _)
    simp only [am_chv, heq, decide_eq_true_eq] at hv
    split at q
    · exact lv_icmp_eq hx hb hdg hv (fun z => q.1 z xq A H locs hn hl hW hS) (fun z => q.2 z xq A H locs hn hl hW hS)
    · exact q.elim
  · rename_i o heq
    obtain ⟨hdg, -, hv⟩ := hT heq (fun h => by cases h)
    have hdg := hdg (Nat.succ_ne_zero _)
    simp only [am_chv, heq, decide_eq_true_eq] at hv
    split at q
    · exact lv_icmp_ne hx hb hdg hv (fun z => q.1 z xq A H locs hn hl hW hS) (fun z => q.2 z xq A H locs hn hl hW hS)
    · exact q.elim
  · rename_i o heq
    obtain ⟨hdg, -, hv⟩ := hT heq (fun h => by cases h)
    have hdg := hdg (Nat.succ_ne_zero _)
    simp only [am_chv, heq, decide_eq_true_eq] at hv
    split at q
    · exact lv_icmp_lt hx hb hdg hv (fun z => q.1 z xq A H locs hn hl hW hS) (fun z => q.2 z xq A H locs hn hl hW hS)
    · exact q.elim
  · rename_i o heq
    obtain ⟨hdg, -, hv⟩ := hT heq (fun h => by cases h)
    have hdg := hdg (Nat.succ_ne_zero _)
    simp only [am_chv, heq, decide_eq_true_eq] at hv
    split at q
    · exact lv_icmp_ge hx hb hdg hv (fun z => q.1 (Int32.not_lt.mpr z) xq A H locs hn hl hW hS) (fun z => q.2 (Int32.not_le.mp z) xq A H locs hn hl hW hS)
    · exact q.elim
  · rename_i o heq
    obtain ⟨hdg, -, hv⟩ := hT heq (fun h => by cases h)
    have hdg := hdg (Nat.succ_ne_zero _)
    simp only [am_chv, heq, decide_eq_true_eq] at hv
    split at q
    · exact lv_icmp_le hx hb hdg hv (fun z => q.1 z xq A H locs hn hl hW hS) (fun z => q.2 z xq A H locs hn hl hW hS)
    · exact q.elim
  · rename_i o heq
    obtain ⟨hdg, -, hv⟩ := hT heq (fun h => by cases h)
    have hdg := hdg (Nat.succ_ne_zero _)
    simp only [am_chv, heq, decide_eq_true_eq] at hv
    split at q
    · exact lv_icmp_gt hx hb hdg hv (fun z => q.1 (Int32.not_le.mpr z) xq A H locs hn hl hW hS) (fun z => q.2 (Int32.not_lt.mp z) xq A H locs hn hl hW hS)
    · exact q.elim
  · rename_i o heq
    obtain ⟨hdg, -, hv⟩ := hT heq (fun h => by cases h)
    have hdg := hdg (Nat.succ_ne_zero _)
    simp only [am_chv, heq, decide_eq_true_eq] at hv
    split at q
    · exact lv_ifnull hx hb hdg (q xq A H locs hn hl hW hS)
    · exact lv_ifnullN hx hb hdg hv (q xq A H locs hn hl hW hS)
    · exact q.elim
  · rename_i o heq
    obtain ⟨hdg, -, hv⟩ := hT heq (fun h => by cases h)
    have hdg := hdg (Nat.succ_ne_zero _)
    simp only [am_chv, heq, decide_eq_true_eq] at hv
    exact lv_goto hx hb hdg hv (q xq A H locs hn hl hW hS)
  · rename_i d lo hi os heq
    obtain ⟨-, ⟨len, hdg⟩, hv⟩ := hT heq (fun h => by cases h)
    simp only [am_chv, heq, Bool.and_eq_true, decide_eq_true_eq] at hv
    obtain ⟨⟨hv1, hv2⟩, hv3⟩ := hv
    split at q
    · rename_i x r
      rcases am_tsw_sel _ _ _ hv2 q with ⟨j, off, t, e1, e2, e3, e4⟩ | ⟨e1, e2⟩
      · have hj := (List.getElem?_eq_some_iff.mp e1).1
        exact lv_tableIn hx hb hdg (by omega) (by omega) (by rw [e2, show (lo + (j : Int) - lo).toNat = j by omega, ← Array.getElem?_toList]; exact e1) e3 (e4 xq A H locs hn hl hW hS)
      · refine lv_tableOut hx hb hdg ?_ hv1 (e2 xq A H locs hn hl hW hS)
        rcases Int.lt_or_le x.toInt lo with z | z
        · exact Or.inl z
        · rcases Int.lt_or_le hi x.toInt with z2 | z2
          · exact Or.inr z2
          · exact absurd (by omega) (e1 (x.toInt - lo).toNat (by omega))
    · exact q.elim
  · rename_i d ps heq
    obtain ⟨-, ⟨len, hdg⟩, hv⟩ := hT heq (fun h => by cases h)
    simp only [am_chv, heq, Bool.and_eq_true, decide_eq_true_eq] at hv
    obtain ⟨⟨hv1, hv2⟩, hv3⟩ := hv
    split at q
    · obtain ⟨t, e1, e2⟩ := am_lsw_sel hv1 _ _ hv2 q
      exact lv_lookup hx hb hdg hv3 rfl e1 (e2 xq A H locs hn hl hW hS)
    · exact q.elim
  · rename_i heq
    obtain ⟨hdg, -, hv⟩ := hT heq (fun h => by cases h)
    have hdg := hdg (Nat.succ_ne_zero _)
    split at q
    · rename_i i o r
      split at q
      · rename_i k n fs hg
        obtain ⟨h1, q⟩ := am_bt q
        rcases am_gs_or hW hg with hat | ⟨-, cell, r1, r2, r3, r4, r5, r6⟩
        · rw [am_ce_i h1] at hat
          exact va_iald hx hb hK (am_P1 hat) 0 0 rfl rfl (am_in_vp q.1) hdg (q.2 xq A H locs hn hl hW hS)
        · have hin := am_in_vp q.1
          have hlt : i.toNatClampNeg < n := Nat.not_le.mp fun z => hin (Or.inr z)
          exact W.iald (v := .int (h.1 o i.toNatClampNeg)) hx hb r1 (hG.of r2 r4) r3 (by rw [r5]; exact hin) (r6 _ hlt) rfl rfl hdg (q.2 xq A H locs hn hl hW hS)
      · exact q.elim
    · exact q.elim
  · exact q.elim
  · rename_i heq
    obtain ⟨hdg, -, hv⟩ := hT heq (fun h => by cases h)
    have hdg := hdg (Nat.succ_ne_zero _)
    split at q
    · rename_i i o r
      split at q
      · rename_i k n fs hg
        obtain ⟨h1, q⟩ := am_bt q
        have hat := am_gs_at hW hg (fun e => by have e1 := am_beq h1; have e2 : k = 5 := e; omega)
        rw [am_ce_l h1] at hat
        exact va_lald hx hb hK (am_P1 hat) 0 2 rfl rfl (am_in_vp q.1) hdg (q.2 xq A H locs hn hl hW hS)
      · exact q.elim
    · exact q.elim
  · rename_i heq
    obtain ⟨hdg, -, hv⟩ := hT heq (fun h => by cases h)
    have hdg := hdg (Nat.succ_ne_zero _)
    split at q
    · rename_i i o r
      split at q
      · rename_i k n fs hg
        obtain ⟨h1, q⟩ := am_bt q
        simp only [Bool.and_eq_true] at h1
        have hat := am_gs_at hW hg (fun e => by have e1 := am_beq h1.1.1; have e2 : k = 5 := e; omega)
        rw [am_ce_q h1.1.1] at hat
        have hnf := am_beq h1.1.2
        have hn3 := am_blt h1.2
        refine va_aldq hx hb hK (am_P1 hat) 0 3 rfl rfl (am_in_vp q.1) hdg ?_
        obtain ⟨j, hj, hij⟩ := vp_in_of (am_in_vp q.1) (Nat.lt_of_lt_of_le hn3 (Nat.le_of_ble_eq_true rfl))
        obtain ⟨c0, hc0⟩ : ∃ c0, fs[j]? = some c0 := ⟨fs[j]'(by omega), List.getElem?_eq_getElem (by omega)⟩
        have hji : i.toNatClampNeg = j := by rw [hij, nI_clamp (by omega)]
        rw [hji]
        show W _ _ _ _ _ _ _ _ _ _ _ _ _ _ _ (F0 m (pc + 1) A (va_rf (fs[j]?.map ad) :: _))
        rw [hc0]
        exact am_aa_sel fs 0 j c0 q.2 (by rw [hij, Nat.zero_add]) hc0 (by omega) xq A H locs hn hl hW hS
      · exact q.elim
    · exact q.elim
  · rename_i heq
    obtain ⟨hdg, -, hv⟩ := hT heq (fun h => by cases h)
    have hdg := hdg (Nat.succ_ne_zero _)
    split at q
    · rename_i x i o r
      split at q
      · rename_i k n fs hg
        obtain ⟨h1, q⟩ := am_bt q
        simp only [Bool.and_eq_true] at h1
        have hsh := am_gs_rw hg h1.2
        have he := am_wl_at (G := G) (ad := ad) (h := h) hsh
        rw [am_ce_i (by rw [h1.1]; rfl)] at he
        refine va_iast hx hb hK hW.1 hW.2.1 hS o 0 he rfl (am_in_vp q.1) hdg (fun H1 locs1 hP1 _ hS1 => ?_)
        have hW1 := hW.put2 (h' := am_si h o (am_ix i) x) hsh (am_blt h1.2) (by
          rw [am_ce_i (by rw [h1.1]; rfl)]
          dsimp only
          rw [am_up_self]
          exact hP1) (am_roW hG.1 hS hS1) (fun k hk => ⟨am_up_ne hk, rfl⟩)
        have k9 := q.2 xq A H1 locs1 hn hl hW1 hS1
        dsimp only at k9
        rw [(hbud h o (am_ix i) (am_blt h1.2)).1 x] at k9
        exact k9
      · exact q.elim
    · exact q.elim
  · exact q.elim
  · rename_i heq
    obtain ⟨hdg, -, hv⟩ := hT heq (fun h => by cases h)
    have hdg := hdg (Nat.succ_ne_zero _)
    split at q
    · rename_i x i o r
      split at q
      · rename_i k n fs hg
        obtain ⟨h1, q⟩ := am_bt q
        simp only [Bool.and_eq_true] at h1
        have hsh := am_gs_rw hg h1.2
        have he := am_wl_at (G := G) (ad := ad) (h := h) hsh
        rw [am_ce_l h1.1] at he
        refine va_last hx hb hK hW.1 hW.2.1 hS o 2 he rfl (am_in_vp q.1) hdg (fun H1 locs1 hP1 _ hS1 => ?_)
        have hW1 := hW.put2 (h' := am_sl h o (am_ix i) x) hsh (am_blt h1.2) (by
          rw [am_ce_l h1.1]
          dsimp only
          rw [am_upL_self]
          exact hP1) (am_roW hG.1 hS hS1) (fun k hk => ⟨rfl, am_upL_ne hk⟩)
        have k9 := q.2 xq A H1 locs1 hn hl hW1 hS1
        dsimp only at k9
        rw [(hbud h o (am_ix i) (am_blt h1.2)).2 x] at k9
        exact k9
      · exact q.elim
    · exact q.elim
  · rename_i heq
    obtain ⟨hdg, -, hv⟩ := hT heq (fun h => by cases h)
    have hdg := hdg (Nat.succ_ne_zero _)
    split at q
    · rename_i o r
      split at q
      · rename_i k n fs hg
        obtain ⟨h1, q⟩ := am_bt q
        rcases am_gs_or hW hg with hat | ⟨-, cell, r1, r2, r3, r4, r5, r6⟩
        · obtain ⟨t0, ty, x0, hce, hty, hx0⟩ := am_ce_arr (G := G) (ad := ad) (h := h) (o := o) (n := n) (fs := fs) h1
          rw [hce] at hat
          exact va_alen hx hb hK (am_P1 hat) 0 t0 rfl hty (by rw [hx0]) hdg (q xq A H locs hn hl hW hS)
        · exact W.alen (n := Int32.ofNat n) hx hb r1 (hG.of r2 r4) (by rw [r5] <;> rfl) rfl rfl hdg (q xq A H locs hn hl hW hS)
      · exact q.elim
    · exact q.elim
  · rename_i i heq
    obtain ⟨hdg, -, hv⟩ := hT heq (fun h => by cases h)
    have hdg := hdg (Nat.succ_ne_zero _)
    split at q
    · rename_i o r
      split at q
      · rename_i ci j k cj fs hf hg
        obtain ⟨h1, q0⟩ := am_bt q
        clear q
        simp only [Bool.and_eq_true] at h1
        split at q0
        · rename_i f hfj
          have e0 := am_beq h1.2
          subst e0
          obtain ⟨C, T, N, e1, e2, e3, e4⟩ := hfld _ (am_lk_mem hf)
          have hat := am_gs_at hW hg (fun e => by have e1 := am_beq h1.1; have e2 : k = 5 := e; omega)
          rw [am_ce_o h1.1] at hat
          have hv2 : (fs.mapIdx (fun i f => am_cv ad 0 (am_fv h o i f)))[j]? = some (am_cv ad xq (am_fv h o j f)) := by
            rw [List.getElem?_mapIdx, hfj, am_cv_xq (xq := xq) (yq := 0) (am_fv_ra h o j f)]
            rfl
          rcases e4 with e4 | ⟨host, e4⟩
          · exact va_get hx hb hts (am_clsU e1) hown hK (am_P1 hat) 0 rfl e1 j e2 (hts _ e4) (by rw [e3]; exact fun _ z => z) hv2 hdg (q0 xq A H locs hn hl hW hS)
          · exact va_getN hx hb hts (am_clsU e1) hown hK (am_P1 hat) 0 rfl e1 j e2 (hts _ e4) (by rw [e3]; exact fun _ z => z) hv2 hdg (q0 xq A H locs hn hl hW hS)
        · exact q0.elim
      · exact q.elim
    · exact q.elim
  · rename_i i heq
    obtain ⟨hdg, -, hv⟩ := hT heq (fun h => by cases h)
    have hdg := hdg (Nat.succ_ne_zero _)
    split at q
    · rename_i x o r
      split at q
      · rename_i ci j k cj fs hf hg
        obtain ⟨h1, q0⟩ := am_bt q
        clear q
        simp only [Bool.and_eq_true] at h1
        split at q0
        · rename_i f hfj
          obtain ⟨h2, q1⟩ := am_bt q0
          clear q0
          have e9 := am_beq h2
          subst e9
          have e0 := am_beq h1.1.2
          subst e0
          obtain ⟨C, T, N, e1, e2, e3, e4⟩ := hfld _ (am_lk_mem hf)
          have hsh := am_gs_rw hg h1.2
          have he := am_wl_at (G := G) (ad := ad) (h := h) hsh
          rw [am_ce_o h1.1.1] at he
          obtain ⟨C', T', N', e1', -, hfin, hty⟩ := (hW.2.2.2 _ (List.mem_of_getElem? hsh) (am_beq h1.1.1) j _ hfj).1 rfl
          cases Option.some.inj (e1.symm.trans e1')
          have hjl : j < (fs.mapIdx (fun i f => am_cv ad 0 (am_fv h o i f))).length := by rw [List.length_mapIdx]; exact (List.getElem?_eq_some_iff.mp hfj).1
          have kk : ∀ (H1 : Heap) (locs1 : List Loc), va_P D vwCl ((am_wl G ad h sh).set o (ad o, .inr (ci, (fs.mapIdx (fun i f => am_cv ad 0 (am_fv h o i f))).set j (.int x)))) H1 → va_D (am_A G) ((am_wl G ad h sh).set o (ad o, .inr (ci, (fs.mapIdx (fun i f => am_cv ad 0 (am_fv h o i f))).set j (.int x)))) → va_S (am_A G) s.heap H1 locs1 →
              W p l e R s m args below meth c H1 locs1 (m_bud M h) (so + 6 * m_bud M h) Q (F0 m (pc + 3) A (r.map (am_cv ad xq))) := fun H1 locs1 hP1 _ hS1 => by
            have hW1 := hW.put2 (h' := am_si h o j x) hsh (am_blt h1.2) (by rw [am_ce_o h1.1.1, ← am_fsI hfj]; exact hP1) (am_roW hG.1 hS hS1) (fun k hk => ⟨am_up_ne hk, rfl⟩)
            have k9 := q1 xq A H1 locs1 hn hl hW1 hS1
            dsimp only at k9
            rw [(hbud h o j (am_blt h1.2)).1 x] at k9
            exact k9
          obtain ⟨hin, ⟨ty0, hty0⟩, hnm⟩ := am_cls e1
          rcases e4 with e4 | ⟨host, e4⟩
          · exact va_put hx hb hts (am_clsU e1) ty0 hty0 hnm hown hK hW.1 hW.2.1 hS o he e1 j e2 (hts _ e4) (by rw [e3]; exact fun _ z => z) hfin hty rfl rfl hjl hdg kk
          · exact va_putN hx hb hts (am_clsU e1) ty0 hty0 hnm hown hK hW.1 hW.2.1 hS o he e1 j e2 (hts _ e4) (by rw [e3]; exact fun _ z => z) hfin hty rfl rfl hjl hdg kk
        · exact q0.elim
      · exact q.elim
    · rename_i x o r
      split at q
      · rename_i ci j k cj fs hf hg
        obtain ⟨h1, q0⟩ := am_bt q
        clear q
        simp only [Bool.and_eq_true] at h1
        split at q0
        · rename_i f hfj
          obtain ⟨h2, q1⟩ := am_bt q0
          clear q0
          have e9 := am_beq h2
          subst e9
          have e0 := am_beq h1.1.2
          subst e0
          obtain ⟨C, T, N, e1, e2, e3, e4⟩ := hfld _ (am_lk_mem hf)
          have hsh := am_gs_rw hg h1.2
          have he := am_wl_at (G := G) (ad := ad) (h := h) hsh
          rw [am_ce_o h1.1.1] at he
          obtain ⟨C', T', N', e1', -, hfin, hty⟩ := (hW.2.2.2 _ (List.mem_of_getElem? hsh) (am_beq h1.1.1) j _ hfj).2 rfl
          cases Option.some.inj (e1.symm.trans e1')
          have hjl : j < (fs.mapIdx (fun i f => am_cv ad 0 (am_fv h o i f))).length := by rw [List.length_mapIdx]; exact (List.getElem?_eq_some_iff.mp hfj).1
          have kk : ∀ (H1 : Heap) (locs1 : List Loc), va_P D vwCl ((am_wl G ad h sh).set o (ad o, .inr (ci, (fs.mapIdx (fun i f => am_cv ad 0 (am_fv h o i f))).set j (.long x)))) H1 → va_D (am_A G) ((am_wl G ad h sh).set o (ad o, .inr (ci, (fs.mapIdx (fun i f => am_cv ad 0 (am_fv h o i f))).set j (.long x)))) → va_S (am_A G) s.heap H1 locs1 →
              W p l e R s m args below meth c H1 locs1 (m_bud M h) (so + 6 * m_bud M h) Q (F0 m (pc + 3) A (r.map (am_cv ad xq))) := fun H1 locs1 hP1 _ hS1 => by
            have hW1 := hW.put2 (h' := am_sl h o j x) hsh (am_blt h1.2) (by rw [am_ce_o h1.1.1, ← am_fsL hfj]; exact hP1) (am_roW hG.1 hS hS1) (fun k hk => ⟨rfl, am_upL_ne hk⟩)
            have k9 := q1 xq A H1 locs1 hn hl hW1 hS1
            dsimp only at k9
            rw [(hbud h o j (am_blt h1.2)).2 x] at k9
            exact k9
          obtain ⟨hin, ⟨ty0, hty0⟩, hnm⟩ := am_cls e1
          rcases e4 with e4 | ⟨host, e4⟩
          · exact va_put hx hb hts (am_clsU e1) ty0 hty0 hnm hown hK hW.1 hW.2.1 hS o he e1 j e2 (hts _ e4) (by rw [e3]; exact fun _ z => z) hfin hty rfl rfl hjl hdg kk
          · exact va_putN hx hb hts (am_clsU e1) ty0 hty0 hnm hown hK hW.1 hW.2.1 hS o he e1 j e2 (hts _ e4) (by rw [e3]; exact fun _ z => z) hfin hty rfl rfl hjl hdg kk
        · exact q0.elim
      · exact q.elim
    · exact q.elim
  · rename_i i heq
    obtain ⟨hdg, -, hv⟩ := hT heq (fun h => by cases h)
    have hdg := hdg (Nat.succ_ne_zero _)
    split at q
    · rename_i c0 hc0
      obtain ⟨n, hmem, hlink⟩ := hstc _ (am_lk_mem hc0)
      rcases hlink with hlink | ⟨host, hlink⟩
      · exact va_gets hx hb (hZ.2.2.1 _ hmem) hS hown (hts _ hlink) (fun _ z => z) hdg (q xq A H locs hn hl hW hS)
      · exact va_getsN hx hb (hZ.2.2.1 _ hmem) hS hown (hts _ hlink) (fun _ z => z) hdg (q xq A H locs hn hl hW hS)
    · exact q.elim
  · rename_i i heq
    obtain ⟨hdg, -, hv⟩ := hT heq (fun h => by cases h)
    have hdg := hdg (Nat.succ_ne_zero _)
    exact hcall (virt := false) hdg q
  · rename_i i heq
    obtain ⟨hdg, -, hv⟩ := hT heq (fun h => by cases h)
    have hdg := hdg (Nat.succ_ne_zero _)
    exact hcall (virt := true) hdg q
  · rename_i heq
    obtain ⟨hdg, -, hv⟩ := hT heq (fun h => by cases h)
    have hdg := hdg (Nat.succ_ne_zero _)
    split at q
    · split at q
      · rename_i hrt
        exact hE1 _ h pc A H locs (by rw [hrt]; exact trivial) q hdg hW hS
      · rename_i hrt
        exact hE1 _ h pc A H locs (by rw [hrt]; exact q.1) q.2 hdg hW hS
      · exact q.elim
    · exact q.elim
  · rename_i heq
    obtain ⟨hdg, -, hv⟩ := hT heq (fun h => by cases h)
    have hdg := hdg (Nat.succ_ne_zero _)
    split at q
    · split at q
      · rename_i hrt
        exact hE2 _ h pc A H locs hrt q hdg hW hS
      · exact q.elim
    · exact q.elim
  · rename_i heq
    obtain ⟨hdg, -, hv⟩ := hT heq (fun h => by cases h)
    have hdg := hdg (Nat.succ_ne_zero _)
    split at q
    · split at q
      · rename_i hrt
        exact hE3 _ h pc A H locs hrt q hdg hW hS
      · exact q.elim
    · exact q.elim
  · rename_i heq
    obtain ⟨hdg, -, hv⟩ := hT heq (fun h => by cases h)
    have hdg := hdg (Nat.succ_ne_zero _)
    split at q
    · split at q
      · rename_i hrt
        exact hE4 h pc A H locs hrt q hdg hW hS
      · exact q.elim
    · exact q.elim
  · rename_i i heq
    obtain ⟨hdg, -, hv⟩ := hT heq (fun h => by cases h)
    have hdg := hdg (Nat.succ_ne_zero _)
    split at q
    · rename_i E ht
      obtain ⟨h1, q⟩ := am_bt q
      exact hE5 E h pc _ xq A _ H locs ht (Nat.le_of_ble_eq_true h1) q hdg hAs hW hS
    · exact q.elim
  · exact q.elim
end AMMAIN
