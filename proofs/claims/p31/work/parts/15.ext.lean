/-! CONTRACTS of methods that call a native, and of those that take their cells by reference. -/
/-- a contract, where the machine makes other steps too (Ext): natives -/
theorem am_met2 {l : Launch} (hl : l.stackTraces = false) {sh ro : List Sh} {cd : CD} {M : MI} {own : String} (Ext : (Cfg → Prop) → Cfg → Prop) (hy : (c_y cd).cls = own) (hpl : plainFor (c_y cd) = true) (hcw : Cond.code (c_y cd) (c_b cd) (c_mL cd) (c_rt cd) ∈ am_U) (hrt : c_rt cd = m_rt M) (hfr : c_fr cd = m_fr M) (hlo : c_lo cd = m_lo M) (hB : m_B M = 1) (hbud : ∀ h, m_bud M h = 0) (hhd : m_hdl M = [])
    (hMok : am_Mok own (c_b cd) M) (hth : ∀ q ∈ m_thr M, am_thok own (c_b cd) M q.1 q.2) (hok : ∀ q ∈ m_inv M, am_Ok l sh ro q.2) (hnp : c_part cd = false → ∀ as h, g_ok (c_g cd sh ro as h) = true → g_pre (c_g cd sh ro as h)) (hnt : c_thr cd = false → ∀ as h, g_ok (c_g cd sh ro as h) = true → g_thr (c_g cd sh ro as h) = none)
    (hext : ∀ (p : Program) (e : Env) (R : Room) (s : State) (m : MethodId) (args : Array Value) (below : List Frame) (meth : Method) (c : Code) (D : va_G) (G ad : Nat → Nat) (Q : State → Prop), p.tables.exec = Jvm.exec → c.code = c_b cd → s.vm.findClass own = some m.cls → (∀ w ∈ am_U, w.before args s = true) → va_K D vwCl (am_tys G) s → G 4 ≤ s.heap.size → m_fr M ≤ R.frames → m_lo M ≤ R.locals → ∀ d, Ext (am_X p l e R s m args below meth c D G ad sh ro M 0 Q) d → am_X p l e R s m args below meth c D G ad sh ro M 0 Q d)
    (hev : ∀ (as : List Value) (h : HP), g_ok (c_g cd sh ro as h) = true → g_pre (c_g cd sh ro as h) → (am_loc as).length ≤ c_mL cd ∧ ∀ X : Cfg → Prop, (∀ d, am_F M sh ro (am_eq (c_g cd sh ro as h)) X d → X d) → (∀ d, Ext X d → X d) → X (0, am_ent as (c_mL cd), [], h)) : am_Ok l sh ro cd := by
  refine ⟨_, Or.inl rfl, hcw, fun D G ad xq as h hg => ⟨fun hp => hnp hp as h hg, fun hg2 => ⟨fun ht => hnt ht as h hg, ?_⟩⟩⟩
  obtain ⟨hlen, hev⟩ := hev as h hg hg2
  generalize c_g cd sh ro as h = g at hg hg2 hev
  refine am_ofW hpl ?_
  intro p e s m args below meth c s₁ B hml ht hPc
  obtain ⟨rfl, hW, hK, hZ, hG⟩ := hPc
  have hts0 := atoms_spec (ws := Cond.code (c_y cd) (c_b cd) (c_mL cd) (c_rt cd) :: am_U) B.pre
  have hts : ∀ w ∈ am_U, w.before (as.map (am_cv ad xq)).toArray s = true := fun w hw => hts0 w (List.mem_cons_of_mem _ hw)
  have hown : s.vm.findClass own = some m.cls := by rw [← hy]; exact findClass_of_methodNamed B.named
  have hE := am_ends (p := p) (e := e) (R := (headSpec (Cond.code (c_y cd) (c_b cd) (c_mL cd) (c_rt cd) :: am_U) (am_rm cd)).room) (s := s) (m := m) (args := (as.map (am_cv ad xq)).toArray) (below := below) (meth := meth) (c := c) (D := D) (G := G) (ad := ad) (sh := sh) (ro := ro) (M := M) (g := g)
    B.exec B.bytes (B.returns.trans hrt) B.notSynchronized ht hl hown hts hZ hth hhd (Nat.le_of_eq hfr.symm) (Nat.le_of_eq hlo.symm) (Nat.le_add_left 1 _) (Nat.le_add_left 6 _) hbud (c_mc cd)
  have k := hev (am_X p l e (headSpec (Cond.code (c_y cd) (c_b cd) (c_mL cd) (c_rt cd) :: am_U) (am_rm cd)).room s m (as.map (am_cv ad xq)).toArray below meth c D G ad sh ro M 0 (am_MQ below (am_Qc D G ad sh ro g) (am_XC D G ad sh ro g) (as.map (am_cv ad xq)).toArray s (c_mc cd) (6 * c_mc cd) (am_A G)))
    (fun d hd => am_core (own := own) B.exec B.bytes hown hts hG hK hZ hMok hok (Nat.le_of_eq hfr.symm) (Nat.le_of_eq hlo.symm) (by rw [hB]; exact Nat.le_add_left 1 _) (by rw [hB]; show 0 + 6 * 1 ≤ 6 * c_mc cd + 6; omega) (fun h o k _ => ⟨fun x => by rw [hbud, hbud], fun x => by rw [hbud, hbud]⟩) hE d hd)
    (fun d hd => hext p e _ s m _ below meth c D G ad _ B.exec B.bytes hown hts hK hG.1 (Nat.le_of_eq hfr.symm) (Nat.le_of_eq hlo.symm) d hd)
  have hent := am_ent_has ad xq as (c_mL cd) hlen
  have hl2 : (am_ent as (c_mL cd)).length = c.maxLocals := by
    rw [hml]; simp [am_ent]; omega
  have k2 := k xq _ s.heap [] hl2 hent hW va_S.rf
  dsimp only at k2
  rw [hbud] at k2
  rw [lg_entry_eq]
  exact k2
/-- several steps at once, for any predicate that steps make true -/
theorem am_XG {M : MI} {sh ro : List Sh} {P : AR → HP → Prop} {X : Cfg → Prop} (hX : ∀ d, am_F M sh ro P X d → X d) (cut : List Nat) : ∀ (k : Nat) (c : Cfg), am_G M sh ro P cut X k c → X c
  | 0, _, q => q
  | k + 1, c, q => hX c (am_F_mono (fun d hd => by
      revert hd
      cases am_cut cut d.1 with
      | true => exact fun z => z
      | false => exact fun z => am_XG hX cut k d z) c q)
def k_B_copy (pc : Nat) : Ent := bif Nat.ble 15 pc then am_nop else bif Nat.ble 5 pc then (bif Nat.ble 8 pc then (bif Nat.ble 11 pc then (bif Nat.ble 14 pc then (bif Nat.beq pc 14 then (.return_, 0, 0, []) else am_nop) else (bif Nat.beq pc 11 then (.invokestatic 374, 0, 0, []) else am_nop)) else (bif Nat.beq pc 8 then (.invokestatic 290, 0, 0, []) else am_nop)) else (bif Nat.ble 6 pc then (bif Nat.ble 7 pc then (bif Nat.beq pc 7 then (.arraylength, 0, 0, []) else am_nop) else (bif Nat.beq pc 6 then (.aload_n 1, 0, 1, []) else am_nop)) else (bif Nat.beq pc 5 then (.arraylength, 0, 0, []) else am_nop))) else (bif Nat.ble 2 pc then (bif Nat.ble 3 pc then (bif Nat.ble 4 pc then (bif Nat.beq pc 4 then (.aload_n 0, 0, 0, []) else am_nop) else (bif Nat.beq pc 3 then (.iconst 0, 0, 0, []) else am_nop)) else (bif Nat.beq pc 2 then (.aload_n 1, 0, 1, []) else am_nop)) else (bif Nat.ble 1 pc then (bif Nat.beq pc 1 then (.iconst 0, 0, 0, []) else am_nop) else (bif Nat.beq pc 0 then (.aload_n 0, 0, 0, []) else am_nop)))
theorem chk_B_copy : ∀ pc, am_chk cX5_copy k_B_copy pc = true := am_chkall 15 (by decide +kernel) (fun pc h => by unfold k_B_copy; rw [Nat.ble_eq_true_of_le h]; rfl)
theorem pf_B_copy : plainFor yX5_copy = true := by decide +kernel
theorem cu_B_copy : Cond.code yX5_copy cX5_copy 2 none ∈ am_U := am_tb 330 (by decide +kernel) rfl
theorem dc_copy : decode cX5_copy 11 = .ok (.invokestatic 374, 3) := by decide +kernel
theorem dw_copy : nativeFrameWords "java/lang/System" "arraycopy" 5 + 11 ≤ 40 := by decide
theorem cpy_v (n : Nat) (h : HP) (r1 r2 : Nat) : va_cpy (h.1 r1) (h.1 r2) 0 0 n = (v_copy n h r1 r2).1 r2 := by
  funext i
  unfold va_cpy v_copy
  simp only [if_pos, Nat.zero_add, Nat.sub_zero, Nat.zero_le, true_and]
def m_B_copy : MI := (k_B_copy, [], [(290, d_J_min 0)], [], [], [], [], 1, 40, none, fun _ => 0, 1)
def g_B_copy (sh ro : List Sh) (as : List Value) (h : HP) : GR := match as with
  | [.ref r1, .ref r2] => (match am_gs sh ro r1, am_gs sh ro r2 with
    | some (k1, n1, _), some (k2, n2, _) => (Nat.beq k1 0 && Nat.beq k2 0 && Nat.blt r1 1000 && Nat.blt r2 1000 && Nat.beq n1 n2 && Nat.blt n1 1000, True, none, none, v_copy n1 h r1 r2)
    | _, _ => bad h)
  | _ => bad h
def d_B_copy (k : Nat) : CD := (k, yX5_copy, cX5_copy, 2, none, 2, 1, 40, 0, false, false, g_B_copy)
/-- System.arraycopy of whole rows -/
def xt_copy (sh ro : List Sh) (X : Cfg → Prop) (d : Cfg) : Prop := ∃ (ls : List Value) (r1 r2 n : Nat) (f1 f2 : List Nat) (h : HP), d = (11, ls, [.int (Int32.ofNat n), .int 0, .ref r2, .int 0, .ref r1], h) ∧ am_gs sh ro r1 = some (0, n, f1) ∧ am_gs sh ro r2 = some (0, n, f2) ∧ Nat.blt r1 1000 = true ∧ Nat.blt r2 1000 = true ∧ n < 1000 ∧ X (14, ls, [], v_copy n h r1 r2)
theorem xt_copy_ok {l : Launch} {sh ro : List Sh} (p : Program) (e : Env) (R : Room) (s : State) (m : MethodId) (args : Array Value) (below : List Frame) (meth : Method) (c : Code) (D : va_G) (G ad : Nat → Nat) (Q : State → Prop) (hx : p.tables.exec = Jvm.exec) (hb : c.code = cX5_copy) (hown : s.vm.findClass RX5 = some m.cls) (hts : ∀ w ∈ am_U, w.before args s = true) (hK : va_K D vwCl (am_tys G) s) (hG : G 4 ≤ s.heap.size) (hfr : m_fr m_B_copy ≤ R.frames) (hlo : m_lo m_B_copy ≤ R.locals) (d : Cfg)
    (hd : xt_copy sh ro (am_X p l e R s m args below meth c D G ad sh ro m_B_copy 0 Q) d) : am_X p l e R s m args below meth c D G ad sh ro m_B_copy 0 Q d := by
  obtain ⟨ls, r1, r2, n, f1, f2, h, rfl, h1, h2, b1, b2, hn, k⟩ := hd
  intro xq A H locs hll hA hW hS
  have e1 := am_gs_rw h1 b1
  have e2 := am_gs_rw h2 b2
  have w1 := am_wl_at (G := G) (ad := ad) (h := h) e1
  have w2 := am_wl_at (G := G) (ad := ad) (h := h) e2
  rw [am_ce_i rfl] at w1 w2
  have ec : (Int32.ofNat n).toNatClampNeg = n := nI_clamp (by omega)
  refine va_copyi (cc := cX5_copy) (own := RX5) (index := 374) (D := D) (cl := vwCl) (tys := am_tys G) (A := am_A G) (ws := am_wl G ad h sh) (H0 := s.heap) hx hb (hA.1.trans hll).symm hown (hts _ (am_tb 334 (by decide +kernel) rfl)) (hts _ (am_tb 336 (by decide +kernel) rfl)) (hts _ (am_tb 335 (by decide +kernel) rfl)) (hts _ (am_tb 13 (by decide +kernel) rfl)) hK hW.1 hW.2.1 hS r1 r2 0 0 (ty := .int) w1 w2 rfl rfl rfl
    (by decide) (by decide) (by rw [Int32.lt_iff_toInt_lt, nI_toI hn, Int32.toInt_zero]; omega) (by rw [ec]; simp) (by rw [ec]; simp) (fun i _ => rfl) (show 1 ≤ R.frames from hfr) (show 0 + (nativeFrameWords "java/lang/System" "arraycopy" 5 + 11) ≤ R.locals from by have := dw_copy; have h40 : 40 ≤ R.locals := hlo; omega) dc_copy ?_
  intro H1 locs1 hP1 hD1 hS1
  refine k xq A H1 locs1 hll hA ?_ hS1
  rw [ec, show (0 : Int32).toNatClampNeg = 0 from rfl, cpy_v, ← am_ce_i (G := G) (ad := ad) (h := v_copy n h r1 r2) (o := r2) (k := 0) (n := n) (fs := f2) rfl] at hP1
  refine hW.put2 e2 (am_blt b2) hP1 (fun q hq hA2 => ?_) (fun k hk => ?_)
  · rw [hS1.2.1 q (Nat.lt_of_lt_of_le hq hG) hA2, hS.2.1 q (Nat.lt_of_lt_of_le hq hG) hA2]
  · exact ⟨if_neg hk, rfl⟩
theorem lk_copy : am_lnk RX5 290 (d_J_min 0) := ⟨⟨by decide, by decide⟩, am_tb 7 (by decide +kernel) rfl, Or.inl ⟨by decide, rfl, am_tb 332 (by decide +kernel) rfl, Or.inl ⟨by decide, am_tb 331 (by decide +kernel) rfl⟩⟩⟩
theorem ok_B_copy {l : Launch} (hl : l.stackTraces = false) (sh ro : List Sh) (k : Nat) : am_Ok l sh ro (d_B_copy k) := by
  refine am_met2 hl (own := RX5) (M := m_B_copy) (xt_copy sh ro) rfl pf_B_copy cu_B_copy rfl rfl rfl rfl (fun _ => rfl) rfl ⟨chk_B_copy, am_n, am_c lk_copy am_n, am_n, am_n⟩ am_n (am_c (ok_J_min hl sh ro 0) am_n) ?_ ?_ (fun p e R s m args below meth c D G ad Q hx hb hown hts hK hG hfr hlo d hd => xt_copy_ok (l := l) p e R s m args below meth c D G ad Q hx hb hown hts hK hG hfr hlo d hd) ?_
  · intro _ as h hg
    show g_pre (g_B_copy sh ro as h)
    revert hg
    show g_ok (g_B_copy sh ro as h) = true → _
    unfold g_B_copy
    split
    · split
      · exact fun _ => trivial
      · exact fun z => nomatch z
    · exact fun z => nomatch z
  · intro _ as h hg
    show g_thr (g_B_copy sh ro as h) = none
    unfold g_B_copy
    split
    · split <;> rfl
    · rfl
  · intro as h hg hp2
    clear hp2
    revert hg
    show g_ok (g_B_copy sh ro as h) = true → _ ∧ ∀ X : Cfg → Prop, (∀ d, am_F m_B_copy sh ro (am_eq (g_B_copy sh ro as h)) X d → X d) → (∀ d, xt_copy sh ro X d → X d) → X (0, am_ent as 2, [], h)
    unfold g_B_copy
    split
    · split
      · rename_i r1 r2 x1 x2 k1 n1 f1 k2 n2 f2 h1 h2
        intro hg
        simp only [g_ok, Bool.and_eq_true] at hg
        obtain ⟨⟨⟨⟨⟨g1, g2⟩, g3⟩, g4⟩, g5⟩, g6⟩ := hg
        have e1 := am_beq g1
        have e2 := am_beq g2
        have e5 := am_beq g5
        subst e1; subst e2; subst e5
        refine ⟨Nat.le_refl _, fun X hX hY => ?_⟩
        refine am_XG hX [6] 10 _ ?_
        show (match am_gs sh ro r1 with | some (k, n, _) => bif Nat.blt k 4 || Nat.beq k 5 then X (6, [.ref r1, .ref r2], [.int (Int32.ofNat n), .int 0, .ref r2, .int 0, .ref r1], h) else False | none => False)
        rw [h1]
        show X (6, [.ref r1, .ref r2], [.int (Int32.ofNat n1), .int 0, .ref r2, .int 0, .ref r1], h)
        refine am_XG hX [8] 10 _ ?_
        show (match am_gs sh ro r2 with | some (k, n, _) => bif Nat.blt k 4 || Nat.beq k 5 then X (8, [.ref r1, .ref r2], [.int (Int32.ofNat n), .int (Int32.ofNat n1), .int 0, .ref r2, .int 0, .ref r1], h) else False | none => False)
        rw [h2]
        show X (8, [.ref r1, .ref r2], [.int (Int32.ofNat n1), .int (Int32.ofNat n1), .int 0, .ref r2, .int 0, .ref r1], h)
        refine am_XG hX [11] 10 _ ?_
        show X (11, [.ref r1, .ref r2], [.int (v_min (Int32.ofNat n1) (Int32.ofNat n1)), .int 0, .ref r2, .int 0, .ref r1], h)
        rw [show v_min (Int32.ofNat n1) (Int32.ofNat n1) = Int32.ofNat n1 from if_pos (Int32.le_refl _)]
        refine hY _ ⟨_, r1, r2, n1, f1, f2, h, rfl, h1, h2, g3, g4, am_blt g6, ?_⟩
        refine am_XG hX [] 10 _ ?_
        exact ⟨rfl, rfl, rfl⟩
      · exact fun z => nomatch z
    · exact fun z => nomatch z
def v_layk (k : Nat) (h : HP) (r1 : Nat) (p1 : Int32) (r2 : Nat) (p2 : Int32) : HP := (fun c => if c = r2 then (fun i => if p2.toInt.toNat ≤ i ∧ i < p2.toInt.toNat + k then h.1 r1 (p1.toInt.toNat + (i - p2.toInt.toNat)) else h.1 r2 i) else h.1 c, h.2)
theorem v_lay_0 (h : HP) (r1 : Nat) (p1 : Int32) (r2 : Nat) (p2 : Int32) : v_layk 0 h r1 p1 r2 p2 = h := by
  obtain ⟨h1, h2⟩ := h
  unfold v_layk
  congr 1
  funext c
  by_cases e : c = r2
  · subst e; rw [if_pos rfl]; funext i; rw [if_neg (by omega)]
  · rw [if_neg e]
theorem v_lay_s (k : Nat) (h : HP) (r1 : Nat) (p1 : Int32) (r2 : Nat) (p2 : Int32) (hr : r1 ≠ r2) : am_si (v_layk k h r1 p1 r2 p2) r2 (p2.toInt.toNat + k) ((v_layk k h r1 p1 r2 p2).1 r1 (p1.toInt.toNat + k)) = v_layk (k + 1) h r1 p1 r2 p2 := by
  unfold v_layk am_si
  congr 1
  funext c i
  unfold am_up upd
  by_cases e : c = r2
  · subst e
    simp only [if_pos]
    by_cases hi : i = p2.toInt.toNat + k
    · subst hi
      rw [if_pos rfl, if_neg hr, if_pos (by omega), Nat.add_sub_cancel_left]
    · rw [if_neg hi]
      by_cases hk : p2.toInt.toNat ≤ i ∧ i < p2.toInt.toNat + k
      · rw [if_pos hk, if_pos (by omega)]
      · rw [if_neg hk, if_neg (by omega)]
  · simp only [if_neg e]
theorem lay_ix {p : Int32} {k n : Nat} (h0 : 0 ≤ p.toInt) (h1 : p.toInt + 163 ≤ n) (hn : n < 1000) (hk : k < 163) : am_in (p + nI k) n ∧ am_ix (p + nI k) = p.toInt.toNat + k := by
  have e := nI_toInt (n := k) (by omega)
  have e2 : (p + nI k).toInt = p.toInt + k := by
    rw [Int32.toInt_add, e]
    exact Int.bmod_eq_of_le (by omega) (by omega)
  refine ⟨⟨by omega, by omega⟩, ?_⟩
  show (p + nI k).toInt.toNat = _
  rw [e2]
  omega