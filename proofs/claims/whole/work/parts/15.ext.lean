/-! CONTRACTS of methods that call a native, and of those that take their cells by reference. -/
/-- a contract, where the machine makes other steps too (Ext): natives -/
theorem am_met2 {l : Launch} (hl : l.stackTraces = false) {sh ro : List Sh} {cd : CD} {M : MI} {own : String} (Ext : (Cfg → Prop) → Cfg → Prop) (hy : (c_y cd).cls = own) (hpl : plainFor (c_y cd) = true) (hcw : Cond.code (c_y cd) (c_b cd) (c_mL cd) (c_rt cd) ∈ am_U) (hrt : c_rt cd = m_rt M) (hfr : c_fr cd = m_fr M) (hlo : c_lo cd = m_lo M) (hB : m_B M = 1) (hbud : ∀ h, m_bud M h = 0) (hhd : m_hdl M = [])
    (hMok : am_Mok own (c_b cd) M) (hth : ∀ q ∈ m_thr M, am_thok own (c_b cd) M q.1 q.2) (hok : ∀ q ∈ m_inv M, am_Ok l sh ro q.2) (hnp : c_part cd = false → ∀ as h, g_ok (c_g cd sh ro as h) = true → g_pre (c_g cd sh ro as h)) (hnt : c_thr cd = false → ∀ as h, g_ok (c_g cd sh ro as h) = true → g_thr (c_g cd sh ro as h) = none)
    (hext : ∀ (p : Program) (e : Env) (R : Room) (s : State) (m : MethodId) (args : Array Value) (below : List Frame) (meth : Method) (c : Code) (D : va_G) (G ad : Nat → Nat) (Q : State → Prop), p.tables.exec = Jvm.exec → c.code = c_b cd → s.vm.findClass own = some m.cls → (∀ w ∈ am_U, w.before args s = true) → va_K D vwCl (am_tys G) s → G 4 ≤ s.heap.size → m_fr M ≤ R.frames → m_lo M ≤ R.locals → ∀ d, Ext (am_X p l e R s m args below meth c D G ad sh ro M 0 Q) d → am_X p l e R s m args below meth c D G ad sh ro M 0 Q d)
    (hev : ∀ (as : List Value) (h : HP), g_ok (c_g cd sh ro as h) = true → g_pre (c_g cd sh ro as h) → (am_loc as).length ≤ c_mL cd ∧ ∀ X : Cfg → Prop, (∀ d, am_F M sh ro (am_eq (c_g cd sh ro as h)) X d → X d) → (∀ d, Ext X d → X d) → X (0, am_ent as (c_mL cd), [], h)) : am_Ok l sh ro cd := by
  refine ⟨_, Or.inl rfl, hcw, fun D G ad xq as h hg => ⟨fun hp => hnp hp as h hg, fun hg2 => ⟨fun ht => hnt ht as h hg, ?_⟩⟩⟩
  obtain ⟨hlen, hev⟩ := hev as h hg hg2
  generalize c_g cd sh ro as h = g at hg hg2 hev
  refine am_ofW hpl ?_
  intro p e s m args below meth c s₁ B hml ht hPc
  obtain ⟨rfl, hW, hK, hZ, hG⟩ := hPc
  have hts0 := atoms_spec (ws := Cond.code (c_y cd) (c_b cd) (c_mL cd) (c_rt cd) :: am_U) B.pre
  have hts : ∀ w ∈ am_U, w.before (as.map (am_cv ad xq)).toArray s = true := fun w hw => hts0 w (List.mem_cons_of_mem _ hw)
  have hown : s.vm.findClass own = some m.cls := by rw [← hy]; exact findClass_of_methodNamed B.named
  have hE := am_ends (p := p) (e := e) (R := (headSpec (Cond.code (c_y cd) (c_b cd) (c_mL cd) (c_rt cd) :: am_U) (am_rm cd)).room) (s := s) (m := m) (args := (as.map (am_cv ad xq)).toArray) (below := below) (meth := meth) (c := c) (D := D) (G := G) (ad := ad) (sh := sh) (ro := ro) (M := M) (g := g)
    B.exec B.bytes (B.returns.trans hrt) B.notSynchronized ht hl hown hts hZ hth hhd (Nat.le_of_eq hfr.symm) (Nat.le_of_eq hlo.symm) (Nat.le_refl 1) (Nat.le_refl 6) hbud (c_mc cd)
  have k := hev (am_X p l e (headSpec (Cond.code (c_y cd) (c_b cd) (c_mL cd) (c_rt cd) :: am_U) (am_rm cd)).room s m (as.map (am_cv ad xq)).toArray below meth c D G ad sh ro M 0 (am_MQ below (am_Qc D G ad sh ro g) (am_XC D G ad sh ro g) (as.map (am_cv ad xq)).toArray s (c_mc cd) (6 * c_mc cd) (am_A G)))
    (fun d hd => am_core (own := own) B.exec B.bytes hown hts hG hK hZ hMok hok (Nat.le_of_eq hfr.symm) (Nat.le_of_eq hlo.symm) (by rw [hB]; exact Nat.le_refl 1) (by rw [hB]; exact Nat.le_refl 6) (fun h o k _ => ⟨fun x => by rw [hbud, hbud], fun x => by rw [hbud, hbud]⟩) hE d hd)
    (fun d hd => hext p e _ s m _ below meth c D G ad _ B.exec B.bytes hown hts hK hG.1 (Nat.le_of_eq hfr.symm) (Nat.le_of_eq hlo.symm) d hd)
  have hent := am_ent_has ad xq as (c_mL cd) hlen
  have hl2 : (am_ent as (c_mL cd)).length = c.maxLocals := by
    rw [hml]; simp [am_ent]; omega
  have k2 := k xq _ s.heap [] hl2 hent hW va_S.rf
  dsimp only at k2
  rw [hbud] at k2
  rw [lg_entry_eq]
  exact k2
/-- several steps at once, for any predicate that steps make true -/
theorem am_XG {M : MI} {sh ro : List Sh} {P : AR → HP → Prop} {X : Cfg → Prop} (hX : ∀ d, am_F M sh ro P X d → X d) (cut : List Nat) : ∀ (k : Nat) (c : Cfg), am_G M sh ro P cut X k c → X c
  | 0, _, q => q
  | k + 1, c, q => hX c (am_F_mono (fun d hd => by
      revert hd
      cases am_cut cut d.1 with
      | true => exact fun z => z
      | false => exact fun z => am_XG hX cut k d z) c q)
def k_B_copy (pc : Nat) : Ent := bif Nat.ble 15 pc then am_nop else bif Nat.ble 5 pc then (bif Nat.ble 8 pc then (bif Nat.ble 11 pc then (bif Nat.ble 14 pc then (bif Nat.beq pc 14 then (.return_, 0, 0, []) else am_nop) else (bif Nat.beq pc 11 then (.invokestatic 374, 0, 0, []) else am_nop)) else (bif Nat.beq pc 8 then (.invokestatic 290, 0, 0, []) else am_nop)) else (bif Nat.ble 6 pc then (bif Nat.ble 7 pc then (bif Nat.beq pc 7 then (.arraylength, 0, 0, []) else am_nop) else (bif Nat.beq pc 6 then (.aload_n 1, 0, 1, []) else am_nop)) else (bif Nat.beq pc 5 then (.arraylength, 0, 0, []) else am_nop))) else (bif Nat.ble 2 pc then (bif Nat.ble 3 pc then (bif Nat.ble 4 pc then (bif Nat.beq pc 4 then (.aload_n 0, 0, 0, []) else am_nop) else (bif Nat.beq pc 3 then (.iconst 0, 0, 0, []) else am_nop)) else (bif Nat.beq pc 2 then (.aload_n 1, 0, 1, []) else am_nop)) else (bif Nat.ble 1 pc then (bif Nat.beq pc 1 then (.iconst 0, 0, 0, []) else am_nop) else (bif Nat.beq pc 0 then (.aload_n 0, 0, 0, []) else am_nop)))
theorem chk_B_copy : ∀ pc, am_chk cX5_copy k_B_copy pc = true := am_chkall 15 (by decide +kernel) (fun pc h => by unfold k_B_copy; rw [Nat.ble_eq_true_of_le h]; rfl)
theorem pf_B_copy : plainFor yX5_copy = true := by decide +kernel
theorem cu_B_copy : Cond.code yX5_copy cX5_copy 2 none ∈ am_U := am_tb 244 (by decide +kernel) rfl
theorem dc_copy : decode cX5_copy 11 = .ok (.invokestatic 374, 3) := by decide +kernel
theorem dw_copy : nativeFrameWords "java/lang/System" "arraycopy" 5 + 11 ≤ 40 := by decide
theorem cpy_v (n : Nat) (h : HP) (r1 r2 : Nat) : va_cpy (h.1 r1) (h.1 r2) 0 0 n = (v_copy n h r1 r2).1 r2 := by
  funext i
  unfold va_cpy v_copy
  simp only [if_pos, Nat.zero_add, Nat.sub_zero, Nat.zero_le, true_and]
def m_B_copy : MI := (k_B_copy, [], [(290, d_J_min 0)], [], [], [], [], 1, 40, none, fun _ => 0, 1)
def g_B_copy (sh ro : List Sh) (as : List Value) (h : HP) : GR := match as with
  | [.ref r1, .ref r2] => (match am_gs sh ro r1, am_gs sh ro r2 with
    | some (k1, n1, _), some (k2, n2, _) => (Nat.beq k1 0 && Nat.beq k2 0 && Nat.blt r1 1000 && Nat.blt r2 1000 && Nat.beq n1 n2 && Nat.blt n1 1000, True, none, none, v_copy n1 h r1 r2)
    | _, _ => bad h)
  | _ => bad h
def d_B_copy (k : Nat) : CD := (k, yX5_copy, cX5_copy, 2, none, 2, 1, 40, 0, false, false, g_B_copy)
/-- System.arraycopy of whole rows -/
def xt_copy (sh ro : List Sh) (X : Cfg → Prop) (d : Cfg) : Prop := ∃ (ls : List Value) (r1 r2 n : Nat) (f1 f2 : List Nat) (h : HP), d = (11, ls, [.int (Int32.ofNat n), .int 0, .ref r2, .int 0, .ref r1], h) ∧ am_gs sh ro r1 = some (0, n, f1) ∧ am_gs sh ro r2 = some (0, n, f2) ∧ Nat.blt r1 1000 = true ∧ Nat.blt r2 1000 = true ∧ n < 1000 ∧ X (14, ls, [], v_copy n h r1 r2)
theorem xt_copy_ok {l : Launch} {sh ro : List Sh} (p : Program) (e : Env) (R : Room) (s : State) (m : MethodId) (args : Array Value) (below : List Frame) (meth : Method) (c : Code) (D : va_G) (G ad : Nat → Nat) (Q : State → Prop) (hx : p.tables.exec = Jvm.exec) (hb : c.code = cX5_copy) (hown : s.vm.findClass RX5 = some m.cls) (hts : ∀ w ∈ am_U, w.before args s = true) (hK : va_K D vwCl (am_tys G) s) (hG : G 4 ≤ s.heap.size) (hfr : m_fr m_B_copy ≤ R.frames) (hlo : m_lo m_B_copy ≤ R.locals) (d : Cfg)
    (hd : xt_copy sh ro (am_X p l e R s m args below meth c D G ad sh ro m_B_copy 0 Q) d) : am_X p l e R s m args below meth c D G ad sh ro m_B_copy 0 Q d := by
  obtain ⟨ls, r1, r2, n, f1, f2, h, rfl, h1, h2, b1, b2, hn, k⟩ := hd
  intro xq A H locs hll hA hW hS
  have e1 := am_gs_rw h1 b1
  have e2 := am_gs_rw h2 b2
  have w1 := am_wl_at (G := G) (ad := ad) (h := h) e1
  have w2 := am_wl_at (G := G) (ad := ad) (h := h) e2
  rw [am_ce_i rfl] at w1 w2
  have ec : (Int32.ofNat n).toNatClampNeg = n := nI_clamp (by omega)
  refine va_copyi (cc := cX5_copy) (own := RX5) (index := 374) (D := D) (cl := vwCl) (tys := am_tys G) (A := am_A G) (ws := am_wl G ad h sh) (H0 := s.heap) hx hb (hA.1.trans hll).symm hown (hts _ (am_tb 248 (by decide +kernel) rfl)) (hts _ (am_tb 250 (by decide +kernel) rfl)) (hts _ (am_tb 249 (by decide +kernel) rfl)) (hts _ (am_tb 14 (by decide +kernel) rfl)) hK hW.1 hW.2.1 hS r1 r2 0 0 (ty := .int) w1 w2 rfl rfl rfl
    (by decide) (by decide) (by rw [Int32.lt_iff_toInt_lt, nI_toI hn, Int32.toInt_zero]; omega) (by rw [ec]; simp) (by rw [ec]; simp) (fun i _ => rfl) (show 1 ≤ R.frames from hfr) (show 0 + (nativeFrameWords "java/lang/System" "arraycopy" 5 + 11) ≤ R.locals from by have := dw_copy; have h40 : 40 ≤ R.locals := hlo; omega) dc_copy ?_
  intro H1 locs1 hP1 hD1 hS1
  refine k xq A H1 locs1 hll hA ?_ hS1
  rw [ec, show (0 : Int32).toNatClampNeg = 0 from rfl, cpy_v, ← am_ce_i (G := G) (ad := ad) (h := v_copy n h r1 r2) (o := r2) (k := 0) (n := n) (fs := f2) rfl] at hP1
  refine hW.put2 e2 (am_blt b2) hP1 (fun q hq hA2 => ?_) (fun k hk => ?_)
  · rw [hS1.2.1 q (Nat.lt_of_lt_of_le hq hG) hA2, hS.2.1 q (Nat.lt_of_lt_of_le hq hG) hA2]
  · exact ⟨if_neg hk, rfl⟩
theorem lk_copy : am_lnk RX5 290 (d_J_min 0) := ⟨⟨by decide, by decide⟩, am_tb 7 (by decide +kernel) rfl, Or.inl ⟨by decide, rfl, am_tb 246 (by decide +kernel) rfl, Or.inl ⟨by decide, am_tb 245 (by decide +kernel) rfl⟩⟩⟩
theorem ok_B_copy {l : Launch} (hl : l.stackTraces = false) (sh ro : List Sh) (k : Nat) : am_Ok l sh ro (d_B_copy k) := by
  refine am_met2 hl (own := RX5) (M := m_B_copy) (xt_copy sh ro) rfl pf_B_copy cu_B_copy rfl rfl rfl rfl (fun _ => rfl) rfl ⟨chk_B_copy, am_n, am_c lk_copy am_n, am_n, am_n⟩ am_n (am_c (ok_J_min hl sh ro 0) am_n) ?_ ?_ (fun p e R s m args below meth c D G ad Q hx hb hown hts hK hG hfr hlo d hd => xt_copy_ok (l := l) p e R s m args below meth c D G ad Q hx hb hown hts hK hG hfr hlo d hd) ?_
  · intro _ as h hg
    show g_pre (g_B_copy sh ro as h)
    revert hg
    show g_ok (g_B_copy sh ro as h) = true → _
    unfold g_B_copy
    split
    · split
      · exact fun _ => trivial
      · exact fun z => nomatch z
    · exact fun z => nomatch z
  · intro _ as h hg
    show g_thr (g_B_copy sh ro as h) = none
    unfold g_B_copy
    split
    · split <;> rfl
    · rfl
  · intro as h hg hp2
    clear hp2
    revert hg
    show g_ok (g_B_copy sh ro as h) = true → _ ∧ ∀ X : Cfg → Prop, (∀ d, am_F m_B_copy sh ro (am_eq (g_B_copy sh ro as h)) X d → X d) → (∀ d, xt_copy sh ro X d → X d) → X (0, am_ent as 2, [], h)
    unfold g_B_copy
    split
    · split
      · rename_i r1 r2 x1 x2 k1 n1 f1 k2 n2 f2 h1 h2
        intro hg
        simp only [g_ok, Bool.and_eq_true] at hg
        obtain ⟨⟨⟨⟨⟨g1, g2⟩, g3⟩, g4⟩, g5⟩, g6⟩ := hg
        have e1 := am_beq g1
        have e2 := am_beq g2
        have e5 := am_beq g5
        subst e1; subst e2; subst e5
        refine ⟨Nat.le_refl _, fun X hX hY => ?_⟩
        refine am_XG hX [6] 10 _ ?_
        show (match am_gs sh ro r1 with | some (k, n, _) => bif Nat.blt k 4 || Nat.beq k 5 then X (6, [.ref r1, .ref r2], [.int (Int32.ofNat n), .int 0, .ref r2, .int 0, .ref r1], h) else False | none => False)
        rw [h1]
        show X (6, [.ref r1, .ref r2], [.int (Int32.ofNat n1), .int 0, .ref r2, .int 0, .ref r1], h)
        refine am_XG hX [8] 10 _ ?_
        show (match am_gs sh ro r2 with | some (k, n, _) => bif Nat.blt k 4 || Nat.beq k 5 then X (8, [.ref r1, .ref r2], [.int (Int32.ofNat n), .int (Int32.ofNat n1), .int 0, .ref r2, .int 0, .ref r1], h) else False | none => False)
        rw [h2]
        show X (8, [.ref r1, .ref r2], [.int (Int32.ofNat n1), .int (Int32.ofNat n1), .int 0, .ref r2, .int 0, .ref r1], h)
        refine am_XG hX [11] 10 _ ?_
        show X (11, [.ref r1, .ref r2], [.int (v_min (Int32.ofNat n1) (Int32.ofNat n1)), .int 0, .ref r2, .int 0, .ref r1], h)
        rw [show v_min (Int32.ofNat n1) (Int32.ofNat n1) = Int32.ofNat n1 from if_pos (Int32.le_refl _)]
        refine hY _ ⟨_, r1, r2, n1, f1, f2, h, rfl, h1, h2, g3, g4, am_blt g6, ?_⟩
        refine am_XG hX [] 10 _ ?_
        exact ⟨rfl, rfl, rfl⟩
      · exact fun z => nomatch z
    · exact fun z => nomatch z
def k_M_lays (pc : Nat) : Ent := bif Nat.ble 30 pc then am_nop else bif Nat.ble 16 pc then (bif Nat.ble 21 pc then (bif Nat.ble 23 pc then (bif Nat.ble 26 pc then (bif Nat.ble 29 pc then (bif Nat.beq pc 29 then (.return_, 0, 0, []) else am_nop) else (bif Nat.beq pc 26 then (.goto (-23), 0, 3, []) else am_nop)) else (bif Nat.beq pc 23 then (.iinc 4 1, 1, 4, []) else am_nop)) else (bif Nat.ble 22 pc then (bif Nat.beq pc 22 then (.iastore, 0, 0, []) else am_nop) else (bif Nat.beq pc 21 then (.iaload, 0, 0, []) else am_nop))) else (bif Nat.ble 18 pc then (bif Nat.ble 20 pc then (bif Nat.beq pc 20 then (.iadd, 0, 0, []) else am_nop) else (bif Nat.beq pc 18 then (.iload 4, 0, 4, []) else am_nop)) else (bif Nat.ble 17 pc then (bif Nat.beq pc 17 then (.iload_n 1, 0, 1, []) else am_nop) else (bif Nat.beq pc 16 then (.aload_n 0, 0, 0, []) else am_nop)))) else (bif Nat.ble 8 pc then (bif Nat.ble 12 pc then (bif Nat.ble 13 pc then (bif Nat.ble 15 pc then (bif Nat.beq pc 15 then (.iadd, 0, 0, []) else am_nop) else (bif Nat.beq pc 13 then (.iload 4, 0, 4, []) else am_nop)) else (bif Nat.beq pc 12 then (.iload_n 3, 0, 3, []) else am_nop)) else (bif Nat.ble 11 pc then (bif Nat.beq pc 11 then (.aload_n 2, 0, 2, []) else am_nop) else (bif Nat.beq pc 8 then (.if_icmp .ge 21, 0, 29, []) else am_nop))) else (bif Nat.ble 3 pc then (bif Nat.ble 5 pc then (bif Nat.beq pc 5 then (.sipush 163, 163, 0, []) else am_nop) else (bif Nat.beq pc 3 then (.iload 4, 0, 4, []) else am_nop)) else (bif Nat.ble 1 pc then (bif Nat.beq pc 1 then (.istore 4, 0, 4, []) else am_nop) else (bif Nat.beq pc 0 then (.iconst 0, 0, 0, []) else am_nop))))
theorem chk_M_lays : ∀ pc, am_chk cX6_lays k_M_lays pc = true := am_chkall 30 (by decide +kernel) (fun pc h => by unfold k_M_lays; rw [Nat.ble_eq_true_of_le h]; rfl)
theorem pf_M_lays : plainFor yX6_lays = true := by decide +kernel
theorem cu_M_lays : Cond.code yX6_lays cX6_lays 5 none ∈ am_U := am_tb 958 (by decide +kernel) rfl
def m_M_lays : MI := (k_M_lays, [], [], [], [], [], [], 0, 0, none, fun _ => 0, 1)
def v_layk (k : Nat) (h : HP) (r1 : Nat) (p1 : Int32) (r2 : Nat) (p2 : Int32) : HP := (fun c => if c = r2 then (fun i => if p2.toInt.toNat ≤ i ∧ i < p2.toInt.toNat + k then h.1 r1 (p1.toInt.toNat + (i - p2.toInt.toNat)) else h.1 r2 i) else h.1 c, h.2)
abbrev v_lays (h : HP) (r1 : Nat) (p1 : Int32) (r2 : Nat) (p2 : Int32) : HP := v_layk 163 h r1 p1 r2 p2
def p_lays (p1 p2 : Int32) (n1 n2 : Nat) : Prop := 0 ≤ p1.toInt ∧ p1.toInt + 163 ≤ n1 ∧ 0 ≤ p2.toInt ∧ p2.toInt + 163 ≤ n2
def g_M_lays (sh ro : List Sh) (as : List Value) (h : HP) : GR := match as with
  | [.ref r1, .int p1, .ref r2, .int p2] => (match am_gs sh ro r1, am_gs sh ro r2 with
    | some (k1, n1, _), some (k2, n2, _) => (Nat.beq k1 0 && Nat.beq k2 0 && Nat.blt r2 1000 && !(Nat.beq r1 r2) && Nat.blt n1 1000 && Nat.blt n2 1000, p_lays p1 p2 n1 n2, none, none, v_lays h r1 p1 r2 p2)
    | _, _ => bad h)
  | _ => bad h
def d_M_lays (k : Nat) : CD := (k, yX6_lays, cX6_lays, 5, none, 4, 0, 0, 0, false, true, g_M_lays)
theorem v_lay_0 (h : HP) (r1 : Nat) (p1 : Int32) (r2 : Nat) (p2 : Int32) : v_layk 0 h r1 p1 r2 p2 = h := by
  obtain ⟨h1, h2⟩ := h
  unfold v_layk
  congr 1
  funext c
  by_cases e : c = r2
  · subst e; rw [if_pos rfl]; funext i; rw [if_neg (by omega)]
  · rw [if_neg e]
theorem v_lay_s (k : Nat) (h : HP) (r1 : Nat) (p1 : Int32) (r2 : Nat) (p2 : Int32) (hr : r1 ≠ r2) : am_si (v_layk k h r1 p1 r2 p2) r2 (p2.toInt.toNat + k) ((v_layk k h r1 p1 r2 p2).1 r1 (p1.toInt.toNat + k)) = v_layk (k + 1) h r1 p1 r2 p2 := by
  unfold v_layk am_si
  congr 1
  funext c i
  unfold am_up upd
  by_cases e : c = r2
  · subst e
    simp only [if_pos]
    by_cases hi : i = p2.toInt.toNat + k
    · subst hi
      rw [if_pos rfl, if_neg hr, if_pos (by omega), Nat.add_sub_cancel_left]
    · rw [if_neg hi]
      by_cases hk : p2.toInt.toNat ≤ i ∧ i < p2.toInt.toNat + k
      · rw [if_pos hk, if_pos (by omega)]
      · rw [if_neg hk, if_neg (by omega)]
  · simp only [if_neg e]
theorem ev_lays_st {sh ro : List Sh} {P : AR → HP → Prop} {r1 r2 n1 n2 : Nat} {f1 f2 : List Nat} {p1 p2 i : Int32} {h : HP} (h1 : am_gs sh ro r1 = some (0, n1, f1)) (h2 : am_gs sh ro r2 = some (0, n2, f2)) (hr2 : Nat.blt r2 1000 = true) (i1 : am_in (p1 + i) n1) (i2 : am_in (p2 + i) n2)
    (k : am_Ev m_M_lays sh ro P (3, [.ref r1, .int p1, .ref r2, .int p2, .int (i + 1)], [], am_si h r2 (am_ix (p2 + i)) (h.1 r1 (am_ix (p1 + i))))) : am_Ev m_M_lays sh ro P (11, [.ref r1, .int p1, .ref r2, .int p2, .int i], [], h) := by
  refine am_Ev_G [21] 20 _ ?_
  show am_Ev m_M_lays sh ro P (21, [.ref r1, .int p1, .ref r2, .int p2, .int i], [.int (p1 + i), .ref r1, .int (p2 + i), .ref r2], h)
  refine am_Ev_G [22] 20 _ ?_
  show (match am_gs sh ro r1 with | some (k, n, _) => bif Nat.beq k 0 || Nat.beq k 5 then am_in (p1 + i) n ∧ am_Ev m_M_lays sh ro P (22, [.ref r1, .int p1, .ref r2, .int p2, .int i], [.int (h.1 r1 (am_ix (p1 + i))), .int (p2 + i), .ref r2], h) else False | none => False)
  rw [h1]
  refine ⟨i1, ?_⟩
  refine am_Ev_G [23] 20 _ ?_
  show (match am_gs sh ro r2 with | some (k, n, _) => bif Nat.beq k 0 && Nat.blt r2 1000 then am_in (p2 + i) n ∧ am_Ev m_M_lays sh ro P (23, [.ref r1, .int p1, .ref r2, .int p2, .int i], [], am_si h r2 (am_ix (p2 + i)) (h.1 r1 (am_ix (p1 + i)))) else False | none => False)
  rw [h2]
  dsimp only
  rw [hr2]
  refine ⟨i2, ?_⟩
  refine am_Ev_G [3] 20 _ ?_
  exact k
theorem lay_ix {p : Int32} {k n : Nat} (h0 : 0 ≤ p.toInt) (h1 : p.toInt + 163 ≤ n) (hn : n < 1000) (hk : k < 163) : am_in (p + nI k) n ∧ am_ix (p + nI k) = p.toInt.toNat + k := by
  have e := nI_toInt (n := k) (by omega)
  have e2 : (p + nI k).toInt = p.toInt + k := by
    rw [Int32.toInt_add, e]
    exact Int.bmod_eq_of_le (by omega) (by omega)
  refine ⟨⟨by omega, by omega⟩, ?_⟩
  show (p + nI k).toInt.toNat = _
  rw [e2]
  omega
theorem ev_lays_loop {sh ro : List Sh} {P : AR → HP → Prop} {r1 r2 n1 n2 : Nat} {f1 f2 : List Nat} {p1 p2 : Int32} {h : HP} (h1 : am_gs sh ro r1 = some (0, n1, f1)) (h2 : am_gs sh ro r2 = some (0, n2, f2)) (hr2 : Nat.blt r2 1000 = true) (hr : r1 ≠ r2) (hn1 : n1 < 1000) (hn2 : n2 < 1000) (hp : p_lays p1 p2 n1 n2) (hP : P (.inl none) (v_lays h r1 p1 r2 p2)) :
    ∀ (d k : Nat), k + d = 163 → am_Ev m_M_lays sh ro P (3, [.ref r1, .int p1, .ref r2, .int p2, .int (nI k)], [], v_layk k h r1 p1 r2 p2)
  | 0, k, hk => by
    have e : k = 163 := by omega
    subst e
    refine am_Ev_G [11] 20 _ ?_
    show (¬ nI 163 < 163 → P (.inl none) (v_lays h r1 p1 r2 p2)) ∧ (nI 163 < 163 → _)
    exact ⟨fun _ => hP, fun c => absurd c (by decide)⟩
  | d + 1, k, hk => by
    refine am_Ev_G [11] 20 _ ?_
    show (¬ nI k < 163 → _) ∧ (nI k < 163 → am_Ev m_M_lays sh ro P (11, [.ref r1, .int p1, .ref r2, .int p2, .int (nI k)], [], v_layk k h r1 p1 r2 p2))
    refine ⟨fun c => absurd (nI_lt (b := 163) (by omega) (by omega)) c, fun _ => ?_⟩
    obtain ⟨a1, a2⟩ := lay_ix hp.1 hp.2.1 hn1 (k := k) (by omega)
    obtain ⟨b1, b2⟩ := lay_ix hp.2.2.1 hp.2.2.2 hn2 (k := k) (by omega)
    refine ev_lays_st h1 h2 hr2 a1 b1 ?_
    rw [a2, b2, v_lay_s k h r1 p1 r2 p2 hr, nI_1]
    exact ev_lays_loop h1 h2 hr2 hr hn1 hn2 hp hP d (k + 1) (by omega)
theorem ev_M_lays {sh ro : List Sh} {P : AR → HP → Prop} {r1 r2 n1 n2 : Nat} {f1 f2 : List Nat} {p1 p2 : Int32} {h : HP} (h1 : am_gs sh ro r1 = some (0, n1, f1)) (h2 : am_gs sh ro r2 = some (0, n2, f2)) (hr2 : Nat.blt r2 1000 = true) (hr : r1 ≠ r2) (hn1 : n1 < 1000) (hn2 : n2 < 1000) (hp : p_lays p1 p2 n1 n2) (hP : P (.inl none) (v_lays h r1 p1 r2 p2)) : am_Ev m_M_lays sh ro P (0, [.ref r1, .int p1, .ref r2, .int p2, .retAddr 0], [], h) := by
  refine am_Ev_G [3] 10 _ ?_
  show am_Ev m_M_lays sh ro P (3, [.ref r1, .int p1, .ref r2, .int p2, .int (nI 0)], [], h)
  have k := ev_lays_loop h1 h2 hr2 hr hn1 hn2 hp hP 163 0 rfl
  rw [v_lay_0] at k
  exact k
theorem ok_M_lays {l : Launch} (hl : l.stackTraces = false) (sh ro : List Sh) (k : Nat) : am_Ok l sh ro (d_M_lays k) := by
  refine am_met hl (own := RX6) (M := m_M_lays) rfl pf_M_lays cu_M_lays rfl rfl rfl rfl (fun _ => rfl) rfl ⟨chk_M_lays, am_n, am_n, am_n, am_n⟩ am_n am_n (fun z => nomatch z) ?_ ?_
  · intro _ as h hg
    show g_thr (g_M_lays sh ro as h) = none
    unfold g_M_lays
    split
    · split <;> rfl
    · rfl
  · intro as h hg hp2
    revert hg hp2
    show g_ok (g_M_lays sh ro as h) = true → g_pre (g_M_lays sh ro as h) → _ ∧ am_Ev m_M_lays sh ro (am_eq (g_M_lays sh ro as h)) (0, am_ent as 5, [], h)
    unfold g_M_lays
    split
    · split
      · rename_i r1 p1 r2 p2 x1 x2 k1 n1 f1 k2 n2 f2 h1 h2
        intro hg hp
        simp only [g_ok, Bool.and_eq_true, Bool.not_eq_true'] at hg
        obtain ⟨⟨⟨⟨⟨g1, g2⟩, g3⟩, g4⟩, g5⟩, g6⟩ := hg
        have e1 := am_beq g1
        have e2 := am_beq g2
        subst e1; subst e2
        refine ⟨by show 4 ≤ 5; omega, ?_⟩
        exact ev_M_lays h1 h2 g3 (fun e => by rw [e, Nat.beq_refl] at g4; cases g4) (am_blt g5) (am_blt g6) hp ⟨rfl, rfl, rfl⟩
      · exact fun z => nomatch z
    · exact fun z => nomatch z
def k_E_nan (pc : Nat) : Ent := bif Nat.ble 12 pc then am_nop else bif Nat.ble 6 pc then (bif Nat.ble 10 pc then (bif Nat.ble 11 pc then (bif Nat.beq pc 11 then (.ireturn, 0, 0, []) else am_nop) else (bif Nat.beq pc 10 then (.iconst 0, 0, 0, []) else am_nop)) else (bif Nat.ble 7 pc then (bif Nat.beq pc 7 then (.goto 4, 0, 11, []) else am_nop) else (bif Nat.beq pc 6 then (.iconst 1, 1, 0, []) else am_nop))) else (bif Nat.ble 2 pc then (bif Nat.ble 3 pc then (bif Nat.beq pc 3 then (.ifCond .eq 7, 0, 10, []) else am_nop) else (bif Nat.beq pc 2 then (.dcmp .l, 0, 0, []) else am_nop)) else (bif Nat.ble 1 pc then (bif Nat.beq pc 1 then (.dload_n 0, 0, 0, []) else am_nop) else (bif Nat.beq pc 0 then (.dload_n 0, 0, 0, []) else am_nop)))
theorem chk_E_nan : ∀ pc, am_chk cJxe99ae_isNaN_b9ae7 k_E_nan pc = true := am_chkall 12 (by decide +kernel) (fun pc h => by unfold k_E_nan; rw [Nat.ble_eq_true_of_le h]; rfl)
theorem pf_E_nan : plainFor yJxe99ae_isNaN_b9ae7 = true := by decide +kernel
theorem cu_E_nan : Cond.code yJxe99ae_isNaN_b9ae7 cJxe99ae_isNaN_b9ae7 2 (some .boolean) ∈ am_U := am_tb 1320 (by decide +kernel) rfl
def m_E_nan : MI := (k_E_nan, [], [], [], [], [], [], 0, 0, some .boolean, fun _ => 0, 1)
def v_nan (b : UInt64) : Int32 := if Op.cmpValue (FP.dcmp b b) .l = 0 then 0 else 1
def g_E_nan (_ _ : List Sh) (as : List Value) (h : HP) : GR := match as with
  | [.double b] => (true, True, none, some (.int (v_nan b)), h)
  | _ => bad h
def d_E_nan (k : Nat) : CD := (k, yJxe99ae_isNaN_b9ae7, cJxe99ae_isNaN_b9ae7, 2, some .boolean, 1, 0, 0, 0, false, false, g_E_nan)
theorem ok_E_nan {l : Launch} (hl : l.stackTraces = false) (sh ro : List Sh) (k : Nat) : am_Ok l sh ro (d_E_nan k) := by
  refine am_met hl (own := RJxe99ae) (M := m_E_nan) rfl pf_E_nan cu_E_nan rfl rfl rfl rfl (fun _ => rfl) rfl ⟨chk_E_nan, am_n, am_n, am_n, am_n⟩ am_n am_n ?_ ?_ ?_
  · intro _ as h hg
    show g_pre (g_E_nan sh ro as h)
    unfold g_E_nan
    split <;> exact trivial
  · intro _ as h hg
    show g_thr (g_E_nan sh ro as h) = none
    unfold g_E_nan
    split <;> rfl
  · intro as h hg hp2
    clear hp2
    revert hg
    show g_ok (g_E_nan sh ro as h) = true → _ ∧ am_Ev m_E_nan sh ro (am_eq (g_E_nan sh ro as h)) (0, am_ent as 2, [], h)
    unfold g_E_nan
    split
    · rename_i b
      intro _
      refine ⟨Nat.le_refl _, ?_⟩
      refine am_Ev_G [] 10 _ ?_
      show (Op.cmpValue (FP.dcmp b b) .l = 0 → ((0 : Int32) = 0 ∨ (0 : Int32) = 1) ∧ am_eq (true, True, none, some (.int (v_nan b)), h) (.inl (some (.int 0))) h) ∧ (¬ Op.cmpValue (FP.dcmp b b) .l = 0 → ((1 : Int32) = 0 ∨ (1 : Int32) = 1) ∧ am_eq (true, True, none, some (.int (v_nan b)), h) (.inl (some (.int 1))) h)
      refine ⟨fun c => ⟨Or.inl rfl, rfl, ?_, rfl⟩, fun c => ⟨Or.inr rfl, rfl, ?_, rfl⟩⟩
      · show some (Value.int (v_nan b)) = _
        rw [v_nan, if_pos c]
      · show some (Value.int (v_nan b)) = _
        rw [v_nan, if_neg c]
    · exact fun z => nomatch z
def k_E_dbits (pc : Nat) : Ent := bif Nat.ble 16 pc then am_nop else bif Nat.ble 8 pc then (bif Nat.ble 12 pc then (bif Nat.ble 15 pc then (bif Nat.beq pc 15 then (.lreturn, 0, 0, []) else am_nop) else (bif Nat.beq pc 12 then (.ldc2_w 137, 0, 0, []) else am_nop)) else (bif Nat.ble 11 pc then (bif Nat.beq pc 11 then (.lreturn, 0, 0, []) else am_nop) else (bif Nat.beq pc 8 then (.invokestatic 134, 0, 0, []) else am_nop))) else (bif Nat.ble 4 pc then (bif Nat.ble 7 pc then (bif Nat.beq pc 7 then (.dload_n 0, 0, 0, []) else am_nop) else (bif Nat.beq pc 4 then (.ifCond .ne 8, 0, 12, []) else am_nop)) else (bif Nat.ble 1 pc then (bif Nat.beq pc 1 then (.invokestatic 122, 0, 0, []) else am_nop) else (bif Nat.beq pc 0 then (.dload_n 0, 0, 0, []) else am_nop)))
theorem chk_E_dbits : ∀ pc, am_chk cJxe99ae_doubleToLongBits_ccdee k_E_dbits pc = true := am_chkall 16 (by decide +kernel) (fun pc h => by unfold k_E_dbits; rw [Nat.ble_eq_true_of_le h]; rfl)
theorem pf_E_dbits : plainFor yJxe99ae_doubleToLongBits_ccdee = true := by decide +kernel
theorem cu_E_dbits : Cond.code yJxe99ae_doubleToLongBits_ccdee cJxe99ae_doubleToLongBits_ccdee 2 (some .long) ∈ am_U := am_tb 1317 (by decide +kernel) rfl
theorem dc_dbits : decode cJxe99ae_doubleToLongBits_ccdee 8 = .ok (.invokestatic 134, 3) := by decide +kernel
theorem lk_nan : am_lnk RJxe99ae 122 (d_E_nan 0) := ⟨⟨by decide, by decide⟩, am_tb 18 (by decide +kernel) rfl, Or.inl ⟨by decide, rfl, am_tb 1319 (by decide +kernel) rfl, Or.inl ⟨by decide, am_tb 1318 (by decide +kernel) rfl⟩⟩⟩
def m_E_dbits : MI := (k_E_dbits, [], [(122, d_E_nan 0)], [(137, .long 9221120237041090560)], [], [], [], 1, 40, some .long, fun _ => 0, 1)
def v_dbits (b : UInt64) : Int64 := if v_nan b = 0 then b.toInt64 else 9221120237041090560
def g_E_dbits (_ _ : List Sh) (as : List Value) (h : HP) : GR := match as with
  | [.double b] => (true, True, none, some (.long (v_dbits b)), h)
  | _ => bad h
def d_E_dbits (k : Nat) : CD := (k, yJxe99ae_doubleToLongBits_ccdee, cJxe99ae_doubleToLongBits_ccdee, 2, some .long, 1, 1, 40, 0, false, false, g_E_dbits)
/-- Double.doubleToRawLongBits -/
def xt_raw (X : Cfg → Prop) (d : Cfg) : Prop := ∃ (ls : List Value) (b : UInt64) (h : HP), d = (8, ls, [.double b], h) ∧ X (11, ls, [.long b.toInt64], h)
theorem xt_raw_ok {sh ro : List Sh} (p : Program) (l : Launch) (e : Env) (R : Room) (s : State) (m : MethodId) (args : Array Value) (below : List Frame) (meth : Method) (c : Code) (D : va_G) (G ad : Nat → Nat) (Q : State → Prop) (hx : p.tables.exec = Jvm.exec) (hb : c.code = cJxe99ae_doubleToLongBits_ccdee) (hown : s.vm.findClass RJxe99ae = some m.cls) (hts : ∀ w ∈ am_U, w.before args s = true) (hfr : m_fr m_E_dbits ≤ R.frames) (hlo : m_lo m_E_dbits ≤ R.locals) (d : Cfg)
    (hd : xt_raw (am_X p l e R s m args below meth c D G ad sh ro m_E_dbits 0 Q) d) : am_X p l e R s m args below meth c D G ad sh ro m_E_dbits 0 Q d := by
  obtain ⟨ls, b, h, rfl, k⟩ := hd
  intro xq A H locs hll hA hW hS
  exact vn_d2l (cc := cJxe99ae_doubleToLongBits_ccdee) (own := RJxe99ae) (index := 134) hx hb (hA.1.trans hll).symm hown (hts _ (am_tb 1321 (by decide +kernel) rfl)) (hts _ (am_tb 1323 (by decide +kernel) rfl)) (hts _ (am_tb 1322 (by decide +kernel) rfl)) (hts _ (am_tb 18 (by decide +kernel) rfl)) (show 1 ≤ R.frames from hfr) (show 0 + 15 ≤ R.locals from by have h40 : 40 ≤ R.locals := hlo; omega) dc_dbits (k xq A H locs hll hA hW hS)
theorem ok_E_dbits {l : Launch} (hl : l.stackTraces = false) (sh ro : List Sh) (k : Nat) : am_Ok l sh ro (d_E_dbits k) := by
  refine am_met2 hl (own := RJxe99ae) (M := m_E_dbits) xt_raw rfl pf_E_dbits cu_E_dbits rfl rfl rfl rfl (fun _ => rfl) rfl ⟨chk_E_dbits, am_n, am_c lk_nan am_n, am_c (am_tb 1324 (by decide +kernel) rfl) am_n, am_n⟩ am_n (am_c (ok_E_nan hl sh ro 0) am_n) ?_ ?_ (fun p e R s m args below meth c D G ad Q hx hb hown hts hK hG hfr hlo d hd => xt_raw_ok p l e R s m args below meth c D G ad Q hx hb hown hts hfr hlo d hd) ?_
  · intro _ as h hg
    show g_pre (g_E_dbits sh ro as h)
    unfold g_E_dbits
    split <;> exact trivial
  · intro _ as h hg
    show g_thr (g_E_dbits sh ro as h) = none
    unfold g_E_dbits
    split <;> rfl
  · intro as h hg hp2
    clear hp2
    revert hg
    show g_ok (g_E_dbits sh ro as h) = true → _ ∧ ∀ X : Cfg → Prop, (∀ d, am_F m_E_dbits sh ro (am_eq (g_E_dbits sh ro as h)) X d → X d) → (∀ d, xt_raw X d → X d) → X (0, am_ent as 2, [], h)
    unfold g_E_dbits
    split
    · rename_i b
      intro _
      refine ⟨Nat.le_refl _, fun X hX hY => ?_⟩
      refine am_XG hX [8] 10 _ ?_
      show (¬ v_nan b = 0 → am_eq (true, True, none, some (.long (v_dbits b)), h) (.inl (some (.long 9221120237041090560))) h) ∧ (v_nan b = 0 → X (8, [.double b, .retAddr 0], [.double b], h))
      refine ⟨fun c => ⟨rfl, ?_, rfl⟩, fun c => ?_⟩
      · show some (Value.long (v_dbits b)) = _
        rw [v_dbits, if_neg c]
      · refine hY _ ⟨_, b, h, rfl, ?_⟩
        refine am_XG hX [] 10 _ ?_
        refine ⟨rfl, ?_, rfl⟩
        show some (Value.long (v_dbits b)) = _
        rw [v_dbits, if_pos c]
    · exact fun z => nomatch z
