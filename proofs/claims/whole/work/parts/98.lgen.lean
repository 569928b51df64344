/-! THE LAW, in general: a call, the relation kept, what a case of the law rests on. -/
theorem am_Ev_call {M : MI} {sh ro : List Sh} {P : AR → HP → Prop} (virt : Bool) {pc i : Nat} {ls st : List Value} {h : HP} {cd : CD} {g : GR} (hcode : (m_code M pc).1 = (bif virt then .invokevirtual i else .invokestatic i)) (hlk : am_lk (m_inv M) i = some cd)
    (hst : (am_kind sh virt (c_k cd) (st.take (c_n cd)).reverse && Nat.ble (c_n cd) st.length && Nat.ble (am_csum (st.drop (c_n cd))) 8 && Nat.ble (c_fr cd + 1) (m_fr M) && Nat.ble (8 + (c_mL cd + 11) + c_lo cd) (m_lo M)) = true) (hg : c_g cd sh ro (st.take (c_n cd)).reverse h = g) (hok : g_ok g = true) (hb1 : m_bud M h + c_mc cd ≤ m_bud M (g_hp g)) (hb2 : m_bud M h + 1 ≤ m_B M) (hpre : g_pre g) (hthr : c_thr cd = false)
    (k : am_Ev M sh ro P (pc + 3, ls, (g_val g).toList ++ st.drop (c_n cd), g_hp g)) : am_Ev M sh ro P (pc, ls, st, h) := by
  refine am_Ev_F ?_
  have hfin : am_fin M P (am_Ev M sh ro P) (c_thr cd) (c_part cd) (c_mc cd) pc ls (st.drop (c_n cd)) h g := by
    unfold am_fin
    rw [hok, Nat.ble_eq_true_of_le hb1, Nat.ble_eq_true_of_le hb2, hthr]
    show bif c_part cd then g_pre g ∧ am_kon M P (am_Ev M sh ro P) false pc ls (st.drop (c_n cd)) g else am_kon M P (am_Ev M sh ro P) false pc ls (st.drop (c_n cd)) g
    cases c_part cd with
    | true => exact ⟨hpre, k⟩
    | false => exact k
  have hcall : am_call M sh ro P (am_Ev M sh ro P) virt pc ls st h (am_lk (m_inv M) i) := by
    rw [hlk]
    obtain ⟨k0, y, b, mL, rt, n, fr, lo, mc, thr, part, gg⟩ := cd
    show bif am_kind sh virt k0 (st.take n).reverse && Nat.ble n st.length && Nat.ble (am_csum (st.drop n)) 8 && Nat.ble (fr + 1) (m_fr M) && Nat.ble (8 + (mL + 11) + lo) (m_lo M) then am_fin M P (am_Ev M sh ro P) thr part mc pc ls (st.drop n) h (gg sh ro (st.take n).reverse h) else False
    have hst' : (am_kind sh virt k0 (st.take n).reverse && Nat.ble n st.length && Nat.ble (am_csum (st.drop n)) 8 && Nat.ble (fr + 1) (m_fr M) && Nat.ble (8 + (mL + 11) + lo) (m_lo M)) = true := hst
    rw [hst']
    have hg' : gg sh ro (st.take n).reverse h = g := hg
    rw [hg']
    exact hfin
  unfold am_F
  dsimp only
  cases virt with
  | true =>
    unfold am_Fi
    rw [hcode]
    exact hcall
  | false =>
    unfold am_Fi
    rw [hcode]
    exact hcall
theorem RT.extc {f f' : Nat → Nat → Int32} {b n : Nat} {T : Nat → Int32} (h : RT f b T n) (e : ∀ j, j < 12 → f' (b + j) = f (b + j)) : RT f' b T n := h.congr e
/-- only the cells of class and model matter -/
theorem RR.ext {n : Nat} {h m h' m' : HP} (hr : RR n h m) (a : ∀ c, c < 135 → h'.1 c = h.1 c) (z : RrZ h') (b : ∀ c, c < 10 → m'.1 c = m.1 c) : RR n h' m' := by
  obtain ⟨hR, hI, ⟨s, o, k1, k2, k3, k4, k5, k6⟩, hK, ⟨l, x1, x2, x3, x4⟩, hZ⟩ := hr
  refine ⟨?_, ?_, ⟨s, o, k1, k2, by rw [a 38 (by omega)]; exact k3, by rw [a 38 (by omega)]; exact k4, by rw [b 0 (by omega)]; exact k5, fun j hj => (k6 j hj).keep (fun i hi => a _ (by omega)) (fun i _ => by rw [b 3 (by omega)])⟩, fun j hj => ?_, ⟨l, x1, by rw [a 18 (by omega)]; exact x2, by rw [b 0 (by omega)]; exact x3, fun i hi => by rw [a 19 (by omega), b 6 (by omega)]; exact x4 i hi⟩, z⟩
  · rw [b 1 (by omega)]; exact hR.congr (fun j hj => a _ (by omega))
  · rw [b 1 (by omega)]; exact hI
  · rw [a 37 (by omega), b 5 (by omega)]
    exact ⟨(hK j hj).1, (hK j hj).2.imp id (fun z => ⟨z.1, z.2.keep (fun i hi => a _ (by omega)) (fun i _ => by rw [b 4 (by omega)])⟩)⟩
/-- the relation in the law's world -/
def LR (h : HP) : Prop := ∃ n, RR n h (am_pull plM h)
theorem pushM_pull (h : HP) : am_push plM h (am_pull plM h) = h := by
  have key : ∀ (c : Nat), (am_push plM h (am_pull plM h)).1 c = h.1 c ∧ (am_push plM h (am_pull plM h)).2 c = h.2 c := by
    intro c
    by_cases hc : c < 135 ∨ 144 < c
    · exact pushM_out h _ hc
    · obtain ⟨k, hk, rfl⟩ : ∃ k, k < 10 ∧ c = 135 + k := ⟨c - 135, by omega, by omega⟩
      refine ⟨by rw [pushM1 h _ hk, pullM1 h hk], ?_⟩
      show (match am_ip plM (135 + k) with | some k => (am_pull plM h).2 k | none => h.2 (135 + k)) = _
      rw [am_ip_at (pl := plM) (by decide +kernel) (plM_at hk)]
      show h.2 (am_pi plM k) = _
      rw [piM hk]
  exact Prod.ext (funext fun c => (key c).1) (funext fun c => (key c).2)
/-- the class's answer (as its contract tells it) and the model's -/
def GRel (g0 : GR) (hs : Hs) (w : Int32 × HP) : Prop :=
  (∃ n, RR n (g_hp g0) w.2) ∧ (∀ E, g_thr g0 = some E → E ∈ hs.map (fun q => q.1) ∧ w.2.1 0 8 = hcode hs E ∧ ¬ hcode hs E = 0) ∧ (g_thr g0 = none → w.2.1 0 8 = 0 ∧ g_val g0 = some (.int w.1))
def hsL (hs : Hs) : List (String × Int32) := hs.map (fun q => (q.1, q.2.1))
def hsD (hs : Hs) : Bool := (hs.all (fun q => decide (hcode hs q.1 = q.2.1 ∧ ¬ q.2.1 = 0)))
theorem hsD_at {hs : Hs} (h : hsD hs = true) {E : String} {x : Int32} (hm : (E, x) ∈ hsL hs) : E ∈ hs.map (fun q => q.1) ∧ x = hcode hs E ∧ ¬ hcode hs E = 0 := by
  obtain ⟨q, hq, e⟩ := List.mem_map.mp hm
  cases e
  have h1 := of_decide_eq_true (List.all_eq_true.mp h q hq)
  exact ⟨List.mem_map.mpr ⟨q, hq, rfl⟩, h1.1.symm, by rw [h1.1]; exact h1.2⟩
theorem gr_IW {hs : Hs} (hd : hsD hs = true) {h : HP} {c : String ⊕ (Int32 × HP)} {w : Int32 × HP} (hb : Bo (hsL hs) h c w) (ok : Bool) (pre : Prop) : GRel (ok, pre, rthr c, rvIW c, rhpI h c) hs w := by
  cases c with
  | inl E =>
    obtain ⟨b1, n, b2⟩ := hb
    obtain ⟨d1, d2, d3⟩ := hsD_at hd b1
    exact ⟨⟨n, b2⟩, fun E' hE' => by cases hE'; exact ⟨d1, d2, d3⟩, fun z => nomatch z⟩
  | inr r =>
    obtain ⟨b1, b2, n, b3⟩ := hb
    exact ⟨⟨n, b3⟩, (fun E' hE' => nomatch hE'), fun _ => ⟨b1, by show some (Value.int r.1) = _; rw [b2]⟩⟩
theorem gr_I {hs : Hs} (hd : hsD hs = true) {h : HP} {c : String ⊕ Int32} {w : Int32 × HP} (hb : Bo (hsL hs) h (c.map id (fun q => (q, h))) w) (ok : Bool) (pre : Prop) : GRel (ok, pre, rthr c, rvI c, h) hs w := by
  cases c with
  | inl E =>
    obtain ⟨b1, n, b2⟩ := hb
    obtain ⟨d1, d2, d3⟩ := hsD_at hd b1
    exact ⟨⟨n, b2⟩, fun E' hE' => by cases hE'; exact ⟨d1, d2, d3⟩, fun z => nomatch z⟩
  | inr r =>
    obtain ⟨b1, b2, n, b3⟩ := hb
    exact ⟨⟨n, b3⟩, (fun E' hE' => nomatch hE'), fun _ => ⟨b1, by show some (Value.int r) = _; rw [b2]⟩⟩
theorem gr_IU {hs : Hs} (hd : hsD hs = true) {c : (String × HP) ⊕ (Int32 × HP)} {w : Int32 × HP} (hb : Bo2 (hsL hs) c w) (ok : Bool) (pre : Prop) : GRel (ok, pre, rthrU c, rvIU c, rhpU c) hs w := by
  cases c with
  | inl E =>
    obtain ⟨b1, n, b2⟩ := hb
    obtain ⟨d1, d2, d3⟩ := hsD_at hd b1
    exact ⟨⟨n, b2⟩, fun E' hE' => by cases hE'; exact ⟨d1, d2, d3⟩, fun z => nomatch z⟩
  | inr r =>
    obtain ⟨b1, b2, n, b3⟩ := hb
    exact ⟨⟨n, b3⟩, (fun E' hE' => nomatch hE'), fun _ => ⟨b1, by show some (Value.int r.1) = _; rw [b2]⟩⟩
/-- what a helper leaves -/
def Lh (g0 : GR) (hs : Hs) (h : HP) : GR := gG 1 (gH hs 145 (gP plB g0 h)) h
def LkC (g0 : GR) (hs : Hs) : Int32 := match g_thr g0 with | some E => hcode hs E | none => 0
theorem Lh_cell (g0 : GR) (hs : Hs) (h : HP) (c : Nat) (hc : c ≠ 2000) : (g_hp (Lh g0 hs h)).1 c = if c < 135 then (g_hp g0).1 c else h.1 c := by
  show (am_si (g_hp (gH hs 145 (gP plB g0 h))) 2000 0 (h.1 2000 0 + 1)).1 c = _
  rw [am_si_ne hc]
  show (match g_thr g0 with | some _ => am_push plB h (g_hp g0) | none => match g_val g0 with | some (.int r) => am_sl (am_push plB h (g_hp g0)) 145 0 r.toInt64 | _ => am_push plB h (g_hp g0)).1 c = _
  cases g_thr g0 with
  | some E => exact pushB1 _ _ _
  | none =>
    show (match g_val g0 with | some (.int r) => am_sl (am_push plB h (g_hp g0)) 145 0 r.toInt64 | _ => am_push plB h (g_hp g0)).1 c = _
    cases g_val g0 with
    | none => exact pushB1 _ _ _
    | some v => cases v <;> exact pushB1 _ _ _
theorem law_facts {h : HP} (hr : LR h) {g0 : GR} {hs : Hs} {pM : HP → Prop} {vM : HP → Int32 × HP} (both : ∀ n m, RR n h m → g_pre g0 ∧ pM m ∧ GRel g0 hs (vM m)) {g : Nat} (hg : h.1 2000 0 = nI g) :
    g_pre (Lh g0 hs h) ∧ pM (am_pull plM (g_hp (Lh g0 hs h))) ∧ (g_hp (Lh g0 hs h)).1 1005 = h.1 1005 ∧ (g_hp (Lh g0 hs h)).1 2000 0 = nI (g + 1) ∧
    ∀ H2, H2 = am_push plM (g_hp (Lh g0 hs h)) (vM (am_pull plM (g_hp (Lh g0 hs h)))).2 → H2.1 2000 0 = nI (g + 1) ∧ LR H2 ∧ (am_pull plM H2).1 0 8 = LkC g0 hs ∧ (LkC g0 hs = 0 → H2.2 145 0 = (vM (am_pull plM (g_hp (Lh g0 hs h)))).1.toInt64) := by
  obtain ⟨n, hr⟩ := hr
  obtain ⟨H1, hH1⟩ : ∃ H1, g_hp (Lh g0 hs h) = H1 := ⟨_, rfl⟩
  have hc : ∀ c, c ≠ 2000 → H1.1 c = if c < 135 then (g_hp g0).1 c else h.1 c := fun c hc => by rw [← hH1]; exact Lh_cell g0 hs h c hc
  have hr1 : RR n h (am_pull plM H1) := hr.ext (fun _ _ => rfl) hr.2.2.2.2.2 (fun c hc' => by rw [pullM1 _ hc', pullM1 _ hc', hc _ (by omega), if_neg (by omega)])
  obtain ⟨b1, b2, ⟨n', b3⟩, b4, b5⟩ := both n _ hr1
  have hgh : H1.1 2000 0 = nI (g + 1) := by
    rw [← hH1]
    show (am_si (g_hp (gH hs 145 (gP plB g0 h))) 2000 0 (h.1 2000 0 + 1)).1 2000 0 = _
    rw [am_si1, if_pos ⟨rfl, rfl⟩, hg, nI_1]
  rw [hH1]
  refine ⟨⟨b1, fun E hE => (b4 E hE).1⟩, b2, by rw [hc 1005 (by omega), if_neg (by omega)], hgh, fun H2 hH2 => ?_⟩
  obtain ⟨w, hw⟩ : ∃ w, vM (am_pull plM H1) = w := ⟨_, rfl⟩
  rw [hw] at hH2 b3 b4 b5 ⊢
  have hz0 := hr.2.2.2.2.2
  have h2c : ∀ c, c < 10 → H2.1 (135 + c) = w.2.1 c := fun c hc' => by rw [hH2]; exact pushM1 _ _ hc'
  have h2o : ∀ c, c < 135 ∨ 144 < c → H2.1 c = H1.1 c ∧ H2.2 c = H1.2 c := fun c hc' => by rw [hH2]; exact pushM_out _ _ hc'
  have h8 : (am_pull plM H2).1 0 8 = w.2.1 0 8 := by rw [pullM1 _ (by omega)]; exact congrFun (h2c 0 (by omega)) 8
  refine ⟨by rw [(h2o 2000 (by omega)).1]; exact hgh, ⟨n', b3.ext (fun c hc' => by rw [(h2o c (by omega)).1, hc c (by omega), if_pos hc']) (hz0.fr (by rw [(h2o 1002 (by omega)).1, hc 1002 (by omega), if_neg (by omega)]) (by rw [(h2o 1003 (by omega)).1, hc 1003 (by omega), if_neg (by omega)])) (fun c hc' => by rw [pullM1 _ hc']; exact h2c c hc')⟩, ?_, fun h0 => ?_⟩
  · rw [h8]
    unfold LkC
    cases e : g_thr g0 with
    | none => exact (b5 e).1
    | some E => exact (b4 E e).2.1
  · cases e : g_thr g0 with
    | some E =>
      unfold LkC at h0
      rw [e] at h0
      exact absurd h0 (b4 E e).2.2
    | none =>
      rw [(h2o 145 (by omega)).2, ← hH1]
      show (match g_thr g0 with | some _ => am_push plB h (g_hp g0) | none => match g_val g0 with | some (.int r) => am_sl (am_push plB h (g_hp g0)) 145 0 r.toInt64 | _ => am_push plB h (g_hp g0)).2 145 0 = _
      rw [e, (b5 e).2]
      show am_upL (am_push plB h (g_hp g0)).2 145 0 w.1.toInt64 145 0 = _
      unfold am_upL
      rw [if_pos rfl]
      exact if_pos rfl
theorem direct_facts {α : Type} {h : HP} (hr : LR h) {g0 : GR} {pM : HP → Prop} {vM : HP → α × HP} (val : α → Value) (both : ∀ n m, RR n h m → g_pre g0 ∧ pM m ∧ (∃ n', RR n' (g_hp g0) (vM m).2) ∧ g_val g0 = some (val (vM m).1)) :
    g_pre g0 ∧ pM (am_pull plM (am_push plB h (g_hp g0))) ∧ (am_push plB h (g_hp g0)).1 1005 = h.1 1005 ∧ (am_push plB h (g_hp g0)).1 2000 0 = h.1 2000 0 ∧ g_val g0 = some (val (vM (am_pull plM (am_push plB h (g_hp g0)))).1) ∧
    ∀ H2, H2 = am_push plM (am_push plB h (g_hp g0)) (vM (am_pull plM (am_push plB h (g_hp g0)))).2 → H2.1 2000 0 = h.1 2000 0 ∧ LR H2 := by
  obtain ⟨n, hr⟩ := hr
  obtain ⟨H1, hH1⟩ : ∃ H1, am_push plB h (g_hp g0) = H1 := ⟨_, rfl⟩
  have hc : ∀ c, H1.1 c = if c < 135 then (g_hp g0).1 c else h.1 c := fun c => by rw [← hH1]; exact pushB1 _ _ _
  have hr1 : RR n h (am_pull plM H1) := hr.ext (fun _ _ => rfl) hr.2.2.2.2.2 (fun c hc' => by rw [pullM1 _ hc', pullM1 _ hc', hc, if_neg (by omega)])
  obtain ⟨b1, b2, ⟨n', b3⟩, b4⟩ := both n _ hr1
  rw [hH1]
  refine ⟨b1, b2, by rw [hc 1005, if_neg (by omega)], by rw [hc 2000, if_neg (by omega)], b4, fun H2 hH2 => ?_⟩
  obtain ⟨w, hw⟩ : ∃ w, vM (am_pull plM H1) = w := ⟨_, rfl⟩
  rw [hw] at hH2 b3
  have hz0 := hr.2.2.2.2.2
  have h2c : ∀ c, c < 10 → H2.1 (135 + c) = w.2.1 c := fun c hc' => by rw [hH2]; exact pushM1 _ _ hc'
  have h2o : ∀ c, c < 135 ∨ 144 < c → H2.1 c = H1.1 c := fun c hc' => by rw [hH2]; exact (pushM_out _ _ hc').1
  refine ⟨by rw [h2o 2000 (by omega), hc 2000, if_neg (by omega)], n', b3.ext (fun c hc' => by rw [h2o c (by omega), hc c, if_pos hc']) (hz0.fr (by rw [h2o 1002 (by omega), hc 1002, if_neg (by omega)]) (by rw [h2o 1003 (by omega), hc 1003, if_neg (by omega)])) (fun c hc' => by rw [pullM1 _ hc']; exact h2c c hc')⟩
