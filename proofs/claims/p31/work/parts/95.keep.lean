/-! CONTRACTS that keep what is not the class's; ACTS by the state. -/
def plB : List Nat := List.range 135
/-- the law's world: the class's cells and its row of longs -/
def WL : List Sh := WB ++ [(2, 64, [])]
theorem plB_L : am_plok plB WB WL = true := by decide +kernel
theorem plB_B : am_plok plB WB WB = true := by decide +kernel
theorem oks_WB : ∀ s ∈ WB, am_oks s := oks_of (by decide +kernel)
theorem oks_WL : ∀ s ∈ WL, am_oks s := oks_of (by decide +kernel)
theorem piB (k : Nat) : am_pi plB k = k := by
  unfold am_pi
  cases hb : Nat.blt k plB.length with
  | true =>
    have h1 : k < 135 := am_blt hb
    rw [cond_true]
    show (List.range 135).getD k 0 = k
    rw [List.getD_eq_getElem?_getD, List.getElem?_range h1]; rfl
  | false => rfl
theorem pullB (h : HP) : am_pull plB h = h := by
  refine Prod.ext ?_ ?_
  · funext k; show h.1 (am_pi plB k) = _; rw [piB]
  · funext k; show h.2 (am_pi plB k) = _; rw [piB]
theorem pushB1 (h h0 : HP) (c : Nat) : (am_push plB h h0).1 c = if c < 135 then h0.1 c else h.1 c := by
  show (match am_ip plB c with | some k => h0.1 k | none => h.1 c) = _
  by_cases hc : c < 135
  · rw [am_ip_at (pl := plB) (k := c) (by decide +kernel) (by show (List.range 135)[c]? = _; rw [List.getElem?_range hc]), if_pos hc]
  · rw [am_ip_out (pl := plB) (fun z => hc (List.mem_range.mp z)), if_neg hc]
theorem pushB2 (h h0 : HP) (c : Nat) (hc : ¬ c < 135) : (am_push plB h h0).2 c = h.2 c := by
  show (match am_ip plB c with | some k => h0.2 k | none => h.2 c) = _
  rw [am_ip_out (pl := plB) (fun z => hc (List.mem_range.mp z))]
def isN : Value → Bool
  | .int _ => true
  | .long _ => true
  | .double _ => true
  | _ => false
def gP (pl : List Nat) (g0 : GR) (h : HP) : GR := (g_ok g0, g_pre g0, g_thr g0, g_val g0, am_push pl h (g_hp g0))
def gPl (pl : List Nat) (t : Nat) (shc : List Sh) (cd : CD) : List Sh → List Sh → List Value → HP → GR := fun _ ro as h => match as with
  | .ref o :: r => bif Nat.beq o (am_pi pl t) && r.all isN then gP pl (c_g cd shc ro (.ref t :: r) (am_pull pl h)) h else bad h
  | _ => bad h
def dPl (pl : List Nat) (t : Nat) (shc : List Sh) (cd : CD) : CD := (c_k cd, c_y cd, c_b cd, c_mL cd, c_rt cd, c_n cd, c_fr cd, c_lo cd, c_mc cd, c_thr cd, c_part cd, gPl pl t shc cd)
theorem isN_cv {ad ad' : Nat → Nat} {xq : Nat} {v : Value} (h : isN v = true) : am_cv ad xq v = am_cv ad' xq v := by
  cases v <;> first | rfl | exact absurd h (fun z => nomatch z)
theorem isNs_cv {ad ad' : Nat → Nat} {xq : Nat} : ∀ {r : List Value}, r.all isN = true → r.map (am_cv ad xq) = r.map (am_cv ad' xq)
  | [], _ => rfl
  | v :: r, h => by
    rw [List.all_cons, Bool.and_eq_true_iff] at h
    rw [List.map_cons, List.map_cons, isNs_cv h.2, isN_cv h.1]
theorem ok_pl {l : Launch} {pl : List Nat} {t : Nat} {shc sh ro : List Sh} {cd : CD} (hpl : am_plok pl shc sh = true) (hoks : ∀ s ∈ shc, am_oks s) (hok : am_Ok l shc ro cd) (hv : ∀ as h v, g_val (c_g cd shc ro as h) = some v → isN v = true) : am_Ok l sh ro (dPl pl t shc cd) := by
  obtain ⟨w, hw1, hw2, H⟩ := hok
  refine ⟨w, hw1, hw2, fun D G ad xq as h hg => ?_⟩
  have hg' : g_ok (gPl pl t shc cd sh ro as h) = true := hg
  show (c_part cd = false → g_pre (gPl pl t shc cd sh ro as h)) ∧ (g_pre (gPl pl t shc cd sh ro as h) → (c_thr cd = false → g_thr (gPl pl t shc cd sh ro as h) = none) ∧ am_Met l (c_y cd) (w :: am_U) _ _ (am_Qc D G ad sh ro (gPl pl t shc cd sh ro as h)) (am_XC D G ad sh ro (gPl pl t shc cd sh ro as h)) (c_mc cd) (6 * c_mc cd) (am_A G))
  revert hg'
  unfold gPl
  split
  · rename_i o r
    cases hb : Nat.beq o (am_pi pl t) && r.all isN with
    | false => exact fun z => nomatch z
    | true =>
      rw [Bool.and_eq_true_iff] at hb
      obtain rfl := am_beq hb.1
      intro hg'
      have hg2 : g_ok (c_g cd shc ro (.ref t :: r) (am_pull pl h)) = true := hg'
      obtain ⟨h1, h2⟩ := H D (am_Gc G ad pl) (fun k => ad (am_pi pl k)) xq (.ref t :: r) (am_pull pl h) hg2
      refine ⟨h1, fun hp => ⟨(h2 hp).1, ?_⟩⟩
      exact am_place (pl := pl) (shc := shc) hpl hoks (as := .ref (am_pi pl t) :: r) (as0 := .ref t :: r) (g0 := c_g cd shc ro (.ref t :: r) (am_pull pl h)) (by rw [List.map_cons, List.map_cons, isNs_cv hb.2]; rfl) rfl rfl (fun v hv' => isN_cv (hv _ _ v hv')) rfl (h2 hp).2
  · exact fun z => nomatch z
theorem gPl_at {pl : List Nat} {t o : Nat} {shc : List Sh} {cd : CD} {sh ro : List Sh} {r : List Value} {h : HP} (ho : am_pi pl t = o) (hr : r.all isN = true) : c_g (dPl pl t shc cd) sh ro (.ref o :: r) h = gP pl (c_g cd shc ro (.ref t :: r) (am_pull pl h)) h := by
  show (bif Nat.beq o (am_pi pl t) && r.all isN then gP pl (c_g cd shc ro (.ref t :: r) (am_pull pl h)) h else bad h) = _
  rw [ho, hr, Nat.beq_refl]; rfl
theorem gPl_B {cd : CD} {sh ro : List Sh} {r : List Value} {h : HP} (hr : r.all isN = true) : c_g (dPl plB 38 WB cd) sh ro (.ref 38 :: r) h = gP plB (c_g cd WB ro (.ref 38 :: r) h) h :=
  (gPl_at (piB 38) hr).trans (by rw [pullB])
def Kd (x : Int32) (cd : CD) : CD := dG x (dPl plB 38 WB cd)
def gK (x : Int32) (g0 : GR) (h : HP) : GR := gG x (gP plB g0 h) h
theorem gK_at {x : Int32} {cd : CD} {sh ro : List Sh} {r : List Value} {h : HP} (hr : r.all isN = true) : c_g (Kd x cd) sh ro (.ref 38 :: r) h = gK x (c_g cd WB ro (.ref 38 :: r) h) h := by
  show gG x (c_g (dPl plB 38 WB cd) sh ro (.ref 38 :: r) h) h = _
  rw [gPl_B hr]; rfl
theorem ok_K {l : Launch} {sh ro : List Sh} {cd : CD} (x : Int32) (hp : am_plok plB WB sh = true) (h1 : sh.length ≤ 1000) (h2 : ro.length ≤ 900) (hok : am_Ok l (WB ++ []) ro cd) (hv : ∀ as h v, g_val (c_g cd WB ro as h) = some v → isN v = true) : am_Ok l sh ro (Kd x cd) := ok_g x h1 h2 (ok_pl hp oks_WB (by rw [List.append_nil] at hok; exact hok) hv)
theorem gK_cell {x : Int32} {g0 : GR} {h : HP} {c : Nat} (hc : c ≠ 2000) : (g_hp (gK x g0 h)).1 c = if c < 135 then (g_hp g0).1 c else h.1 c := by
  show (am_si (am_push plB h (g_hp g0)) 2000 0 (h.1 2000 0 + x)).1 c = _
  rw [am_si_ne hc]; exact pushB1 _ _ _
theorem gK_cell2 {x : Int32} {g0 : GR} {h : HP} {c : Nat} (hc : 135 ≤ c) : (g_hp (gK x g0 h)).2 c = h.2 c := pushB2 _ _ _ (by omega)
theorem gK_gst {x : Int32} {g0 : GR} {h : HP} : (g_hp (gK x g0 h)).1 2000 0 = h.1 2000 0 + x := by
  show (am_si (am_push plB h (g_hp g0)) 2000 0 (h.1 2000 0 + x)).1 2000 0 = _
  rw [am_si1, if_pos ⟨rfl, rfl⟩]
/-- the state, and what was made -/
def At (h : HP) (S : Sta) (g : Nat) : Prop := RS h S ∧ h.1 2000 0 = nI g
/-- what is not the class's stays -/
def Kp (h H : HP) : Prop := ∀ c, 135 ≤ c → c ≠ 2000 → H.1 c = h.1 c ∧ H.2 c = h.2 c
theorem Kp.rf {h : HP} : Kp h h := fun _ _ _ => ⟨rfl, rfl⟩
theorem Kp.tr {h H K : HP} (a : Kp h H) (b : Kp H K) : Kp h K := fun c h1 h2 => ⟨(b c h1 h2).1.trans (a c h1 h2).1, (b c h1 h2).2.trans (a c h1 h2).2⟩
/-- what a method does, by the state -/
def Dz (cd : CD) (ro : List Sh) (r : List Value) (S : Sta) (v : Value) (S' : Sta) : Prop := ∀ h, RS h S → g_ok (c_g cd WB ro (.ref 38 :: r) h) = true ∧ g_pre (c_g cd WB ro (.ref 38 :: r) h) ∧ g_thr (c_g cd WB ro (.ref 38 :: r) h) = none ∧ g_val (c_g cd WB ro (.ref 38 :: r) h) = some v ∧ RS (g_hp (c_g cd WB ro (.ref 38 :: r) h)) S'
theorem act {M : MI} {sh ro : List Sh} {P : AR → HP → Prop} (virt : Bool) {pc i : Nat} {ls st : List Value} {h : HP} {cd : CD} {x g : Nat} {r : List Value} {S S' : Sta} {v : Value} (hcode : (m_code M pc).1 = (bif virt then .invokevirtual i else .invokestatic i)) (hlk : am_lk (m_inv M) i = some (Kd (nI x) cd))
    (hst : (am_kind sh virt (c_k cd) (st.take (c_n cd)).reverse && Nat.ble (c_n cd) st.length && Nat.ble (am_csum (st.drop (c_n cd))) 10 && Nat.ble (c_fr cd + 1) (m_fr M) && Nat.ble (10 + (c_mL cd + 11) + c_lo cd) (m_lo M)) = true)
    (hr : (st.take (c_n cd)).reverse = .ref 38 :: r) (hn : r.all isN = true) (hmc : c_mc cd ≤ x) (hbud : ∀ h, m_bud M h = (h.1 2000 0).toNatClampNeg) (hB : g + x + 1 ≤ m_B M) (hg : g + x < 1000000) (hd : Dz cd ro r S v S') (ha : At h S g)
    (k : ∀ H, At H S' (g + x) → Kp h H → am_Ev M sh ro P (pc + 3, ls, v :: st.drop (c_n cd), H)) : am_Ev M sh ro P (pc, ls, st, h) := by
  obtain ⟨f1, f2, f3, f4, f5⟩ := hd h ha.1
  have hgst : (g_hp (gK (nI x) (c_g cd WB ro (.ref 38 :: r) h) h)).1 2000 0 = nI (g + x) := by rw [gK_gst, ha.2, nI_add]
  refine am_Ev_callH virt (cd := Kd (nI x) cd) (g := gK (nI x) (c_g cd WB ro (.ref 38 :: r) h) h) hcode hlk hst (by show c_g (Kd (nI x) cd) sh ro (st.take (c_n cd)).reverse h = _; rw [hr]; exact gK_at hn) f1 ?_ ?_ f2 (fun E _ hE => absurd (f3.symm.trans hE) (fun z => nomatch z)) (fun _ => ?_)
  · rw [hbud, hbud, hgst, ha.2, nI_clamp (by omega), nI_clamp (by omega)]
    show g + c_mc cd ≤ g + x
    omega
  · rw [hbud, ha.2, nI_clamp (by omega)]
    show g + c_mc cd + 1 ≤ _
    omega
  · have e : g_val (gK (nI x) (c_g cd WB ro (.ref 38 :: r) h) h) = some v := f4
    rw [e]
    refine k _ ⟨f5.ext (fun c hc => ?_) (ha.1.2.2.2.2.fr ?_ ?_), hgst⟩ (fun c h1 h2 => ⟨?_, gK_cell2 h1⟩)
    · rw [gK_cell (by omega), if_pos hc]
    · rw [gK_cell (by omega), if_neg (by omega)]
    · rw [gK_cell (by omega), if_neg (by omega)]
    · rw [gK_cell h2, if_neg (by omega)]
/-! what is answered, and the state behind it -/
def vlR : Rsl → Option Int32
  | .inr q => some q.1
  | .inl _ => none
def stR (S : Sta) : Rsl → Sta
  | .inr q => q.2
  | .inl _ => S
def vlK : Lk0 → Option Int32
  | .inr q => some q
  | .inl _ => none
theorem vlR_inr {r : Rsl} {S : Sta} {v : Int32} (h : vlR r = some v) : r = .inr (v, stR S r) := by
  cases r with
  | inl E => cases h
  | inr q => cases h; rfl
theorem vlK_inr {r : Lk0} {v : Int32} (h : vlK r = some v) : r = .inr v := by
  cases r with
  | inl E => cases h
  | inr q => cases h; rfl
theorem dz_co {cd : CD} {ro : List Sh} {r : List Value} {S S' : Sta} {v : Int32} {c : HP → String ⊕ (Int32 × HP)} {p : HP → Prop} {res : Rsl} (hg : ∀ h, c_g cd WB ro (.ref 38 :: r) h = (true, p h, rthr (c h), rvIW (c h), rhpI h (c h))) (hs : ∀ h, RS h S → p h ∧ Co (c h) res) (e : res = .inr (v, S')) : Dz cd ro r S (.int v) S' := fun h h1 => by
  rw [hg]
  obtain ⟨a, b⟩ := hs h h1
  rw [e] at b
  obtain ⟨q, e1, e2, e3⟩ := co_inr b
  rw [e1]
  exact ⟨rfl, by rw [e1] at *; exact a, rfl, by rw [← show q.1 = v from e2]; rfl, e3⟩
theorem dz_lk {cd : CD} {ro : List Sh} {r : List Value} {S : Sta} {v : Int32} {c : HP → String ⊕ (Int32 × HP)} {p : HP → Prop} {l : Lk0} (hg : ∀ h, c_g cd WB ro (.ref 38 :: r) h = (true, p h, rthr (c h), rvIW (c h), rhpI h (c h))) (hs : ∀ h, RS h S → p h ∧ Co (c h) (lks S l)) (e : l = .inr v) : Dz cd ro r S (.int v) S := dz_co hg hs (by rw [e]; rfl)
theorem dz_eq {cd : CD} {ro : List Sh} {r : List Value} {S : Sta} {v : Int32} {c : HP → Lk0} {p : HP → Prop} {l : Lk0} (hg : ∀ h, c_g cd WB ro (.ref 38 :: r) h = (true, p h, rthr (c h), rvI (c h), h)) (hs : ∀ h, RS h S → p h ∧ c h = l) (e : l = .inr v) : Dz cd ro r S (.int v) S := fun h h1 => by
  rw [hg]
  obtain ⟨a, b⟩ := hs h h1
  rw [b, e]
  exact ⟨rfl, a, rfl, rfl, h1⟩
section DZ
variable {ro : List Sh} {S : Sta} {v : Int32}
theorem dz_layover (a b : Int32) (hE : vlR (s_layover S a b) = some v) : Dz (d_B_layover 15) ro [.int a, .int b] S (.int v) (stR S (s_layover S a b)) := dz_co (c := fun h => v_B_layover h a b) (p := fun h => p_B_layover h a b) (fun _ => rfl) (fun _ h1 => layover_s h1 a b) (vlR_inr hE)
theorem dz_relief (a : Int32) (hE : vlR (s_relief S a) = some v) : Dz (d_B_relief 15) ro [.int a] S (.int v) (stR S (s_relief S a)) := dz_co (c := fun h => v_B_relief h a) (p := fun h => p_B_relief h a) (fun _ => rfl) (fun _ h1 => relief_s h1 a) (vlR_inr hE)
theorem dz_set (a b : Int32) (hE : vlR (s_set S a b) = some v) : Dz (d_B_set 15) ro [.int a, .int b] S (.int v) (stR S (s_set S a b)) := dz_co (c := fun h => v_B_set h a b) (p := fun h => p_B_set h a b) (fun _ => rfl) (fun _ h1 => set_s h1 a b) (vlR_inr hE)
theorem dz_trip (a b c d e : Int32) (hE : vlR (s_trip S a b c d e) = some v) : Dz (d_B_trip 15) ro [.int a, .int b, .int c, .int d, .int e] S (.int v) (stR S (s_trip S a b c d e)) := dz_co (c := fun h => v_B_trip h a b c d e) (p := fun h => p_B_trip h a b c d e) (fun _ => rfl) (fun _ h1 => trip_s h1 a b c d e) (vlR_inr hE)
theorem dz_follow (a b : Int32) (hE : vlR (s_follow S a b) = some v) : Dz (d_B_follow 15) ro [.int a, .int b] S (.int v) (stR S (s_follow S a b)) := dz_co (c := fun h => v_B_follow h a b) (p := fun h => p_B_follow h a b) (fun _ => rfl) (fun _ h1 => follow_s h1 a b) (vlR_inr hE)
theorem dz_part (a : Int32) (hE : vlR (s_part S a) = some v) : Dz (d_B_part 15) ro [.int a] S (.int v) (stR S (s_part S a)) := dz_co (c := fun h => v_B_part h a) (p := fun h => p_B_part h a) (fun _ => rfl) (fun _ h1 => part_s h1 a) (vlR_inr hE)
theorem dz_fail (a : Int32) (hE : vlR (s_fail S a) = some v) : Dz (d_B_fail 15) ro [.int a] S (.int v) (stR S (s_fail S a)) := dz_co (c := fun h => v_B_fail h a) (p := fun h => p_B_fail h a) (fun _ => rfl) (fun _ h1 => fail_s h1 a) (vlR_inr hE)
theorem dz_shift (a b : Int32) (hE : vlR (s_shift S a b) = some v) : Dz (d_B_shift 15) ro [.int a, .int b] S (.int v) (stR S (s_shift S a b)) := dz_co (c := fun h => v_B_shift h a b) (p := fun h => p_B_shift h a b) (fun _ => rfl) (fun _ h1 => shift_s h1 a b) (vlR_inr hE)
theorem dz_undo (hE : vlR (s_undo S) = some v) : Dz (d_B_undo 15) ro [] S (.int v) (stR S (s_undo S)) := dz_co (c := fun h => v_B_undo h) (p := fun h => p_B_undo h) (fun _ => rfl) (fun _ h1 => undo_s h1) (vlR_inr hE)
theorem dz_keep (a : Int32) (hE : vlR (s_keep S a) = some v) : Dz (d_B_keep 15) ro [.int a] S (.int v) (stR S (s_keep S a)) := dz_co (c := fun h => v_B_keep h a) (p := fun h => p_B_keep h a) (fun _ => rfl) (fun _ h1 => keep_s h1 a) (vlR_inr hE)
theorem dz_goBack (a : Int32) (hE : vlR (s_goBack S a) = some v) : Dz (d_B_goBack 15) ro [.int a] S (.int v) (stR S (s_goBack S a)) := dz_co (c := fun h => v_B_goBack h a) (p := fun h => p_B_goBack h a) (fun _ => rfl) (fun _ h1 => goBack_s h1 a) (vlR_inr hE)
theorem dz_append (a : Int32) (hE : vlR (s_append S a) = some v) : Dz (d_B_append 15) ro [.int a] S (.int v) (stR S (s_append S a)) := dz_co (c := fun h => v_B_append h a) (p := fun _ => True) (fun _ => rfl) (fun _ h1 => ⟨trivial, append_s h1 a⟩) (vlR_inr hE)
theorem dz_blockOf (a b : Int32) (hE : vlK (l_blockOf S a b) = some v) : Dz (d_B_blockOf 15) ro [.int a, .int b] S (.int v) S := dz_lk (c := fun h => v_B_blockOf h a b) (p := fun h => p_B_blockOf h a b) (fun _ => rfl) (fun _ h1 => blockOf_s h1 a b) (vlK_inr hE)
theorem dz_terminalOf (a b : Int32) (hE : vlK (l_terminalOf S a b) = some v) : Dz (d_B_terminalOf 15) ro [.int a, .int b] S (.int v) S := dz_lk (c := fun h => v_B_terminalOf h a b) (p := fun h => p_B_terminalOf h a b) (fun _ => rfl) (fun _ h1 => terminalOf_s h1 a b) (vlK_inr hE)
theorem dz_count (a : Int32) (hE : vlK (l_count S a) = some v) : Dz (d_B_count 15) ro [.int a] S (.int v) S := dz_lk (c := fun h => v_B_count h a) (p := fun h => p_B_count h a) (fun _ => rfl) (fun _ h1 => count_s h1 a) (vlK_inr hE)
theorem dz_ifTrip (a b c d e : Int32) (hE : vlK (l_ifTrip S a b c d e) = some v) : Dz (d_B_ifTrip 15) ro [.int a, .int b, .int c, .int d, .int e] S (.int v) S := dz_lk (c := fun h => v_B_ifTrip h a b c d e) (p := fun h => p_B_ifTrip h a b c d e) (fun _ => rfl) (fun _ h1 => ifTrip_s h1 a b c d e) (vlK_inr hE)
theorem dz_bestTime (a b : Int32) (hE : vlK (l_bestTime S a b) = some v) : Dz (d_B_bestTime 15) ro [.int a, .int b] S (.int v) S := dz_lk (c := fun h => v_B_bestTime h a b) (p := fun h => p_B_bestTime h a b) (fun _ => rfl) (fun _ h1 => bestTime_s h1 a b) (vlK_inr hE)
theorem dz_tripOf (a b : Int32) (hE : vlK (l_tripOf S a b) = some v) : Dz (d_B_tripOf 15) ro [.int a, .int b] S (.int v) S := dz_eq (c := fun h => v_B_tripOf h a b) (p := fun h => p_B_tripOf h a b) (fun _ => rfl) (fun _ h1 => tripOf_s h1 a b) (vlK_inr hE)
theorem dz_duty (a b c : Int32) (hE : vlK (l_duty S a b c) = some v) : Dz (d_B_duty 15) ro [.int a, .int b, .int c] S (.int v) S := dz_eq (c := fun h => v_B_duty h a b c) (p := fun h => p_B_duty h a b c) (fun _ => rfl) (fun _ h1 => duty_s h1 a b c) (vlK_inr hE)
theorem dz_ifFailed (a : Int32) (hE : vlK (l_ifFailed S a) = some v) : Dz (d_B_ifFailed 15) ro [.int a] S (.int v) S := dz_eq (c := fun h => v_B_ifFailed h a) (p := fun h => p_B_ifFailed h a) (fun _ => rfl) (fun _ h1 => ifFailed_s h1 a) (vlK_inr hE)
theorem dz_setting (a : Int32) (hE : vlK (l_setting S a) = some v) : Dz (d_B_setting 15) ro [.int a] S (.int v) S := dz_eq (c := fun h => v_B_setting h a) (p := fun _ => True) (fun _ => rfl) (fun _ h1 => ⟨trivial, setting_s h1 a⟩) (vlK_inr hE)
theorem dz_whyNot (a b : Int32) (hE : vlK (l_whyNot S a b) = some v) : Dz (d_B_whyNot 15) ro [.int a, .int b] S (.int v) S := dz_eq (c := fun h => v_B_whyNot h a b) (p := fun _ => True) (fun _ => rfl) (fun _ h1 => ⟨trivial, whyNot_s h1 a b⟩) (vlK_inr hE)
theorem dz_load (hE : vlR (s_load S) = some v) : Dz (d_B_load 15) ro [] S (.int v) (stR S (s_load S)) := fun h h1 => by
  obtain ⟨a, b⟩ := load_s h1
  have e2 := vlR_inr (S := S) hE
  show Nat.beq 38 38 = true ∧ p_B_load h ∧ rthrU (v_B_load h) = none ∧ rvIU (v_B_load h) = some (.int v) ∧ RS (rhpU (v_B_load h)) _
  rw [e2] at b
  cases hc : v_B_load h with
  | inl E => rw [hc] at b; exact (show False from b).elim
  | inr q =>
    rw [hc] at b
    obtain ⟨b1, b2⟩ : q.1 = v ∧ RS q.2 (stR S (s_load S)) := b
    exact ⟨rfl, a, rfl, by rw [← b1]; rfl, b2⟩
theorem dz_blockAll (e : (s_blockAll S).1 = v) : Dz (d_B_blockAll 15) ro [] S (.int v) (s_blockAll S).2 := fun h h1 => by
  obtain ⟨a, b, c⟩ := blockAll_s h1
  refine ⟨rfl, a, rfl, ?_, c⟩
  show some (Value.int (v_B_blockAll h).1) = _
  rw [b, e]
theorem dz_clear (e : (s_clear S).1 = v) : Dz (d_B_clearBuffer 15) ro [] S (.int v) (s_clear S).2 := fun h h1 => by
  obtain ⟨b, c⟩ := clear_s h1
  refine ⟨rfl, trivial, rfl, ?_, c⟩
  show some (Value.int (v_B_clearBuffer h).1) = _
  rw [b, e]
theorem dz_firstError (e : l_firstError S = v) : Dz (d_B_firstError 15) ro [] S (.int v) S := fun h h1 => by
  obtain ⟨a, b, c⟩ := firstError_s h1
  refine ⟨rfl, a, rfl, ?_, c⟩
  show some (Value.int (v_B_firstError h).1) = _
  rw [b, e]
theorem dz_share {u : UInt64} (e : shr S.1.1 S.1.2 = u) : Dz (d_B_drivenShare 15) ro [] S (.double u) S := fun h h1 => by
  obtain ⟨a, b⟩ := share_s h1
  refine ⟨rfl, a, rfl, ?_, h1⟩
  show some (Value.double (v_B_drivenShare h)) = _
  rw [b, e]
theorem dz_call (w a b : Int32) (m : Int64) (e : (s_call S w a b m).1 = v) : Dz d_L_call ro [.int w, .int a, .int b, .long m] S (.int v) (s_call S w a b m).2 := fun h h1 => by
  obtain ⟨p, q, c⟩ := call_s h1 w a b m
  refine ⟨rfl, p, rfl, ?_, c⟩
  show some (Value.int (v_L_call h w a b m).1) = _
  rw [q, e]
theorem dz_seen : Dz (d_L_seen 0) ro [] S (.long (seenV S.1)) S := fun h h1 => by
  obtain ⟨p, q, c⟩ := seen_s h1
  refine ⟨rfl, p, rfl, ?_, c⟩
  show some (Value.long (v_L_seen_38 h).1) = _
  rw [q]
theorem dz_types {w : Int64} {s' : List Nat} (e : tyB w 8 S.2.2.2 = some s') : Dz (d_L_types 0) ro [.long w] S (.int 1) (S.1, S.2.1, S.2.2.1, s') := fun h h1 => by
  obtain ⟨p, q, c⟩ := types_s h1 e
  refine ⟨rfl, p, rfl, ?_, c⟩
  show some (Value.int (v_L_types_38 h w).1) = _
  rw [q]
theorem dz_isError {u w : Int64} {x : Int32} {s1 s2 : List Nat} (h1 : tyB u 8 [] = some s1) (h2 : tyB w 8 s1 = some s2) (he : nI (fE s2) = x) : Dz (d_L_isError 0) ro [.long u, .long w, .int x] S (.int 1) (S.1, S.2.1, S.2.2.1, s2) := fun h hs => by
  obtain ⟨p, q, c⟩ := isE_s hs h1 h2 he
  refine ⟨rfl, p, rfl, ?_, c⟩
  show some (Value.int (v_L_isError_38 h u w x).1) = _
  rw [q]
end DZ
/-! what is answered is a number -/
theorem rvI_n {x : String ⊕ Int32} {v : Value} (h : rvI x = some v) : isN v = true := by
  cases x with
  | inl E => cases h
  | inr q => cases h; rfl
theorem rvIW_n {x : String ⊕ (Int32 × HP)} {v : Value} (h : rvIW x = some v) : isN v = true := by
  cases x with
  | inl E => cases h
  | inr q => cases h; rfl
theorem rvIU_n {x : (String × HP) ⊕ (Int32 × HP)} {v : Value} (h : rvIU x = some v) : isN v = true := by
  cases x with
  | inl E => cases h
  | inr q => cases h; rfl
theorem nv_layover {ro : List Sh} : ∀ as h v, g_val (c_g (d_B_layover 15) WB ro as h) = some v → isN v = true := fun as h v e => by
  have e : g_val (g_B_layover WB ro as h) = some v := e
  unfold g_B_layover at e
  split at e
  · exact rvIW_n e
  · cases e
theorem nv_relief {ro : List Sh} : ∀ as h v, g_val (c_g (d_B_relief 15) WB ro as h) = some v → isN v = true := fun as h v e => by
  have e : g_val (g_B_relief WB ro as h) = some v := e
  unfold g_B_relief at e
  split at e
  · exact rvIW_n e
  · cases e
theorem nv_set {ro : List Sh} : ∀ as h v, g_val (c_g (d_B_set 15) WB ro as h) = some v → isN v = true := fun as h v e => by
  have e : g_val (g_B_set WB ro as h) = some v := e
  unfold g_B_set at e
  split at e
  · exact rvIW_n e
  · cases e
theorem nv_trip {ro : List Sh} : ∀ as h v, g_val (c_g (d_B_trip 15) WB ro as h) = some v → isN v = true := fun as h v e => by
  have e : g_val (g_B_trip WB ro as h) = some v := e
  unfold g_B_trip at e
  split at e
  · exact rvIW_n e
  · cases e
theorem nv_follow {ro : List Sh} : ∀ as h v, g_val (c_g (d_B_follow 15) WB ro as h) = some v → isN v = true := fun as h v e => by
  have e : g_val (g_B_follow WB ro as h) = some v := e
  unfold g_B_follow at e
  split at e
  · exact rvIW_n e
  · cases e
theorem nv_part {ro : List Sh} : ∀ as h v, g_val (c_g (d_B_part 15) WB ro as h) = some v → isN v = true := fun as h v e => by
  have e : g_val (g_B_part WB ro as h) = some v := e
  unfold g_B_part at e
  split at e
  · exact rvIW_n e
  · cases e
theorem nv_fail {ro : List Sh} : ∀ as h v, g_val (c_g (d_B_fail 15) WB ro as h) = some v → isN v = true := fun as h v e => by
  have e : g_val (g_B_fail WB ro as h) = some v := e
  unfold g_B_fail at e
  split at e
  · exact rvIW_n e
  · cases e
theorem nv_shift {ro : List Sh} : ∀ as h v, g_val (c_g (d_B_shift 15) WB ro as h) = some v → isN v = true := fun as h v e => by
  have e : g_val (g_B_shift WB ro as h) = some v := e
  unfold g_B_shift at e
  split at e
  · exact rvIW_n e
  · cases e
theorem nv_undo {ro : List Sh} : ∀ as h v, g_val (c_g (d_B_undo 15) WB ro as h) = some v → isN v = true := fun as h v e => by
  have e : g_val (g_B_undo WB ro as h) = some v := e
  unfold g_B_undo at e
  split at e
  · exact rvIW_n e
  · cases e
theorem nv_keep {ro : List Sh} : ∀ as h v, g_val (c_g (d_B_keep 15) WB ro as h) = some v → isN v = true := fun as h v e => by
  have e : g_val (g_B_keep WB ro as h) = some v := e
  unfold g_B_keep at e
  split at e
  · exact rvIW_n e
  · cases e
theorem nv_goBack {ro : List Sh} : ∀ as h v, g_val (c_g (d_B_goBack 15) WB ro as h) = some v → isN v = true := fun as h v e => by
  have e : g_val (g_B_goBack WB ro as h) = some v := e
  unfold g_B_goBack at e
  split at e
  · exact rvIW_n e
  · cases e
theorem nv_blockOf {ro : List Sh} : ∀ as h v, g_val (c_g (d_B_blockOf 15) WB ro as h) = some v → isN v = true := fun as h v e => by
  have e : g_val (g_B_blockOf WB ro as h) = some v := e
  unfold g_B_blockOf at e
  split at e
  · exact rvIW_n e
  · cases e
theorem nv_terminalOf {ro : List Sh} : ∀ as h v, g_val (c_g (d_B_terminalOf 15) WB ro as h) = some v → isN v = true := fun as h v e => by
  have e : g_val (g_B_terminalOf WB ro as h) = some v := e
  unfold g_B_terminalOf at e
  split at e
  · exact rvIW_n e
  · cases e
theorem nv_count {ro : List Sh} : ∀ as h v, g_val (c_g (d_B_count 15) WB ro as h) = some v → isN v = true := fun as h v e => by
  have e : g_val (g_B_count WB ro as h) = some v := e
  unfold g_B_count at e
  split at e
  · exact rvIW_n e
  · cases e
theorem nv_ifTrip {ro : List Sh} : ∀ as h v, g_val (c_g (d_B_ifTrip 15) WB ro as h) = some v → isN v = true := fun as h v e => by
  have e : g_val (g_B_ifTrip WB ro as h) = some v := e
  unfold g_B_ifTrip at e
  split at e
  · exact rvIW_n e
  · cases e
theorem nv_bestTime {ro : List Sh} : ∀ as h v, g_val (c_g (d_B_bestTime 15) WB ro as h) = some v → isN v = true := fun as h v e => by
  have e : g_val (g_B_bestTime WB ro as h) = some v := e
  unfold g_B_bestTime at e
  split at e
  · exact rvIW_n e
  · cases e
theorem nv_append {ro : List Sh} : ∀ as h v, g_val (c_g (d_B_append 15) WB ro as h) = some v → isN v = true := fun as h v e => by
  have e : g_val (g_B_append WB ro as h) = some v := e
  unfold g_B_append at e
  split at e
  · exact rvIW_n e
  · cases e
theorem nv_tripOf {ro : List Sh} : ∀ as h v, g_val (c_g (d_B_tripOf 15) WB ro as h) = some v → isN v = true := fun as h v e => by
  have e : g_val (g_B_tripOf WB ro as h) = some v := e
  unfold g_B_tripOf at e
  split at e
  · exact rvI_n e
  · cases e
theorem nv_duty {ro : List Sh} : ∀ as h v, g_val (c_g (d_B_duty 15) WB ro as h) = some v → isN v = true := fun as h v e => by
  have e : g_val (g_B_duty WB ro as h) = some v := e
  unfold g_B_duty at e
  split at e
  · exact rvI_n e
  · cases e
theorem nv_ifFailed {ro : List Sh} : ∀ as h v, g_val (c_g (d_B_ifFailed 15) WB ro as h) = some v → isN v = true := fun as h v e => by
  have e : g_val (g_B_ifFailed WB ro as h) = some v := e
  unfold g_B_ifFailed at e
  split at e
  · exact rvI_n e
  · cases e
theorem nv_setting {ro : List Sh} : ∀ as h v, g_val (c_g (d_B_setting 15) WB ro as h) = some v → isN v = true := fun as h v e => by
  have e : g_val (g_B_setting WB ro as h) = some v := e
  unfold g_B_setting at e
  split at e
  · exact rvI_n e
  · cases e
theorem nv_whyNot {ro : List Sh} : ∀ as h v, g_val (c_g (d_B_whyNot 15) WB ro as h) = some v → isN v = true := fun as h v e => by
  have e : g_val (g_B_whyNot WB ro as h) = some v := e
  unfold g_B_whyNot at e
  split at e
  · exact rvI_n e
  · cases e
theorem nv_load {ro : List Sh} : ∀ as h v, g_val (c_g (d_B_load 15) WB ro as h) = some v → isN v = true := fun as h v e => by
  have e : g_val (g_B_load WB ro as h) = some v := e
  unfold g_B_load at e
  split at e
  · exact rvIU_n e
  · cases e
theorem nv_blockAll {ro : List Sh} : ∀ as h v, g_val (c_g (d_B_blockAll 15) WB ro as h) = some v → isN v = true := fun as h v e => by
  have e : g_val (g_B_blockAll WB ro as h) = some v := e
  unfold g_B_blockAll at e
  split at e
  · cases e; rfl
  · cases e
theorem nv_clearBuffer {ro : List Sh} : ∀ as h v, g_val (c_g (d_B_clearBuffer 15) WB ro as h) = some v → isN v = true := fun as h v e => by
  have e : g_val (g_B_clearBuffer WB ro as h) = some v := e
  unfold g_B_clearBuffer at e
  split at e
  · cases e; rfl
  · cases e
theorem nv_firstError {ro : List Sh} : ∀ as h v, g_val (c_g (d_B_firstError 15) WB ro as h) = some v → isN v = true := fun as h v e => by
  have e : g_val (g_B_firstError WB ro as h) = some v := e
  unfold g_B_firstError at e
  split at e
  · cases e; rfl
  · cases e
theorem nv_drivenShare {ro : List Sh} : ∀ as h v, g_val (c_g (d_B_drivenShare 15) WB ro as h) = some v → isN v = true := fun as h v e => by
  have e : g_val (g_B_drivenShare WB ro as h) = some v := e
  unfold g_B_drivenShare at e
  split at e
  · cases e; rfl
  · cases e
theorem nv_call {ro : List Sh} : ∀ as h v, g_val (c_g d_L_call WB ro as h) = some v → isN v = true := fun as h v e => by
  have e : g_val (g_L_call WB ro as h) = some v := e
  unfold g_L_call at e
  split at e
  · cases e; rfl
  · cases e
theorem nv_seen {ro : List Sh} : ∀ as h v, g_val (c_g (d_L_seen 0) WB ro as h) = some v → isN v = true := fun as h v e => by
  have e : g_val (g_L_seen WB ro as h) = some v := e
  unfold g_L_seen at e
  split at e
  · cases e; rfl
  · cases e
theorem nv_types {ro : List Sh} : ∀ as h v, g_val (c_g (d_L_types 0) WB ro as h) = some v → isN v = true := fun as h v e => by
  have e : g_val (g_L_types WB ro as h) = some v := e
  unfold g_L_types at e
  split at e
  · cases e; rfl
  · cases e
theorem nv_isError {ro : List Sh} : ∀ as h v, g_val (c_g (d_L_isError 0) WB ro as h) = some v → isN v = true := fun as h v e => by
  have e : g_val (g_L_isError WB ro as h) = some v := e
  unfold g_L_isError at e
  split at e
  · cases e; rfl
  · cases e
