/-! THE LAW'S WORLD: the class's cells, the model's, the row of one long; contracts carried into it; a cell that counts what is made. -/
def plB : List Nat := List.range 135
def plM : List Nat := [135, 136, 137, 138, 139, 140, 141, 142, 143, 144]
def WMp : List Sh := WM.map (fun s => (s.1, s.2.1, am_ren plM s))
def WL : List Sh := WB ++ (WMp ++ [(2, 1, [])])
theorem plB_ok : am_plok plB WB WL = true := by decide +kernel
theorem plM_ok : am_plok plM WM WL = true := by decide +kernel
theorem oks_WB : ∀ s ∈ WB, am_oks s := oks_of (by decide +kernel)
theorem oks_WM : ∀ s ∈ WM, am_oks s := oks_of (by decide +kernel)
theorem WL_out : WL[145]? = some (2, 1, []) := by decide +kernel
theorem piB (k : Nat) : am_pi plB k = k := by
  unfold am_pi
  cases hb : Nat.blt k plB.length with
  | true =>
    have h1 : k < 135 := am_blt hb
    rw [cond_true]
    show (List.range 135).getD k 0 = k
    rw [List.getD_eq_getElem?_getD, List.getElem?_range h1]; rfl
  | false => rfl
theorem pullB (h : HP) : am_pull plB h = h := by
  refine Prod.ext ?_ ?_
  · funext k; show h.1 (am_pi plB k) = _; rw [piB]
  · funext k; show h.2 (am_pi plB k) = _; rw [piB]
theorem pushB1 (h h0 : HP) (c : Nat) : (am_push plB h h0).1 c = if c < 135 then h0.1 c else h.1 c := by
  show (match am_ip plB c with | some k => h0.1 k | none => h.1 c) = _
  by_cases hc : c < 135
  · rw [am_ip_at (pl := plB) (k := c) (by decide +kernel) (by show (List.range 135)[c]? = _; rw [List.getElem?_range hc]), if_pos hc]
  · rw [am_ip_out (pl := plB) (fun z => hc (List.mem_range.mp z)), if_neg hc]
theorem pushB2 (h h0 : HP) (c : Nat) (hc : ¬ c < 135) : (am_push plB h h0).2 c = h.2 c := by
  show (match am_ip plB c with | some k => h0.2 k | none => h.2 c) = _
  rw [am_ip_out (pl := plB) (fun z => hc (List.mem_range.mp z))]
theorem plM_at {k : Nat} (hk : k < 10) : plM[k]? = some (135 + k) := by
  match k, hk with
  | 0, _ => rfl
  | 1, _ => rfl
  | 2, _ => rfl
  | 3, _ => rfl
  | 4, _ => rfl
  | 5, _ => rfl
  | 6, _ => rfl
  | 7, _ => rfl
  | 8, _ => rfl
  | 9, _ => rfl
  | k + 10, h => omega
theorem piM {k : Nat} (hk : k < 10) : am_pi plM k = 135 + k := by
  have h1 := am_pi_lt (pl := plM) (k := k) (by show k < 10; exact hk)
  rw [plM_at hk] at h1
  exact (Option.some.inj h1).symm
theorem pullM1 (h : HP) {k : Nat} (hk : k < 10) : (am_pull plM h).1 k = h.1 (135 + k) := by show h.1 (am_pi plM k) = _; rw [piM hk]
theorem pushM1 (h h0 : HP) {k : Nat} (hk : k < 10) : (am_push plM h h0).1 (135 + k) = h0.1 k := by
  show (match am_ip plM (135 + k) with | some k => h0.1 k | none => h.1 (135 + k)) = _
  rw [am_ip_at (pl := plM) (by decide +kernel) (plM_at hk)]
theorem pushM_out (h h0 : HP) {c : Nat} (hc : c < 135 ∨ 144 < c) : (am_push plM h h0).1 c = h.1 c ∧ (am_push plM h h0).2 c = h.2 c := by
  have e : am_ip plM c = none := am_ip_out (fun z => by
    obtain ⟨k, hk⟩ := List.getElem?_of_mem z
    have hl : k < 10 := (List.getElem?_eq_some_iff.mp hk).1
    rw [plM_at hl] at hk
    have := Option.some.inj hk
    omega)
  constructor
  · show (match am_ip plM c with | some k => h0.1 k | none => h.1 c) = _
    rw [e]
  · show (match am_ip plM c with | some k => h0.2 k | none => h.2 c) = _
    rw [e]
/-! contracts in another place -/
def isI : Value → Bool
  | .int _ => true
  | _ => false
def isN : Value → Bool
  | .int _ => true
  | .long _ => true
  | .double _ => true
  | _ => false
def gP (pl : List Nat) (g0 : GR) (h : HP) : GR := (g_ok g0, g_pre g0, g_thr g0, g_val g0, am_push pl h (g_hp g0))
def gPl (pl : List Nat) (t : Nat) (shc : List Sh) (cd : CD) : List Sh → List Sh → List Value → HP → GR := fun _ ro as h => match as with
  | .ref o :: r => bif Nat.beq o (am_pi pl t) && r.all isI then gP pl (c_g cd shc ro (.ref t :: r) (am_pull pl h)) h else bad h
  | _ => bad h
def dPl (pl : List Nat) (t : Nat) (shc : List Sh) (cd : CD) : CD := (c_k cd, c_y cd, c_b cd, c_mL cd, c_rt cd, c_n cd, c_fr cd, c_lo cd, c_mc cd, c_thr cd, c_part cd, gPl pl t shc cd)
theorem isI_cv {ad ad' : Nat → Nat} {xq : Nat} : ∀ {r : List Value}, r.all isI = true → r.map (am_cv ad xq) = r.map (am_cv ad' xq)
  | [], _ => rfl
  | v :: r, h => by
    rw [List.all_cons, Bool.and_eq_true_iff] at h
    rw [List.map_cons, List.map_cons, isI_cv h.2]
    cases v <;> first | rfl | exact absurd h.1 (fun z => nomatch z)
theorem isN_cv {ad ad' : Nat → Nat} {xq : Nat} {v : Value} (h : isN v = true) : am_cv ad xq v = am_cv ad' xq v := by
  cases v <;> first | rfl | exact absurd h (fun z => nomatch z)
theorem ok_pl {l : Launch} {pl : List Nat} {t : Nat} {shc sh ro : List Sh} {cd : CD} (hpl : am_plok pl shc sh = true) (hoks : ∀ s ∈ shc, am_oks s) (hok : am_Ok l shc ro cd) (hv : ∀ as h v, g_val (c_g cd shc ro as h) = some v → isN v = true) : am_Ok l sh ro (dPl pl t shc cd) := by
  obtain ⟨w, hw1, hw2, H⟩ := hok
  refine ⟨w, hw1, hw2, fun D G ad xq as h hg => ?_⟩
  have hg' : g_ok (gPl pl t shc cd sh ro as h) = true := hg
  show (c_part cd = false → g_pre (gPl pl t shc cd sh ro as h)) ∧ (g_pre (gPl pl t shc cd sh ro as h) → (c_thr cd = false → g_thr (gPl pl t shc cd sh ro as h) = none) ∧ am_Met l (c_y cd) (w :: am_U) _ _ (am_Qc D G ad sh ro (gPl pl t shc cd sh ro as h)) (am_XC D G ad sh ro (gPl pl t shc cd sh ro as h)) (c_mc cd) (6 * c_mc cd) (am_A G))
  revert hg'
  unfold gPl
  split
  · rename_i o r
    cases hb : Nat.beq o (am_pi pl t) && r.all isI with
    | false => exact fun z => nomatch z
    | true =>
      rw [Bool.and_eq_true_iff] at hb
      obtain rfl := am_beq hb.1
      intro hg'
      have hg2 : g_ok (c_g cd shc ro (.ref t :: r) (am_pull pl h)) = true := hg'
      obtain ⟨h1, h2⟩ := H D (am_Gc G ad pl) (fun k => ad (am_pi pl k)) xq (.ref t :: r) (am_pull pl h) hg2
      refine ⟨h1, fun hp => ⟨(h2 hp).1, ?_⟩⟩
      exact am_place (pl := pl) (shc := shc) hpl hoks (as := .ref (am_pi pl t) :: r) (as0 := .ref t :: r) (g0 := c_g cd shc ro (.ref t :: r) (am_pull pl h)) (by rw [List.map_cons, List.map_cons, isI_cv hb.2]; rfl) rfl rfl (fun v hv' => isN_cv (hv _ _ v hv')) rfl (h2 hp).2
  · exact fun z => nomatch z
/-! a cell of no world -/
def gG (x : Int32) (g : GR) (h : HP) : GR := (g_ok g, g_pre g, g_thr g, g_val g, am_si (g_hp g) 2000 0 (h.1 2000 0 + x))
def dG (x : Int32) (cd : CD) : CD := (c_k cd, c_y cd, c_b cd, c_mL cd, c_rt cd, c_n cd, c_fr cd, c_lo cd, c_mc cd, c_thr cd, c_part cd, fun sh ro as h => gG x (c_g cd sh ro as h) h)
theorem am_ce_ag {G ad : Nat → Nat} {h h' : HP} {k : Nat} {s : Sh} (e : h'.1 k = h.1 k ∧ h'.2 k = h.2 k) : am_ce G ad h' k s = am_ce G ad h k s := by
  have e3 : ∀ j f, am_fv h' k j f = am_fv h k j f := fun j f => by unfold am_fv; rw [e.1, e.2]
  unfold am_ce
  rw [e.1, e.2]
  simp only [e3]
theorem am_W.ag {D : va_G} {G ad : Nat → Nat} {h h' : HP} {sh ro : List Sh} {H : Heap} (hW : am_W D G ad h sh ro H) (h1 : sh.length ≤ 1000) (h2 : ro.length ≤ 900) (e : ∀ k, k < 1900 → h'.1 k = h.1 k ∧ h'.2 k = h.2 k) : am_W D G ad h' sh ro H := by
  have hwl : am_wl G ad h' sh = am_wl G ad h sh := by
    unfold am_wl
    apply List.ext_getElem?
    intro k
    rw [List.getElem?_mapIdx, List.getElem?_mapIdx]
    cases hk : sh[k]? with
    | none => rfl
    | some s =>
      have := (List.getElem?_eq_some_iff.mp hk).1
      simp only [Option.map_some]
      rw [am_ce_ag (e k (by omega))]
  refine ⟨by rw [hwl]; exact hW.1, by rw [hwl]; exact hW.2.1, fun j s hj => ?_, hW.2.2.2⟩
  have hl := (List.getElem?_eq_some_iff.mp hj).1
  rw [(e (1000 + j) (by omega)).1]
  exact hW.2.2.1 j s hj
theorem ghost_ag (h : HP) (x : Int32) : ∀ k, k < 1900 → (am_si h 2000 0 x).1 k = h.1 k ∧ (am_si h 2000 0 x).2 k = h.2 k := fun k hk => ⟨am_si_ne (by omega), rfl⟩
theorem am_Metmono {l : Launch} {y : MethodName} {ws : List Cond} {rm : Room} {Pc : Array Value → State → Prop} {Qc Qc' : Array Value → State → Outcome → State → Prop} {XC XC' : String → State → State → Prop} {mc ms : Nat} {free : Addr → Prop} (h1 : ∀ a s o t, Qc a s o t → Qc' a s o t) (h2 : ∀ E s t, XC E s t → XC' E s t) (h : am_Met l y ws rm Pc Qc XC mc ms free) : am_Met l y ws rm Pc Qc' XC' mc ms free := by
  intro p e ha hc hk s m args below hf happ hP hT
  obtain ⟨k, o, a1, a2, a3, a4⟩ := h p e ha hc hk s m args below hf happ hP hT
  refine ⟨k, o, a1, a2, a3, ?_⟩
  rcases a4 with ⟨b1, b2⟩ | ⟨q, b1, E, ce, L, b2, b3⟩
  · exact Or.inl ⟨h1 _ _ _ _ b1, b2⟩
  · exact Or.inr ⟨q, b1, E, ce, L, h2 _ _ _ b2, b3⟩
theorem ok_g {l : Launch} {sh ro : List Sh} {cd : CD} (x : Int32) (h1 : sh.length ≤ 1000) (h2 : ro.length ≤ 900) (hok : am_Ok l sh ro cd) : am_Ok l sh ro (dG x cd) := by
  obtain ⟨w, hw1, hw2, H⟩ := hok
  refine ⟨w, hw1, hw2, fun D G ad xq as h hg => ?_⟩
  obtain ⟨a, b⟩ := H D G ad xq as h hg
  refine ⟨a, fun hp => ⟨(b hp).1, ?_⟩⟩
  exact am_Metmono (fun _ _ _ _ q => ⟨q.1, q.2.1, q.2.2.1.ag h1 h2 (ghost_ag _ _), q.2.2.2⟩) (fun _ _ _ q => ⟨q.1, q.2.1.ag h1 h2 (ghost_ag _ _), q.2.2⟩) (b hp).2
