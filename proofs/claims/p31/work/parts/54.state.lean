/-! PURE: the whole state; saving, fetching. -/
theorem nT_ag {T T' : Nat → Int32} {i : Nat} (h : T' i = T i) : nT T' i = nT T i := by unfold nT; rw [h]
theorem bd_ag {T T' : Nat → Int32} {i b : Nat} (h : T' i = T i) (hb : bd T i b) : bd T' i b := by unfold bd; rw [nT_ag h, h]; exact hb
theorem nx_ag {T T' : Nat → Int32} {k : Nat} (h : T' (16 + 7 * k + 6) = T (16 + 7 * k + 6)) : nx T' k = nx T k := by unfold nx; rw [nT_ag h, h]
theorem RT.agree {f : Nat → Nat → Int32} {b n : Nat} {T T' : Nat → Int32} (h : RT f b T n) (e : ∀ i, i < 16 + 7 * n → T' i = T i) : RT f b T' n := by
  refine ⟨⟨h.nn, by rw [e 12 (by omega)]; exact h.us, by rw [e 13 (by omega)]; exact h.fa, by rw [e 14 (by omega)]; exact h.re⟩, fun k hk => ?_, fun i hi => ?_⟩
  · have hb : bfo T' k n = bfo T k n := bfo_congr (fun j hj => nx_ag (e _ (by omega)))
    rw [e (16 + 7 * k + 0) (by omega), e (16 + 7 * k + 1) (by omega), e (16 + 7 * k + 2) (by omega), e (16 + 7 * k + 3) (by omega), e (16 + 7 * k + 4) (by omega), e (16 + 7 * k + 5) (by omega), e (16 + 7 * k + 6) (by omega), hb]
    exact h.2.1 k hk
  · rw [e i (by omega), e (4 + i) (by omega), e (8 + i) (by omega)]
    exact h.2.2 i hi
theorem Inv.agree {n : Nat} {T T' : Nat → Int32} (h : Inv T n) (e : ∀ i, i < 16 + 7 * n → T' i = T i) : Inv T' n := by
  have hnx : ∀ k, k < n → nx T' k = nx T k := fun k hk => nx_ag (e _ (by omega))
  refine ⟨⟨⟨by rw [e 15 (by omega)]; exact h.t15, h.n20⟩, fun i hi => bd_ag (e _ (by omega)) (h.lay hi), fun i hi => bd_ag (e _ (by omega)) (h.rel hi), bd_ag (e _ (by omega)) h.s0, bd_ag (e _ (by omega)) h.s1, bd_ag (e _ (by omega)) h.s2, bd_ag (e _ (by omega)) h.s3, bd_ag (e _ (by omega)) h.us⟩, fun k hk => ?_, fun k hk => ?_, fun k j hk ej => ?_, fun k k' j hk hk' ej ej' => ?_⟩
  · exact ⟨bd_ag (e _ (by omega)) (h.rt hk), bd_ag (e _ (by omega)) (h.fr hk), bd_ag (e _ (by omega)) (h.go hk), bd_ag (e _ (by omega)) (h.dp hk), ⟨bd_ag (e _ (by omega)) (h.ln hk), by show 1 ≤ nT T' _; rw [nT_ag (e _ (by omega))]; exact h.ln1 hk⟩, bd_ag (e _ (by omega)) (h.lo hk)⟩
  · rw [e _ (by omega), hnx k hk]; exact h.nxe hk
  · rw [hnx k hk] at ej
    have h1 := h.nxs hk ej
    have hj := h1.1
    show j < n ∧ nT T' _ = 0 ∧ nT T' _ = 0 ∧ nT T' _ + nT T' _ ≤ nT T' _
    rw [nT_ag (e (16 + 7 * k + 5) (by omega)), nT_ag (e (16 + 7 * j + 5) (by omega)), nT_ag (e (16 + 7 * k + 3) (by omega)), nT_ag (e (16 + 7 * k + 4) (by omega)), nT_ag (e (16 + 7 * j + 3) (by omega))]
    exact h1
  · rw [hnx k hk] at ej
    rw [hnx k' hk'] at ej'
    exact h.inj hk hk' ej ej'
/-- a row of the model's past or slots -/
def row (m : HP) (c o : Nat) : Nat → Int32 := fun i => m.1 c (o + i)
/-- a snapshot: the class's block b, the model's row -/
def Sn (h m : HP) (b c o : Nat) : Prop := ∃ n, RT h.1 b (row m c o) n ∧ Inv (row m c o) n
def RrS (h m : HP) : Prop := ∃ s o, s ≤ 6 ∧ o < 6 ∧ h.1 38 9 = nI s ∧ h.1 38 8 = nI o ∧ m.1 0 3 = nI s ∧ ∀ j, j < s → Sn h m (39 + 12 * ((o + j) % 6)) 3 (163 * j)
def RrK (h m : HP) : Prop := ∀ j, j < 2 → h.1 37 j = m.1 5 j ∧ (m.1 5 j = 0 ∨ m.1 5 j = 1 ∧ Sn h m (111 + 12 * j) 4 (163 * j))
def RrX (h m : HP) : Prop := ∃ l, l ≤ 60 ∧ h.1 18 2 = nI l ∧ m.1 0 7 = nI l ∧ ∀ i, i < l → ∃ c, 33 ≤ c ∧ c ≤ 126 ∧ h.1 19 i = nI c ∧ m.1 6 i = nI c
def RrZ (h : HP) : Prop := (h.1 1002 0 = nI 0 ∧ h.1 1002 1 = nI 60 ∧ h.1 1002 2 = nI 0 ∧ h.1 1002 3 = nI 0) ∧ h.1 1003 0 = nI 1 ∧ h.1 1003 1 = nI 900 ∧ h.1 1003 2 = nI 9 ∧ h.1 1003 3 = nI 240
/-- all but the timetable that is now -/
def Rr (h m : HP) : Prop := RrS h m ∧ RrK h m ∧ RrX h m ∧ RrZ h
/-- class and model hold the same -/
def RR (n : Nat) (h m : HP) : Prop := RT h.1 0 (m.1 1) n ∧ Inv (m.1 1) n ∧ Rr h m
/-- what the rest of the state rests on -/
def hk (h h' : HP) : Prop := (∀ c, 33 ≤ c ∨ c = 19 → h'.1 c = h.1 c) ∧ h'.1 18 2 = h.1 18 2
def mk (m m' : HP) : Prop := m'.1 3 = m.1 3 ∧ m'.1 4 = m.1 4 ∧ m'.1 5 = m.1 5 ∧ m'.1 6 = m.1 6 ∧ m'.1 0 3 = m.1 0 3 ∧ m'.1 0 7 = m.1 0 7
theorem hk.rf {h : HP} : hk h h := ⟨fun _ _ => rfl, rfl⟩
theorem mk.rf {m : HP} : mk m m := ⟨rfl, rfl, rfl, rfl, rfl, rfl⟩
theorem hk.tr {h h' h'' : HP} (a : hk h h') (b : hk h' h'') : hk h h'' := ⟨fun c hc => (b.1 c hc).trans (a.1 c hc), b.2.trans a.2⟩
theorem mk.tr {m m' m'' : HP} (a : mk m m') (b : mk m' m'') : mk m m'' := ⟨b.1.trans a.1, b.2.1.trans a.2.1, b.2.2.1.trans a.2.2.1, b.2.2.2.1.trans a.2.2.2.1, b.2.2.2.2.1.trans a.2.2.2.2.1, b.2.2.2.2.2.trans a.2.2.2.2.2⟩
theorem hK.k {h h' : HP} (a : hK h h') : hk h h' := ⟨fun c hc => a.1 c (by omega), a.2⟩
theorem mK.k {m m' : HP} (a : mK m m') : mk m m' := ⟨a.1, a.2.1, a.2.2.1, a.2.2.2.1, a.2.2.2.2.1, a.2.2.2.2.2.1⟩
theorem Sn.keep {h h' m m' : HP} {b c o : Nat} (hs : Sn h m b c o) (e : ∀ j, j < 12 → h'.1 (b + j) = h.1 (b + j)) (e2 : ∀ i, i < 163 → m'.1 c (o + i) = m.1 c (o + i)) : Sn h' m' b c o := by
  obtain ⟨n, h1, h2⟩ := hs
  have hn := h2.n20
  exact ⟨n, (h1.congr e).agree (fun i hi => e2 i (by omega)), h2.agree (fun i hi => e2 i (by omega))⟩
theorem Rr.keep {h h' m m' : HP} (hr : Rr h m) (a : hk h h') (b : mk m m') : Rr h' m' := by
  obtain ⟨⟨s, o, k1, k2, k3, k4, k5, k6⟩, hK, ⟨l, x1, x2, x3, x4⟩, hZ⟩ := hr
  refine ⟨⟨s, o, k1, k2, by rw [a.1 38 (by omega)]; exact k3, by rw [a.1 38 (by omega)]; exact k4, by rw [b.2.2.2.2.1]; exact k5, fun j hj => (k6 j hj).keep (fun i _ => a.1 _ (by omega)) (fun i _ => by rw [b.1])⟩, fun j hj => ?_, ⟨l, x1, by rw [a.2]; exact x2, by rw [b.2.2.2.2.2]; exact x3, fun i hi => ?_⟩, ?_⟩
  · rw [a.1 37 (by omega), b.2.2.1]
    refine ⟨(hK j hj).1, (hK j hj).2.imp id (fun z => ⟨z.1, z.2.keep (fun i _ => a.1 _ (by omega)) (fun i _ => by rw [b.2.1])⟩)⟩
  · rw [a.1 19 (by omega), b.2.2.2.1]; exact x4 i hi
  · unfold RrZ
    rw [a.1 1002 (by omega), a.1 1003 (by omega)]
    exact hZ
/-- looks change nothing -/
theorem RR.look {n : Nat} {h h' m m' : HP} (hr : RR n h m) (a : hK h h') (b : mk m m') (e : ∀ i, i < 16 + 7 * n → m'.1 1 i = m.1 1 i) : RR n h' m' :=
  ⟨(a.RT hr.1).agree e, hr.2.1.agree e, hr.2.2.keep a.k b⟩
/-- a new timetable -/
theorem RR.put {n n' : Nat} {h h' m m' : HP} (hr : RR n h m) (a : hk h h') (b : mk m m') (hR : RT h'.1 0 (m'.1 1) n') (hI : Inv (m'.1 1) n') : RR n' h' m' := ⟨hR, hI, hr.2.2.keep a b⟩
/-! copies -/
theorem cql_nd : ∀ q ∈ cql, va_nd (plc q.1 q.2) = true := by decide +kernel
theorem am_ip_out {pl : List Nat} {c : Nat} (h : c ∉ pl) : am_ip pl c = none := by
  cases e : am_ip pl c with
  | none => rfl
  | some k => exact absurd (List.mem_of_getElem? (am_ip_some e)) h
theorem copy_cell {a b : Nat} (hq : (a, b) ∈ cql) (h : HP) {j : Nat} (hj : j < 12) : (v_copyFrom h a b).1 (a + j) = (v_T_copyFrom_12 (am_pull (plc a b) h)).1 j := by
  have e : (plc a b)[j]? = some (a + j) := by
    match j, hj with
    | 0, _ => rfl
    | 1, _ => rfl
    | 2, _ => rfl
    | 3, _ => rfl
    | 4, _ => rfl
    | 5, _ => rfl
    | 6, _ => rfl
    | 7, _ => rfl
    | 8, _ => rfl
    | 9, _ => rfl
    | 10, _ => rfl
    | 11, _ => rfl
    | j + 12, h => omega
  show (match am_ip (plc a b) (a + j) with | some k => _ | none => _) = _
  rw [am_ip_at (cql_nd _ hq) e]
theorem copy_src {a b : Nat} (hq : (a, b) ∈ cql) (h : HP) {j : Nat} (hj : j < 12) : (v_copyFrom h a b).1 (b + j) = h.1 (b + j) := by
  have e : (plc a b)[12 + j]? = some (b + j) := by
    match j, hj with
    | 0, _ => rfl
    | 1, _ => rfl
    | 2, _ => rfl
    | 3, _ => rfl
    | 4, _ => rfl
    | 5, _ => rfl
    | 6, _ => rfl
    | 7, _ => rfl
    | 8, _ => rfl
    | 9, _ => rfl
    | 10, _ => rfl
    | 11, _ => rfl
    | j + 12, h => omega
  have hp : am_pi (plc a b) (12 + j) = b + j := by
    have h1 := am_pi_lt (pl := plc a b) (k := 12 + j) (by show 12 + j < 24; omega)
    rw [e] at h1
    exact (Option.some.inj h1).symm
  have hs : ∀ g : HP, (v_T_copyFrom_12 g).1 (12 + j) = g.1 (12 + j) := by
    intro g
    match j, hj with
    | 0, _ => rfl
    | 1, _ => rfl
    | 2, _ => rfl
    | 3, _ => rfl
    | 4, _ => rfl
    | 5, _ => rfl
    | 6, _ => rfl
    | 7, _ => rfl
    | 8, _ => rfl
    | 9, _ => rfl
    | 10, _ => rfl
    | 11, _ => rfl
    | j + 12, h => omega
  show (match am_ip (plc a b) (b + j) with | some k => _ | none => _) = _
  rw [am_ip_at (cql_nd _ hq) e]
  show (v_T_copyFrom_12 (am_pull (plc a b) h)).1 (12 + j) = _
  rw [hs]
  show h.1 (am_pi (plc a b) (12 + j)) = _
  rw [hp]
theorem copy_rest {a b : Nat} (hq : (a, b) ∈ cql) (h : HP) {c : Nat} (h1 : ¬ (a ≤ c ∧ c < a + 12)) : (v_copyFrom h a b).1 c = h.1 c := by
  by_cases h2 : b ≤ c ∧ c < b + 12
  · have := copy_src hq h (j := c - b) (by omega)
    rw [show b + (c - b) = c by omega] at this
    exact this
  · show (match am_ip (plc a b) c with | some k => _ | none => _) = _
    rw [am_ip_out (by unfold plc; simp only [List.mem_cons, List.not_mem_nil, or_false]; omega)]
theorem copy_RT {a b : Nat} (hq : (a, b) ∈ cql) {h : HP} {T : Nat → Int32} {n : Nat} (hR : RT h.1 b T n) (hn : n ≤ 20) : RT (v_copyFrom h a b).1 a T n := by
  have hp : ∀ j, j < 12 → (am_pull (plc a b) h).1 (12 + j) = h.1 (b + j) := by
    intro j hj
    have e : (plc a b)[12 + j]? = some (b + j) := by
      match j, hj with
      | 0, _ => rfl
      | 1, _ => rfl
      | 2, _ => rfl
      | 3, _ => rfl
      | 4, _ => rfl
      | 5, _ => rfl
      | 6, _ => rfl
      | 7, _ => rfl
      | 8, _ => rfl
      | 9, _ => rfl
      | 10, _ => rfl
      | 11, _ => rfl
      | j + 12, h => omega
    have h1 := am_pi_lt (pl := plc a b) (k := 12 + j) (by show 12 + j < 24; omega)
    rw [e] at h1
    show h.1 (am_pi (plc a b) (12 + j)) = _
    rw [← Option.some.inj h1]
  have c0 := copy_cell hq h (j := 0) (by omega)
  have c1 := copy_cell hq h (j := 1) (by omega)
  have c2 := copy_cell hq h (j := 2) (by omega)
  have c3 := copy_cell hq h (j := 3) (by omega)
  have c4 := copy_cell hq h (j := 4) (by omega)
  have c5 := copy_cell hq h (j := 5) (by omega)
  have c6 := copy_cell hq h (j := 6) (by omega)
  have c7 := copy_cell hq h (j := 7) (by omega)
  have c8 := copy_cell hq h (j := 8) (by omega)
  have c9 := copy_cell hq h (j := 9) (by omega)
  have c10 := copy_cell hq h (j := 10) (by omega)
  have c11 := copy_cell hq h (j := 11) (by omega)
  rw [Nat.add_zero] at c0
  unfold RT
  rw [c0, c1, c2, c3, c4, c5, c6, c7, c8, c9, c10, c11]
  have p0 := hp 0 (by omega)
  have p1 := hp 1 (by omega)
  have p2 := hp 2 (by omega)
  have p3 := hp 3 (by omega)
  have p4 := hp 4 (by omega)
  have p5 := hp 5 (by omega)
  have p6 := hp 6 (by omega)
  have p7 := hp 7 (by omega)
  have p8 := hp 8 (by omega)
  have p9 := hp 9 (by omega)
  have p10 := hp 10 (by omega)
  have p11 := hp 11 (by omega)
  generalize am_pull (plc a b) h = g at *
  refine ⟨⟨?_, ?_, ?_, ?_⟩, fun k hk => ?_, fun i hi => ?_⟩
  · show g.1 12 11 = _
    rw [show g.1 12 = _ from p0]; exact hR.nn
  · show g.1 12 12 = _
    rw [show g.1 12 = _ from p0]; exact hR.us
  · show g.1 12 13 = _
    rw [show g.1 12 = _ from p0]; exact hR.fa
  · show g.1 12 14 = _
    rw [show g.1 12 = _ from p0]; exact hR.re
  · have hk20 : k < 20 := by omega
    have q := hR.2.1 k hk
    show (if k < 20 then g.1 13 k else g.1 1 k) = _ ∧ (if k < 20 then g.1 14 k else g.1 2 k) = _ ∧ (if k < 20 then g.1 15 k else g.1 3 k) = _ ∧ (if k < 20 then g.1 16 k else g.1 4 k) = _ ∧ (if k < 20 then g.1 17 k else g.1 5 k) = _ ∧ (if k < 20 then g.1 18 k else g.1 6 k) = _ ∧ (if k < 20 then g.1 19 k else g.1 7 k) = _ ∧ (if k < 20 then g.1 20 k else g.1 8 k) = _
    rw [if_pos hk20, if_pos hk20, if_pos hk20, if_pos hk20, if_pos hk20, if_pos hk20, if_pos hk20, if_pos hk20, show g.1 13 = _ from p1, show g.1 14 = _ from p2, show g.1 15 = _ from p3, show g.1 16 = _ from p4, show g.1 17 = _ from p5, show g.1 18 = _ from p6, show g.1 19 = _ from p7, show g.1 20 = _ from p8]
    exact q
  · have q := hR.2.2 i hi
    show (if i < 4 then g.1 21 i else g.1 9 i) = _ ∧ (if i < 4 then g.1 22 i else g.1 10 i) = _ ∧ (if i < 4 then g.1 23 i else g.1 11 i) = _
    rw [if_pos hi, if_pos hi, if_pos hi, show g.1 21 = _ from p9, show g.1 22 = _ from p10, show g.1 23 = _ from p11]
    exact q
/-! what the model lays -/
/-- the model's past, moved on by j numbers -/
def shf (m : HP) (j : Nat) : HP := (fun c => if c = 3 then (fun i => if i < j then m.1 3 (i + 163) else m.1 3 i) else m.1 c, m.2)
theorem shf_ne {m : HP} {j c : Nat} (h : c ≠ 3) : (shf m j).1 c = m.1 c := if_neg h
theorem shf_3 (m : HP) (j i : Nat) : (shf m j).1 3 i = if i < j then m.1 3 (i + 163) else m.1 3 i := by
  show (if 3 = 3 then (fun i => if i < j then m.1 3 (i + 163) else m.1 3 i) else m.1 3) i = _
  rw [if_pos rfl]
theorem shf_s (m : HP) (j : Nat) : am_si (shf m j) 3 j ((shf m j).1 3 (j + 163)) = shf m (j + 1) := by
  refine Prod.ext (funext fun c => funext fun i => ?_) rfl
  show (am_si (shf m j) 3 j ((shf m j).1 3 (j + 163))).1 c i = (shf m (j + 1)).1 c i
  have hx : (shf m j).1 3 (j + 163) = m.1 3 (j + 163) := by rw [shf_3, if_neg (by omega)]
  rw [am_si1, hx]
  by_cases hc : c = 3
  · subst hc
    rw [shf_3, shf_3]
    by_cases hi : i = j
    · subst hi; rw [if_pos ⟨rfl, rfl⟩, if_pos (by omega)]
    · rw [if_neg (fun z => hi z.2)]
      by_cases h2 : i < j
      · rw [if_pos h2, if_pos (by omega)]
      · rw [if_neg h2, if_neg (by omega)]
  · rw [if_neg (fun z => hc z.1), shf_ne hc, shf_ne hc]
theorem shf_0 (m : HP) : shf m 0 = m := by
  refine Prod.ext (funext fun c => funext fun i => ?_) rfl
  by_cases hc : c = 3
  · subst hc; show (shf m 0).1 3 i = _; rw [shf_3, if_neg (by omega)]
  · show (shf m 0).1 c i = _; rw [shf_ne hc]