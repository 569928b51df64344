/-! PURE: a trip more; a trip is taken out of its block. -/
/-- a trip at a place of the row, alone -/
def newT (T : Nat → Int32) (k : Nat) (a b c d e : Int32) : Nat → Int32 :=
  upd (upd (upd (upd (upd (upd (upd T (16 + 7 * k + 0) a) (16 + 7 * k + 1) b) (16 + 7 * k + 2) c) (16 + 7 * k + 3) d) (16 + 7 * k + 4) e) (16 + 7 * k + 5) 0) (16 + 7 * k + 6) (-1)
theorem newT_ne {T : Nat → Int32} {k i : Nat} {a b c d e : Int32} (h : i < 16 + 7 * k ∨ 16 + 7 * k + 7 ≤ i) : newT T k a b c d e i = T i := by
  unfold newT
  rw [upd_ne (by omega), upd_ne (by omega), upd_ne (by omega), upd_ne (by omega), upd_ne (by omega), upd_ne (by omega), upd_ne (by omega)]
theorem newT_0 {T : Nat → Int32} {k : Nat} {a b c d e : Int32} : newT T k a b c d e (16 + 7 * k + 0) = a ∧ newT T k a b c d e (16 + 7 * k + 1) = b ∧ newT T k a b c d e (16 + 7 * k + 2) = c ∧ newT T k a b c d e (16 + 7 * k + 3) = d ∧ newT T k a b c d e (16 + 7 * k + 4) = e ∧ newT T k a b c d e (16 + 7 * k + 5) = 0 ∧ newT T k a b c d e (16 + 7 * k + 6) = -1 := by
  unfold newT
  refine ⟨?_, ?_, ?_, ?_, ?_, ?_, ?_⟩
  · rw [upd_ne (by omega), upd_ne (by omega), upd_ne (by omega), upd_ne (by omega), upd_ne (by omega), upd_ne (by omega), upd_self]
  · rw [upd_ne (by omega), upd_ne (by omega), upd_ne (by omega), upd_ne (by omega), upd_ne (by omega), upd_self]
  · rw [upd_ne (by omega), upd_ne (by omega), upd_ne (by omega), upd_ne (by omega), upd_self]
  · rw [upd_ne (by omega), upd_ne (by omega), upd_ne (by omega), upd_self]
  · rw [upd_ne (by omega), upd_ne (by omega), upd_self]
  · rw [upd_ne (by omega), upd_self]
  · rw [upd_self]
/-- the row with a trip more -/
def addT (T : Nat → Int32) (n : Nat) (a b c d e : Int32) : Nat → Int32 := upd (newT T n a b c d e) 15 (nI (n + 1))
section ADT
variable {T : Nat → Int32} {n r f t d l : Nat}
theorem addT_lo {a b c d e : Int32} {i : Nat} (h : i < 15 ∨ 15 < i ∧ i < 16 + 7 * n) : addT T n a b c d e i = T i := by
  unfold addT; rw [upd_ne (by omega), newT_ne (by omega)]
theorem addT_nx {a b c d e : Int32} : (∀ k, k < n → nx (addT T n a b c d e) k = nx T k) ∧ nx (addT T n a b c d e) n = none := by
  refine ⟨fun k hk => nx_ag (addT_lo (by omega)), ?_⟩
  have : addT T n a b c d e (16 + 7 * n + 6) = -1 := by unfold addT; rw [upd_ne (by omega)]; exact newT_0.2.2.2.2.2.2
  unfold nx
  rw [if_pos this]
theorem Inv.add (hI : Inv T n) (hn : n < 20) (hr : r ≤ 3) (hf : f ≤ 3) (ht : t ≤ 3) (hd : d ≤ 1439) (hl : l ≤ 240) (hl1 : 1 ≤ l) : Inv (addT T n (nI r) (nI f) (nI t) (nI d) (nI l)) (n + 1) := by
  obtain ⟨x1, x2⟩ := addT_nx (T := T) (n := n) (a := nI r) (b := nI f) (c := nI t) (d := nI d) (e := nI l)
  obtain ⟨z0, z1, z2, z3, z4, z5, z6⟩ := newT_0 (T := T) (k := n) (a := nI r) (b := nI f) (c := nI t) (d := nI d) (e := nI l)
  have u : ∀ w, w < 7 → addT T n (nI r) (nI f) (nI t) (nI d) (nI l) (16 + 7 * n + w) = newT T n (nI r) (nI f) (nI t) (nI d) (nI l) (16 + 7 * n + w) := fun w _ => upd_ne (by omega)
  have e : ∀ i, (i < 15 ∨ 15 < i ∧ i < 16 + 7 * n) → addT T n (nI r) (nI f) (nI t) (nI d) (nI l) i = T i := fun i h => addT_lo h
  have h15 : addT T n (nI r) (nI f) (nI t) (nI d) (nI l) 15 = nI (n + 1) := upd_self ..
  generalize addT T n (nI r) (nI f) (nI t) (nI d) (nI l) = T' at *
  refine ⟨⟨⟨h15, by omega⟩, fun i hi => bd_ag (e _ (by omega)) (hI.lay hi), fun i hi => bd_ag (e _ (by omega)) (hI.rel hi), bd_ag (e _ (by omega)) hI.s0, bd_ag (e _ (by omega)) hI.s1, bd_ag (e _ (by omega)) hI.s2, bd_ag (e _ (by omega)) hI.s3, bd_ag (e _ (by omega)) hI.us⟩, fun k hk => ?_, fun k hk => ?_, fun k j hk ej => ?_, fun k k' j hk hk' ej ej' => ?_⟩
  · by_cases hkn : k = n
    · subst hkn
      refine ⟨bd_nI ((u 0 (by omega)).trans z0) hr (by omega), bd_nI ((u 1 (by omega)).trans z1) hf (by omega), bd_nI ((u 2 (by omega)).trans z2) ht (by omega), bd_nI ((u 3 (by omega)).trans z3) hd (by omega), ⟨bd_nI ((u 4 (by omega)).trans z4) hl (by omega), ?_⟩, bd_nI (x := 0) ((u 5 (by omega)).trans z5) (by omega) (by omega)⟩
      show 1 ≤ nT T' (16 + 7 * k + 4)
      rw [nT_of ((u 4 (by omega)).trans z4) (by omega)]; exact hl1
    · have hk' : k < n := by omega
      exact ⟨bd_ag (e _ (by omega)) (hI.rt hk'), bd_ag (e _ (by omega)) (hI.fr hk'), bd_ag (e _ (by omega)) (hI.go hk'), bd_ag (e _ (by omega)) (hI.dp hk'), ⟨bd_ag (e _ (by omega)) (hI.ln hk'), by show 1 ≤ nT T' _; rw [nT_ag (e _ (by omega))]; exact hI.ln1 hk'⟩, bd_ag (e _ (by omega)) (hI.lo hk')⟩
  · by_cases hkn : k = n
    · subst hkn
      rw [x2]; exact (u 6 (by omega)).trans z6
    · rw [x1 k (by omega), e _ (by omega)]; exact hI.nxe (by omega)
  · by_cases hkn : k = n
    · subst hkn; rw [x2] at ej; cases ej
    · have hk' : k < n := by omega
      rw [x1 k hk'] at ej
      have h1 := hI.nxs hk' ej
      have hj := h1.1
      show j < n + 1 ∧ nT T' _ = 0 ∧ nT T' _ = 0 ∧ nT T' _ + nT T' _ ≤ nT T' _
      rw [nT_ag (e (16 + 7 * k + 5) (by omega)), nT_ag (e (16 + 7 * j + 5) (by omega)), nT_ag (e (16 + 7 * k + 3) (by omega)), nT_ag (e (16 + 7 * k + 4) (by omega)), nT_ag (e (16 + 7 * j + 3) (by omega))]
      exact ⟨by omega, h1.2⟩
  · by_cases hkn : k = n
    · subst hkn; rw [x2] at ej; cases ej
    · by_cases hkn' : k' = n
      · subst hkn'; rw [x2] at ej'; cases ej'
      · rw [x1 k (by omega)] at ej
        rw [x1 k' (by omega)] at ej'
        exact hI.inj (by omega) (by omega) ej ej'
theorem cc_add {h : HP} (hR : RT h.1 0 T n) (hI : Inv T n) (hn : n < 20) (a b c d e : Int32) : RT (v_T_addTrip h a b c d e).2.1 0 (addT T n a b c d e) (n + 1) ∧ (v_T_addTrip h a b c d e).1 = nI n ∧ (∀ q, 9 ≤ q → (v_T_addTrip h a b c d e).2.1 q = h.1 q) := by
  obtain ⟨x1, x2⟩ := addT_nx (T := T) (n := n) (a := a) (b := b) (c := c) (d := d) (e := e)
  obtain ⟨z0, z1, z2, z3, z4, z5, z6⟩ := newT_0 (T := T) (k := n) (a := a) (b := b) (c := c) (d := d) (e := e)
  have u : ∀ w, w < 7 → addT T n a b c d e (16 + 7 * n + w) = newT T n a b c d e (16 + 7 * n + w) := fun w _ => upd_ne (by omega)
  have el : ∀ i, (i < 15 ∨ 15 < i ∧ i < 16 + 7 * n) → addT T n a b c d e i = T i := fun i h => addT_lo h
  let g : HP := am_si (am_si (am_si (am_si (am_si (am_si (am_si (am_si h 1 n a) 2 n b) 3 n c) 4 n d) 5 n e) 6 n (-1)) 7 n (-1)) 8 n 0
  have hv : v_T_addTrip h a b c d e = (nI n, am_si g 0 11 (nI (n + 1))) := by
    rw [v_T_addTrip, hR.nn, put20 _ _ hn, put20 _ _ hn, put20 _ _ hn, put20 _ _ hn, put20 _ _ hn, put20 _ _ hn, put20 _ _ hn, put20 _ _ hn]
    show (nI n, am_si g 0 11 (g.1 0 11 + 1)) = _
    have : g.1 0 11 = nI n := by
      show (am_si (am_si (am_si (am_si (am_si (am_si (am_si (am_si h 1 n a) 2 n b) 3 n c) 4 n d) 5 n e) 6 n (-1)) 7 n (-1)) 8 n 0).1 0 11 = _
      rw [am_si_ne (by omega), am_si_ne (by omega), am_si_ne (by omega), am_si_ne (by omega), am_si_ne (by omega), am_si_ne (by omega), am_si_ne (by omega), am_si_ne (by omega)]
      exact hR.nn
    rw [this, nI_1]
  rw [hv]
  have g1 : ∀ i, g.1 1 i = if i = n then a else h.1 1 i := fun i => by
    show (am_si (am_si (am_si (am_si (am_si (am_si (am_si (am_si h 1 n a) 2 n b) 3 n c) 4 n d) 5 n e) 6 n (-1)) 7 n (-1)) 8 n 0).1 1 i = _
    rw [am_si_ne (by omega), am_si_ne (by omega), am_si_ne (by omega), am_si_ne (by omega), am_si_ne (by omega), am_si_ne (by omega), am_si_ne (by omega), am_si1]
    by_cases hi : i = n
    · rw [if_pos ⟨rfl, hi⟩, if_pos hi]
    · rw [if_neg (fun z => hi z.2), if_neg hi]
  have g2 : ∀ i, g.1 2 i = if i = n then b else h.1 2 i := fun i => by
    show (am_si (am_si (am_si (am_si (am_si (am_si (am_si (am_si h 1 n a) 2 n b) 3 n c) 4 n d) 5 n e) 6 n (-1)) 7 n (-1)) 8 n 0).1 2 i = _
    rw [am_si_ne (by omega), am_si_ne (by omega), am_si_ne (by omega), am_si_ne (by omega), am_si_ne (by omega), am_si_ne (by omega), am_si1]
    by_cases hi : i = n
    · rw [if_pos ⟨rfl, hi⟩, if_pos hi]
    · rw [if_neg (fun z => hi z.2), if_neg hi, am_si_ne (by omega)]
  have g3 : ∀ i, g.1 3 i = if i = n then c else h.1 3 i := fun i => by
    show (am_si (am_si (am_si (am_si (am_si (am_si (am_si (am_si h 1 n a) 2 n b) 3 n c) 4 n d) 5 n e) 6 n (-1)) 7 n (-1)) 8 n 0).1 3 i = _
    rw [am_si_ne (by omega), am_si_ne (by omega), am_si_ne (by omega), am_si_ne (by omega), am_si_ne (by omega), am_si1]
    by_cases hi : i = n
    · rw [if_pos ⟨rfl, hi⟩, if_pos hi]
    · rw [if_neg (fun z => hi z.2), if_neg hi, am_si_ne (by omega), am_si_ne (by omega)]
  have g4 : ∀ i, g.1 4 i = if i = n then d else h.1 4 i := fun i => by
    show (am_si (am_si (am_si (am_si (am_si (am_si (am_si (am_si h 1 n a) 2 n b) 3 n c) 4 n d) 5 n e) 6 n (-1)) 7 n (-1)) 8 n 0).1 4 i = _
    rw [am_si_ne (by omega), am_si_ne (by omega), am_si_ne (by omega), am_si_ne (by omega), am_si1]
    by_cases hi : i = n
    · rw [if_pos ⟨rfl, hi⟩, if_pos hi]
    · rw [if_neg (fun z => hi z.2), if_neg hi, am_si_ne (by omega), am_si_ne (by omega), am_si_ne (by omega)]
  have g5 : ∀ i, g.1 5 i = if i = n then e else h.1 5 i := fun i => by
    show (am_si (am_si (am_si (am_si (am_si (am_si (am_si (am_si h 1 n a) 2 n b) 3 n c) 4 n d) 5 n e) 6 n (-1)) 7 n (-1)) 8 n 0).1 5 i = _
    rw [am_si_ne (by omega), am_si_ne (by omega), am_si_ne (by omega), am_si1]
    by_cases hi : i = n
    · rw [if_pos ⟨rfl, hi⟩, if_pos hi]
    · rw [if_neg (fun z => hi z.2), if_neg hi, am_si_ne (by omega), am_si_ne (by omega), am_si_ne (by omega), am_si_ne (by omega)]
  have g6 : ∀ i, g.1 6 i = if i = n then -1 else h.1 6 i := fun i => by
    show (am_si (am_si (am_si (am_si (am_si (am_si (am_si (am_si h 1 n a) 2 n b) 3 n c) 4 n d) 5 n e) 6 n (-1)) 7 n (-1)) 8 n 0).1 6 i = _
    rw [am_si_ne (by omega), am_si_ne (by omega), am_si1]
    by_cases hi : i = n
    · rw [if_pos ⟨rfl, hi⟩, if_pos hi]
    · rw [if_neg (fun z => hi z.2), if_neg hi, am_si_ne (by omega), am_si_ne (by omega), am_si_ne (by omega), am_si_ne (by omega), am_si_ne (by omega)]
  have g7 : ∀ i, g.1 7 i = if i = n then -1 else h.1 7 i := fun i => by
    show (am_si (am_si (am_si (am_si (am_si (am_si (am_si (am_si h 1 n a) 2 n b) 3 n c) 4 n d) 5 n e) 6 n (-1)) 7 n (-1)) 8 n 0).1 7 i = _
    rw [am_si_ne (by omega), am_si1]
    by_cases hi : i = n
    · rw [if_pos ⟨rfl, hi⟩, if_pos hi]
    · rw [if_neg (fun z => hi z.2), if_neg hi, am_si_ne (by omega), am_si_ne (by omega), am_si_ne (by omega), am_si_ne (by omega), am_si_ne (by omega), am_si_ne (by omega)]
  have g8 : ∀ i, g.1 8 i = if i = n then 0 else h.1 8 i := fun i => by
    show (am_si (am_si (am_si (am_si (am_si (am_si (am_si (am_si h 1 n a) 2 n b) 3 n c) 4 n d) 5 n e) 6 n (-1)) 7 n (-1)) 8 n 0).1 8 i = _
    rw [am_si1]
    by_cases hi : i = n
    · rw [if_pos ⟨rfl, hi⟩, if_pos hi]
    · rw [if_neg (fun z => hi z.2), if_neg hi, am_si_ne (by omega), am_si_ne (by omega), am_si_ne (by omega), am_si_ne (by omega), am_si_ne (by omega), am_si_ne (by omega), am_si_ne (by omega)]
  have gr : ∀ q, 9 ≤ q → g.1 q = h.1 q := fun q hq => by
    show (am_si (am_si (am_si (am_si (am_si (am_si (am_si (am_si h 1 n a) 2 n b) 3 n c) 4 n d) 5 n e) 6 n (-1)) 7 n (-1)) 8 n 0).1 q = _
    rw [am_si_ne (by omega), am_si_ne (by omega), am_si_ne (by omega), am_si_ne (by omega), am_si_ne (by omega), am_si_ne (by omega), am_si_ne (by omega), am_si_ne (by omega)]
  have gz : ∀ k, k ≠ 11 → (am_si g 0 11 (nI (n + 1))).1 0 k = h.1 0 k := fun k hk => by
    rw [am_si1, if_neg (fun z => hk z.2)]
    show (am_si (am_si (am_si (am_si (am_si (am_si (am_si (am_si h 1 n a) 2 n b) 3 n c) 4 n d) 5 n e) 6 n (-1)) 7 n (-1)) 8 n 0).1 0 k = _
    rw [am_si_ne (by omega), am_si_ne (by omega), am_si_ne (by omega), am_si_ne (by omega), am_si_ne (by omega), am_si_ne (by omega), am_si_ne (by omega), am_si_ne (by omega)]
  have hbf : ∀ k, k < n → bfo (addT T n a b c d e) k (n + 1) = bfo T k n := fun k hk => by
    rw [bfo, if_neg (by rw [x2]; exact fun z => nomatch z)]
    exact bfo_congr x1
  have hbn : bfo (addT T n a b c d e) n (n + 1) = none := by
    refine bfo_nil (fun j hj => ?_)
    by_cases hjn : j = n
    · subst hjn; rw [x2]; exact fun z => nomatch z
    · rw [x1 j (by omega)]
      intro z
      have := (hI.nxs (by omega) z).1
      omega
  refine ⟨⟨⟨by rw [am_si1, if_pos ⟨rfl, rfl⟩], by rw [gz 12 (by omega), el 12 (by omega)]; exact hR.us, by rw [gz 13 (by omega), el 13 (by omega)]; exact hR.fa, by rw [gz 14 (by omega), el 14 (by omega)]; exact hR.re⟩, fun k hk => ?_, fun i hi => ⟨?_, ?_, ?_⟩⟩, rfl, fun q hq => by rw [am_si_ne (by omega)]; exact gr q hq⟩
  · show (am_si g 0 11 _).1 1 k = _ ∧ (am_si g 0 11 _).1 2 k = _ ∧ (am_si g 0 11 _).1 3 k = _ ∧ (am_si g 0 11 _).1 4 k = _ ∧ (am_si g 0 11 _).1 5 k = _ ∧ (am_si g 0 11 _).1 6 k = _ ∧ (am_si g 0 11 _).1 7 k = _ ∧ (am_si g 0 11 _).1 8 k = _
    have gq : ∀ q, q ≠ 0 → (am_si g 0 11 (nI (n + 1))).1 q = g.1 q := fun q hq => am_si_ne hq
    rw [gq 1 (by omega), gq 2 (by omega), gq 3 (by omega), gq 4 (by omega), gq 5 (by omega), gq 6 (by omega), gq 7 (by omega), gq 8 (by omega), g1, g2, g3, g4, g5, g6, g7, g8]
    by_cases hkn : k = n
    · subst hkn
      rw [if_pos rfl, if_pos rfl, if_pos rfl, if_pos rfl, if_pos rfl, if_pos rfl, if_pos rfl, if_pos rfl, hbn]
      exact ⟨((u 0 (by omega)).trans z0).symm, ((u 1 (by omega)).trans z1).symm, ((u 2 (by omega)).trans z2).symm, ((u 3 (by omega)).trans z3).symm, ((u 4 (by omega)).trans z4).symm, rfl, ((u 6 (by omega)).trans z6).symm, ((u 5 (by omega)).trans z5).symm⟩
    · have hk' : k < n := by omega
      rw [if_neg hkn, if_neg hkn, if_neg hkn, if_neg hkn, if_neg hkn, if_neg hkn, if_neg hkn, if_neg hkn, hbf k hk', el _ (by omega), el _ (by omega), el _ (by omega), el _ (by omega), el _ (by omega), el _ (by omega), el _ (by omega)]
      exact hR.2.1 k hk'
  · rw [am_si_ne (by omega), gr _ (by omega), el i (by omega)]; exact hR.lay hi
  · rw [am_si_ne (by omega), gr _ (by omega), el _ (by omega)]; exact hR.rel hi
  · rw [am_si_ne (by omega), gr _ (by omega), el _ (by omega)]; exact hR.se hi
end ADT
