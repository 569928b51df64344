/-! PURE: a timetable is changed: a number, a link, a trip more. -/
theorem si1 (m : HP) (i : Nat) (x : Int32) : (am_si m 1 i x).1 1 = upd (m.1 1) i x := am_up_self (f := m.1) (o := 1) (k := i) (x := x)
theorem upd_at (T : Nat → Int32) (i j : Nat) (x : Int32) : upd T i x j = if j = i then x else T j := rfl
theorem upd_comm {T : Nat → Int32} {i j : Nat} {x y : Int32} (h : i ≠ j) : upd (upd T i x) j y = upd (upd T j y) i x := by
  funext k
  rw [upd_at, upd_at, upd_at, upd_at]
  by_cases h1 : k = j
  · rw [if_pos h1, if_neg (by omega), if_pos h1]
  · rw [if_neg h1, if_neg h1]
theorem upd_id {T : Nat → Int32} {i : Nat} {x : Int32} (h : T i = x) : upd T i x = T := by
  funext k
  rw [upd_at]
  split
  · rename_i e; rw [e, h]
  · rfl
theorem nT_self {T : Nat → Int32} {i v : Nat} (hv : v < 1000000) : nT (upd T i (nI v)) i = v := by unfold nT; rw [upd_self, nI_clamp (by omega)]
theorem ite_iff' {p q : Prop} [Decidable p] [Decidable q] {x a b : Int32} (h : p ↔ q) (e : a = b) : (if p then x else a) = if q then x else b := by
  subst e
  by_cases hp : p
  · rw [if_pos hp, if_pos (h.mp hp)]
  · rw [if_neg hp, if_neg (fun z => hp (h.mpr z))]
/-- one number of the class, one of the row -/
theorem RT.up {h : HP} {T : Nat → Int32} {n c j i : Nat} {x : Int32} (hR : RT h.1 0 T n)
    (a : ¬ (0 = c ∧ 11 = j) ∧ ((0 = c ∧ 12 = j) ↔ 12 = i) ∧ ((0 = c ∧ 13 = j) ↔ 13 = i) ∧ ((0 = c ∧ 14 = j) ↔ 14 = i))
    (b : ∀ k, k < n → ((1 = c ∧ k = j) ↔ 16 + 7 * k + 0 = i) ∧ ((2 = c ∧ k = j) ↔ 16 + 7 * k + 1 = i) ∧ ((3 = c ∧ k = j) ↔ 16 + 7 * k + 2 = i) ∧ ((4 = c ∧ k = j) ↔ 16 + 7 * k + 3 = i) ∧ ((5 = c ∧ k = j) ↔ 16 + 7 * k + 4 = i) ∧ 6 ≠ c ∧ 7 ≠ c ∧ 16 + 7 * k + 6 ≠ i ∧ ((8 = c ∧ k = j) ↔ 16 + 7 * k + 5 = i))
    (d : ∀ t, t < 4 → ((9 = c ∧ t = j) ↔ t = i) ∧ ((10 = c ∧ t = j) ↔ 4 + t = i) ∧ ((11 = c ∧ t = j) ↔ 8 + t = i)) : RT (am_si h c j x).1 0 (upd T i x) n := by
  refine ⟨⟨?_, ?_, ?_, ?_⟩, fun k hk => ?_, fun t ht => ?_⟩
  · rw [am_si1, if_neg a.1]; exact hR.nn
  · rw [am_si1, upd_at]; exact ite_iff' a.2.1 hR.us
  · rw [am_si1, upd_at]; exact ite_iff' a.2.2.1 hR.fa
  · rw [am_si1, upd_at]; exact ite_iff' a.2.2.2 hR.re
  · obtain ⟨b1, b2, b3, b4, b5, b6, b7, b8, b9⟩ := b k hk
    have hbf : bfo (upd T i x) k n = bfo T k n := bfo_congr (fun q hq => nx_ne (b q hq).2.2.2.2.2.2.2.1)
    refine ⟨?_, ?_, ?_, ?_, ?_, ?_, ?_, ?_⟩
    · rw [am_si1, upd_at]; exact ite_iff' b1 (hR.rt hk)
    · rw [am_si1, upd_at]; exact ite_iff' b2 (hR.fr hk)
    · rw [am_si1, upd_at]; exact ite_iff' b3 (hR.go hk)
    · rw [am_si1, upd_at]; exact ite_iff' b4 (hR.dp hk)
    · rw [am_si1, upd_at]; exact ite_iff' b5 (hR.ln hk)
    · rw [am_si_ne b6, hbf]; exact hR.bf hk
    · rw [am_si_ne b7, upd_ne b8]; exact hR.nx hk
    · rw [am_si1, upd_at]; exact ite_iff' b9 (hR.lo hk)
  · obtain ⟨d1, d2, d3⟩ := d t ht
    refine ⟨?_, ?_, ?_⟩
    · rw [am_si1, upd_at]; exact ite_iff' d1 (hR.lay ht)
    · rw [am_si1, upd_at]; exact ite_iff' d2 (hR.rel ht)
    · rw [am_si1, upd_at]; exact ite_iff' d3 (hR.se ht)
/-- the trips of a row stay -/
theorem InvKL_ag {n : Nat} {T T' : Nat → Int32} (h : Inv T n) (e : ∀ i, 16 ≤ i → i < 16 + 7 * n → T' i = T i) : (∀ k, k < n → InvK T' k) ∧ InvL T' n := by
  have hnx : ∀ k, k < n → nx T' k = nx T k := fun k hk => nx_ag (e _ (by omega) (by omega))
  refine ⟨fun k hk => ?_, fun k hk => ?_, fun k j hk ej => ?_, fun k k' j hk hk' ej ej' => ?_⟩
  · exact ⟨bd_ag (e _ (by omega) (by omega)) (h.rt hk), bd_ag (e _ (by omega) (by omega)) (h.fr hk), bd_ag (e _ (by omega) (by omega)) (h.go hk), bd_ag (e _ (by omega) (by omega)) (h.dp hk), ⟨bd_ag (e _ (by omega) (by omega)) (h.ln hk), by show 1 ≤ nT T' _; rw [nT_ag (e _ (by omega) (by omega))]; exact h.ln1 hk⟩, bd_ag (e _ (by omega) (by omega)) (h.lo hk)⟩
  · rw [e _ (by omega) (by omega), hnx k hk]; exact h.nxe hk
  · rw [hnx k hk] at ej
    have h1 := h.nxs hk ej
    have hj := h1.1
    show j < n ∧ nT T' _ = 0 ∧ nT T' _ = 0 ∧ nT T' _ + nT T' _ ≤ nT T' _
    rw [nT_ag (e (16 + 7 * k + 5) (by omega) (by omega)), nT_ag (e (16 + 7 * j + 5) (by omega) (by omega)), nT_ag (e (16 + 7 * k + 3) (by omega) (by omega)), nT_ag (e (16 + 7 * k + 4) (by omega) (by omega)), nT_ag (e (16 + 7 * j + 3) (by omega) (by omega))]
    exact h1
  · rw [hnx k hk] at ej
    rw [hnx k' hk'] at ej'
    exact h.inj hk hk' ej ej'
/-- a number ahead of the trips, in its range -/
theorem Inv.low {n : Nat} {T : Nat → Int32} (hI : Inv T n) {i v : Nat} (hi : i < 13) (hv : v ≤ 900) (ok : (i < 4 → v ≤ 60) ∧ (4 ≤ i → i < 8 → v ≤ 1) ∧ (i = 8 → v ≤ 1) ∧ (i = 10 → v ≤ 9) ∧ (i = 11 → v ≤ 240) ∧ (i = 12 → v ≤ 9)) : Inv (upd T i (nI v)) n := by
  have key : ∀ j b, bd T j b → b < 1000000 → (j = i → v ≤ b) → bd (upd T i (nI v)) j b := by
    intro j b hb hb2 hj
    by_cases e : j = i
    · subst e; exact bd_nI (upd_self ..) (hj rfl) hb2
    · exact bd_ne e hb
  refine ⟨⟨⟨by rw [upd_ne (by omega)]; exact hI.t15, hI.n20⟩, fun t ht => key _ _ (hI.lay ht) (by omega) (fun z => ok.1 (by omega)), fun t ht => key _ _ (hI.rel ht) (by omega) (fun z => ok.2.1 (by omega) (by omega)), key _ _ hI.s0 (by omega) (fun z => ok.2.2.1 z.symm), key _ _ hI.s1 (by omega) (fun z => hv), key _ _ hI.s2 (by omega) (fun z => ok.2.2.2.1 z.symm), key _ _ hI.s3 (by omega) (fun z => ok.2.2.2.2.1 z.symm), key _ _ hI.us (by omega) (fun z => ok.2.2.2.2.2 z.symm)⟩, InvKL_ag hI (fun j h1 _ => upd_ne (by omega))⟩
theorem Inv.any {n : Nat} {T : Nat → Int32} (hI : Inv T n) {i : Nat} {x : Int32} (hi : i = 13 ∨ i = 14) : Inv (upd T i x) n :=
  ⟨⟨⟨by rw [upd_ne (by omega)]; exact hI.t15, hI.n20⟩, fun t ht => bd_ne (by omega) (hI.lay ht), fun t ht => bd_ne (by omega) (hI.rel ht), bd_ne (by omega) hI.s0, bd_ne (by omega) hI.s1, bd_ne (by omega) hI.s2, bd_ne (by omega) hI.s3, bd_ne (by omega) hI.us⟩, InvKL_ag hI (fun j h1 _ => upd_ne (by omega))⟩
/-- the part ahead of the trips stays when trips change -/
theorem InvA_ag {n : Nat} {T T' : Nat → Int32} (h : Inv T n) (e : ∀ i, i < 16 → T' i = T i) : InvA T' n :=
  ⟨⟨by rw [e 15 (by omega)]; exact h.t15, h.n20⟩, fun i hi => bd_ag (e _ (by omega)) (h.lay hi), fun i hi => bd_ag (e _ (by omega)) (h.rel hi), bd_ag (e _ (by omega)) h.s0, bd_ag (e _ (by omega)) h.s1, bd_ag (e _ (by omega)) h.s2, bd_ag (e _ (by omega)) h.s3, bd_ag (e _ (by omega)) h.us⟩
/-! links -/
def setN (T : Nat → Int32) (k : Nat) (o : Option Nat) : Nat → Int32 := upd T (16 + 7 * k + 6) (eo o)
theorem setN_nx {T : Nat → Int32} {k : Nat} {o : Option Nat} (ho : ∀ j, o = some j → j < 1000) (i : Nat) : nx (setN T k o) i = if i = k then o else nx T i := by
  by_cases e : i = k
  · subst e
    rw [if_pos rfl]
    unfold nx setN
    rw [upd_self]
    cases o with
    | none => rw [if_pos (show eo none = -1 from rfl)]
    | some j =>
      have := ho j rfl
      rw [if_neg (show ¬ eo (some j) = -1 from nI_m1 (by omega))]
      congr 1
      show nT (upd T (16 + 7 * i + 6) (nI j)) (16 + 7 * i + 6) = j
      exact nT_self (by omega)
  · rw [if_neg e]; exact nx_ne (by omega)
theorem setN_nT {T : Nat → Int32} {k i : Nat} {o : Option Nat} (h : i ≠ 16 + 7 * k + 6) : nT (setN T k o) i = nT T i := nT_ne h
theorem Inv.relk {n : Nat} {T : Nat → Int32} (hI : Inv T n) {k : Nat} (hk : k < n) {o : Option Nat} (ho : ∀ j, o = some j → j < n ∧ Lo T k = 0 ∧ Lo T j = 0 ∧ Dp T k + Ln T k ≤ Dp T j ∧ bfo T j n = none) : Inv (setN T k o) n := by
  have h20 := hI.n20
  have hx := setN_nx (T := T) (k := k) (o := o) (fun j e => by have := (ho j e).1; omega)
  have e : ∀ i, (∀ q, i ≠ 16 + 7 * q + 6) → setN T k o i = T i := fun i h => upd_ne (h k)
  have hn : ∀ q w, w < 6 → nT (setN T k o) (16 + 7 * q + w) = nT T (16 + 7 * q + w) := fun q w hw => setN_nT (by omega)
  refine ⟨InvA_ag hI (fun i hi => e i (by omega)), fun q hq => ?_, fun q hq => ?_, fun q j hq ej => ?_, fun q q' j hq hq' ej ej' => ?_⟩
  · exact ⟨bd_ag (e _ (by omega)) (hI.rt hq), bd_ag (e _ (by omega)) (hI.fr hq), bd_ag (e _ (by omega)) (hI.go hq), bd_ag (e _ (by omega)) (hI.dp hq), ⟨bd_ag (e _ (by omega)) (hI.ln hq), by show 1 ≤ nT (setN T k o) (16 + 7 * q + 4); rw [hn q 4 (by omega)]; exact hI.ln1 hq⟩, bd_ag (e _ (by omega)) (hI.lo hq)⟩
  · rw [hx q]
    by_cases h1 : q = k
    · subst h1; rw [if_pos rfl]; exact upd_self ..
    · rw [if_neg h1, ← hI.nxe hq]; exact upd_ne (by omega)
  · rw [hx q] at ej
    show j < n ∧ nT (setN T k o) (16 + 7 * q + 5) = 0 ∧ nT (setN T k o) (16 + 7 * j + 5) = 0 ∧ nT (setN T k o) (16 + 7 * q + 3) + nT (setN T k o) (16 + 7 * q + 4) ≤ nT (setN T k o) (16 + 7 * j + 3)
    rw [hn q 5 (by omega), hn j 5 (by omega), hn q 3 (by omega), hn q 4 (by omega), hn j 3 (by omega)]
    by_cases h1 : q = k
    · subst h1
      rw [if_pos rfl] at ej
      obtain ⟨a, b, c, d, -⟩ := ho j ej
      exact ⟨a, b, c, d⟩
    · rw [if_neg h1] at ej
      exact hI.nxs hq ej
  · rw [hx q] at ej
    rw [hx q'] at ej'
    by_cases h1 : q = k
    · by_cases h2 : q' = k
      · rw [h1, h2]
      · rw [if_pos h1] at ej
        rw [if_neg h2] at ej'
        exact absurd ej' (bfo_none (ho j ej).2.2.2.2 q' hq')
    · rw [if_neg h1] at ej
      by_cases h2 : q' = k
      · rw [if_pos h2] at ej'
        exact absurd ej (bfo_none (ho j ej').2.2.2.2 q hq)
      · rw [if_neg h2] at ej'
        exact hI.inj hq hq' ej ej'
theorem Inv.cut {n : Nat} {T : Nat → Int32} (hI : Inv T n) {k : Nat} (hk : k < n) : Inv (setN T k none) n := hI.relk hk (fun _ e => nomatch e)
/-- what follows what, behind a link set -/
theorem bfo_set {n : Nat} {T : Nat → Int32} (hI : Inv T n) {k : Nat} (hk : k < n) {o : Option Nat} (hI' : Inv (setN T k o) n) (ho : okO n o) (i : Nat) : bfo (setN T k o) i n = if o = some i then some k else (if bfo T i n = some k then none else bfo T i n) := by
  have h20 := hI.n20
  have hx := setN_nx (T := T) (k := k) (o := o) (fun j e => by have := ho j e; omega)
  by_cases e : o = some i
  · rw [if_pos e]
    exact (hI'.bfi hk).mpr (by rw [hx k, if_pos rfl, e])
  · rw [if_neg e]
    by_cases e2 : bfo T i n = some k
    · rw [if_pos e2]
      refine bfo_nil (fun j hj => ?_)
      rw [hx j]
      by_cases h1 : j = k
      · rw [if_pos h1]; exact e
      · rw [if_neg h1]
        intro z
        exact h1 (hI.inj hj hk z (bfo_some e2).2)
    · rw [if_neg e2]
      cases e3 : bfo T i n with
      | none =>
        refine bfo_nil (fun j hj => ?_)
        rw [hx j]
        by_cases h1 : j = k
        · rw [if_pos h1]; exact e
        · rw [if_neg h1]; exact bfo_none e3 j hj
      | some j =>
        obtain ⟨a, b⟩ := bfo_some e3
        have h1 : j ≠ k := fun z => e2 (by rw [e3, z])
        exact (hI'.bfi a).mpr (by rw [hx j, if_neg h1]; exact b)
theorem RT.setN' {h h' : HP} {T : Nat → Int32} {n k : Nat} {o : Option Nat} (hR : RT h.1 0 T n) (hI : Inv T n) (hk : k < n) (hI' : Inv (setN T k o) n) (ho : okO n o) (hf : ∀ c, c ≠ 6 → c ≠ 7 → h'.1 c = h.1 c) (h7 : ∀ i, i < n → h'.1 7 i = if i = k then eo o else h.1 7 i)
    (h6 : ∀ i, i < n → h'.1 6 i = if o = some i then nI k else (if bfo T i n = some k then -1 else h.1 6 i)) : RT h'.1 0 (setN T k o) n := by
  have e : ∀ i, (∀ q, i ≠ 16 + 7 * q + 6) → setN T k o i = T i := fun i h => upd_ne (h k)
  refine ⟨⟨?_, ?_, ?_, ?_⟩, fun i hi => ⟨?_, ?_, ?_, ?_, ?_, ?_, ?_, ?_⟩, fun t ht => ⟨?_, ?_, ?_⟩⟩
  · rw [hf 0 (by omega) (by omega)]; exact hR.nn
  · rw [hf 0 (by omega) (by omega), e 12 (by omega)]; exact hR.us
  · rw [hf 0 (by omega) (by omega), e 13 (by omega)]; exact hR.fa
  · rw [hf 0 (by omega) (by omega), e 14 (by omega)]; exact hR.re
  · rw [e _ (by omega)]; exact (congrFun (hf 1 (by omega) (by omega)) i).trans (hR.rt hi)
  · rw [e _ (by omega)]; exact (congrFun (hf 2 (by omega) (by omega)) i).trans (hR.fr hi)
  · rw [e _ (by omega)]; exact (congrFun (hf 3 (by omega) (by omega)) i).trans (hR.go hi)
  · rw [e _ (by omega)]; exact (congrFun (hf 4 (by omega) (by omega)) i).trans (hR.dp hi)
  · rw [e _ (by omega)]; exact (congrFun (hf 5 (by omega) (by omega)) i).trans (hR.ln hi)
  · show h'.1 6 i = _
    rw [h6 i hi, bfo_set hI hk hI' ho i]
    by_cases e1 : o = some i
    · rw [if_pos e1, if_pos e1]; rfl
    · rw [if_neg e1, if_neg e1]
      by_cases e2 : bfo T i n = some k
      · rw [if_pos e2, if_pos e2]; rfl
      · rw [if_neg e2, if_neg e2]; exact hR.bf hi
  · show h'.1 7 i = _
    rw [h7 i hi]
    by_cases e1 : i = k
    · rw [if_pos e1, e1]; exact (upd_self ..).symm
    · rw [if_neg e1]
      exact (hR.nx hi).trans (upd_ne (by omega)).symm
  · rw [e _ (by omega)]; exact (congrFun (hf 8 (by omega) (by omega)) i).trans (hR.lo hi)
  · rw [e _ (by omega)]; exact (congrFun (hf 9 (by omega) (by omega)) t).trans (hR.lay ht)
  · rw [e _ (by omega)]; exact (congrFun (hf 10 (by omega) (by omega)) t).trans (hR.rel ht)
  · rw [e _ (by omega)]; exact (congrFun (hf 11 (by omega) (by omega)) t).trans (hR.se ht)
section CWR
variable {h : HP} {T : Nat → Int32} {n : Nat}
/-- the class parts behind a trip -/
theorem cc_cutB (hR : RT h.1 0 T n) (hI : Inv T n) {k : Nat} (hk : k < n) : RT (v_T_cutBehind h (nI k)).1 0 (setN T k none) n ∧ (∀ c, c ≠ 6 → c ≠ 7 → (v_T_cutBehind h (nI k)).1 c = h.1 c) := by
  have h20 := hI.n20
  have hkl := hI.lt hk
  have hv : ∀ i, (v_T_cutBehind h (nI k)).1 7 i = (if i = k then -1 else h.1 7 i) := by
    intro i
    rw [v_T_cutBehind, put20 _ _ hkl, am_si1, cc_nx hR hI hk]
    by_cases e : i = k
    · rw [if_pos ⟨rfl, e⟩, if_pos e]
    · rw [if_neg (fun z => e z.2), if_neg e]
      cases e2 : nx T k with
      | none => rw [show eo none = -1 from rfl, put_m1]
      | some j => have := (hI.nxs hk e2).1; rw [show eo (some j) = nI j from rfl, put20 _ _ (by omega), am_si_ne (by omega)]
  have hv6 : ∀ i, (v_T_cutBehind h (nI k)).1 6 i = (if nx T k = some i then -1 else h.1 6 i) := by
    intro i
    rw [v_T_cutBehind, put20 _ _ hkl, am_si_ne (by omega), cc_nx hR hI hk]
    cases e2 : nx T k with
    | none => rw [show eo none = -1 from rfl, put_m1, if_neg (fun z => nomatch z)]
    | some j =>
      have := (hI.nxs hk e2).1
      rw [show eo (some j) = nI j from rfl, put20 _ _ (by omega), am_si1]
      by_cases e : i = j
      · rw [if_pos ⟨rfl, e⟩, if_pos (by rw [e])]
      · rw [if_neg (fun z => e z.2), if_neg (fun z => e (Option.some.inj z).symm)]
  have hf : ∀ c, c ≠ 6 → c ≠ 7 → (v_T_cutBehind h (nI k)).1 c = h.1 c := by
    intro c h6 h7
    rw [v_T_cutBehind, put20 _ _ hkl, am_si_ne h7, cc_nx hR hI hk]
    cases e2 : nx T k with
    | none => rw [show eo none = -1 from rfl, put_m1]
    | some j => have := (hI.nxs hk e2).1; rw [show eo (some j) = nI j from rfl, put20 _ _ (by omega), am_si_ne h6]
  refine ⟨hR.setN' hI hk (hI.cut hk) okO_none hf (fun i _ => by rw [hv i]; rfl) (fun i hi => ?_), hf⟩
  rw [hv6 i, if_neg (show ¬ ((none : Option Nat) = some i) from fun z => nomatch z)]
  by_cases e : nx T k = some i
  · rw [if_pos e, if_pos ((hI.bfi hk).mpr e)]
  · rw [if_neg e, if_neg (fun z => e (bfo_some z).2)]
/-- the class parts ahead of a trip -/
theorem cc_cutA (hR : RT h.1 0 T n) (hI : Inv T n) {k : Nat} (hk : k < n) : RT (v_T_cutAhead h (nI k)).1 0 (match bfo T k n with | none => T | some j => setN T j none) n ∧ (∀ c, c ≠ 6 → c ≠ 7 → (v_T_cutAhead h (nI k)).1 c = h.1 c) := by
  have h20 := hI.n20
  have hkl := hI.lt hk
  cases e2 : bfo T k n with
  | none =>
    have hv : v_T_cutAhead h (nI k) = am_si h 6 k (-1) := by
      rw [v_T_cutAhead, cc_bf hR hI hk, e2, show eo none = -1 from rfl, put_m1, put20 _ _ hkl]
    rw [hv]
    refine ⟨?_, fun c h6 _ => am_si_ne h6⟩
    have h6 : h.1 6 k = -1 := by have := hR.bf hk; rw [e2] at this; exact this
    have hsame : (am_si h 6 k (-1)).1 = h.1 := by
      funext c i
      rw [am_si1]
      split
      · rename_i z; rw [z.1, z.2, h6]
      · rfl
    rw [hsame]; exact hR
  | some j =>
    obtain ⟨hj, hnj⟩ := bfo_some e2
    have hv : v_T_cutAhead h (nI k) = am_si (am_si h 7 j (-1)) 6 k (-1) := by
      rw [v_T_cutAhead, cc_bf hR hI hk, e2, show eo (some j) = nI j from rfl, put20 h 7 (i := j) (by omega), put20 _ _ hkl]
    rw [hv]
    have hf : ∀ c, c ≠ 6 → c ≠ 7 → (am_si (am_si h 7 j (-1)) 6 k (-1)).1 c = h.1 c := fun c h6 h7 => by rw [am_si_ne h6, am_si_ne h7]
    refine ⟨hR.setN' hI hj (hI.cut hj) okO_none hf (fun i _ => ?_) (fun i hi => ?_), hf⟩
    · rw [am_si_ne (by omega), am_si1]
      by_cases e : i = j
      · rw [if_pos ⟨rfl, e⟩, if_pos e]; rfl
      · rw [if_neg (fun z => e z.2), if_neg e]
    · rw [am_si1, if_neg (show ¬ ((none : Option Nat) = some i) from fun z => nomatch z)]
      by_cases e : i = k
      · rw [if_pos ⟨rfl, e⟩, if_pos (by rw [e]; exact e2)]
      · rw [if_neg (fun z => e z.2), am_si_ne (by omega), if_neg]
        intro z
        have := (bfo_some z).2
        rw [hnj] at this
        exact e (Option.some.inj this).symm
/-- the class links a trip behind another -/
theorem cc_link (hR : RT h.1 0 T n) (hI : Inv T n) {a b : Nat} (ha : a < n) (hb : b < n) (hn : nx T b = none) (hI' : Inv (setN T b (some a)) n) : RT (v_T_link h (nI a) (nI b)).1 0 (setN T b (some a)) n ∧ (∀ c, c ≠ 6 → c ≠ 7 → (v_T_link h (nI a) (nI b)).1 c = h.1 c) := by
  have h20 := hI.n20
  have hv : v_T_link h (nI a) (nI b) = am_si (am_si h 6 a (nI b)) 7 b (nI a) := by
    rw [v_T_link, put20 _ _ (by omega), put20 _ _ (by omega)]
  rw [hv]
  have hf : ∀ c, c ≠ 6 → c ≠ 7 → (am_si (am_si h 6 a (nI b)) 7 b (nI a)).1 c = h.1 c := fun c h6 h7 => by rw [am_si_ne h7, am_si_ne h6]
  refine ⟨hR.setN' hI hb hI' (okO_some ha) hf (fun i _ => ?_) (fun i hi => ?_), hf⟩
  · rw [am_si1]
    by_cases e : i = b
    · rw [if_pos ⟨rfl, e⟩, if_pos e]; rfl
    · rw [if_neg (fun z => e z.2), if_neg e, am_si_ne (by omega)]
  · rw [am_si_ne (by omega), am_si1]
    by_cases e : i = a
    · rw [if_pos ⟨rfl, e⟩, if_pos (by rw [e])]
    · rw [if_neg (fun z => e z.2), if_neg (fun z => e (Option.some.inj z).symm), if_neg]
      intro z
      have := (bfo_some z).2
      rw [hn] at this; cases this
end CWR
