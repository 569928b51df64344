/-! PURE: what the class's Timetable answers, told of the row. -/
def b01 (b : Bool) : Int32 := if b then 1 else 0
theorem b01_0 : ∀ {b : Bool}, b01 b = 0 ↔ b = false
  | true => ⟨fun h => absurd h (by decide +kernel), fun h => nomatch h⟩
  | false => ⟨fun _ => rfl, fun _ => rfl⟩
theorem b01_f : b01 false = 0 := rfl
theorem b01_t : ¬ b01 true = 0 := by decide +kernel
theorem b01_1 : ∀ {b : Bool}, b01 b = 1 ↔ b = true
  | true => ⟨fun _ => rfl, fun _ => rfl⟩
  | false => ⟨fun h => absurd h (by decide +kernel), fun h => nomatch h⟩
theorem b01_if (b : Bool) : (if b01 b = 0 then (0 : Int32) else 1) = b01 b := by cases b <;> decide +kernel
theorem b01_fi (b : Bool) : (if b01 b = 0 then (1 : Int32) else 0) = b01 (!b) := by cases b <;> decide +kernel
theorem b01_01 (b : Bool) : b01 b = 0 ∨ b01 b = 1 := by cases b; exact Or.inl rfl; exact Or.inr rfl
theorem nI_z {a : Nat} (h : a < 2 ^ 31) : nI a = 0 ↔ a = 0 := by rw [← nI_0, nI_eq h (by omega)]
theorem nI_one {a : Nat} (h : a < 2 ^ 31) : nI a = 1 ↔ a = 1 := nI_eq (b := 1) h (by omega)
theorem if_b (p : Prop) [Decidable p] {b : Bool} (h : p ↔ b = true) : (if p then (1 : Int32) else 0) = b01 b := by
  cases b with
  | true => rw [if_pos (h.mpr rfl)]; rfl
  | false => rw [if_neg (fun z => nomatch h.mp z)]; rfl
theorem if_nb (p : Prop) [Decidable p] {b : Bool} (h : p ↔ b = false) : (if p then (0 : Int32) else 1) = b01 b := by
  cases b with
  | false => rw [if_pos (h.mpr rfl)]; rfl
  | true => rw [if_neg (fun z => nomatch h.mp z)]; rfl
theorem at20 (f : Nat → Int32) {i : Nat} (hi : i < 20) : v_at 20 f (nI i) = f i := at_nI (by omega) f hi
theorem at4 (f : Nat → Int32) {i : Nat} (hi : i < 4) : v_at 4 f (nI i) = f i := at_nI (by omega) f hi
theorem at16 (f : Nat → Int32) {i : Nat} (hi : i < 16) : v_at 16 f (nI i) = f i := at_nI (by omega) f hi
theorem at40 (f : Nat → Int32) {i : Nat} (hi : i < 40) : v_at 40 f (nI i) = f i := at_nI (by omega) f hi
theorem at60 (f : Nat → Int32) {i : Nat} (hi : i < 60) : v_at 60 f (nI i) = f i := at_nI (by omega) f hi
theorem put20 (h : HP) (r : Nat) {i : Nat} (hi : i < 20) (x : Int32) : v_put 20 h r (nI i) x = am_si h r i x := put_nI (by omega) h r hi x
/-- a loop that adds up -/
theorem sum_loop {step : Int32 × Int32 → (Int32 × Int32) ⊕ (Int32 × Int32)} {pst : Int32 × Int32 → Prop} {n : Nat} (hn : n < 1000) (f : Nat → Int32) (hs : ∀ j, j < n → ∀ a, step (a, nI j) = .inl (a + f j, nI (j + 1))) (he : ∀ a, step (a, nI n) = .inr (a, nI n)) (hp : ∀ j, j ≤ n → ∀ a, pst (a, nI j)) :
    itrp step pst NF (0, 0) ∧ itr step NF (0, 0) = some (sm f n, nI n) :=
  itr_for (fun k => (sm f k, nI k)) n (sm f n, nI n) hn (fun j hj => hs j hj _) (he _) (fun j hj => hp j hj _)
theorem cnt_loop {step : Int32 × Int32 → (Int32 × Int32) ⊕ (Int32 × Int32)} {pst : Int32 × Int32 → Prop} {n : Nat} (hn : n < 1000) (p : Nat → Bool) (hs : ∀ j, j < n → ∀ a, step (a, nI j) = .inl (a + b01 (p j), nI (j + 1))) (he : ∀ a, step (a, nI n) = .inr (a, nI n)) (hp : ∀ j, j ≤ n → ∀ a, pst (a, nI j)) :
    itrp step pst NF (0, 0) ∧ itr step NF (0, 0) = some (nI (cn p n), nI n) := by
  have h := sum_loop (step := step) (pst := pst) hn (fun j => b01 (p j)) hs he hp
  rw [cn_sm (p := p) (f := fun j => b01 (p j)) (fun k _ => rfl)] at h
  exact h
def isr (T : Nat → Int32) (k : Nat) : Bool := Nat.beq (Lo T k) 0
def hd (T : Nat → Int32) (n k : Nat) : Bool := isr T k && (bfo T k n).isNone
abbrev Ar (T : Nat → Int32) (k : Nat) : Nat := Dp T k + Ln T k
/-- why a trip can't follow another -/
def rsn (T : Nat → Int32) (n a b : Nat) : Nat :=
  if isr T a = false ∨ isr T b = false then 1 else if (nx T b).isSome = true ∨ (bfo T a n).isSome = true then 2 else if ¬ Fr T a = Go T b then 3 else if Dp T a < Ar T b + nT T (Go T b) then 4 else if nT T 8 = 0 ∧ ¬ Rt T a = Rt T b then 5 else 0
section CRD
variable {h : HP} {T : Nat → Int32} {n : Nat}
theorem cc_isRun (hR : RT h.1 0 T n) (hI : Inv T n) {k : Nat} (hk : k < n) : v_T_isRun h (nI k) = b01 (isr T k) := by
  rw [v_T_isRun, at20 _ (hI.lt hk), (hR.lo hk : h.1 8 k = _), (hI.lo hk).1]
  exact if_b _ (by rw [nI_z ((hI.lo hk).lt (by omega))]; exact beq_iff.symm)
theorem cc_dep (hR : RT h.1 0 T n) (hI : Inv T n) {k : Nat} (hk : k < n) : v_at 20 (h.1 4) (nI k) = nI (Dp T k) := by
  rw [at20 _ (hI.lt hk), (hR.dp hk : h.1 4 k = _), (hI.dp hk).1]
theorem cc_len (hR : RT h.1 0 T n) (hI : Inv T n) {k : Nat} (hk : k < n) : v_at 20 (h.1 5) (nI k) = nI (Ln T k) := by
  rw [at20 _ (hI.lt hk), (hR.ln hk : h.1 5 k = _), (hI.ln hk).1]
theorem cc_rt (hR : RT h.1 0 T n) (hI : Inv T n) {k : Nat} (hk : k < n) : v_at 20 (h.1 1) (nI k) = nI (Rt T k) := by
  rw [at20 _ (hI.lt hk), (hR.rt hk : h.1 1 k = _), (hI.rt hk).1]
theorem cc_fr (hR : RT h.1 0 T n) (hI : Inv T n) {k : Nat} (hk : k < n) : v_at 20 (h.1 2) (nI k) = nI (Fr T k) := by
  rw [at20 _ (hI.lt hk), (hR.fr hk : h.1 2 k = _), (hI.fr hk).1]
theorem cc_go (hR : RT h.1 0 T n) (hI : Inv T n) {k : Nat} (hk : k < n) : v_at 20 (h.1 3) (nI k) = nI (Go T k) := by
  rw [at20 _ (hI.lt hk), (hR.go hk : h.1 3 k = _), (hI.go hk).1]
theorem cc_lo (hR : RT h.1 0 T n) (hI : Inv T n) {k : Nat} (hk : k < n) : v_at 20 (h.1 8) (nI k) = nI (Lo T k) := by
  rw [at20 _ (hI.lt hk), (hR.lo hk : h.1 8 k = _), (hI.lo hk).1]
theorem cc_nx (hR : RT h.1 0 T n) (hI : Inv T n) {k : Nat} (hk : k < n) : v_at 20 (h.1 7) (nI k) = eo (nx T k) := by
  rw [at20 _ (hI.lt hk), (hR.nx hk : h.1 7 k = _), hI.nxe hk]
theorem cc_bf (hR : RT h.1 0 T n) (hI : Inv T n) {k : Nat} (hk : k < n) : v_at 20 (h.1 6) (nI k) = eo (bfo T k n) := by
  rw [at20 _ (hI.lt hk), (hR.bf hk : h.1 6 k = _)]
theorem cc_lay (hR : RT h.1 0 T n) (hI : Inv T n) {i : Nat} (hi : i < 4) : v_at 4 (h.1 9) (nI i) = nI (nT T i) := by
  rw [at4 _ hi, (hR.lay hi : h.1 9 i = _), (hI.lay hi).1]
theorem cc_rel (hR : RT h.1 0 T n) (hI : Inv T n) {i : Nat} (hi : i < 4) : v_at 4 (h.1 10) (nI i) = nI (nT T (4 + i)) := by
  rw [at4 _ hi, (hR.rel hi : h.1 10 i = _), (hI.rel hi).1]
theorem cc_s0 (hR : RT h.1 0 T n) (hI : Inv T n) : v_at 4 (h.1 11) 0 = nI (nT T 8) := by
  rw [← nI_0, at4 _ (by omega), (hR.se (k := 0) (by omega) : h.1 11 0 = T 8), hI.s0.1]
theorem cc_s1 (hR : RT h.1 0 T n) (hI : Inv T n) : v_at 4 (h.1 11) 1 = nI (nT T 9) := by
  rw [show (1 : Int32) = nI 1 from rfl, at4 _ (by omega), (hR.se (k := 1) (by omega) : h.1 11 1 = T 9), hI.s1.1]
theorem cc_s2 (hR : RT h.1 0 T n) (hI : Inv T n) : v_at 4 (h.1 11) 2 = nI (nT T 10) := by
  rw [show (2 : Int32) = nI 2 from rfl, at4 _ (by omega), (hR.se (k := 2) (by omega) : h.1 11 2 = T 10), hI.s2.1]
theorem cc_s3 (hR : RT h.1 0 T n) (hI : Inv T n) : v_at 4 (h.1 11) 3 = nI (nT T 11) := by
  rw [show (3 : Int32) = nI 3 from rfl, at4 _ (by omega), (hR.se (k := 3) (by omega) : h.1 11 3 = T 11), hI.s3.1]
theorem cc_arr (hR : RT h.1 0 T n) (hI : Inv T n) {k : Nat} (hk : k < n) : v_T_arrivalOf h (nI k) = nI (Ar T k) := by
  rw [v_T_arrivalOf, cc_dep hR hI hk, cc_len hR hI hk, nI_add]
theorem cc_rdy (hR : RT h.1 0 T n) (hI : Inv T n) {k : Nat} (hk : k < n) : v_T_readyOf h (nI k) = nI (Ar T k + nT T (Go T k)) := by
  have hg := (hI.goL hk)
  rw [v_T_readyOf, cc_dep hR hI hk, cc_len hR hI hk, cc_go hR hI hk, cc_lay hR hI (by omega), nI_add, nI_add]
theorem cc_lt (hR : RT h.1 0 T n) (hI : Inv T n) {j : Nat} (hj : j < n) : nI j < h.1 0 11 := by
  have := hI.n20
  rw [hR.nn, nI_ltI (by omega) (by omega)]; exact hj
theorem cc_nlt (hR : RT h.1 0 T n) (hI : Inv T n) : ¬ nI n < h.1 0 11 := by
  have := hI.n20
  rw [hR.nn, nI_ltI (by omega) (by omega)]; omega
theorem cc_run (hR : RT h.1 0 T n) (hI : Inv T n) : p_T_runTrips h ∧ v_T_runTrips h = nI (cn (isr T) n) := by
  obtain ⟨a, b⟩ := cnt_loop (step := s_T_runTrips_4 h) (pst := ps_T_runTrips_4 h) (n := n) (by have := hI.n20; omega) (isr T)
    (fun j hj a => by
      show (if nI j < h.1 0 11 then _ else _) = _
      rw [if_pos (cc_lt hR hI hj), cc_isRun hR hI hj, b01_if, nI_1])
    (fun a => by
      show (if nI n < h.1 0 11 then _ else _) = _
      rw [if_neg (cc_nlt hR hI)]) (fun _ _ _ => trivial)
  exact ⟨a, by rw [v_T_runTrips, b]⟩
theorem cc_runAt2 (hR : RT h.1 0 T n) (hI : Inv T n) {t : Nat} (ht : t < 4) : p_T_runTripsAt_2 h (nI t) ∧ v_T_runTripsAt_2 h (nI t) = nI (cn (fun k => isr T k && Nat.beq (Fr T k) t) n) := by
  obtain ⟨a, b⟩ := cnt_loop (step := s_T_runTripsAt_2_5 h (nI t)) (pst := ps_T_runTripsAt_2_5 h (nI t)) (n := n) (by have := hI.n20; omega) (fun k => isr T k && Nat.beq (Fr T k) t)
    (fun j hj a => by
      show (if nI j < h.1 0 11 then _ else _) = _
      rw [if_pos (cc_lt hR hI hj), cc_isRun hR hI hj, nI_1, cc_fr hR hI hj]
      congr 3
      cases isr T j with
      | false => rfl
      | true => rw [if_neg b01_t]; exact if_b _ (by have := (hI.frL hj); rw [nI_eq (by omega) (by omega)]; exact beq_iff.symm))
    (fun a => by
      show (if nI n < h.1 0 11 then _ else _) = _
      rw [if_neg (cc_nlt hR hI)]) (fun _ _ _ => trivial)
  exact ⟨a, by rw [v_T_runTripsAt_2, b]⟩
theorem cc_runAt3 (hR : RT h.1 0 T n) (hI : Inv T n) {t : Nat} (ht : t < 4) : p_T_runTripsAt_3 h (nI t) ∧ v_T_runTripsAt_3 h (nI t) = nI (cn (fun k => isr T k && Nat.beq (Go T k) t) n) := by
  obtain ⟨a, b⟩ := cnt_loop (step := s_T_runTripsAt_3_5 h (nI t)) (pst := ps_T_runTripsAt_3_5 h (nI t)) (n := n) (by have := hI.n20; omega) (fun k => isr T k && Nat.beq (Go T k) t)
    (fun j hj a => by
      show (if nI j < h.1 0 11 then _ else _) = _
      rw [if_pos (cc_lt hR hI hj), cc_isRun hR hI hj, nI_1, cc_go hR hI hj]
      congr 3
      cases isr T j with
      | false => rfl
      | true => rw [if_neg b01_t]; exact if_b _ (by have := (hI.goL hj); rw [nI_eq (by omega) (by omega)]; exact beq_iff.symm))
    (fun a => by
      show (if nI n < h.1 0 11 then _ else _) = _
      rw [if_neg (cc_nlt hR hI)]) (fun _ _ _ => trivial)
  exact ⟨a, by rw [v_T_runTripsAt_3, b]⟩
/-- run, and under way at a time -/
theorem cc_under (hR : RT h.1 0 T n) (hI : Inv T n) {t : Nat} (ht : t < 10000) : p_T_underWayAt h (nI t) ∧ v_T_underWayAt h (nI t) = nI (cn (fun k => isr T k && (Nat.ble (Dp T k) t && Nat.blt t (Ar T k))) n) := by
  obtain ⟨a, b⟩ := cnt_loop (step := s_T_underWayAt_4 h (nI t)) (pst := ps_T_underWayAt_4 h (nI t)) (n := n) (by have := hI.n20; omega) (fun k => isr T k && (Nat.ble (Dp T k) t && Nat.blt t (Ar T k)))
    (fun j hj a => by
      have h1 := (hI.dpL hj)
      have h2 := (hI.lnL hj)
      show (if nI j < h.1 0 11 then _ else _) = _
      rw [if_pos (cc_lt hR hI hj), cc_isRun hR hI hj, nI_1, cc_dep hR hI hj, cc_arr hR hI hj]
      congr 3
      cases isr T j with
      | false => rfl
      | true =>
        rw [if_neg b01_t]
        cases e : Nat.ble (Dp T j) t with
        | false => rw [if_neg (fun z => by rw [nI_leI (by omega) (by omega)] at z; rw [Nat.ble_eq_true_of_le z] at e; cases e)]; rfl
        | true => rw [if_pos ((nI_leI (by omega) (by omega)).mpr (Nat.le_of_ble_eq_true e))]; exact if_b _ (by rw [nI_ltI (by omega) (by show Dp T j + Ln T j < _; omega)]; exact blt_iff.symm))
    (fun a => by
      show (if nI n < h.1 0 11 then _ else _) = _
      rw [if_neg (cc_nlt hR hI)]) (fun _ _ _ => trivial)
  exact ⟨a, by rw [v_T_underWayAt, b]⟩
theorem eo_cases (hR : RT h.1 0 T n) (hI : Inv T n) (o : Option Nat) (ho : okO n o) (hn : n ≤ 20) : (eo o = -1 ∧ o = none) ∨ (¬ eo o = -1 ∧ ∃ j, o = some j ∧ j < n ∧ eo o = nI j) := by
  cases o with
  | none => exact Or.inl ⟨rfl, rfl⟩
  | some j => have := ho j rfl; exact Or.inr ⟨nI_m1 (by omega), j, rfl, this, rfl⟩
theorem cc_reason (hR : RT h.1 0 T n) (hI : Inv T n) {a b : Nat} (ha : a < n) (hb : b < n) : v_T_reasonAgainst h (nI a) (nI b) = nI (rsn T n a b) := by
  have hg := (hI.goL hb)
  have h1 := (hI.dpL ha)
  have h2 := (hI.dpL hb)
  have h3 := (hI.lnL hb)
  have h4 := (hI.lay (i := Go T b) (by omega)).2
  rw [v_T_reasonAgainst, cc_isRun hR hI ha, cc_isRun hR hI hb, cc_nx hR hI hb, cc_bf hR hI ha, cc_fr hR hI ha, cc_go hR hI hb, cc_dep hR hI ha, cc_rdy hR hI hb, cc_s0 hR hI, cc_rt hR hI ha, cc_rt hR hI hb, rsn]
  cases e1 : isr T a with
  | false => rfl
  | true =>
    cases e2 : isr T b with
    | false => rfl
    | true =>
      rw [if_neg b01_t, if_neg b01_t, if_neg (show ¬ (true = false ∨ true = false) by decide)]
      cases e3 : nx T b with
      | some j =>
        have := (hI.nxs hb e3).1; have := hI.n20
        rw [if_neg (show ¬ eo (some j) = -1 from nI_m1 (by omega))]; exact congrArg nI (if_pos (Or.inl rfl)).symm
      | none =>
        rw [if_pos (show eo none = -1 from rfl)]
        cases e4 : bfo T a n with
        | some j =>
          have := hI.bflt j e4
          rw [if_neg (show ¬ eo (some j) = -1 from nI_m1 (by omega))]; exact congrArg nI (if_pos (Or.inr rfl)).symm
        | none =>
          rw [if_pos (show eo none = -1 from rfl), if_neg (show ¬ ((none : Option Nat).isSome = true ∨ (none : Option Nat).isSome = true) by decide)]
          have h5 := (hI.frL ha)
          have k1 : Ar T b + nT T (Go T b) < 2 ^ 31 := by show Dp T b + Ln T b + nT T (Go T b) < _; omega
          by_cases e5 : Fr T a = Go T b
          · rw [if_pos (show nI (Fr T a) = nI (Go T b) by rw [e5]), if_neg (show ¬ ¬ Fr T a = Go T b from fun z => z e5)]
            by_cases e6 : Dp T a < Ar T b + nT T (Go T b)
            · rw [if_pos (show nI (Dp T a) < nI (Ar T b + nT T (Go T b)) from (nI_ltI (by omega) k1).mpr e6)]; exact congrArg nI (if_pos e6).symm
            · rw [if_neg (show ¬ nI (Dp T a) < nI (Ar T b + nT T (Go T b)) from fun z => e6 ((nI_ltI (by omega) k1).mp z)), if_neg e6]
              have h6 := hI.s0.2
              have h7 := (hI.rtL ha)
              have h8 := (hI.rtL hb)
              by_cases e7 : nT T 8 = 0
              · rw [if_pos (show nI (nT T 8) = 0 from (nI_z (by omega)).mpr e7)]
                by_cases e8 : Rt T a = Rt T b
                · rw [if_pos (show nI (Rt T a) = nI (Rt T b) by rw [e8])]; exact congrArg nI (if_neg (fun z => z.2 e8)).symm
                · rw [if_neg (show ¬ nI (Rt T a) = nI (Rt T b) from fun z => e8 (nI_inj (by omega) (by omega) z))]; exact congrArg nI (if_pos ⟨e7, e8⟩).symm
              · rw [if_neg (show ¬ nI (nT T 8) = 0 from fun z => e7 ((nI_z (by omega)).mp z))]; exact congrArg nI (if_neg (fun z => e7 z.1)).symm
          · rw [if_neg (show ¬ nI (Fr T a) = nI (Go T b) from fun z => e5 (nI_inj (by omega) (by omega) z))]; exact congrArg nI (if_pos e5).symm
theorem cc_isHead (hR : RT h.1 0 T n) (hI : Inv T n) {k : Nat} (hk : k < n) : v_T_isHead h (nI k) = b01 (hd T n k) := by
  rw [v_T_isHead, cc_lo hR hI hk, cc_bf hR hI hk, hd, isr]
  have h1 := (hI.loL hk)
  cases e : Nat.beq (Lo T k) 0 with
  | false => rw [if_neg (fun z => by rw [nI_z (by omega)] at z; rw [beq_iff.mpr z] at e; cases e)]; rfl
  | true =>
    rw [if_pos ((nI_z (by omega)).mpr (beq_iff.mp e))]
    exact if_b _ (by rw [eo_m1 hI.bflt]; cases bfo T k n <;> simp)
theorem cc_heads (hR : RT h.1 0 T n) (hI : Inv T n) {m : Nat} (hm : m ≤ n) : p_T_headsBelow h (nI m) ∧ v_T_headsBelow h (nI m) = nI (cn (hd T n) m) := by
  have := hI.n20
  obtain ⟨a, b⟩ := cnt_loop (step := s_T_headsBelow_4 h (nI m)) (pst := ps_T_headsBelow_4 h (nI m)) (n := m) (by omega) (hd T n)
    (fun j hj a => by
      show (if nI j < nI m then _ else _) = _
      rw [if_pos (nI_lt hj (by omega)), cc_isHead hR hI (by omega), b01_if, nI_1])
    (fun a => by
      show (if nI m < nI m then _ else _) = _
      rw [if_neg (nI_nlt (Nat.le_refl _) (by omega))]) (fun _ _ _ => trivial)
  exact ⟨a, by rw [v_T_headsBelow, b]⟩
theorem cc_blocks (hR : RT h.1 0 T n) (hI : Inv T n) : p_T_blocks h ∧ v_T_blocks h = nI (cn (hd T n) n) := by
  have h1 := cc_heads hR hI (Nat.le_refl n)
  rw [p_T_blocks, v_T_blocks, hR.nn]
  exact h1
theorem cc_rank (hR : RT h.1 0 T n) (hI : Inv T n) {k : Nat} (hk : k < n) : v_T_rankOf h (nI k) = nI (Dp T k * 20 + k) := by
  have := hI.lt hk
  rw [v_T_rankOf, if_neg (nI_m1 (by omega)), cc_dep hR hI hk, show (20 : Int32) = nI 20 from rfl, nI_mul, nI_add]
end CRD
