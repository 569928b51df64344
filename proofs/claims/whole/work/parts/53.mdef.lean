/-! PURE: the model's deficits, and that both tell the same. -/
def IB (T : Nat → Int32) (n : Nat) : Prop := n ≤ 21 ∧ (∀ k, k < n → InvK T k) ∧ (∀ i, i < 4 → bd T i 60) ∧ bd T 8 1
def ofB (T : Nat → Int32) (ro : Option Nat) (k : Nat) : Bool := isr T k && (match ro with | none => true | some r => Nat.beq (Rt T k) r)
def xL (T : Nat → Int32) (t : Nat) (ro : Option Nat) (u k : Nat) : Bool := ofB T ro k && (Nat.beq (Fr T k) t && Nat.ble (Dp T k) u)
def yL (T : Nat → Int32) (t : Nat) (ro : Option Nat) (u k : Nat) : Bool := ofB T ro k && (Nat.beq (Go T k) t && Nat.ble (Ar T k + nT T (Go T k)) u)
/-- what is lacking at a terminal, up to a time -/
def lkI (T : Nat → Int32) (t : Nat) (ro : Option Nat) (u n : Nat) : Int := (cn (xL T t ro u) n : Int) - (cn (yL T t ro u) n : Int)
def fD (T : Nat → Int32) (n t : Nat) (ro : Option Nat) (k : Nat) : Int := if isr T k = true then lkI T t ro (Dp T k) n else 0
def dfc (T : Nat → Int32) (n t : Nat) : Nat := if nT T 8 = 0 then sn (fun r => dmx (fD T n t (some r)) n) 4 else dmx (fD T n t none) n
theorem lkI_bd (T : Nat → Int32) (t : Nat) (ro : Option Nat) (u n : Nat) : -(n : Int) ≤ lkI T t ro u n ∧ lkI T t ro u n ≤ n := by
  have h1 := cn_le (xL T t ro u) n
  have h2 := cn_le (yL T t ro u) n
  unfold lkI; omega
theorem dmx_bd {f : Nat → Int} {b : Nat} (h : ∀ k, f k ≤ b) : ∀ n, dmx f n ≤ b
  | 0 => Nat.zero_le _
  | n + 1 => by
    have h1 := dmx_bd h n
    have h2 := h n
    rw [dmx]; split <;> omega
theorem fD_bd (T : Nat → Int32) (n t : Nat) (ro : Option Nat) (k : Nat) : -(n : Int) ≤ fD T n t ro k ∧ fD T n t ro k ≤ n := by
  unfold fD
  split
  · exact lkI_bd T t ro _ n
  · omega
theorem IB.bds {T : Nat → Int32} {n k : Nat} (hB : IB T n) (hk : k < n) : Rt T k ≤ 3 ∧ Fr T k ≤ 3 ∧ Go T k ≤ 3 ∧ Dp T k ≤ 1439 ∧ Ln T k ≤ 240 ∧ Lo T k ≤ 1 ∧ nT T (Go T k) ≤ 60 := by
  obtain ⟨a, b, c, d, ⟨e, -⟩, f⟩ := hB.2.1 k hk
  have c2 : Go T k ≤ 3 := c.2
  exact ⟨a.2, b.2, c2, d.2, e.2, f.2, (hB.2.2.1 _ (by omega)).2⟩
section MDE
variable {m : HP} {T : Nat → Int32} {n : Nat}
theorem mi_fld (hT : m.1 1 = T) (hB : IB T n) {k w : Nat} (hk : k < n) (hw : w < 7) : p_M_of m (nI k) (nI w) ∧ v_M_of m (nI k) (nI w) = T (16 + 7 * k + w) := by
  have := hB.1
  exact ⟨pm_of m (by omega) hw, by rw [vm_of m (by omega) hw, hT]⟩
theorem mi_rt (hT : m.1 1 = T) (hB : IB T n) {k : Nat} (hk : k < n) : p_M_of m (nI k) 0 ∧ v_M_of m (nI k) 0 = nI (Rt T k) := by
  have h := mi_fld hT hB hk (w := 0) (by omega)
  rw [(hB.2.1 k hk).1.1] at h
  exact h
theorem mi_fr (hT : m.1 1 = T) (hB : IB T n) {k : Nat} (hk : k < n) : p_M_of m (nI k) 1 ∧ v_M_of m (nI k) 1 = nI (Fr T k) := by
  have h := mi_fld hT hB hk (w := 1) (by omega)
  rw [(hB.2.1 k hk).2.1.1] at h
  exact h
theorem mi_go (hT : m.1 1 = T) (hB : IB T n) {k : Nat} (hk : k < n) : p_M_of m (nI k) 2 ∧ v_M_of m (nI k) 2 = nI (Go T k) := by
  have h := mi_fld hT hB hk (w := 2) (by omega)
  rw [(hB.2.1 k hk).2.2.1.1] at h
  exact h
theorem mi_dp (hT : m.1 1 = T) (hB : IB T n) {k : Nat} (hk : k < n) : p_M_of m (nI k) 3 ∧ v_M_of m (nI k) 3 = nI (Dp T k) := by
  have h := mi_fld hT hB hk (w := 3) (by omega)
  rw [(hB.2.1 k hk).2.2.2.1.1] at h
  exact h
theorem mi_ln (hT : m.1 1 = T) (hB : IB T n) {k : Nat} (hk : k < n) : p_M_of m (nI k) 4 ∧ v_M_of m (nI k) 4 = nI (Ln T k) := by
  have h := mi_fld hT hB hk (w := 4) (by omega)
  rw [(hB.2.1 k hk).2.2.2.2.1.1.1] at h
  exact h
theorem mi_isRun (hT : m.1 1 = T) (hB : IB T n) {k : Nat} (hk : k < n) : p_M_isRun m (nI k) ∧ v_M_isRun m (nI k) = b01 (isr T k) := by
  have h := mi_fld hT hB hk (w := 5) (by omega)
  have hl := (hB.2.1 k hk).2.2.2.2.2
  refine ⟨h.1, ?_⟩
  rw [v_M_isRun, show v_M_of m (nI k) 5 = _ from h.2, hl.1]
  exact if_b _ (by rw [nI_z (hl.lt (by omega))]; exact beq_iff.symm)
theorem mi_rdy (hT : m.1 1 = T) (hB : IB T n) {k : Nat} (hk : k < n) : p_M_ready m (nI k) ∧ v_M_ready m (nI k) = nI (Ar T k + nT T (Go T k)) := by
  obtain ⟨a, b⟩ := mi_dp hT hB hk
  obtain ⟨a2, b2⟩ := mi_ln hT hB hk
  obtain ⟨c, d⟩ := mi_go hT hB hk
  have hg := (IB.bds hB hk).2.2.1
  have e : (0 : Int32) + nI (Go T k) = nI (Go T k) := by rw [Int32.zero_add]
  refine ⟨⟨⟨a, a2⟩, c, ?_⟩, ?_⟩
  · rw [d, e]; exact nI_am (by omega) (by omega)
  · rw [v_M_ready, v_M_arrival, b, b2, d, e, nI_ix (by omega), hT, (hB.2.2.1 (Go T k) (by omega)).1, nI_add, nI_add]
theorem mi_isOf (hT : m.1 1 = T) (hB : IB T n) {k : Nat} (hk : k < n) (ro : Option Nat) (hr : ∀ r, ro = some r → r < 4) : p_M_isOf m (nI k) (eo ro) ∧ v_M_isOf m (nI k) (eo ro) = b01 (ofB T ro k) := by
  obtain ⟨a, b⟩ := mi_isRun hT hB hk
  obtain ⟨c, d⟩ := mi_rt hT hB hk
  refine ⟨⟨a, fun _ => trivial, fun _ => ⟨fun _ => trivial, fun _ => c⟩⟩, ?_⟩
  unfold ofB
  rw [v_M_isOf, b, d]
  cases isr T k with
  | false => rfl
  | true =>
    rw [if_neg b01_t]
    cases ro with
    | none => rw [if_pos (show eo none = -1 from rfl)]; rfl
    | some r =>
      have h1 := hr r rfl
      have h2 := (IB.bds hB hk).1
      rw [if_neg (show ¬ eo (some r) = -1 from nI_m1 (by omega))]
      exact if_b _ (by show nI (Rt T k) = nI r ↔ _; rw [nI_eq (by omega) (by omega)]; exact beq_iff.symm)
theorem mi_lacking (hT : m.1 1 = T) (hB : IB T n) {t u : Nat} (ht : t < 4) (hu : u < 10000) (ro : Option Nat) (hr : ∀ r, ro = some r → r < 4) : p_M_lacking m (nI t) (eo ro) (nI u) (nI n) ∧ v_M_lacking m (nI t) (eo ro) (nI u) (nI n) = oI (lkI T t ro u n) := by
  have h21 := hB.1
  obtain ⟨a, b⟩ := itr_for (step := s_M_lacking_6 m (nI t) (eo ro) (nI u) (nI n)) (pst := ps_M_lacking_6 m (nI t) (eo ro) (nI u) (nI n)) (fun j => (oI (lkI T t ro u j), nI j)) n (oI (lkI T t ro u n), nI n) (by omega)
    (fun j hj => by
      obtain ⟨g1, g2, g3, g4, g5, g6, g7⟩ := IB.bds hB hj
      have hA : Ar T j = Dp T j + Ln T j := rfl
      show (if nI j < nI n then Sum.inl ((oI (lkI T t ro u j) + (if v_M_isOf m (nI j) (eo ro) = 0 then (0 : Int32) else (if v_M_of m (nI j) 1 = nI t then (if v_M_of m (nI j) 3 ≤ nI u then (1 : Int32) else 0) else 0))) - (if v_M_isOf m (nI j) (eo ro) = 0 then (0 : Int32) else (if v_M_of m (nI j) 2 = nI t then (if v_M_ready m (nI j) ≤ nI u then (1 : Int32) else 0) else 0)), nI j + 1) else _) = _
      rw [if_pos (nI_lt hj (by omega)), (mi_isOf hT hB hj ro hr).2, (mi_fr hT hB hj).2, (mi_dp hT hB hj).2, (mi_go hT hB hj).2, (mi_rdy hT hB hj).2, nI_1]
      have e1 : (if b01 (ofB T ro j) = 0 then (0 : Int32) else (if nI (Fr T j) = nI t then (if nI (Dp T j) ≤ nI u then (1 : Int32) else 0) else 0)) = b01 (xL T t ro u j) := by
        unfold xL
        cases ofB T ro j with
        | false => rfl
        | true =>
          rw [if_neg b01_t]
          cases e : Nat.beq (Fr T j) t with
          | false => rw [if_neg (fun z => (beq_false.mp e) (nI_inj (by omega) (by omega) z))]; rfl
          | true => rw [if_pos (by rw [beq_iff.mp e])]; exact if_b _ (by rw [nI_leI (by omega) (by omega)]; exact ble_iff.symm)
      have e2 : (if b01 (ofB T ro j) = 0 then (0 : Int32) else (if nI (Go T j) = nI t then (if nI (Ar T j + nT T (Go T j)) ≤ nI u then (1 : Int32) else 0) else 0)) = b01 (yL T t ro u j) := by
        unfold yL
        cases ofB T ro j with
        | false => rfl
        | true =>
          rw [if_neg b01_t]
          cases e : Nat.beq (Go T j) t with
          | false => rw [if_neg (fun z => (beq_false.mp e) (nI_inj (by omega) (by omega) z))]; rfl
          | true => rw [if_pos (by rw [beq_iff.mp e])]; exact if_b _ (by rw [nI_leI (by omega) (by omega)]; exact ble_iff.symm)
      rw [e1, e2]
      have e3 : lkI T t ro u (j + 1) = lkI T t ro u j + (if xL T t ro u j = true then 1 else 0) - (if yL T t ro u j = true then 1 else 0) := by
        unfold lkI
        rw [cn, cn]
        split <;> split <;> simp <;> omega
      rw [e3]
      congr 2
      show _ = Int32.ofInt _
      rw [Int32.ofInt_sub, Int32.ofInt_add]
      cases xL T t ro u j <;> cases yL T t ro u j <;> rfl)
    (by
      show (if nI n < nI n then _ else _) = _
      rw [if_neg (nI_nlt (Nat.le_refl _) (by omega))])
    (fun j hj => ⟨fun z => by
      have z' : nI j < nI n := z
      rw [nI_ltI (by omega) (by omega)] at z'
      have i1 := (mi_isOf hT hB z' ro hr).1
      exact ⟨i1, ⟨fun _ => trivial, fun _ => ⟨(mi_fr hT hB z').1, fun _ => (mi_dp hT hB z').1, fun _ => trivial⟩⟩, i1, fun _ => trivial, fun _ => ⟨(mi_go hT hB z').1, fun _ => (mi_rdy hT hB z').1, fun _ => trivial⟩⟩, fun _ => trivial⟩)
  have e0 : (((0 : Int32), (0 : Int32)) : Int32 × Int32) = (oI (lkI T t ro u 0), nI 0) := rfl
  exact ⟨by rw [p_M_lacking, e0]; exact a, by rw [v_M_lacking, e0, b]⟩
theorem mi_deficitOf (hT : m.1 1 = T) (hB : IB T n) {t : Nat} (ht : t < 4) (ro : Option Nat) (hr : ∀ r, ro = some r → r < 4) : p_M_deficitOf m (nI t) (eo ro) (nI n) ∧ v_M_deficitOf m (nI t) (eo ro) (nI n) = nI (dmx (fD T n t ro) n) := by
  have h21 := hB.1
  have hb := fun j => dmx_bd (f := fD T n t ro) (b := n) (fun k => (fD_bd T n t ro k).2) j
  obtain ⟨a, b⟩ := itr_for (step := s_M_deficitOf_6 m (nI t) (eo ro) (nI n)) (pst := ps_M_deficitOf_6 m (nI t) (eo ro) (nI n)) (fun j => (nI (dmx (fD T n t ro) j), nI j)) n (nI (dmx (fD T n t ro) n), nI n) (by omega)
    (fun j hj => by
      have g4 := (IB.bds hB hj).2.2.2.1
      show (if nI j < nI n then Sum.inl ((if (if v_M_isRun m (nI j) = 0 then (0 : Int32) else v_M_lacking m (nI t) (eo ro) (v_M_of m (nI j) 3) (nI n)) ≤ nI (dmx (fD T n t ro) j) then nI (dmx (fD T n t ro) j) else (if v_M_isRun m (nI j) = 0 then (0 : Int32) else v_M_lacking m (nI t) (eo ro) (v_M_of m (nI j) 3) (nI n))), nI j + 1) else _) = _
      have e1 : (if v_M_isRun m (nI j) = 0 then (0 : Int32) else v_M_lacking m (nI t) (eo ro) (v_M_of m (nI j) 3) (nI n)) = oI (fD T n t ro j) := by
        rw [(mi_isRun hT hB hj).2, (mi_dp hT hB hj).2, (mi_lacking hT hB ht (by omega) ro hr).2, fD]
        cases isr T j with
        | false => rw [if_pos b01_f, if_neg ff]; rfl
        | true => rw [if_neg b01_t, if_pos tr]
      have hf := fD_bd T n t ro j
      have hd := hb j
      rw [if_pos (nI_lt hj (by omega)), e1, nI_1, dmx]
      congr 2
      by_cases e : fD T n t ro j ≤ dmx (fD T n t ro) j
      · rw [if_pos e, if_pos]
        rw [← oI_nat, oI_le (by omega) (by omega) (by omega) (by omega)]; exact e
      · rw [if_neg e, if_neg]
        · rw [← oI_nat]; congr 1; omega
        · rw [← oI_nat, oI_le (by omega) (by omega) (by omega) (by omega)]; exact e)
    (by
      show (if nI n < nI n then _ else _) = _
      rw [if_neg (nI_nlt (Nat.le_refl _) (by omega))])
    (fun j hj => ⟨fun z => by
      have z' : nI j < nI n := z
      rw [nI_ltI (by omega) (by omega)] at z'
      have g4 := (IB.bds hB z').2.2.2.1
      refine ⟨(mi_isRun hT hB z').1, fun _ => trivial, fun _ => ⟨(mi_dp hT hB z').1, ?_⟩⟩
      show p_M_lacking m (nI t) (eo ro) (v_M_of m (nI j) 3) (nI n)
      rw [(mi_dp hT hB z').2]
      exact (mi_lacking hT hB ht (by omega) ro hr).1, fun _ => trivial⟩)
  have e0 : (((0 : Int32), (0 : Int32)) : Int32 × Int32) = (nI (dmx (fD T n t ro) 0), nI 0) := rfl
  exact ⟨by rw [p_M_deficitOf, e0]; exact a, by rw [v_M_deficitOf, e0, b]⟩
theorem mi_deficit (hT : m.1 1 = T) (hB : IB T n) {t : Nat} (ht : t < 4) : p_M_deficit m (nI t) (nI n) ∧ v_M_deficit m (nI t) (nI n) = nI (dfc T n t) := by
  have hn := mi_deficitOf hT hB ht none (fun r e => nomatch e)
  have h0 := mi_deficitOf hT hB ht (some 0) (fun r e => by cases e; omega)
  have h1 := mi_deficitOf hT hB ht (some 1) (fun r e => by cases e; omega)
  have h2 := mi_deficitOf hT hB ht (some 2) (fun r e => by cases e; omega)
  have h3 := mi_deficitOf hT hB ht (some 3) (fun r e => by cases e; omega)
  refine ⟨⟨fun _ => hn.1, fun _ => ⟨h0.1, h1.1, h2.1, h3.1⟩⟩, ?_⟩
  have h8 := hB.2.2.2
  have h8b := h8.2
  have hv : v_M_deficit m (nI t) (nI n) = (if m.1 1 (am_ix 8) = 1 then v_M_deficitOf m (nI t) (eo none) (nI n) else v_M_deficitOf m (nI t) (eo (some 0)) (nI n) + v_M_deficitOf m (nI t) (eo (some 1)) (nI n) + v_M_deficitOf m (nI t) (eo (some 2)) (nI n) + v_M_deficitOf m (nI t) (eo (some 3)) (nI n)) := rfl
  rw [hv, ix8, hT, h8.1, hn.2, h0.2, h1.2, h2.2, h3.2, dfc]
  by_cases e : nT T 8 = 0
  · rw [if_neg (by rw [nI_one (by omega)]; omega), if_pos e, nI_add, nI_add, nI_add]
    congr 1
    simp only [sn]
    omega
  · rw [if_pos (by rw [nI_one (by omega)]; omega), if_neg e]
theorem mi_by (hT : m.1 1 = T) (hB : IB T n) : p_M_byDeficits m (nI n) ∧ v_M_byDeficits m (nI n) = nI (sn (dfc T n) 4) := by
  have h0 := mi_deficit hT hB (t := 0) (by omega)
  have h1 := mi_deficit hT hB (t := 1) (by omega)
  have h2 := mi_deficit hT hB (t := 2) (by omega)
  have h3 := mi_deficit hT hB (t := 3) (by omega)
  refine ⟨⟨h0.1, h1.1, h2.1, h3.1⟩, ?_⟩
  have hv : v_M_byDeficits m (nI n) = v_M_deficit m (nI 0) (nI n) + v_M_deficit m (nI 1) (nI n) + v_M_deficit m (nI 2) (nI n) + v_M_deficit m (nI 3) (nI n) := rfl
  rw [hv, h0.2, h1.2, h2.2, h3.2, nI_add, nI_add, nI_add]
  congr 1
  simp only [sn]
  omega
end MDE
/-- the events of the first n trips of a row -/
def evM (T : Nat → Int32) (n : Nat) (q : Nat → Bool) : Nat :=
  sn (fun k => if isr T k = true then (if q (lvN T (Rt T k) (Fr T k) (Dp T k)) = true then 1 else 0) + (if q (rdN T (Rt T k) (Go T k) (Ar T k)) = true then 1 else 0) else 0) n
theorem cn_pos {p : Nat → Bool} : ∀ {s i : Nat}, i < s → p i = true → 0 < cn p s
  | 0, _, h, _ => absurd h (Nat.not_lt_zero _)
  | s + 1, i, h, hp => by
    rw [cn]
    by_cases e : i = s
    · subst e; rw [if_pos hp]; omega
    · have := cn_pos (p := p) (s := s) (i := i) (by omega) hp; omega
theorem sn_pos {f : Nat → Nat} : ∀ {s : Nat}, 0 < sn f s → ∃ k, k < s ∧ 0 < f k
  | 0, h => absurd h (Nat.lt_irrefl _)
  | s + 1, h => by
    rw [sn] at h
    by_cases e : 0 < f s
    · exact ⟨s, by omega, e⟩
    · obtain ⟨k, a, b⟩ := sn_pos (f := f) (s := s) (by omega)
      exact ⟨k, by omega, b⟩
theorem sn_cn {p : Nat → Bool} {f : Nat → Nat} : ∀ {n : Nat}, (∀ k, k < n → f k = if p k = true then 1 else 0) → sn f n = cn p n
  | 0, _ => rfl
  | n + 1, h => by rw [sn, cn, sn_cn (fun k hk => h k (by omega)), h n (by omega)]
section SWE
variable {T : Nat → Int32} {n : Nat} {C : Nat → Nat} {s : Nat}
theorem sw_Lk (hB : IB T n) (hs : srt C s) (hq : ∀ q : Nat → Bool, cn (fun i => q (C i)) s = evM T n q) {t r c : Nat} {ro : Option Nat} (ht : t < 4) (hr : r < 4) (hc : c = t * 4 + r) (hro : ∀ k, k < n → (ofB T ro k && Nat.beq (Fr T k) t) = (isr T k && Nat.beq (keyN T (Rt T k) (Fr T k)) c) ∧ (ofB T ro k && Nat.beq (Go T k) t) = (isr T k && Nat.beq (keyN T (Rt T k) (Go T k)) c)) (u : Nat) : Lk C s c u = lkI T t ro u n := by
  unfold Lk lkI
  have e1 : cn (fun j => isL c (C j) && Nat.blt (C j) (32 * (u + 1))) s = cn (xL T t ro u) n := by
    rw [hq (fun e => isL c e && Nat.blt e (32 * (u + 1)))]
    refine sn_cn (fun k hk => ?_)
    obtain ⟨b1, b2, b3, b4, b5, b6, b7⟩ := IB.bds hB hk
    have k1 := keyN_lt (T := T) (r := Rt T k) (t := Fr T k) (by omega) (by omega)
    have k2 := keyN_lt (T := T) (r := Rt T k) (t := Go T k) (by omega) (by omega)
    have hx := (hro k hk).1
    unfold xL
    rw [← Bool.and_assoc, hx]
    have i2 : isL c (rdN T (Rt T k) (Go T k) (Ar T k)) = false := by
      unfold isL rdN
      rw [Bool.and_eq_false_iff]; right
      rw [ble_false]; omega
    have i1 : (isL c (lvN T (Rt T k) (Fr T k) (Dp T k)) && Nat.blt (lvN T (Rt T k) (Fr T k) (Dp T k)) (32 * (u + 1))) = (Nat.beq (keyN T (Rt T k) (Fr T k)) c && Nat.ble (Dp T k) u) := by
      unfold isL lvN
      rw [show (Dp T k * 32 + 16 + keyN T (Rt T k) (Fr T k)) % 16 = keyN T (Rt T k) (Fr T k) by omega, ble_iff.mpr (show 16 ≤ (Dp T k * 32 + 16 + keyN T (Rt T k) (Fr T k)) % 32 by omega), Bool.and_true]
      congr 1
      cases e : Nat.ble (Dp T k) u with
      | true => rw [blt_iff]; have := ble_iff.mp e; omega
      | false => rw [blt_false]; have := ble_false.mp e; omega
    simp only [i1, i2]
    cases isr T k <;> simp
  have e2 : cn (fun j => isY c (C j) && Nat.blt (C j) (32 * (u + 1))) s = cn (yL T t ro u) n := by
    rw [hq (fun e => isY c e && Nat.blt e (32 * (u + 1)))]
    refine sn_cn (fun k hk => ?_)
    obtain ⟨b1, b2, b3, b4, b5, b6, b7⟩ := IB.bds hB hk
    have k1 := keyN_lt (T := T) (r := Rt T k) (t := Fr T k) (by omega) (by omega)
    have k2 := keyN_lt (T := T) (r := Rt T k) (t := Go T k) (by omega) (by omega)
    have hx := (hro k hk).2
    unfold yL
    rw [← Bool.and_assoc, hx]
    have i2 : isY c (lvN T (Rt T k) (Fr T k) (Dp T k)) = false := by
      unfold isY lvN
      rw [Bool.and_eq_false_iff]; right
      rw [blt_false]; omega
    have i1 : (isY c (rdN T (Rt T k) (Go T k) (Ar T k)) && Nat.blt (rdN T (Rt T k) (Go T k) (Ar T k)) (32 * (u + 1))) = (Nat.beq (keyN T (Rt T k) (Go T k)) c && Nat.ble (Ar T k + nT T (Go T k)) u) := by
      unfold isY rdN
      rw [show ((Ar T k + nT T (Go T k)) * 32 + keyN T (Rt T k) (Go T k)) % 16 = keyN T (Rt T k) (Go T k) by omega, blt_iff.mpr (show ((Ar T k + nT T (Go T k)) * 32 + keyN T (Rt T k) (Go T k)) % 32 < 16 by omega), Bool.and_true]
      congr 1
      cases e : Nat.ble (Ar T k + nT T (Go T k)) u with
      | true => rw [blt_iff]; have := ble_iff.mp e; omega
      | false => rw [blt_false]; have := ble_false.mp e; omega
    simp only [i1, i2]
    cases isr T k <;> simp
  rw [e1, e2]
theorem sw_Mc (hB : IB T n) (hs : srt C s) (hq : ∀ q : Nat → Bool, cn (fun i => q (C i)) s = evM T n q) {t r c : Nat} {ro : Option Nat} (ht : t < 4) (hr : r < 4) (hc : c = t * 4 + r) (hro : ∀ k, k < n → (ofB T ro k && Nat.beq (Fr T k) t) = (isr T k && Nat.beq (keyN T (Rt T k) (Fr T k)) c) ∧ (ofB T ro k && Nat.beq (Go T k) t) = (isr T k && Nat.beq (keyN T (Rt T k) (Go T k)) c)) : Mc C c s = dmx (fD T n t ro) n := by
  refine Mc_dmx hs _ (fun k hk => ?_) (fun i hi hl => ?_)
  · unfold fD
    cases e : isr T k with
    | false => exact Or.inl (if_neg ff)
    | true => exact Or.inr ⟨Dp T k, by rw [if_pos tr, sw_Lk hB hs hq ht hr hc hro]⟩
  · have h1 := cn_pos (p := fun j => Nat.beq (C j) (C i)) hi (Nat.beq_refl _)
    rw [hq (fun e => Nat.beq e (C i))] at h1
    obtain ⟨k, hk, h2⟩ := sn_pos h1
    obtain ⟨b1, b2, b3, b4, b5, b6, b7⟩ := IB.bds hB hk
    have k1 := keyN_lt (T := T) (r := Rt T k) (t := Fr T k) (by omega) (by omega)
    have k2 := keyN_lt (T := T) (r := Rt T k) (t := Go T k) (by omega) (by omega)
    have h16 : 16 ≤ C i % 32 := by
      unfold isL at hl
      rw [Bool.and_eq_true] at hl
      exact ble_iff.mp hl.2
    cases e : isr T k with
    | false => rw [e, if_neg ff] at h2; exact absurd h2 (Nat.lt_irrefl _)
    | true =>
      rw [e, if_pos tr] at h2
      have e2 : Nat.beq (rdN T (Rt T k) (Go T k) (Ar T k)) (C i) = false := by
        rw [beq_false]
        intro z
        rw [← z] at h16
        unfold rdN at h16
        omega
      simp only [e2] at h2
      cases e3 : Nat.beq (lvN T (Rt T k) (Fr T k) (Dp T k)) (C i) with
      | false => simp [e3] at h2
      | true =>
        refine ⟨k, hk, ?_⟩
        rw [fD, e, if_pos tr, sw_Lk hB hs hq ht hr hc hro]
        congr 1
        rw [← beq_iff.mp e3]
        unfold lvN
        omega
/-- the walk tells the model's deficits -/
theorem sw_all (hB : IB T n) (hs : srt C s) (hq : ∀ q : Nat → Bool, cn (fun i => q (C i)) s = evM T n q) {t : Nat} (ht : t < 4) : sn (fun r => Mc C (t * 4 + r) s) 4 = dfc T n t := by
  unfold dfc
  have h8 := hB.2.2.2.2
  by_cases e : nT T 8 = 0
  · rw [if_pos e]
    refine sn_congr (fun r hr => sw_Mc hB hs hq ht hr rfl (fun k hk => ?_))
    obtain ⟨b1, b2, b3, -⟩ := IB.bds hB hk
    have key : ∀ f, f ≤ 3 → (Nat.beq (Rt T k) r && Nat.beq f t) = Nat.beq (keyN T (Rt T k) f) (t * 4 + r) := by
      intro f hf
      unfold keyN
      rw [if_pos e]
      cases e1 : Nat.beq (Rt T k) r with
      | false =>
        symm
        rw [Bool.false_and, beq_false]
        have := beq_false.mp e1
        omega
      | true =>
        have := beq_iff.mp e1
        cases e2 : Nat.beq f t with
        | false => symm; rw [Bool.and_false, beq_false]; have := beq_false.mp e2; omega
        | true => symm; rw [Bool.and_true, beq_iff]; have := beq_iff.mp e2; omega
    unfold ofB
    refine ⟨?_, ?_⟩
    · rw [Bool.and_assoc]; exact congrArg _ (key _ b2)
    · rw [Bool.and_assoc]; exact congrArg _ (key _ b3)
  · rw [if_neg e]
    have h0 : Mc C (t * 4 + 0) s = dmx (fD T n t none) n := sw_Mc hB hs hq (r := 0) ht (by omega) rfl (fun k hk => by
      obtain ⟨b1, b2, b3, -⟩ := IB.bds hB hk
      have key : ∀ f, f ≤ 3 → Nat.beq f t = Nat.beq (keyN T (Rt T k) f) (t * 4 + 0) := by
        intro f hf
        unfold keyN
        rw [if_neg e]
        cases e2 : Nat.beq f t with
        | false => symm; rw [beq_false]; have := beq_false.mp e2; omega
        | true => symm; rw [beq_iff]; have := beq_iff.mp e2; omega
      unfold ofB
      refine ⟨?_, ?_⟩
      · rw [Bool.and_true, key _ b2]
      · rw [Bool.and_true, key _ b3])
    have hz : ∀ r, r < 4 → 0 < r → Mc C (t * 4 + r) s = 0 := by
      intro r hr hr0
      have hx : Mc C (t * 4 + r) s = dmx (fun _ => 0) 0 := Mc_dmx hs (fun _ => 0) (n := 0) (fun k hk => absurd hk (Nat.not_lt_zero _)) (fun i hi hl => by
        exfalso
        have h1 := cn_pos (p := fun j => isL (t * 4 + r) (C j)) hi hl
        rw [hq (fun e => isL (t * 4 + r) e)] at h1
        obtain ⟨k, hk, h2⟩ := sn_pos h1
        obtain ⟨b1, b2, b3, b4, b5, b6, b7⟩ := IB.bds hB hk
        have k1 : keyN T (Rt T k) (Fr T k) = Fr T k * 4 := by unfold keyN; rw [if_neg e, Nat.add_zero]
        have k2 : keyN T (Rt T k) (Go T k) = Go T k * 4 := by unfold keyN; rw [if_neg e, Nat.add_zero]
        have i1 : isL (t * 4 + r) (lvN T (Rt T k) (Fr T k) (Dp T k)) = false := by
          unfold isL lvN
          rw [Bool.and_eq_false_iff]; left
          rw [beq_false, k1]; omega
        have i2 : isL (t * 4 + r) (rdN T (Rt T k) (Go T k) (Ar T k)) = false := by
          unfold isL rdN
          rw [Bool.and_eq_false_iff]; left
          rw [beq_false, k2]; omega
        simp [i1, i2] at h2)
      exact hx
    have z1 := hz 1 (by omega) (by omega)
    have z2 := hz 2 (by omega) (by omega)
    have z3 := hz 3 (by omega) (by omega)
    simp only [sn]
    omega
theorem sw_sum (hB : IB T n) (hs : srt C s) (hq : ∀ q : Nat → Bool, cn (fun i => q (C i)) s = evM T n q) : sn (fun c => Mc C c s) 16 = sn (dfc T n) 4 := by
  have h0 := sw_all hB hs hq (t := 0) (by omega)
  have h1 := sw_all hB hs hq (t := 1) (by omega)
  have h2 := sw_all hB hs hq (t := 2) (by omega)
  have h3 := sw_all hB hs hq (t := 3) (by omega)
  simp [sn] at h0 h1 h2 h3 ⊢
  omega
end SWE
