/-! PURE: the model's deficits, and that both tell the same. -/
def IB (T : Nat → Int32) (n : Nat) : Prop := n ≤ 21 ∧ (∀ k, k < n → InvK T k) ∧ (∀ i, i < 4 → bd T i 60) ∧ bd T 8 1
def ofB (T : Nat → Int32) (ro : Option Nat) (k : Nat) : Bool := isr T k && (match ro with | none => true | some r => Nat.beq (Rt T k) r)
def xL (T : Nat → Int32) (t : Nat) (ro : Option Nat) (u k : Nat) : Bool := ofB T ro k && (Nat.beq (Fr T k) t && Nat.ble (Dp T k) u)
def yL (T : Nat → Int32) (t : Nat) (ro : Option Nat) (u k : Nat) : Bool := ofB T ro k && (Nat.beq (Go T k) t && Nat.ble (Ar T k + nT T (Go T k)) u)
/-- what is lacking at a terminal, up to a time -/
def lkI (T : Nat → Int32) (t : Nat) (ro : Option Nat) (u n : Nat) : Int := (cn (xL T t ro u) n : Int) - (cn (yL T t ro u) n : Int)
def fD (T : Nat → Int32) (n t : Nat) (ro : Option Nat) (k : Nat) : Int := if isr T k = true then lkI T t ro (Dp T k) n else 0
def dfc (T : Nat → Int32) (n t : Nat) : Nat := if nT T 8 = 0 then sn (fun r => dmx (fD T n t (some r)) n) 4 else dmx (fD T n t none) n
theorem lkI_bd (T : Nat → Int32) (t : Nat) (ro : Option Nat) (u n : Nat) : -(n : Int) ≤ lkI T t ro u n ∧ lkI T t ro u n ≤ n := by
  have h1 := cn_le (xL T t ro u) n
  have h2 := cn_le (yL T t ro u) n
  unfold lkI; omega
theorem dmx_bd {f : Nat → Int} {b : Nat} (h : ∀ k, f k ≤ b) : ∀ n, dmx f n ≤ b
  | 0 => Nat.zero_le _
  | n + 1 => by
    have h1 := dmx_bd h n
    have h2 := h n
    rw [dmx]; split <;> omega
theorem fD_bd (T : Nat → Int32) (n t : Nat) (ro : Option Nat) (k : Nat) : -(n : Int) ≤ fD T n t ro k ∧ fD T n t ro k ≤ n := by
  unfold fD
  split
  · exact lkI_bd T t ro _ n
  · omega
theorem IB.bds {T : Nat → Int32} {n k : Nat} (hB : IB T n) (hk : k < n) : Rt T k ≤ 3 ∧ Fr T k ≤ 3 ∧ Go T k ≤ 3 ∧ Dp T k ≤ 1439 ∧ Ln T k ≤ 240 ∧ Lo T k ≤ 1 ∧ nT T (Go T k) ≤ 60 := by
  obtain ⟨a, b, c, d, ⟨e, -⟩, f⟩ := hB.2.1 k hk
  have c2 : Go T k ≤ 3 := c.2
  exact ⟨a.2, b.2, c2, d.2, e.2, f.2, (hB.2.2.1 _ (by omega)).2⟩
section MDE
variable {m : HP} {T : Nat → Int32} {n : Nat}
end MDE
/-- the events of the first n trips of a row -/
def evM (T : Nat → Int32) (n : Nat) (q : Nat → Bool) : Nat :=
  sn (fun k => if isr T k = true then (if q (lvN T (Rt T k) (Fr T k) (Dp T k)) = true then 1 else 0) + (if q (rdN T (Rt T k) (Go T k) (Ar T k)) = true then 1 else 0) else 0) n
theorem cn_pos {p : Nat → Bool} : ∀ {s i : Nat}, i < s → p i = true → 0 < cn p s
  | 0, _, h, _ => absurd h (Nat.not_lt_zero _)
  | s + 1, i, h, hp => by
    rw [cn]
    by_cases e : i = s
    · subst e; rw [if_pos hp]; omega
    · have := cn_pos (p := p) (s := s) (i := i) (by omega) hp; omega
theorem sn_pos {f : Nat → Nat} : ∀ {s : Nat}, 0 < sn f s → ∃ k, k < s ∧ 0 < f k
  | 0, h => absurd h (Nat.lt_irrefl _)
  | s + 1, h => by
    rw [sn] at h
    by_cases e : 0 < f s
    · exact ⟨s, by omega, e⟩
    · obtain ⟨k, a, b⟩ := sn_pos (f := f) (s := s) (by omega)
      exact ⟨k, by omega, b⟩
theorem sn_cn {p : Nat → Bool} {f : Nat → Nat} : ∀ {n : Nat}, (∀ k, k < n → f k = if p k = true then 1 else 0) → sn f n = cn p n
  | 0, _ => rfl
  | n + 1, h => by rw [sn, cn, sn_cn (fun k hk => h k (by omega)), h n (by omega)]
section SWE
variable {T : Nat → Int32} {n : Nat} {C : Nat → Nat} {s : Nat}
theorem sw_Lk (hB : IB T n) (hs : srt C s) (hq : ∀ q : Nat → Bool, cn (fun i => q (C i)) s = evM T n q) {t r c : Nat} {ro : Option Nat} (ht : t < 4) (hr : r < 4) (hc : c = t * 4 + r) (hro : ∀ k, k < n → (ofB T ro k && Nat.beq (Fr T k) t) = (isr T k && Nat.beq (keyN T (Rt T k) (Fr T k)) c) ∧ (ofB T ro k && Nat.beq (Go T k) t) = (isr T k && Nat.beq (keyN T (Rt T k) (Go T k)) c)) (u : Nat) : Lk C s c u = lkI T t ro u n := by
  unfold Lk lkI
  have e1 : cn (fun j => isL c (C j) && Nat.blt (C j) (32 * (u + 1))) s = cn (xL T t ro u) n := by
    rw [hq (fun e => isL c e && Nat.blt e (32 * (u + 1)))]
    refine sn_cn (fun k hk => ?_)
    obtain ⟨b1, b2, b3, b4, b5, b6, b7⟩ := IB.bds hB hk
    have k1 := keyN_lt (T := T) (r := Rt T k) (t := Fr T k) (by omega) (by omega)
    have k2 := keyN_lt (T := T) (r := Rt T k) (t := Go T k) (by omega) (by omega)
    have hx := (hro k hk).1
    unfold xL
    rw [← Bool.and_assoc, hx]
    have i2 : isL c (rdN T (Rt T k) (Go T k) (Ar T k)) = false := by
      unfold isL rdN
      rw [Bool.and_eq_false_iff]; right
      rw [ble_false]; omega
    have i1 : (isL c (lvN T (Rt T k) (Fr T k) (Dp T k)) && Nat.blt (lvN T (Rt T k) (Fr T k) (Dp T k)) (32 * (u + 1))) = (Nat.beq (keyN T (Rt T k) (Fr T k)) c && Nat.ble (Dp T k) u) := by
      unfold isL lvN
      rw [show (Dp T k * 32 + 16 + keyN T (Rt T k) (Fr T k)) % 16 = keyN T (Rt T k) (Fr T k) by omega, ble_iff.mpr (show 16 ≤ (Dp T k * 32 + 16 + keyN T (Rt T k) (Fr T k)) % 32 by omega), Bool.and_true]
      congr 1
      cases e : Nat.ble (Dp T k) u with
      | true => rw [blt_iff]; have := ble_iff.mp e; omega
      | false => rw [blt_false]; have := ble_false.mp e; omega
    simp only [i1, i2]
    cases isr T k <;> simp
  have e2 : cn (fun j => isY c (C j) && Nat.blt (C j) (32 * (u + 1))) s = cn (yL T t ro u) n := by
    rw [hq (fun e => isY c e && Nat.blt e (32 * (u + 1)))]
    refine sn_cn (fun k hk => ?_)
    obtain ⟨b1, b2, b3, b4, b5, b6, b7⟩ := IB.bds hB hk
    have k1 := keyN_lt (T := T) (r := Rt T k) (t := Fr T k) (by omega) (by omega)
    have k2 := keyN_lt (T := T) (r := Rt T k) (t := Go T k) (by omega) (by omega)
    have hx := (hro k hk).2
    unfold yL
    rw [← Bool.and_assoc, hx]
    have i2 : isY c (lvN T (Rt T k) (Fr T k) (Dp T k)) = false := by
      unfold isY lvN
      rw [Bool.and_eq_false_iff]; right
      rw [blt_false]; omega
    have i1 : (isY c (rdN T (Rt T k) (Go T k) (Ar T k)) && Nat.blt (rdN T (Rt T k) (Go T k) (Ar T k)) (32 * (u + 1))) = (Nat.beq (keyN T (Rt T k) (Go T k)) c && Nat.ble (Ar T k + nT T (Go T k)) u) := by
      unfold isY rdN
      rw [show ((Ar T k + nT T (Go T k)) * 32 + keyN T (Rt T k) (Go T k)) % 16 = keyN T (Rt T k) (Go T k) by omega, blt_iff.mpr (show ((Ar T k + nT T (Go T k)) * 32 + keyN T (Rt T k) (Go T k)) % 32 < 16 by omega), Bool.and_true]
      congr 1
      cases e : Nat.ble (Ar T k + nT T (Go T k)) u with
      | true => rw [blt_iff]; have := ble_iff.mp e; omega
      | false => rw [blt_false]; have := ble_false.mp e; omega
    simp only [i1, i2]
    cases isr T k <;> simp
  rw [e1, e2]
theorem sw_Mc (hB : IB T n) (hs : srt C s) (hq : ∀ q : Nat → Bool, cn (fun i => q (C i)) s = evM T n q) {t r c : Nat} {ro : Option Nat} (ht : t < 4) (hr : r < 4) (hc : c = t * 4 + r) (hro : ∀ k, k < n → (ofB T ro k && Nat.beq (Fr T k) t) = (isr T k && Nat.beq (keyN T (Rt T k) (Fr T k)) c) ∧ (ofB T ro k && Nat.beq (Go T k) t) = (isr T k && Nat.beq (keyN T (Rt T k) (Go T k)) c)) : Mc C c s = dmx (fD T n t ro) n := by
  refine Mc_dmx hs _ (fun k hk => ?_) (fun i hi hl => ?_)
  · unfold fD
    cases e : isr T k with
    | false => exact Or.inl (if_neg ff)
    | true => exact Or.inr ⟨Dp T k, by rw [if_pos tr, sw_Lk hB hs hq ht hr hc hro]⟩
  · have h1 := cn_pos (p := fun j => Nat.beq (C j) (C i)) hi (Nat.beq_refl _)
    rw [hq (fun e => Nat.beq e (C i))] at h1
    obtain ⟨k, hk, h2⟩ := sn_pos h1
    obtain ⟨b1, b2, b3, b4, b5, b6, b7⟩ := IB.bds hB hk
    have k1 := keyN_lt (T := T) (r := Rt T k) (t := Fr T k) (by omega) (by omega)
    have k2 := keyN_lt (T := T) (r := Rt T k) (t := Go T k) (by omega) (by omega)
    have h16 : 16 ≤ C i % 32 := by
      unfold isL at hl
      rw [Bool.and_eq_true] at hl
      exact ble_iff.mp hl.2
    cases e : isr T k with
    | false => rw [e, if_neg ff] at h2; exact absurd h2 (Nat.lt_irrefl _)
    | true =>
      rw [e, if_pos tr] at h2
      have e2 : Nat.beq (rdN T (Rt T k) (Go T k) (Ar T k)) (C i) = false := by
        rw [beq_false]
        intro z
        rw [← z] at h16
        unfold rdN at h16
        omega
      simp only [e2] at h2
      cases e3 : Nat.beq (lvN T (Rt T k) (Fr T k) (Dp T k)) (C i) with
      | false => simp [e3] at h2
      | true =>
        refine ⟨k, hk, ?_⟩
        rw [fD, e, if_pos tr, sw_Lk hB hs hq ht hr hc hro]
        congr 1
        rw [← beq_iff.mp e3]
        unfold lvN
        omega
/-- the walk tells the model's deficits -/
theorem sw_all (hB : IB T n) (hs : srt C s) (hq : ∀ q : Nat → Bool, cn (fun i => q (C i)) s = evM T n q) {t : Nat} (ht : t < 4) : sn (fun r => Mc C (t * 4 + r) s) 4 = dfc T n t := by
  unfold dfc
  have h8 := hB.2.2.2.2
  by_cases e : nT T 8 = 0
  · rw [if_pos e]
    refine sn_congr (fun r hr => sw_Mc hB hs hq ht hr rfl (fun k hk => ?_))
    obtain ⟨b1, b2, b3, -⟩ := IB.bds hB hk
    have key : ∀ f, f ≤ 3 → (Nat.beq (Rt T k) r && Nat.beq f t) = Nat.beq (keyN T (Rt T k) f) (t * 4 + r) := by
      intro f hf
      unfold keyN
      rw [if_pos e]
      cases e1 : Nat.beq (Rt T k) r with
      | false =>
        symm
        rw [Bool.false_and, beq_false]
        have := beq_false.mp e1
        omega
      | true =>
        have := beq_iff.mp e1
        cases e2 : Nat.beq f t with
        | false => symm; rw [Bool.and_false, beq_false]; have := beq_false.mp e2; omega
        | true => symm; rw [Bool.and_true, beq_iff]; have := beq_iff.mp e2; omega
    unfold ofB
    refine ⟨?_, ?_⟩
    · rw [Bool.and_assoc]; exact congrArg _ (key _ b2)
    · rw [Bool.and_assoc]; exact congrArg _ (key _ b3)
  · rw [if_neg e]
    have h0 : Mc C (t * 4 + 0) s = dmx (fD T n t none) n := sw_Mc hB hs hq (r := 0) ht (by omega) rfl (fun k hk => by
      obtain ⟨b1, b2, b3, -⟩ := IB.bds hB hk
      have key : ∀ f, f ≤ 3 → Nat.beq f t = Nat.beq (keyN T (Rt T k) f) (t * 4 + 0) := by
        intro f hf
        unfold keyN
        rw [if_neg e]
        cases e2 : Nat.beq f t with
        | false => symm; rw [beq_false]; have := beq_false.mp e2; omega
        | true => symm; rw [beq_iff]; have := beq_iff.mp e2; omega
      unfold ofB
      refine ⟨?_, ?_⟩
      · rw [Bool.and_true, key _ b2]
      · rw [Bool.and_true, key _ b3])
    have hz : ∀ r, r < 4 → 0 < r → Mc C (t * 4 + r) s = 0 := by
      intro r hr hr0
      have hx : Mc C (t * 4 + r) s = dmx (fun _ => 0) 0 := Mc_dmx hs (fun _ => 0) (n := 0) (fun k hk => absurd hk (Nat.not_lt_zero _)) (fun i hi hl => by
        exfalso
        have h1 := cn_pos (p := fun j => isL (t * 4 + r) (C j)) hi hl
        rw [hq (fun e => isL (t * 4 + r) e)] at h1
        obtain ⟨k, hk, h2⟩ := sn_pos h1
        obtain ⟨b1, b2, b3, b4, b5, b6, b7⟩ := IB.bds hB hk
        have k1 : keyN T (Rt T k) (Fr T k) = Fr T k * 4 := by unfold keyN; rw [if_neg e, Nat.add_zero]
        have k2 : keyN T (Rt T k) (Go T k) = Go T k * 4 := by unfold keyN; rw [if_neg e, Nat.add_zero]
        have i1 : isL (t * 4 + r) (lvN T (Rt T k) (Fr T k) (Dp T k)) = false := by
          unfold isL lvN
          rw [Bool.and_eq_false_iff]; left
          rw [beq_false, k1]; omega
        have i2 : isL (t * 4 + r) (rdN T (Rt T k) (Go T k) (Ar T k)) = false := by
          unfold isL rdN
          rw [Bool.and_eq_false_iff]; left
          rw [beq_false, k2]; omega
        simp [i1, i2] at h2)
      exact hx
    have z1 := hz 1 (by omega) (by omega)
    have z2 := hz 2 (by omega) (by omega)
    have z3 := hz 3 (by omega) (by omega)
    simp only [sn]
    omega
theorem sw_sum (hB : IB T n) (hs : srt C s) (hq : ∀ q : Nat → Bool, cn (fun i => q (C i)) s = evM T n q) : sn (fun c => Mc C c s) 16 = sn (dfc T n) 4 := by
  have h0 := sw_all hB hs hq (t := 0) (by omega)
  have h1 := sw_all hB hs hq (t := 1) (by omega)
  have h2 := sw_all hB hs hq (t := 2) (by omega)
  have h3 := sw_all hB hs hq (t := 3) (by omega)
  simp [sn] at h0 h1 h2 h3 ⊢
  omega
end SWE
