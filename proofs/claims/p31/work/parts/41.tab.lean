/-! PURE: a timetable is the model's row of numbers; what the class holds of it. -/
def nT (T : Nat → Int32) (i : Nat) : Nat := (T i).toNatClampNeg
/-- a number in its range -/
def bd (T : Nat → Int32) (i b : Nat) : Prop := T i = nI (nT T i) ∧ nT T i ≤ b
/-- the trip that follows -/
def nx (T : Nat → Int32) (k : Nat) : Option Nat := if T (16 + 7 * k + 6) = -1 then none else some (nT T (16 + 7 * k + 6))
/-- the last of the first m trips that k follows -/
def bfo (T : Nat → Int32) (k : Nat) : Nat → Option Nat
  | 0 => none
  | m + 1 => if nx T m = some k then some m else bfo T k m
abbrev Rt (T : Nat → Int32) (k : Nat) : Nat := nT T (16 + 7 * k + 0)
abbrev Fr (T : Nat → Int32) (k : Nat) : Nat := nT T (16 + 7 * k + 1)
abbrev Go (T : Nat → Int32) (k : Nat) : Nat := nT T (16 + 7 * k + 2)
abbrev Dp (T : Nat → Int32) (k : Nat) : Nat := nT T (16 + 7 * k + 3)
abbrev Ln (T : Nat → Int32) (k : Nat) : Nat := nT T (16 + 7 * k + 4)
abbrev Lo (T : Nat → Int32) (k : Nat) : Nat := nT T (16 + 7 * k + 5)
def InvA (T : Nat → Int32) (n : Nat) : Prop :=
  (T 15 = nI n ∧ n ≤ 20) ∧ (∀ i, i < 4 → bd T i 60) ∧ (∀ i, i < 4 → bd T (4 + i) 1) ∧ (bd T 8 1 ∧ bd T 9 900 ∧ bd T 10 9 ∧ bd T 11 240 ∧ bd T 12 9)
def InvK (T : Nat → Int32) (k : Nat) : Prop :=
  bd T (16 + 7 * k + 0) 3 ∧ bd T (16 + 7 * k + 1) 3 ∧ bd T (16 + 7 * k + 2) 3 ∧ bd T (16 + 7 * k + 3) 1439 ∧ (bd T (16 + 7 * k + 4) 240 ∧ 1 ≤ Ln T k) ∧ bd T (16 + 7 * k + 5) 1
def InvL (T : Nat → Int32) (n : Nat) : Prop :=
  (∀ k, k < n → T (16 + 7 * k + 6) = eo (nx T k)) ∧
  (∀ k j, k < n → nx T k = some j → j < n ∧ Lo T k = 0 ∧ Lo T j = 0 ∧ Dp T k + Ln T k ≤ Dp T j) ∧
  (∀ k k' j, k < n → k' < n → nx T k = some j → nx T k' = some j → k = k')
def Inv (T : Nat → Int32) (n : Nat) : Prop := InvA T n ∧ (∀ k, k < n → InvK T k) ∧ InvL T n
/-- what the class holds of a timetable, in its cells from b on -/
def RT (f : Nat → Nat → Int32) (b : Nat) (T : Nat → Int32) (n : Nat) : Prop :=
  (f b 11 = nI n ∧ f b 12 = T 12 ∧ f b 13 = T 13 ∧ f b 14 = T 14) ∧
  (∀ k, k < n → f (b + 1) k = T (16 + 7 * k + 0) ∧ f (b + 2) k = T (16 + 7 * k + 1) ∧ f (b + 3) k = T (16 + 7 * k + 2) ∧ f (b + 4) k = T (16 + 7 * k + 3) ∧ f (b + 5) k = T (16 + 7 * k + 4) ∧ f (b + 6) k = eo (bfo T k n) ∧ f (b + 7) k = T (16 + 7 * k + 6) ∧ f (b + 8) k = T (16 + 7 * k + 5)) ∧
  (∀ i, i < 4 → f (b + 9) i = T i ∧ f (b + 10) i = T (4 + i) ∧ f (b + 11) i = T (8 + i))
theorem bd.lt {T : Nat → Int32} {i b : Nat} (h : bd T i b) (hb : b < 1000000) : nT T i < 2 ^ 31 := by have := h.2; omega
theorem bd_nI {T : Nat → Int32} {i b x : Nat} (h : T i = nI x) (hx : x ≤ b) (hb : b < 1000000) : bd T i b := by
  have e : nT T i = x := by unfold nT; rw [h, nI_clamp (by omega)]
  exact ⟨by rw [e]; exact h, by rw [e]; exact hx⟩
theorem nT_of {T : Nat → Int32} {i x : Nat} (h : T i = nI x) (hx : x < 1000000) : nT T i = x := by unfold nT; rw [h, nI_clamp (by omega)]
theorem upd_self (T : Nat → Int32) (i : Nat) (x : Int32) : upd T i x i = x := if_pos rfl
theorem upd_ne {T : Nat → Int32} {i j : Nat} {x : Int32} (h : j ≠ i) : upd T i x j = T j := if_neg h
theorem nT_ne {T : Nat → Int32} {i j : Nat} {x : Int32} (h : j ≠ i) : nT (upd T i x) j = nT T j := by unfold nT; rw [upd_ne h]
theorem bd_ne {T : Nat → Int32} {i j b : Nat} {x : Int32} (h : j ≠ i) (hb : bd T j b) : bd (upd T i x) j b := by unfold bd; rw [upd_ne h, nT_ne h]; exact hb
theorem nx_ne {T : Nat → Int32} {i k : Nat} {x : Int32} (h : 16 + 7 * k + 6 ≠ i) : nx (upd T i x) k = nx T k := by unfold nx; rw [upd_ne h, nT_ne h]
theorem bfo_congr {T T' : Nat → Int32} {k : Nat} : ∀ {m : Nat}, (∀ j, j < m → nx T' j = nx T j) → bfo T' k m = bfo T k m
  | 0, _ => rfl
  | m + 1, h => by rw [bfo, bfo, h m (by omega), bfo_congr (fun j hj => h j (by omega))]
theorem bfo_some {T : Nat → Int32} {k : Nat} : ∀ {m j : Nat}, bfo T k m = some j → j < m ∧ nx T j = some k
  | 0, _, h => nomatch h
  | m + 1, j, h => by
    rw [bfo] at h
    by_cases e : nx T m = some k
    · rw [if_pos e] at h; cases h; exact ⟨by omega, e⟩
    · rw [if_neg e] at h
      obtain ⟨a, b⟩ := bfo_some h
      exact ⟨by omega, b⟩
theorem bfo_none {T : Nat → Int32} {k : Nat} : ∀ {m : Nat}, bfo T k m = none → ∀ j, j < m → nx T j ≠ some k
  | 0, _, j, hj => absurd hj (Nat.not_lt_zero _)
  | m + 1, h, j, hj => by
    rw [bfo] at h
    by_cases e : nx T m = some k
    · rw [if_pos e] at h; cases h
    · rw [if_neg e] at h
      by_cases e2 : j = m
      · subst e2; exact e
      · exact bfo_none h j (by omega)
theorem bfo_of {T : Nat → Int32} {k n j : Nat} (hu : ∀ k k' j, k < n → k' < n → nx T k = some j → nx T k' = some j → k = k') (hj : j < n) (h : nx T j = some k) : bfo T k n = some j := by
  cases e : bfo T k n with
  | none => exact absurd h (bfo_none e j hj)
  | some i => obtain ⟨a, b⟩ := bfo_some e; rw [hu i j k a hj b h]
theorem bfo_nil {T : Nat → Int32} {k : Nat} : ∀ {m : Nat}, (∀ j, j < m → nx T j ≠ some k) → bfo T k m = none
  | 0, _ => rfl
  | m + 1, h => by rw [bfo, if_neg (h m (by omega)), bfo_nil (fun j hj => h j (by omega))]
section INV
variable {T : Nat → Int32} {n : Nat}
theorem Inv.n20 (h : Inv T n) : n ≤ 20 := h.1.1.2
theorem Inv.t15 (h : Inv T n) : T 15 = nI n := h.1.1.1
theorem Inv.lay (h : Inv T n) {i : Nat} (hi : i < 4) : bd T i 60 := h.1.2.1 i hi
theorem Inv.rel (h : Inv T n) {i : Nat} (hi : i < 4) : bd T (4 + i) 1 := h.1.2.2.1 i hi
theorem Inv.s0 (h : Inv T n) : bd T 8 1 := h.1.2.2.2.1
theorem Inv.s1 (h : Inv T n) : bd T 9 900 := h.1.2.2.2.2.1
theorem Inv.s2 (h : Inv T n) : bd T 10 9 := h.1.2.2.2.2.2.1
theorem Inv.s3 (h : Inv T n) : bd T 11 240 := h.1.2.2.2.2.2.2.1
theorem Inv.us (h : Inv T n) : bd T 12 9 := h.1.2.2.2.2.2.2.2
variable {k : Nat}
theorem Inv.rt (h : Inv T n) (hk : k < n) : bd T (16 + 7 * k + 0) 3 := (h.2.1 k hk).1
theorem Inv.fr (h : Inv T n) (hk : k < n) : bd T (16 + 7 * k + 1) 3 := (h.2.1 k hk).2.1
theorem Inv.go (h : Inv T n) (hk : k < n) : bd T (16 + 7 * k + 2) 3 := (h.2.1 k hk).2.2.1
theorem Inv.dp (h : Inv T n) (hk : k < n) : bd T (16 + 7 * k + 3) 1439 := (h.2.1 k hk).2.2.2.1
theorem Inv.ln (h : Inv T n) (hk : k < n) : bd T (16 + 7 * k + 4) 240 := (h.2.1 k hk).2.2.2.2.1.1
theorem Inv.ln1 (h : Inv T n) (hk : k < n) : 1 ≤ Ln T k := (h.2.1 k hk).2.2.2.2.1.2
theorem Inv.lo (h : Inv T n) (hk : k < n) : bd T (16 + 7 * k + 5) 1 := (h.2.1 k hk).2.2.2.2.2
theorem Inv.rtL (h : Inv T n) (hk : k < n) : Rt T k ≤ 3 := (h.rt hk).2
theorem Inv.frL (h : Inv T n) (hk : k < n) : Fr T k ≤ 3 := (h.fr hk).2
theorem Inv.goL (h : Inv T n) (hk : k < n) : Go T k ≤ 3 := (h.go hk).2
theorem Inv.dpL (h : Inv T n) (hk : k < n) : Dp T k ≤ 1439 := (h.dp hk).2
theorem Inv.lnL (h : Inv T n) (hk : k < n) : Ln T k ≤ 240 := (h.ln hk).2
theorem Inv.loL (h : Inv T n) (hk : k < n) : Lo T k ≤ 1 := (h.lo hk).2
theorem Inv.nxe (h : Inv T n) (hk : k < n) : T (16 + 7 * k + 6) = eo (nx T k) := h.2.2.1 k hk
theorem Inv.nxs (h : Inv T n) {j : Nat} (hk : k < n) (e : nx T k = some j) : j < n ∧ Lo T k = 0 ∧ Lo T j = 0 ∧ Dp T k + Ln T k ≤ Dp T j := h.2.2.2.1 k j hk e
theorem Inv.inj (h : Inv T n) {k' j : Nat} (hk : k < n) (hk' : k' < n) (e : nx T k = some j) (e' : nx T k' = some j) : k = k' := h.2.2.2.2 k k' j hk hk' e e'
theorem Inv.bfi (h : Inv T n) {j : Nat} (hk : k < n) : bfo T j n = some k ↔ nx T k = some j := ⟨fun e => (bfo_some e).2, fun e => bfo_of h.2.2.2.2 hk e⟩
theorem Inv.lt (h : Inv T n) (hk : k < n) : k < 20 := Nat.lt_of_lt_of_le hk h.n20
theorem Inv.nxlt (h : Inv T n) (hk : k < n) : ∀ j, nx T k = some j → j < 1000 := fun j e => by have := (h.nxs hk e).1; have := h.n20; omega
theorem Inv.bflt (h : Inv T n) : ∀ j, bfo T k n = some j → j < 1000 := fun j e => by have := (bfo_some e).1; have := h.n20; omega
end INV
/-! what the class reads -/
section RDB
variable {f : Nat → Nat → Int32} {T : Nat → Int32} {n b : Nat}
theorem RT.nn (h : RT f b T n) : f b 11 = nI n := h.1.1
theorem RT.us (h : RT f b T n) : f b 12 = T 12 := h.1.2.1
theorem RT.fa (h : RT f b T n) : f b 13 = T 13 := h.1.2.2.1
theorem RT.re (h : RT f b T n) : f b 14 = T 14 := h.1.2.2.2
variable {k : Nat}
theorem RT.rt (h : RT f b T n) (hk : k < n) : f (b + 1) k = T (16 + 7 * k + 0) := (h.2.1 k hk).1
theorem RT.fr (h : RT f b T n) (hk : k < n) : f (b + 2) k = T (16 + 7 * k + 1) := (h.2.1 k hk).2.1
theorem RT.go (h : RT f b T n) (hk : k < n) : f (b + 3) k = T (16 + 7 * k + 2) := (h.2.1 k hk).2.2.1
theorem RT.dp (h : RT f b T n) (hk : k < n) : f (b + 4) k = T (16 + 7 * k + 3) := (h.2.1 k hk).2.2.2.1
theorem RT.ln (h : RT f b T n) (hk : k < n) : f (b + 5) k = T (16 + 7 * k + 4) := (h.2.1 k hk).2.2.2.2.1
theorem RT.bf (h : RT f b T n) (hk : k < n) : f (b + 6) k = eo (bfo T k n) := (h.2.1 k hk).2.2.2.2.2.1
theorem RT.nx (h : RT f b T n) (hk : k < n) : f (b + 7) k = T (16 + 7 * k + 6) := (h.2.1 k hk).2.2.2.2.2.2.1
theorem RT.lo (h : RT f b T n) (hk : k < n) : f (b + 8) k = T (16 + 7 * k + 5) := (h.2.1 k hk).2.2.2.2.2.2.2
theorem RT.lay (h : RT f b T n) (hk : k < 4) : f (b + 9) k = T k := (h.2.2 k hk).1
theorem RT.rel (h : RT f b T n) (hk : k < 4) : f (b + 10) k = T (4 + k) := (h.2.2 k hk).2.1
theorem RT.se (h : RT f b T n) (hk : k < 4) : f (b + 11) k = T (8 + k) := (h.2.2 k hk).2.2
theorem RT.congr {f' : Nat → Nat → Int32} {b' : Nat} (h : RT f b T n) (hc : ∀ j, j < 12 → f' (b' + j) = f (b + j)) : RT f' b' T n := by
  have h0 : f' b' = f b := hc 0 (by omega)
  have h1 := hc 1 (by omega)
  have h2 := hc 2 (by omega)
  have h3 := hc 3 (by omega)
  have h4 := hc 4 (by omega)
  have h5 := hc 5 (by omega)
  have h6 := hc 6 (by omega)
  have h7 := hc 7 (by omega)
  have h8 := hc 8 (by omega)
  have h9 := hc 9 (by omega)
  have h10 := hc 10 (by omega)
  have h11 := hc 11 (by omega)
  unfold RT
  rw [h0, h1, h2, h3, h4, h5, h6, h7, h8, h9, h10, h11]
  exact h
end RDB
