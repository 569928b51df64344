/-! PURE: loops, rows, numbers: what the answers of class and model are made of. -/
theorem itr_seq {σ ρ : Type} {step : σ → σ ⊕ ρ} {pst : σ → Prop} (F : Nat → σ) (r : ρ) : ∀ (n k N : Nat), n < N → (∀ j, k ≤ j → j < k + n → step (F j) = .inl (F (j + 1))) → step (F (k + n)) = .inr r → (∀ j, k ≤ j → j ≤ k + n → pst (F j)) → itrp step pst N (F k) ∧ itr step N (F k) = some r
  | _, _, 0, h, _, _, _ => absurd h (Nat.not_lt_zero _)
  | 0, k, N + 1, _, _, he, hp => by
    have he' : step (F k) = .inr r := he
    refine ⟨⟨hp k (Nat.le_refl _) (Nat.le_refl _), fun v' hv => by rw [he'] at hv; cases hv⟩, ?_⟩
    rw [itr, he']
  | n + 1, k, N + 1, hN, hs, he, hp => by
    have h0 := hs k (Nat.le_refl _) (by omega)
    obtain ⟨a, b⟩ := itr_seq (step := step) (pst := pst) F r n (k + 1) N (by omega) (fun j h1 h2 => hs j (by omega) (by omega)) (by rw [show k + 1 + n = k + (n + 1) by omega]; exact he) (fun j h1 h2 => hp j (by omega) (by omega))
    refine ⟨⟨hp k (Nat.le_refl _) (by omega), fun v' hv => by rw [h0] at hv; cases hv; exact a⟩, ?_⟩
    rw [itr, h0]
    exact b
/-- a loop over 0, 1, .. n - 1 -/
theorem itr_for {σ ρ : Type} {step : σ → σ ⊕ ρ} {pst : σ → Prop} (F : Nat → σ) (n : Nat) (r : ρ) (hn : n < 1000) (hs : ∀ j, j < n → step (F j) = .inl (F (j + 1))) (he : step (F n) = .inr r) (hp : ∀ j, j ≤ n → pst (F j)) : itrp step pst NF (F 0) ∧ itr step NF (F 0) = some r :=
  itr_seq F r n 0 NF (by rw [NF_eq]; omega) (fun j _ h => hs j (by omega)) (by rw [Nat.zero_add]; exact he) (fun j _ h => hp j (by omega))
/-- the same, that may end early -/
theorem itr_inv {σ ρ : Type} {step : σ → σ ⊕ ρ} {pst : σ → Prop} (I : σ → Prop) (m : σ → Nat) (post : ρ → Prop) (h : ∀ v, I v → pst v ∧ ((∃ v', step v = .inl v' ∧ I v' ∧ m v' < m v) ∨ ∃ r, step v = .inr r ∧ post r)) : ∀ (N : Nat) (v : σ), m v < N → I v → itrp step pst N v ∧ ∃ r, itr step N v = some r ∧ post r
  | 0, _, hm, _ => absurd hm (Nat.not_lt_zero _)
  | N + 1, v, hm, hI => by
    obtain ⟨hp, h2⟩ := h v hI
    rcases h2 with ⟨v', e, hI', hm'⟩ | ⟨r, e, hr⟩
    · obtain ⟨a, b⟩ := itr_inv (step := step) (pst := pst) I m post h N v' (by omega) hI'
      refine ⟨⟨hp, fun w hw => by rw [e] at hw; cases hw; exact a⟩, ?_⟩
      rw [itr, e]
      exact b
    · exact ⟨⟨hp, fun w hw => by rw [e] at hw; cases hw⟩, r, by rw [itr, e], hr⟩
theorem itr_invN {σ ρ : Type} {step : σ → σ ⊕ ρ} {pst : σ → Prop} (I : σ → Prop) (m : σ → Nat) (post : ρ → Prop) (v : σ) (hm : m v < 100000) (hI : I v) (h : ∀ v, I v → pst v ∧ ((∃ v', step v = .inl v' ∧ I v' ∧ m v' < m v) ∨ ∃ r, step v = .inr r ∧ post r)) : itrp step pst NF v ∧ ∃ r, itr step NF v = some r ∧ post r :=
  itr_inv I m post h NF v (by rw [NF_eq]; omega) hI
/-- two loops that go side by side -/
theorem itr_rel {σ₁ σ₂ ρ₁ ρ₂ : Type} {s₁ : σ₁ → σ₁ ⊕ ρ₁} {s₂ : σ₂ → σ₂ ⊕ ρ₂} {p₁ : σ₁ → Prop} {p₂ : σ₂ → Prop} (R : σ₁ → σ₂ → Prop) (m : σ₁ → σ₂ → Nat) (Q : ρ₁ → ρ₂ → Prop)
    (h : ∀ v w, R v w → p₁ v ∧ p₂ w ∧ ((∃ v' w', s₁ v = .inl v' ∧ s₂ w = .inl w' ∧ R v' w' ∧ m v' w' < m v w) ∨ ∃ r q, s₁ v = .inr r ∧ s₂ w = .inr q ∧ Q r q)) : ∀ (N : Nat) (v : σ₁) (w : σ₂), m v w < N → R v w → itrp s₁ p₁ N v ∧ itrp s₂ p₂ N w ∧ ∃ r q, itr s₁ N v = some r ∧ itr s₂ N w = some q ∧ Q r q
  | 0, _, _, hm, _ => absurd hm (Nat.not_lt_zero _)
  | N + 1, v, w, hm, hR => by
    obtain ⟨h1, h2, h3⟩ := h v w hR
    rcases h3 with ⟨v', w', e1, e2, hR', hm'⟩ | ⟨r, q, e1, e2, hQ⟩
    · obtain ⟨a, b, c⟩ := itr_rel (s₁ := s₁) (s₂ := s₂) (p₁ := p₁) (p₂ := p₂) R m Q h N v' w' (by omega) hR'
      refine ⟨⟨h1, fun x hx => by rw [e1] at hx; cases hx; exact a⟩, ⟨h2, fun x hx => by rw [e2] at hx; cases hx; exact b⟩, ?_⟩
      rw [itr, itr, e1, e2]
      exact c
    · exact ⟨⟨h1, fun x hx => by rw [e1] at hx; cases hx⟩, ⟨h2, fun x hx => by rw [e2] at hx; cases hx⟩, r, q, by rw [itr, e1], by rw [itr, e2], hQ⟩
theorem itr_relN {σ₁ σ₂ ρ₁ ρ₂ : Type} {s₁ : σ₁ → σ₁ ⊕ ρ₁} {s₂ : σ₂ → σ₂ ⊕ ρ₂} {p₁ : σ₁ → Prop} {p₂ : σ₂ → Prop} (R : σ₁ → σ₂ → Prop) (m : σ₁ → σ₂ → Nat) (Q : ρ₁ → ρ₂ → Prop) (v : σ₁) (w : σ₂) (hm : m v w < 100000) (hR : R v w)
    (h : ∀ v w, R v w → p₁ v ∧ p₂ w ∧ ((∃ v' w', s₁ v = .inl v' ∧ s₂ w = .inl w' ∧ R v' w' ∧ m v' w' < m v w) ∨ ∃ r q, s₁ v = .inr r ∧ s₂ w = .inr q ∧ Q r q)) : itrp s₁ p₁ NF v ∧ itrp s₂ p₂ NF w ∧ ∃ r q, itr s₁ NF v = some r ∧ itr s₂ NF w = some q ∧ Q r q :=
  itr_rel R m Q h NF v w (by rw [NF_eq]; omega) hR
/-! numbers -/
theorem nI_sub {a b : Nat} (h : b ≤ a) : nI a - nI b = nI (a - b) := by
  have e : nI a = nI (a - b) + nI b := by rw [nI_add]; congr 1; omega
  rw [e, Int32.add_sub_cancel]
theorem nI_mul (a b : Nat) : nI a * nI b = nI (a * b) := (Int32.ofNat_mul a b).symm
theorem nI_m1 {a : Nat} (h : a < 2 ^ 31) : ¬ nI a = (-1 : Int32) := by
  intro e
  have h1 := congrArg Int32.toInt e
  rw [nI_toInt h] at h1
  have h2 : (-1 : Int32).toInt = -1 := by decide +kernel
  omega
theorem nI_m1' {a : Nat} (h : a < 2 ^ 31) : ¬ (-1 : Int32) = nI a := fun e => nI_m1 h e.symm
theorem nI_ix {a : Nat} (h : a < 2 ^ 31) : am_ix (nI a) = a := nI_clamp h
theorem nI_am {a n : Nat} (h : a < n) (hn : n < 2 ^ 31) : am_in (nI a) n := ⟨by rw [nI_toInt (by omega)]; omega, by rw [nI_toInt (by omega)]; omega⟩
theorem nI_inj {a b : Nat} (ha : a < 2 ^ 31) (hb : b < 2 ^ 31) (h : nI a = nI b) : a = b := (nI_eq ha hb).mp h
theorem am_si1 (h : HP) (c k : Nat) (x : Int32) (c' k' : Nat) : (am_si h c k x).1 c' k' = if c' = c ∧ k' = k then x else h.1 c' k' := by
  show am_up h.1 c k x c' k' = _
  unfold am_up upd
  by_cases h1 : c' = c
  · subst h1
    rw [if_pos rfl]
    by_cases h2 : k' = k
    · rw [if_pos h2, if_pos ⟨rfl, h2⟩]
    · rw [if_neg h2, if_neg (fun z => h2 z.2)]
  · rw [if_neg h1, if_neg (fun z => h1 z.1)]
theorem am_si2 (h : HP) (c k : Nat) (x : Int32) : (am_si h c k x).2 = h.2 := rfl
theorem am_si_ne {h : HP} {c k : Nat} {x : Int32} {c' : Nat} (hc : c' ≠ c) : (am_si h c k x).1 c' = h.1 c' := am_up_ne hc
theorem at_nI {n : Nat} (hn : n < 1000) (f : Nat → Int32) {i : Nat} (hi : i < n) : v_at n f (nI i) = f i := by
  rw [v_at, if_pos ⟨by rw [nI_toInt (by omega)]; omega, by rw [nI_toInt (by omega)]; omega⟩, nI_ix (by omega)]
theorem at_m1 (n : Nat) (f : Nat → Int32) : v_at n f (-1) = -1 := by
  rw [v_at, if_neg (fun z => absurd z.1 (by decide +kernel))]
theorem at_out {n : Nat} (f : Nat → Int32) {i : Int32} (h : ¬ (0 ≤ i.toInt ∧ i.toInt < n)) : v_at n f i = -1 := if_neg h
theorem put_nI {n : Nat} (hn : n < 1000) (h : HP) (r : Nat) {i : Nat} (hi : i < n) (x : Int32) : v_put n h r (nI i) x = am_si h r i x := by
  rw [v_put, if_pos ⟨by rw [nI_toInt (by omega)]; omega, by rw [nI_toInt (by omega)]; omega⟩, nI_ix (by omega)]
theorem put_m1 (n : Nat) (h : HP) (r : Nat) (x : Int32) : v_put n h r (-1) x = h := by
  rw [v_put, if_neg (fun z => absurd z.1 (by decide +kernel))]
/-- a trip, or none -/
def eo : Option Nat → Int32
  | none => -1
  | some j => nI j
theorem eo_some (j : Nat) : eo (some j) = nI j := rfl
theorem eo_none : eo none = -1 := rfl
theorem eo_m1 {o : Option Nat} (h : ∀ j, o = some j → j < 1000) : eo o = -1 ↔ o = none := by
  cases o with
  | none => exact ⟨fun _ => rfl, fun _ => rfl⟩
  | some j => exact ⟨fun z => absurd z (nI_m1 (by have := h j rfl; omega)), fun z => nomatch z⟩
/-! sums, counts -/
def sm (f : Nat → Int32) : Nat → Int32
  | 0 => 0
  | n + 1 => sm f n + f n
theorem sm_congr {f g : Nat → Int32} : ∀ {n : Nat}, (∀ k, k < n → f k = g k) → sm f n = sm g n
  | 0, _ => rfl
  | n + 1, h => by rw [sm, sm, sm_congr (fun k hk => h k (by omega)), h n (by omega)]
/-- how many -/
def cn (p : Nat → Bool) : Nat → Nat
  | 0 => 0
  | n + 1 => cn p n + (if p n then 1 else 0)
theorem cn_congr {p q : Nat → Bool} : ∀ {n : Nat}, (∀ k, k < n → p k = q k) → cn p n = cn q n
  | 0, _ => rfl
  | n + 1, h => by rw [cn, cn, cn_congr (fun k hk => h k (by omega)), h n (by omega)]
theorem cn_le (p : Nat → Bool) : ∀ n, cn p n ≤ n
  | 0 => Nat.le_refl _
  | n + 1 => by have := cn_le p n; rw [cn]; split <;> omega
theorem cn_mono {p q : Nat → Bool} : ∀ {n : Nat}, (∀ k, k < n → p k = true → q k = true) → cn p n ≤ cn q n
  | 0, _ => Nat.le_refl _
  | n + 1, h => by
    have := cn_mono (n := n) (fun k hk => h k (by omega))
    have h1 := h n (by omega)
    rw [cn, cn]
    cases hp : p n with
    | false => rw [if_neg (show ¬ (false = true) by decide)]; split <;> omega
    | true => rw [h1 hp]; simp; omega
theorem cn_lt {p q : Nat → Bool} {j : Nat} : ∀ {n : Nat}, (∀ k, k < n → p k = true → q k = true) → j < n → p j = false → q j = true → cn p n < cn q n
  | 0, _, h, _, _ => absurd h (Nat.not_lt_zero _)
  | n + 1, h, hj, h1, h2 => by
    rw [cn, cn]
    by_cases e : j = n
    · subst e
      have := cn_mono (p := p) (q := q) (n := j) (fun k hk => h k (by omega))
      rw [h1, h2]; simp; omega
    · have := cn_lt (p := p) (q := q) (n := n) (fun k hk => h k (by omega)) (by omega) h1 h2
      have h3 := h n (by omega)
      cases hp : p n with
      | false => rw [if_neg (show ¬ (false = true) by decide)]; split <;> omega
      | true => rw [h3 hp]; simp; omega
theorem cn_sm {p : Nat → Bool} {f : Nat → Int32} : ∀ {n : Nat}, (∀ k, k < n → f k = if p k then 1 else 0) → sm f n = nI (cn p n)
  | 0, _ => nI_0.symm
  | n + 1, h => by
    rw [sm, cn, cn_sm (fun k hk => h k (by omega)), h n (by omega)]
    cases p n with
    | true => exact nI_1 _
    | false => show nI (cn p n) + 0 = nI (cn p n + 0); rw [Int32.add_zero, Nat.add_zero]
def sn (f : Nat → Nat) : Nat → Nat
  | 0 => 0
  | n + 1 => sn f n + f n
theorem sn_congr {f g : Nat → Nat} : ∀ {n : Nat}, (∀ k, k < n → f k = g k) → sn f n = sn g n
  | 0, _ => rfl
  | n + 1, h => by rw [sn, sn, sn_congr (fun k hk => h k (by omega)), h n (by omega)]
theorem sn_le {f : Nat → Nat} {b : Nat} : ∀ {n : Nat}, (∀ k, k < n → f k ≤ b) → sn f n ≤ b * n
  | 0, _ => Nat.le_refl _
  | n + 1, h => by
    have h1 := sn_le (f := f) (n := n) (fun k hk => h k (by omega))
    have h2 := h n (by omega)
    rw [sn, Nat.mul_succ]
    omega
theorem sn_sm {f : Nat → Int32} {g : Nat → Nat} : ∀ {n : Nat}, (∀ k, k < n → f k = nI (g k)) → sm f n = nI (sn g n)
  | 0, _ => nI_0.symm
  | n + 1, h => by rw [sm, sn, sn_sm (fun k hk => h k (by omega)), h n (by omega), nI_add]
