/-! PURE: a walk over sorted events tells the greatest deficit. -/
def insF (A : Nat → Nat) (p e : Nat) : Nat → Nat := fun i => if i < p then A i else if i = p then e else A (i - 1)
def srt (A : Nat → Nat) (s : Nat) : Prop := ∀ i j, i ≤ j → j < s → A i ≤ A j
theorem cn_add {p : Nat → Bool} : ∀ (a b : Nat), cn p (a + b) = cn p a + cn (fun i => p (a + i)) b
  | _, 0 => rfl
  | a, b + 1 => by rw [show a + (b + 1) = (a + b) + 1 by omega, cn, cn, cn_add a b]; omega
theorem ins_cn (q : Nat → Bool) (A : Nat → Nat) (e p : Nat) : ∀ d, cn (fun i => q (insF A p e i)) (p + d + 1) = cn (fun i => q (A i)) (p + d) + (if q e = true then 1 else 0)
  | 0 => by
    rw [Nat.add_zero, cn]
    have h1 : cn (fun i => q (insF A p e i)) p = cn (fun i => q (A i)) p := cn_congr (fun k hk => by rw [insF, if_pos hk])
    have h2 : insF A p e p = e := by rw [insF, if_neg (Nat.lt_irrefl p), if_pos rfl]
    rw [h1, h2]
    rfl
  | d + 1 => by
    rw [cn, show p + (d + 1) = p + d + 1 by omega, ins_cn q A e p d]
    have h2 : insF A p e (p + d + 1) = A (p + d) := by rw [insF, if_neg (by omega), if_neg (by omega)]; rfl
    rw [h2]
    show _ = cn (fun i => q (A i)) (p + d + 1) + _
    rw [cn]
    omega
theorem ins_srt {A : Nat → Nat} {s p e : Nat} (h : srt A s) (hp : p ≤ s) (h1 : ∀ i, i < p → A i ≤ e) (h2 : ∀ i, p ≤ i → i < s → e ≤ A i) : srt (insF A p e) (s + 1) := by
  intro i j hij hj
  unfold insF
  by_cases a1 : i < p
  · rw [if_pos a1]
    by_cases b1 : j < p
    · rw [if_pos b1]; exact h i j hij (by omega)
    · rw [if_neg b1]
      by_cases b2 : j = p
      · rw [if_pos b2]; exact h1 i a1
      · rw [if_neg b2]; exact h i (j - 1) (by omega) (by omega)
  · rw [if_neg a1, if_neg (show ¬ j < p by omega)]
    by_cases a2 : i = p
    · rw [if_pos a2]
      by_cases b2 : j = p
      · rw [if_pos b2]; exact Nat.le_refl _
      · rw [if_neg b2]; exact h2 (j - 1) (by omega) (by omega)
    · rw [if_neg a2, if_neg (show ¬ j = p by omega)]
      exact h (i - 1) (j - 1) (by omega) (by omega)
/-- leaving, ready: events of a key c -/
def isL (c e : Nat) : Bool := Nat.beq (e % 16) c && Nat.ble 16 (e % 32)
def isY (c e : Nat) : Bool := Nat.beq (e % 16) c && Nat.blt (e % 32) 16
/-- how many more have left than were ready, of a key, by the first i events -/
def Dc (C : Nat → Nat) (c i : Nat) : Int := (cn (fun j => isL c (C j)) i : Int) - (cn (fun j => isY c (C j)) i : Int)
def Mc (C : Nat → Nat) (c : Nat) : Nat → Nat
  | 0 => 0
  | i + 1 => if (Mc C c i : Int) < Dc C c (i + 1) then (Dc C c (i + 1)).toNat else Mc C c i
theorem Dc_succ (C : Nat → Nat) (c i : Nat) : Dc C c (i + 1) = Dc C c i + (if isL c (C i) = true then 1 else 0) - (if isY c (C i) = true then 1 else 0) := by
  unfold Dc
  rw [cn, cn]
  split <;> split <;> simp <;> omega
theorem Mc_mono (C : Nat → Nat) (c : Nat) : ∀ i d, Mc C c i ≤ Mc C c (i + d)
  | _, 0 => Nat.le_refl _
  | i, d + 1 => by
    have h := Mc_mono C c i d
    rw [show i + (d + 1) = (i + d) + 1 by omega, Mc]
    split <;> omega
theorem Dc_Mc (C : Nat → Nat) (c : Nat) : ∀ i, Dc C c i ≤ Mc C c i
  | 0 => by show ((0 : Nat) : Int) - ((0 : Nat) : Int) ≤ ((0 : Nat) : Int); omega
  | i + 1 => by rw [Mc]; split <;> omega
theorem Dc_le (C : Nat → Nat) (c : Nat) {i s : Nat} (h : i ≤ s) : Dc C c i ≤ Mc C c s := by
  have h1 := Dc_Mc C c i
  have h2 := Mc_mono C c i (s - i)
  rw [show i + (s - i) = s by omega] at h2
  omega
theorem Mc_ex (C : Nat → Nat) (c : Nat) : ∀ s, Mc C c s = 0 ∨ ∃ i, i < s ∧ isL c (C i) = true ∧ (Mc C c s : Int) = Dc C c (i + 1)
  | 0 => Or.inl rfl
  | s + 1 => by
    rw [Mc]
    by_cases h : (Mc C c s : Int) < Dc C c (s + 1)
    · rw [if_pos h]
      refine Or.inr ⟨s, by omega, ?_, by omega⟩
      have h1 := Dc_Mc C c s
      rw [Dc_succ] at h
      cases e : isL c (C s) with
      | true => rfl
      | false => rw [e, if_neg ff] at h; split at h <;> omega
    · rw [if_neg h]
      rcases Mc_ex C c s with h1 | ⟨i, h1, h2⟩
      · exact Or.inl h1
      · exact Or.inr ⟨i, by omega, h2⟩
theorem Mc_le (C : Nat → Nat) (c : Nat) : ∀ s, Mc C c s ≤ s
  | 0 => Nat.le_refl _
  | s + 1 => by
    have h := Mc_le C c s
    rw [Mc]
    split
    · unfold Dc
      have := cn_le (fun j => isL c (C j)) (s + 1)
      omega
    · omega
/-- the events up to a time are the first ones -/
theorem cn_pref {C : Nat → Nat} {s : Nat} (h : srt C s) (b : Nat) (q : Nat → Bool) : cn (fun j => q (C j) && Nat.blt (C j) b) s = cn (fun j => q (C j)) (cn (fun j => Nat.blt (C j) b) s) := by
  have key : ∀ s', s' ≤ s → cn (fun j => q (C j) && Nat.blt (C j) b) s' = cn (fun j => q (C j)) (cn (fun j => Nat.blt (C j) b) s') ∧ (cn (fun j => Nat.blt (C j) b) s' < s' → ∀ j, s' ≤ j → j < s → b ≤ C j) := by
    intro s'
    induction s' with
    | zero => intro _; exact ⟨rfl, fun h => absurd h (Nat.not_lt_zero _)⟩
    | succ s' ih =>
      intro hs
      obtain ⟨h1, h2⟩ := ih (by omega)
      have hl := cn_le (fun j => Nat.blt (C j) b) s'
      rw [cn, cn]
      cases e : Nat.blt (C s') b with
      | true =>
        have e' : C s' < b := blt_iff.mp e
        have hfull : cn (fun j => Nat.blt (C j) b) s' = s' := by
          by_cases hc : cn (fun j => Nat.blt (C j) b) s' < s'
          · have := h2 hc s' (Nat.le_refl _) (by omega); omega
          · omega
        rw [h1, hfull, if_pos tr, Bool.and_true, cn]
        refine ⟨rfl, fun hc => by omega⟩
      | false =>
        rw [if_neg ff, Bool.and_false, if_neg ff, h1]
        refine ⟨by rw [Nat.add_zero, Nat.add_zero], fun _ j hj1 hj2 => ?_⟩
        have e' := blt_false.mp e
        have := h s' j (by omega) hj2
        omega
  exact (key s (Nat.le_refl _)).1
/-- more left than ready, by events up to a time -/
def Lk (C : Nat → Nat) (s c t : Nat) : Int := (cn (fun j => isL c (C j) && Nat.blt (C j) (32 * (t + 1))) s : Int) - (cn (fun j => isY c (C j) && Nat.blt (C j) (32 * (t + 1))) s : Int)
theorem Lk_le {C : Nat → Nat} {s : Nat} (h : srt C s) (c t : Nat) : Lk C s c t ≤ Mc C c s := by
  unfold Lk
  rw [cn_pref h _ (isL c), cn_pref h _ (isY c)]
  exact Dc_le C c (cn_le _ _)
theorem Lk_ge {C : Nat → Nat} {s : Nat} (h : srt C s) (c : Nat) {i : Nat} (hi : i < s) (hl : isL c (C i) = true) : Dc C c (i + 1) ≤ Lk C s c (C i / 32) := by
  have h16 : 16 ≤ C i % 32 := by
    unfold isL at hl
    rw [Bool.and_eq_true] at hl
    exact ble_iff.mp hl.2
  unfold Lk
  rw [cn_pref h _ (isL c), cn_pref h _ (isY c)]
  have key : ∀ d, i + 1 + d ≤ cn (fun j => Nat.blt (C j) (32 * (C i / 32 + 1))) s → Dc C c (i + 1) ≤ Dc C c (i + 1 + d) := by
    intro d
    induction d with
    | zero => intro _; exact Int.le_refl _
    | succ d ih =>
      intro hd
      have h1 := ih (by omega)
      have hlen := cn_le (fun j => Nat.blt (C j) (32 * (C i / 32 + 1))) s
      have h2 : C (i + 1 + d) < 32 * (C i / 32 + 1) := by
        -- the first ones are those below the bound
        have hp := cn_pref h (32 * (C i / 32 + 1)) (fun x => Nat.beq x (C (i + 1 + d)))
        by_cases hc : C (i + 1 + d) < 32 * (C i / 32 + 1)
        · exact hc
        · exfalso
          have z1 : cn (fun j => Nat.beq (C j) (C (i + 1 + d)) && Nat.blt (C j) (32 * (C i / 32 + 1))) s = 0 := by
            have : ∀ m, cn (fun j => Nat.beq (C j) (C (i + 1 + d)) && Nat.blt (C j) (32 * (C i / 32 + 1))) m = 0 := by
              intro m
              induction m with
              | zero => rfl
              | succ m ihm =>
                rw [cn, ihm]
                cases e : Nat.beq (C m) (C (i + 1 + d)) with
                | false => rfl
                | true =>
                  have e2 := beq_iff.mp e
                  have e3 : Nat.blt (C m) (32 * (C i / 32 + 1)) = false := by rw [blt_false]; omega
                  rw [e3]; rfl
            exact this s
          rw [z1] at hp
          have z2 : 0 < cn (fun j => Nat.beq (C j) (C (i + 1 + d))) (cn (fun j => Nat.blt (C j) (32 * (C i / 32 + 1))) s) := by
            have z3 := cn_lt (p := fun _ => false) (q := fun j => Nat.beq (C j) (C (i + 1 + d))) (j := i + 1 + d) (n := cn (fun j => Nat.blt (C j) (32 * (C i / 32 + 1))) s) (fun _ _ e => nomatch e) (by omega) rfl (Nat.beq_refl _)
            omega
          omega
      have h3 := h i (i + 1 + d) (by omega) (by omega)
      rw [show i + 1 + (d + 1) = (i + 1 + d) + 1 by omega, Dc_succ C c (i + 1 + d)]
      have h4 : isY c (C (i + 1 + d)) = false := by
        unfold isY
        rw [Bool.and_eq_false_iff]
        right
        rw [blt_false]
        omega
      rw [h4, if_neg ff]
      split <;> omega
  have hi2 : i + 1 ≤ cn (fun j => Nat.blt (C j) (32 * (C i / 32 + 1))) s := by
    have : ∀ m, m ≤ i + 1 → m ≤ cn (fun j => Nat.blt (C j) (32 * (C i / 32 + 1))) m := by
      intro m
      induction m with
      | zero => intro _; exact Nat.zero_le _
      | succ m ih =>
        intro hm
        have h1 := ih (by omega)
        have h2 := h m i (by omega) hi
        rw [cn, if_pos (by rw [blt_iff]; omega)]
        omega
    have h1 := this (i + 1) (Nat.le_refl _)
    have h2 := cn_add (p := fun j => Nat.blt (C j) (32 * (C i / 32 + 1))) (i + 1) (s - (i + 1))
    rw [show i + 1 + (s - (i + 1)) = s by omega] at h2
    omega
  have hk := key (cn (fun j => Nat.blt (C j) (32 * (C i / 32 + 1))) s - (i + 1)) (by omega)
  rw [show i + 1 + (cn (fun j => Nat.blt (C j) (32 * (C i / 32 + 1))) s - (i + 1)) = cn (fun j => Nat.blt (C j) (32 * (C i / 32 + 1))) s by omega] at hk
  exact hk
/-- the greatest, at least 0 -/
def dmx (f : Nat → Int) : Nat → Nat
  | 0 => 0
  | j + 1 => if f j ≤ dmx f j then dmx f j else (f j).toNat
theorem dmx_le (f : Nat → Int) : ∀ n k, k < n → f k ≤ dmx f n
  | 0, _, h => absurd h (Nat.not_lt_zero _)
  | n + 1, k, h => by
    rw [dmx]
    by_cases e : k = n
    · subst e; split <;> omega
    · have := dmx_le f n k (by omega); split <;> omega
theorem dmx_ex (f : Nat → Int) : ∀ n, dmx f n = 0 ∨ ∃ k, k < n ∧ f k = dmx f n ∧ 0 < f k
  | 0 => Or.inl rfl
  | n + 1 => by
    rw [dmx]
    by_cases e : f n ≤ dmx f n
    · rw [if_pos e]
      rcases dmx_ex f n with h | ⟨k, h1, h2⟩
      · exact Or.inl h
      · exact Or.inr ⟨k, by omega, h2⟩
    · rw [if_neg e]
      exact Or.inr ⟨n, by omega, by omega, by omega⟩
theorem dmx_congr {f g : Nat → Int} : ∀ {n : Nat}, (∀ k, k < n → f k = g k) → dmx f n = dmx g n
  | 0, _ => rfl
  | n + 1, h => by rw [dmx, dmx, dmx_congr (fun k hk => h k (by omega)), h n (by omega)]
/-- the walk's greatest deficit is the greatest at a departure -/
theorem Mc_dmx {C : Nat → Nat} {s c n : Nat} (h : srt C s) (f : Nat → Int) (h1 : ∀ k, k < n → f k = 0 ∨ ∃ t, f k = Lk C s c t) (h2 : ∀ i, i < s → isL c (C i) = true → ∃ k, k < n ∧ f k = Lk C s c (C i / 32)) : Mc C c s = dmx f n := by
  have a : (dmx f n : Int) ≤ Mc C c s := by
    rcases dmx_ex f n with e | ⟨k, hk, e, hpos⟩
    · rw [e]; omega
    · rcases h1 k hk with z | ⟨t, z⟩
      · omega
      · have := Lk_le h c t; omega
  have b : (Mc C c s : Int) ≤ dmx f n := by
    rcases Mc_ex C c s with e | ⟨i, hi, hl, e⟩
    · rw [e]; omega
    · obtain ⟨k, hk, z⟩ := h2 i hi hl
      have := Lk_ge h c hi hl
      have := dmx_le f n k hk
      omega
  omega
theorem sn_one {f g : Nat → Nat} {c : Nat} : ∀ {n : Nat}, c < n → (∀ j, j < n → j ≠ c → g j = f j) → g c = f c + 1 → sn g n = sn f n + 1
  | 0, h, _, _ => absurd h (Nat.not_lt_zero _)
  | n + 1, h, h1, h2 => by
    rw [sn, sn]
    by_cases e : c = n
    · subst e
      rw [h2, sn_congr (fun k hk => h1 k (by omega) (by omega))]; omega
    · rw [sn_one (f := f) (g := g) (n := n) (by omega) (fun j hj hc => h1 j (by omega) hc) h2, h1 n (by omega) (by omega)]; omega
