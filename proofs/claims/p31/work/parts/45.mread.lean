/-! PURE: what the model's small methods answer, told of the row. -/
theorem nth_uniq {p : Nat → Bool} {k k' : Nat} (h : p k = true) (h' : p k' = true) (e : cn p k = cn p k') : k = k' := by
  have key : ∀ a b, p a = true → a < b → cn p a < cn p b := by
    intro a b ha hab
    induction b with
    | zero => omega
    | succ b ih =>
      rw [cn]
      by_cases hb : a = b
      · subst hb; rw [if_pos ha]; omega
      · have := ih (by omega); split <;> omega
  rcases Nat.lt_trichotomy k k' with h1 | h1 | h1
  · have := key k k' h h1; omega
  · exact h1
  · have := key k' k h' h1; omega
theorem nth_ex {p : Nat → Bool} {b : Nat} : ∀ {n : Nat}, b < cn p n → ∃ k, k < n ∧ p k = true ∧ cn p k = b
  | 0, h => absurd h (Nat.not_lt_zero _)
  | n + 1, h => by
    rw [cn] at h
    by_cases h1 : b < cn p n
    · obtain ⟨k, a, c⟩ := nth_ex h1
      exact ⟨k, by omega, c⟩
    · cases hp : p n with
      | true => rw [hp] at h; simp at h; exact ⟨n, by omega, hp, by omega⟩
      | false => rw [hp] at h; simp at h; omega
/-- the greatest, at least 0 -/
def mx (f : Nat → Nat) : Nat → Nat
  | 0 => 0
  | n + 1 => max (mx f n) (f n)
theorem mx_congr {f g : Nat → Nat} : ∀ {n : Nat}, (∀ k, k < n → f k = g k) → mx f n = mx g n
  | 0, _ => rfl
  | n + 1, h => by rw [mx, mx, mx_congr (fun k hk => h k (by omega)), h n (by omega)]
theorem mx_le {f : Nat → Nat} {b : Nat} : ∀ {n : Nat}, (∀ k, k < n → f k ≤ b) → mx f n ≤ b
  | 0, _ => Nat.zero_le _
  | n + 1, h => by have := mx_le (f := f) (n := n) (fun k hk => h k (by omega)); have := h n (by omega); rw [mx]; omega
theorem vmax_nI {a b : Nat} (ha : a < 2 ^ 31) (hb : b < 2 ^ 31) : v_max (nI a) (nI b) = nI (max a b) := by
  unfold v_max
  by_cases h : a < b
  · rw [if_pos ((nI_ltI ha hb).mpr h), show max a b = b by omega]
  · rw [if_neg (fun z => h ((nI_ltI ha hb).mp z)), show max a b = a by omega]
theorem ix15 : am_ix 15 = 15 := by decide +kernel
theorem ix8 : am_ix 8 = 8 := by decide +kernel
theorem ix9 : am_ix 9 = 9 := by decide +kernel
theorem ix10 : am_ix 10 = 10 := by decide +kernel
theorem ix11 : am_ix 11 = 11 := by decide +kernel
theorem ix12 : am_ix 12 = 12 := by decide +kernel
theorem ix13 : am_ix 13 = 13 := by decide +kernel
theorem ix14 : am_ix 14 = 14 := by decide +kernel
theorem b01_n0 {b : Bool} (h : b = true) : ¬ b01 b = 0 := fun z => by rw [b01_0, h] at z; cases z
/-- how many trips are under way when k goes -/
def uw (T : Nat → Int32) (n k : Nat) : Nat := if isr T k = true then cn (fun j => isr T j && (Nat.ble (Dp T j) (Dp T k) && Nat.blt (Dp T k) (Ar T j))) n else 0
theorem of_ix {k w : Nat} (hk : k < 21) (hw : w < 7) : (16 + 7 * nI k) + nI w = nI (16 + 7 * k + w) := by
  rw [show (16 : Int32) = nI 16 from rfl, show (7 : Int32) = nI 7 from rfl, nI_mul, nI_add, nI_add]
theorem sp_tab2 : ∀ a, a < 10 → ∀ b, b < 10 → (if nI a - nI b < 0 then (0 : Int32) else nI a - nI b) = nI (a - b) := by decide +kernel
section MRD
variable {m : HP} {T : Nat → Int32} {n : Nat}
theorem mm_tr (hT : m.1 1 = T) (hI : Inv T n) : m.1 1 (am_ix 15) = nI n := by rw [ix15, hT, hI.t15]
theorem mm_s0 (hT : m.1 1 = T) (hI : Inv T n) : m.1 1 (am_ix 8) = nI (nT T 8) := by rw [ix8, hT, hI.s0.1]
theorem mm_s1 (hT : m.1 1 = T) (hI : Inv T n) : m.1 1 (am_ix 9) = nI (nT T 9) := by rw [ix9, hT, hI.s1.1]
theorem mm_lt (hT : m.1 1 = T) (hI : Inv T n) {j : Nat} (hj : j < n) : nI j < m.1 1 (am_ix 15) := by
  have := hI.n20
  rw [mm_tr hT hI, nI_ltI (by omega) (by omega)]; exact hj
theorem mm_nlt (hT : m.1 1 = T) (hI : Inv T n) : ¬ nI n < m.1 1 (am_ix 15) := by
  have := hI.n20
  rw [mm_tr hT hI, nI_ltI (by omega) (by omega)]; omega
theorem mm_ps (hT : m.1 1 = T) (hI : Inv T n) {j : Nat} (hj : j ≤ n) {A : Prop} (h : j < n → A) : (nI j < m.1 1 (am_ix 15) → A) ∧ (¬ nI j < m.1 1 (am_ix 15) → True) := by
  have := hI.n20
  refine ⟨fun z => h ?_, fun _ => trivial⟩
  rw [mm_tr hT hI, nI_ltI (by omega) (by omega)] at z; exact z
theorem uw_le (hT : m.1 1 = T) (hI : Inv T n) {k : Nat} : uw T n k ≤ 20 := by
  have := hI.n20
  unfold uw
  split
  · have := cn_le (fun j => isr T j && (Nat.ble (Dp T j) (Dp T k) && Nat.blt (Dp T k) (Ar T j))) n; omega
  · omega
end MRD
/-! the same of the class -/
section CMX
variable {h : HP} {T : Nat → Int32} {n : Nat}
theorem cc_most (hR : RT h.1 0 T n) (hI : Inv T n) : p_T_mostUnderWay h ∧ v_T_mostUnderWay h = nI (mx (uw T n) n) := by
  have h20 := hI.n20
  obtain ⟨a, b⟩ := itr_for (step := s_T_mostUnderWay_4 h) (pst := ps_T_mostUnderWay_4 h) (fun j => (nI (mx (uw T n) j), nI j)) n (nI (mx (uw T n) n), nI n) (by omega)
    (fun j hj => by
      have h2 : mx (uw T n) j ≤ 20 := mx_le (fun k _ => uw_le (m := (fun _ => T, h.2)) rfl hI)
      have h3 := (hI.dpL hj)
      show (if nI j < h.1 0 11 then Sum.inl ((if v_T_isRun h (nI j) = 0 then nI (mx (uw T n) j) else v_max (nI (mx (uw T n) j)) (v_T_underWayAt h (v_at 20 (h.1 4) (nI j)))), nI j + 1) else _) = _
      rw [if_pos (cc_lt hR hI hj), cc_isRun hR hI hj, cc_dep hR hI hj, (cc_under hR hI (by omega)).2, nI_1]
      show _ = Sum.inl (nI (max (mx (uw T n) j) (uw T n j)), nI (j + 1))
      rw [uw]
      cases isr T j with
      | false => rw [if_pos b01_f, if_neg ff, show max (mx (uw T n) j) 0 = mx (uw T n) j by omega]
      | true =>
        have h4 := cn_le (fun i => isr T i && (Nat.ble (Dp T i) (Dp T j) && Nat.blt (Dp T j) (Ar T i))) n
        rw [if_neg b01_t, if_pos tr, vmax_nI (by omega) (by omega)])
    (by
      show (if nI n < h.1 0 11 then _ else _) = _
      rw [if_neg (cc_nlt hR hI)])
    (fun j hj => ⟨fun z => ⟨fun _ => trivial, fun _ => by
      have z' : nI j < h.1 0 11 := z
      rw [hR.nn, nI_ltI (by omega) (by omega)] at z'
      have h3 := hI.dpL z'
      show p_T_underWayAt h (v_at 20 (h.1 4) (nI j))
      rw [cc_dep hR hI z']
      exact (cc_under hR hI (by omega)).1⟩, fun _ => trivial⟩)
  exact ⟨a, by rw [v_T_mostUnderWay]; rw [show ((0, 0) : Int32 × Int32) = (nI (mx (uw T n) 0), nI 0) from rfl, b]⟩
/-- the block's first trip, of any number -/
theorem cc_headOf (hR : RT h.1 0 T n) (hI : Inv T n) (x : Int32) : p_T_headOf h x ∧ ((∃ k, k < n ∧ hd T n k = true ∧ x = nI (cn (hd T n) k) ∧ v_T_headOf h x = nI k) ∨ ((∀ k, k < n → hd T n k = true → ¬ x = nI (cn (hd T n) k)) ∧ v_T_headOf h x = -1)) := by
  have h20 := hI.n20
  obtain ⟨a, r, b, c⟩ := itr_invN (step := s_T_headOf_4 h x) (pst := ps_T_headOf_4 h x) (fun v => ∃ j, j ≤ n ∧ v = (nI (cn (hd T n) j), nI j) ∧ ∀ k, k < j → hd T n k = true → ¬ x = nI (cn (hd T n) k)) (fun v => n - am_ix v.2)
    (fun r => (∃ k, k < n ∧ hd T n k = true ∧ x = nI (cn (hd T n) k) ∧ r = .inr (nI k)) ∨ ((∀ k, k < n → hd T n k = true → ¬ x = nI (cn (hd T n) k)) ∧ ∃ q, r = .inl q)) (0, 0)
    (by show n - am_ix 0 < _; omega) ⟨0, Nat.zero_le _, rfl, fun k hk => absurd hk (Nat.not_lt_zero _)⟩
    (fun v hv => by
      obtain ⟨j, hj, rfl, hx⟩ := hv
      refine ⟨trivial, ?_⟩
      by_cases e : j < n
      · have hs : s_T_headOf_4 h x (nI (cn (hd T n) j), nI j) = (if v_T_isHead h (nI j) = 0 then .inl (nI (cn (hd T n) j), nI j + 1) else (if nI (cn (hd T n) j) = x then .inr (.inr (nI j)) else .inl (nI (cn (hd T n) j) + 1, nI j + 1))) := by
          show (if nI j < h.1 0 11 then _ else _) = _
          rw [if_pos (cc_lt hR hI e)]
        rw [hs, cc_isHead hR hI e, nI_1]
        have hm : n - am_ix (nI (j + 1)) < n - am_ix (nI j) := by rw [nI_ix (by omega), nI_ix (by omega)]; omega
        cases e2 : hd T n j with
        | false =>
          rw [if_pos b01_f]
          refine Or.inl ⟨_, rfl, ⟨j + 1, e, ?_, fun k hk hh => ?_⟩, hm⟩
          · rw [cn, e2, if_neg ff]; rfl
          · by_cases e3 : k = j
            · subst e3; rw [e2] at hh; cases hh
            · exact hx k (by omega) hh
        | true =>
          rw [if_neg b01_t]
          by_cases e3 : nI (cn (hd T n) j) = x
          · rw [if_pos e3]
            exact Or.inr ⟨_, rfl, Or.inl ⟨j, e, e2, e3.symm, rfl⟩⟩
          · rw [if_neg e3, nI_1]
            refine Or.inl ⟨_, rfl, ⟨j + 1, e, ?_, fun k hk hh => ?_⟩, hm⟩
            · rw [cn, if_pos e2]
            · by_cases e4 : k = j
              · subst e4; exact fun z => e3 z.symm
              · exact hx k (by omega) hh
      · have e4 : j = n := by omega
        subst e4
        refine Or.inr ⟨.inl (nI (cn (hd T j) j), nI j), ?_, Or.inr ⟨hx, _, rfl⟩⟩
        show (if nI j < h.1 0 11 then _ else _) = _
        rw [if_neg (cc_nlt hR hI)])
  refine ⟨a, ?_⟩
  rw [v_T_headOf, b]
  rcases c with ⟨k, h1, h2, h3, rfl⟩ | ⟨h1, q, rfl⟩
  · exact Or.inl ⟨k, h1, h2, h3, rfl⟩
  · exact Or.inr ⟨h1, rfl⟩
end CMX
