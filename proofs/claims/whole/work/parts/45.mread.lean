/-! PURE: what the model's small methods answer, told of the row. -/
theorem nth_uniq {p : Nat → Bool} {k k' : Nat} (h : p k = true) (h' : p k' = true) (e : cn p k = cn p k') : k = k' := by
  have key : ∀ a b, p a = true → a < b → cn p a < cn p b := by
    intro a b ha hab
    induction b with
    | zero => omega
    | succ b ih =>
      rw [cn]
      by_cases hb : a = b
      · subst hb; rw [if_pos ha]; omega
      · have := ih (by omega); split <;> omega
  rcases Nat.lt_trichotomy k k' with h1 | h1 | h1
  · have := key k k' h h1; omega
  · exact h1
  · have := key k' k h' h1; omega
theorem nth_ex {p : Nat → Bool} {b : Nat} : ∀ {n : Nat}, b < cn p n → ∃ k, k < n ∧ p k = true ∧ cn p k = b
  | 0, h => absurd h (Nat.not_lt_zero _)
  | n + 1, h => by
    rw [cn] at h
    by_cases h1 : b < cn p n
    · obtain ⟨k, a, c⟩ := nth_ex h1
      exact ⟨k, by omega, c⟩
    · cases hp : p n with
      | true => rw [hp] at h; simp at h; exact ⟨n, by omega, hp, by omega⟩
      | false => rw [hp] at h; simp at h; omega
/-- the greatest, at least 0 -/
def mx (f : Nat → Nat) : Nat → Nat
  | 0 => 0
  | n + 1 => max (mx f n) (f n)
theorem mx_congr {f g : Nat → Nat} : ∀ {n : Nat}, (∀ k, k < n → f k = g k) → mx f n = mx g n
  | 0, _ => rfl
  | n + 1, h => by rw [mx, mx, mx_congr (fun k hk => h k (by omega)), h n (by omega)]
theorem mx_le {f : Nat → Nat} {b : Nat} : ∀ {n : Nat}, (∀ k, k < n → f k ≤ b) → mx f n ≤ b
  | 0, _ => Nat.zero_le _
  | n + 1, h => by have := mx_le (f := f) (n := n) (fun k hk => h k (by omega)); have := h n (by omega); rw [mx]; omega
theorem vmax_nI {a b : Nat} (ha : a < 2 ^ 31) (hb : b < 2 ^ 31) : v_max (nI a) (nI b) = nI (max a b) := by
  unfold v_max
  by_cases h : a < b
  · rw [if_pos ((nI_ltI ha hb).mpr h), show max a b = b by omega]
  · rw [if_neg (fun z => h ((nI_ltI ha hb).mp z)), show max a b = a by omega]
theorem ix15 : am_ix 15 = 15 := by decide +kernel
theorem ix8 : am_ix 8 = 8 := by decide +kernel
theorem ix9 : am_ix 9 = 9 := by decide +kernel
theorem ix10 : am_ix 10 = 10 := by decide +kernel
theorem ix11 : am_ix 11 = 11 := by decide +kernel
theorem ix12 : am_ix 12 = 12 := by decide +kernel
theorem ix13 : am_ix 13 = 13 := by decide +kernel
theorem ix14 : am_ix 14 = 14 := by decide +kernel
theorem b01_n0 {b : Bool} (h : b = true) : ¬ b01 b = 0 := fun z => by rw [b01_0, h] at z; cases z
/-- how many trips are under way when k goes -/
def uw (T : Nat → Int32) (n k : Nat) : Nat := if isr T k = true then cn (fun j => isr T j && (Nat.ble (Dp T j) (Dp T k) && Nat.blt (Dp T k) (Ar T j))) n else 0
theorem of_ix {k w : Nat} (hk : k < 21) (hw : w < 7) : (16 + 7 * nI k) + nI w = nI (16 + 7 * k + w) := by
  rw [show (16 : Int32) = nI 16 from rfl, show (7 : Int32) = nI 7 from rfl, nI_mul, nI_add, nI_add]
theorem pm_of (m : HP) {k w : Nat} (hk : k < 21) (hw : w < 7) : p_M_of m (nI k) (nI w) := by
  rw [p_M_of, of_ix hk hw]; exact nI_am (by omega) (by omega)
theorem vm_of (m : HP) {k w : Nat} (hk : k < 21) (hw : w < 7) : v_M_of m (nI k) (nI w) = m.1 1 (16 + 7 * k + w) := by
  rw [v_M_of, of_ix hk hw, nI_ix (by omega)]
theorem vm_becomes (m : HP) {k w : Nat} (hk : k < 21) (hw : w < 7) (x : Int32) : v_M_becomes m (nI k) (nI w) x = am_si m 1 (16 + 7 * k + w) x := by
  rw [v_M_becomes, of_ix hk hw, nI_ix (by omega)]
theorem pm_becomes (m : HP) {k w : Nat} (hk : k < 21) (hw : w < 7) (x : Int32) : p_M_becomes m (nI k) (nI w) x := by
  rw [p_M_becomes, of_ix hk hw]; exact nI_am (by omega) (by omega)
theorem sp_tab2 : ∀ a, a < 10 → ∀ b, b < 10 → (if nI a - nI b < 0 then (0 : Int32) else nI a - nI b) = nI (a - b) := by decide +kernel
section MRD
variable {m : HP} {T : Nat → Int32} {n : Nat}
theorem mm_fld (hT : m.1 1 = T) (hI : Inv T n) {k w : Nat} (hk : k < n) (hw : w < 7) : p_M_of m (nI k) (nI w) ∧ v_M_of m (nI k) (nI w) = T (16 + 7 * k + w) := by
  have := hI.lt hk
  exact ⟨pm_of m (by omega) hw, by rw [vm_of m (by omega) hw, hT]⟩
theorem mm_rt (hT : m.1 1 = T) (hI : Inv T n) {k : Nat} (hk : k < n) : p_M_of m (nI k) 0 ∧ v_M_of m (nI k) 0 = nI (Rt T k) := by
  have h := mm_fld hT hI hk (w := 0) (by omega)
  rw [(hI.rt hk).1] at h
  exact h
theorem mm_fr (hT : m.1 1 = T) (hI : Inv T n) {k : Nat} (hk : k < n) : p_M_of m (nI k) 1 ∧ v_M_of m (nI k) 1 = nI (Fr T k) := by
  have h := mm_fld hT hI hk (w := 1) (by omega)
  rw [(hI.fr hk).1] at h
  exact h
theorem mm_go (hT : m.1 1 = T) (hI : Inv T n) {k : Nat} (hk : k < n) : p_M_of m (nI k) 2 ∧ v_M_of m (nI k) 2 = nI (Go T k) := by
  have h := mm_fld hT hI hk (w := 2) (by omega)
  rw [(hI.go hk).1] at h
  exact h
theorem mm_dp (hT : m.1 1 = T) (hI : Inv T n) {k : Nat} (hk : k < n) : p_M_of m (nI k) 3 ∧ v_M_of m (nI k) 3 = nI (Dp T k) := by
  have h := mm_fld hT hI hk (w := 3) (by omega)
  rw [(hI.dp hk).1] at h
  exact h
theorem mm_ln (hT : m.1 1 = T) (hI : Inv T n) {k : Nat} (hk : k < n) : p_M_of m (nI k) 4 ∧ v_M_of m (nI k) 4 = nI (Ln T k) := by
  have h := mm_fld hT hI hk (w := 4) (by omega)
  rw [(hI.ln hk).1] at h
  exact h
theorem mm_lo (hT : m.1 1 = T) (hI : Inv T n) {k : Nat} (hk : k < n) : p_M_of m (nI k) 5 ∧ v_M_of m (nI k) 5 = nI (Lo T k) := by
  have h := mm_fld hT hI hk (w := 5) (by omega)
  rw [(hI.lo hk).1] at h
  exact h
theorem mm_next (hT : m.1 1 = T) (hI : Inv T n) {k : Nat} (hk : k < n) : p_M_next m (nI k) ∧ v_M_next m (nI k) = eo (nx T k) := by
  have h := mm_fld hT hI hk (w := 6) (by omega)
  rw [hI.nxe hk] at h
  exact h
theorem mm_isRun (hT : m.1 1 = T) (hI : Inv T n) {k : Nat} (hk : k < n) : p_M_isRun m (nI k) ∧ v_M_isRun m (nI k) = b01 (isr T k) := by
  obtain ⟨a, b⟩ := mm_lo hT hI hk
  refine ⟨a, ?_⟩
  rw [v_M_isRun, b]
  exact if_b _ (by rw [nI_z ((hI.lo hk).lt (by omega))]; exact beq_iff.symm)
theorem mm_arr (hT : m.1 1 = T) (hI : Inv T n) {k : Nat} (hk : k < n) : p_M_arrival m (nI k) ∧ v_M_arrival m (nI k) = nI (Ar T k) := by
  obtain ⟨a, b⟩ := mm_dp hT hI hk
  obtain ⟨c, d⟩ := mm_ln hT hI hk
  exact ⟨⟨a, c⟩, by rw [v_M_arrival, b, d, nI_add]⟩
theorem mm_rdy (hT : m.1 1 = T) (hI : Inv T n) {k : Nat} (hk : k < n) : p_M_ready m (nI k) ∧ v_M_ready m (nI k) = nI (Ar T k + nT T (Go T k)) := by
  obtain ⟨a, b⟩ := mm_arr hT hI hk
  obtain ⟨c, d⟩ := mm_go hT hI hk
  have hg := (hI.goL hk)
  have e : (0 : Int32) + nI (Go T k) = nI (Go T k) := by rw [Int32.zero_add]
  refine ⟨⟨a, c, ?_⟩, ?_⟩
  · rw [d, e]; exact nI_am (by omega) (by omega)
  · rw [v_M_ready, b, d, e, nI_ix (by omega), hT, (hI.lay (i := Go T k) (by omega)).1, nI_add]
theorem mm_tr (hT : m.1 1 = T) (hI : Inv T n) : m.1 1 (am_ix 15) = nI n := by rw [ix15, hT, hI.t15]
theorem mm_s0 (hT : m.1 1 = T) (hI : Inv T n) : m.1 1 (am_ix 8) = nI (nT T 8) := by rw [ix8, hT, hI.s0.1]
theorem mm_s1 (hT : m.1 1 = T) (hI : Inv T n) : m.1 1 (am_ix 9) = nI (nT T 9) := by rw [ix9, hT, hI.s1.1]
theorem mm_lt (hT : m.1 1 = T) (hI : Inv T n) {j : Nat} (hj : j < n) : nI j < m.1 1 (am_ix 15) := by
  have := hI.n20
  rw [mm_tr hT hI, nI_ltI (by omega) (by omega)]; exact hj
theorem mm_nlt (hT : m.1 1 = T) (hI : Inv T n) : ¬ nI n < m.1 1 (am_ix 15) := by
  have := hI.n20
  rw [mm_tr hT hI, nI_ltI (by omega) (by omega)]; omega
theorem mm_ps (hT : m.1 1 = T) (hI : Inv T n) {j : Nat} (hj : j ≤ n) {A : Prop} (h : j < n → A) : (nI j < m.1 1 (am_ix 15) → A) ∧ (¬ nI j < m.1 1 (am_ix 15) → True) := by
  have := hI.n20
  refine ⟨fun z => h ?_, fun _ => trivial⟩
  rw [mm_tr hT hI, nI_ltI (by omega) (by omega)] at z; exact z
theorem mm_before (hT : m.1 1 = T) (hI : Inv T n) {k : Nat} (hk : k < 1000) : p_M_before m (nI k) ∧ v_M_before m (nI k) = eo (bfo T k n) := by
  have h20 := hI.n20
  obtain ⟨a, b⟩ := itr_for (step := s_M_before_4 m (nI k)) (pst := ps_M_before_4 m (nI k)) (fun j => (eo (bfo T k j), nI j)) n (eo (bfo T k n), nI n) (by omega)
    (fun j hj => by
      show (if nI j < m.1 1 (am_ix 15) then _ else _) = _
      rw [if_pos (mm_lt hT hI hj), (mm_next hT hI hj).2, nI_1, bfo]
      by_cases e : nx T j = some k
      · rw [if_pos (by rw [e]; rfl), if_pos e]; rfl
      · rw [if_neg (fun z => ?_), if_neg e]
        cases e2 : nx T j with
        | none => rw [e2] at z; exact absurd z (nI_m1' (by omega))
        | some i =>
          rw [e2] at z
          have := hI.nxlt hj i e2
          exact e (by rw [e2, nI_inj (by omega) (by omega) z]))
    (by
      show (if nI n < m.1 1 (am_ix 15) then _ else _) = _
      rw [if_neg (mm_nlt hT hI)])
    (fun j hj => mm_ps hT hI hj (fun h => (mm_next hT hI h).1))
  exact ⟨a, by rw [v_M_before]; rw [show ((-1, 0) : Int32 × Int32) = (eo (bfo T k 0), nI 0) from rfl, b]⟩
theorem mm_reason (hT : m.1 1 = T) (hI : Inv T n) {a b : Nat} (ha : a < n) (hb : b < n) : p_M_reason m (nI a) (nI b) ∧ v_M_reason m (nI a) (nI b) = nI (rsn T n a b) := by
  have h20 := hI.n20
  have hg := (hI.goL hb)
  have h1 := (hI.dpL ha)
  have h2 := (hI.dpL hb)
  have h3 := (hI.lnL hb)
  have h4 := (hI.lay (i := Go T b) (by omega)).2
  refine ⟨⟨(mm_isRun hT hI ha).1, fun _ => trivial, fun _ => ⟨(mm_isRun hT hI hb).1, fun _ => trivial, fun _ => ⟨(mm_next hT hI hb).1, fun _ => ⟨(mm_before hT hI (by omega)).1, fun _ => ⟨(mm_fr hT hI ha).1, (mm_go hT hI hb).1, fun _ => ⟨(mm_dp hT hI ha).1, (mm_rdy hT hI hb).1, fun _ => trivial, fun _ => ⟨(mm_rt hT hI ha).1, (mm_rt hT hI hb).1⟩⟩, fun _ => trivial⟩, fun _ => trivial⟩, fun _ => trivial⟩⟩⟩, ?_⟩
  rw [v_M_reason, (mm_isRun hT hI ha).2, (mm_isRun hT hI hb).2, (mm_next hT hI hb).2, (mm_before hT hI (by omega)).2, (mm_fr hT hI ha).2, (mm_go hT hI hb).2, (mm_dp hT hI ha).2, (mm_rdy hT hI hb).2, mm_s0 hT hI, (mm_rt hT hI ha).2, (mm_rt hT hI hb).2, rsn]
  cases e1 : isr T a with
  | false => rfl
  | true =>
    cases e2 : isr T b with
    | false => rfl
    | true =>
      rw [if_neg b01_t, if_neg b01_t, if_neg (show ¬ (true = false ∨ true = false) by decide)]
      cases e3 : nx T b with
      | some j =>
        have := (hI.nxs hb e3).1; have := hI.n20
        rw [if_neg (show ¬ eo (some j) = -1 from nI_m1 (by omega))]; exact congrArg nI (if_pos (Or.inl rfl)).symm
      | none =>
        rw [if_pos (show eo none = -1 from rfl)]
        cases e4 : bfo T a n with
        | some j =>
          have := hI.bflt j e4
          rw [if_neg (show ¬ eo (some j) = -1 from nI_m1 (by omega))]; exact congrArg nI (if_pos (Or.inr rfl)).symm
        | none =>
          rw [if_pos (show eo none = -1 from rfl), if_neg (show ¬ ((none : Option Nat).isSome = true ∨ (none : Option Nat).isSome = true) by decide)]
          have h5 := (hI.frL ha)
          have k1 : Ar T b + nT T (Go T b) < 2 ^ 31 := by show Dp T b + Ln T b + nT T (Go T b) < _; omega
          by_cases e5 : Fr T a = Go T b
          · rw [if_pos (show nI (Fr T a) = nI (Go T b) by rw [e5]), if_neg (show ¬ ¬ Fr T a = Go T b from fun z => z e5)]
            by_cases e6 : Dp T a < Ar T b + nT T (Go T b)
            · rw [if_pos (show nI (Dp T a) < nI (Ar T b + nT T (Go T b)) from (nI_ltI (by omega) k1).mpr e6)]; exact congrArg nI (if_pos e6).symm
            · rw [if_neg (show ¬ nI (Dp T a) < nI (Ar T b + nT T (Go T b)) from fun z => e6 ((nI_ltI (by omega) k1).mp z)), if_neg e6]
              have h6 := hI.s0.2
              have h7 := (hI.rtL ha)
              have h8 := (hI.rtL hb)
              by_cases e8 : Rt T a = Rt T b
              · rw [if_pos (show nI (Rt T a) = nI (Rt T b) by rw [e8])]; exact congrArg nI (if_neg (fun z => z.2 e8)).symm
              · rw [if_neg (show ¬ nI (Rt T a) = nI (Rt T b) from fun z => e8 (nI_inj (by omega) (by omega) z))]
                by_cases e7 : nT T 8 = 0
                · rw [if_pos (show nI (nT T 8) = 0 from (nI_z (by omega)).mpr e7)]; exact congrArg nI (if_pos ⟨e7, e8⟩).symm
                · rw [if_neg (show ¬ nI (nT T 8) = 0 from fun z => e7 ((nI_z (by omega)).mp z))]; exact congrArg nI (if_neg (fun z => e7 z.1)).symm
          · rw [if_neg (show ¬ nI (Fr T a) = nI (Go T b) from fun z => e5 (nI_inj (by omega) (by omega) z))]; exact congrArg nI (if_pos e5).symm
theorem mm_isFirst (hT : m.1 1 = T) (hI : Inv T n) {k : Nat} (hk : k < n) : p_M_isFirst m (nI k) ∧ v_M_isFirst m (nI k) = b01 (hd T n k) := by
  have h20 := hI.n20
  obtain ⟨a, b⟩ := mm_isRun hT hI hk
  obtain ⟨c, d⟩ := mm_before hT hI (k := k) (by omega)
  refine ⟨⟨a, fun _ => trivial, fun _ => c⟩, ?_⟩
  rw [v_M_isFirst, b, d, hd]
  cases isr T k with
  | false => rfl
  | true =>
    rw [if_neg b01_t]
    exact if_b _ (by rw [eo_m1 hI.bflt]; cases bfo T k n <;> simp)
theorem mm_blocks (hT : m.1 1 = T) (hI : Inv T n) : p_M_blocks m ∧ v_M_blocks m = nI (cn (hd T n) n) := by
  obtain ⟨a, b⟩ := cnt_loop (step := s_M_blocks_4 m) (pst := ps_M_blocks_4 m) (n := n) (by have := hI.n20; omega) (hd T n)
    (fun j hj a => by
      show (if nI j < m.1 1 (am_ix 15) then _ else _) = _
      rw [if_pos (mm_lt hT hI hj), (mm_isFirst hT hI hj).2, b01_if, nI_1])
    (fun a => by
      show (if nI n < m.1 1 (am_ix 15) then _ else _) = _
      rw [if_neg (mm_nlt hT hI)]) (fun j hj a => mm_ps hT hI hj (fun h => (mm_isFirst hT hI h).1))
  exact ⟨a, by rw [v_M_blocks, b]⟩
theorem mm_firstOf (hT : m.1 1 = T) (hI : Inv T n) {k : Nat} (hk : k < n) (hh : hd T n k = true) : p_M_firstOf m (nI (cn (hd T n) k)) ∧ v_M_firstOf m (nI (cn (hd T n) k)) = nI k := by
  have h20 := hI.n20
  have hle : ∀ j, j ≤ k → cn (hd T n) j ≤ cn (hd T n) k := by
    intro j hj
    induction k with
    | zero => rw [show j = 0 by omega]; exact Nat.le_refl _
    | succ k ih =>
      by_cases e : j = k + 1
      · subst e; exact Nat.le_refl _
      · have : cn (hd T n) j ≤ cn (hd T n) k := by
          clear ih hh hk
          induction k with
          | zero => rw [show j = 0 by omega]; exact Nat.le_refl _
          | succ k ih2 =>
            by_cases e : j = k + 1
            · subst e; exact Nat.le_refl _
            · have := ih2 (by omega) (by omega); rw [cn]; omega
        rw [cn]; omega
  have hc : cn (hd T n) k ≤ k := cn_le _ _
  obtain ⟨a, b⟩ := itr_for (step := s_M_firstOf_4 m (nI (cn (hd T n) k))) (pst := ps_M_firstOf_4 m (nI (cn (hd T n) k))) (fun j => (nI j, nI (cn (hd T n) k - cn (hd T n) j))) k (nI k, nI 0) (by omega)
    (fun j hj => by
      have h1 := hle (j + 1) (by omega)
      rw [cn] at h1
      show (if v_M_isFirst m (nI j) = 0 then Sum.inl (nI j + 1, nI (cn (hd T n) k - cn (hd T n) j) - (if v_M_isFirst m (nI j) = 0 then (0 : Int32) else 1)) else (if nI (cn (hd T n) k - cn (hd T n) j) ≤ 0 then _ else Sum.inl (nI j + 1, nI (cn (hd T n) k - cn (hd T n) j) - (if v_M_isFirst m (nI j) = 0 then (0 : Int32) else 1)))) = _
      rw [(mm_isFirst hT hI (by omega)).2, b01_if, nI_1]
      show _ = Sum.inl (nI (j + 1), nI (cn (hd T n) k - (cn (hd T n) j + if hd T n j = true then 1 else 0)))
      cases e : hd T n j with
      | false => rw [if_pos b01_f, if_neg ff, Nat.add_zero]; congr 2; exact Int32.sub_zero _
      | true =>
        rw [e, if_pos tr] at h1
        rw [if_neg b01_t, if_pos tr, if_neg (nI_nle (by omega) (by omega)), Nat.sub_add_eq]
        congr 2
        exact nI_sub (b := 1) (by omega))
    (by
      show (if v_M_isFirst m (nI k) = 0 then _ else (if nI (cn (hd T n) k - cn (hd T n) k) ≤ 0 then _ else _)) = _
      rw [(mm_isFirst hT hI hk).2, hh, if_neg b01_t, Nat.sub_self, if_pos (by decide +kernel)])
    (fun j hj => ⟨(mm_isFirst hT hI (by omega)).1, fun _ => (mm_isFirst hT hI (by omega)).1, fun _ => ⟨fun _ => trivial, fun _ => (mm_isFirst hT hI (by omega)).1⟩⟩)
  have e0 : ((0 : Int32), nI (cn (hd T n) k)) = (nI 0, nI (cn (hd T n) k - cn (hd T n) 0)) := rfl
  refine ⟨?_, ?_⟩
  · rw [p_M_firstOf, e0]; exact a
  · rw [v_M_firstOf, e0, b]
theorem mm_last (hT : m.1 1 = T) (hI : Inv T n) {k : Nat} (hk : k < n) : p_M_lastOf m (nI k) ∧ v_M_lastOf m (nI k) = nI (lastc (nx T) k) := by
  have h20 := hI.n20
  obtain ⟨a, b, -⟩ := chain_all hI.fw (step := s_M_lastOf_2 m (nI k)) (pst := ps_M_lastOf_2 m (nI k)) (fun (a : Nat) _ _ => nI a) (fun a o => a < n ∧ o = nx T a) (fun _ j => j) (fun a _ => nI a)
    (fun a c j hP hj hc => by
      obtain ⟨h1, h2⟩ := hP
      refine ⟨?_, hj, rfl⟩
      show (if v_M_next m (nI a) = -1 then _ else Sum.inl (v_M_next m (nI a))) = _
      rw [(mm_next hT hI h1).2, ← h2, if_neg (show ¬ eo (some j) = -1 from nI_m1 (by omega))]
      rfl)
    (fun a c hP hc => by
      obtain ⟨h1, h2⟩ := hP
      show (if v_M_next m (nI a) = -1 then _ else _) = _
      rw [(mm_next hT hI h1).2, ← h2, if_pos (show eo none = -1 from rfl)])
    (fun a c o hP _ _ => ⟨(mm_next hT hI hP.1).1, fun _ => trivial, fun _ => (mm_next hT hI hP.1).1⟩) (nx T k) k ⟨hk, rfl⟩ (hI.onx hk)
  exact ⟨a, by rw [v_M_lastOf, b]; rfl⟩
theorem mm_firstAhead (hT : m.1 1 = T) (hI : Inv T n) {k : Nat} (hk : k < n) : p_M_firstAhead m (nI k) ∧ v_M_firstAhead m (nI k) = nI (lastc (bf T n) k) := by
  have h20 := hI.n20
  obtain ⟨a, b, -⟩ := chain_all hI.bw (step := s_M_firstAhead_8 m (nI k)) (pst := ps_M_firstAhead_8 m (nI k)) (fun (a : Nat) _ o => (nI a, eo o)) (fun a o => a < n ∧ okO n o) (fun _ j => j) (fun a _ => (nI a, eo none))
    (fun a c j hP hj hc => by
      refine ⟨?_, hj, hI.obf⟩
      show (if nI j = -1 then _ else Sum.inl (nI j, v_M_before m (nI j))) = _
      rw [if_neg (nI_m1 (by omega)), (mm_before hT hI (by omega)).2]
      rfl)
    (fun a c hP hc => rfl)
    (fun a c o hP ho _ => ⟨fun _ => trivial, fun z => by
      cases o with
      | none => exact absurd rfl z
      | some j => have := ho j rfl; exact (mm_before hT hI (by omega)).1⟩) (bf T n k) k ⟨hk, hI.obf⟩ hI.obf
  have hb := mm_before hT hI (k := k) (by omega)
  refine ⟨⟨hb.1, ?_⟩, ?_⟩
  · rw [hb.2]; exact a
  · rw [v_M_firstAhead, hb.2]
    show (match itr (s_M_firstAhead_8 m (nI k)) NF (nI k, eo (bf T n k)) with | some r1 => r1.1 | none => 0) = _
    rw [b]; rfl
theorem mm_blockOfTrip (hT : m.1 1 = T) (hI : Inv T n) {k : Nat} (hk : k < n) : p_M_blockOfTrip m (nI k) ∧ v_M_blockOfTrip m (nI k) = nI (cn (hd T n) (lastc (bf T n) k)) := by
  have h20 := hI.n20
  have hl := (lastc_lt hI.bw hk).1
  obtain ⟨c, d⟩ := mm_firstAhead hT hI hk
  obtain ⟨a, b⟩ := cnt_loop (step := s_M_blockOfTrip_11 m (nI k)) (pst := ps_M_blockOfTrip_11 m (nI k)) (n := lastc (bf T n) k) (by omega) (hd T n)
    (fun j hj a => by
      show (if nI j < v_M_firstAhead m (nI k) then _ else _) = _
      rw [d, if_pos (nI_lt hj (by omega)), (mm_isFirst hT hI (by omega)).2, b01_if, nI_1])
    (fun a => by
      show (if nI (lastc (bf T n) k) < v_M_firstAhead m (nI k) then _ else _) = _
      rw [d, if_neg (nI_nlt (Nat.le_refl _) (by omega))]) (fun j hj a => ⟨fun z => (mm_isFirst hT hI (by
        have z' : nI j < v_M_firstAhead m (nI k) := z
        rw [d, nI_ltI (by omega) (by omega)] at z'; omega)).1, fun _ => trivial⟩)
  exact ⟨⟨c, a⟩, by rw [v_M_blockOfTrip, b]⟩
theorem mm_trips (hT : m.1 1 = T) (hI : Inv T n) {k : Nat} (hk : k < n) : p_M_tripsFrom m (nI k) ∧ v_M_tripsFrom m (nI k) = nI (ch (nx T) k).length := by
  have h20 := hI.n20
  obtain ⟨a, b, -⟩ := chain_all hI.fw (step := s_M_tripsFrom_4 m (nI k)) (pst := ps_M_tripsFrom_4 m (nI k)) (fun (_ : Unit) c o => (nI c, eo o)) (fun _ o => okO n o) (fun _ _ => ()) (fun _ c => (nI c, eo none))
    (fun a c j hP hj hc => by
      refine ⟨?_, hI.onx hj⟩
      show (if nI j = -1 then _ else Sum.inl (nI c + 1, v_M_next m (nI j))) = _
      rw [if_neg (nI_m1 (by omega)), (mm_next hT hI hj).2, nI_1])
    (fun a c hP hc => rfl)
    (fun a c o hP ho _ => ⟨fun _ => trivial, fun z => by
      cases o with
      | none => exact absurd rfl z
      | some j => exact (mm_next hT hI (ho j rfl)).1⟩) (some k) () (okO_some hk) (okO_some hk)
  exact ⟨a, by rw [v_M_tripsFrom]; rw [show ((0, nI k) : Int32 × Int32) = (nI 0, eo (some k)) from rfl, b]; rfl⟩
theorem mm_span (hT : m.1 1 = T) (hI : Inv T n) {k : Nat} (hk : k < n) : p_M_span m (nI k) ∧ v_M_span m (nI k) = nI (Ar T (lastc (nx T) k)) - nI (Dp T k) := by
  have hl := (lastc_lt hI.fw hk).1
  obtain ⟨a, b⟩ := mm_last hT hI hk
  refine ⟨⟨a, by rw [b]; exact (mm_arr hT hI hl).1, (mm_dp hT hI hk).1⟩, ?_⟩
  rw [v_M_span, b, (mm_arr hT hI hl).2, (mm_dp hT hI hk).2]
theorem mm_driven (hT : m.1 1 = T) (hI : Inv T n) {k : Nat} (hk : k < n) : p_M_driven m (nI k) ∧ v_M_driven m (nI k) = nI (drv T (some k)) := by
  have h20 := hI.n20
  obtain ⟨a, b, -⟩ := chain_all hI.fw (step := s_M_driven_4 m (nI k)) (pst := ps_M_driven_4 m (nI k)) (fun (a : Nat) _ o => (nI a, eo o)) (fun _ o => okO n o) (fun a k => a + Ln T k) (fun a _ => (nI a, eo none))
    (fun a c j hP hj hc => by
      refine ⟨?_, hI.onx hj⟩
      show (if nI j = -1 then _ else Sum.inl (nI a + v_M_of m (nI j) 4, v_M_next m (nI j))) = _
      rw [if_neg (nI_m1 (by omega)), (mm_next hT hI hj).2, (mm_ln hT hI hj).2, nI_add])
    (fun a c hP hc => rfl)
    (fun a c o hP ho _ => ⟨fun _ => trivial, fun z => by
      cases o with
      | none => exact absurd rfl z
      | some j => exact ⟨(mm_ln hT hI (ho j rfl)).1, (mm_next hT hI (ho j rfl)).1⟩⟩) (some k) 0 (okO_some hk) (okO_some hk)
  exact ⟨a, by rw [v_M_driven]; rw [show ((0, nI k) : Int32 × Int32) = (nI 0, eo (some k)) from rfl, b]; rfl⟩
theorem mm_changes (hT : m.1 1 = T) (hI : Inv T n) {k : Nat} (hk : k < n) : p_M_changes m (nI k) ∧ v_M_changes m (nI k) = nI (chg T k) := by
  have h20 := hI.n20
  obtain ⟨a, b, -⟩ := chain_all hI.fw (step := s_M_changes_4 m (nI k)) (pst := ps_M_changes_4 m (nI k)) (fun (a : Nat × Nat) _ _ => (nI a.1, nI a.2)) (fun a o => a.2 < n ∧ o = nx T a.2) (fun (a : Nat × Nat) j => (a.1 + (if Rt T a.2 = Rt T j then 0 else 1), j)) (fun a _ => (nI a.1, nI a.2))
    (fun a c j hP hj hc => by
      obtain ⟨h1, h2⟩ := hP
      refine ⟨?_, hj, rfl⟩
      show (if v_M_next m (nI a.2) = -1 then _ else Sum.inl (nI a.1 + (if v_M_of m (nI a.2) 0 = v_M_of m (v_M_next m (nI a.2)) 0 then (0 : Int32) else 1), v_M_next m (nI a.2))) = _
      rw [(mm_next hT hI h1).2, ← h2, if_neg (show ¬ eo (some j) = -1 from nI_m1 (by omega))]
      show Sum.inl (nI a.1 + (if v_M_of m (nI a.2) 0 = v_M_of m (nI j) 0 then (0 : Int32) else 1), nI j) = _
      have e1 := (hI.rtL h1)
      have e2 := (hI.rtL hj)
      rw [(mm_rt hT hI h1).2, (mm_rt hT hI hj).2]
      by_cases e : Rt T a.2 = Rt T j
      · rw [if_pos (by rw [e])]
        show _ = Sum.inl (nI (a.1 + (if Rt T a.2 = Rt T j then 0 else 1)), nI j)
        rw [if_pos e, Int32.add_zero]; rfl
      · rw [if_neg (fun z => e (nI_inj (by omega) (by omega) z))]
        show _ = Sum.inl (nI (a.1 + (if Rt T a.2 = Rt T j then 0 else 1)), nI j)
        rw [if_neg e, nI_1])
    (fun a c hP hc => by
      obtain ⟨h1, h2⟩ := hP
      show (if v_M_next m (nI a.2) = -1 then _ else _) = _
      rw [(mm_next hT hI h1).2, ← h2, if_pos (show eo none = -1 from rfl)])
    (fun a c o hP ho _ => ⟨(mm_next hT hI hP.1).1, fun _ => trivial, fun z => by
      have e := (mm_next hT hI hP.1).2
      refine ⟨(mm_rt hT hI hP.1).1, (mm_next hT hI hP.1).1, ?_, (mm_next hT hI hP.1).1⟩
      have z' : ¬ v_M_next m (nI a.2) = -1 := z
      show p_M_of m (v_M_next m (nI a.2)) 0
      rw [e] at z' ⊢
      cases e2 : nx T a.2 with
      | none => rw [e2] at z'; exact absurd rfl z'
      | some j => exact (mm_rt hT hI (hI.nxs hP.1 e2).1).1⟩) (nx T k) (0, k) ⟨hk, rfl⟩ (hI.onx hk)
  exact ⟨a, by rw [v_M_changes]; rw [show ((0, nI k) : Int32 × Int32) = (nI 0, nI k) from rfl, b]; rfl⟩
theorem mm_spares (hT : m.1 1 = T) (hI : Inv T n) : v_M_spares m = nI (nT T 10 - nT T 12) := by
  have h1 := hI.s2.2
  have h2 := hI.us.2
  rw [v_M_spares, ix10, ix12, hT, hI.s2.1, hI.us.1]
  exact sp_tab2 _ (by omega) _ (by omega)
theorem mm_running (hT : m.1 1 = T) (hI : Inv T n) : p_M_running m ∧ v_M_running m = nI (cn (isr T) n) := by
  obtain ⟨a, b⟩ := cnt_loop (step := s_M_running_4 m) (pst := ps_M_running_4 m) (n := n) (by have := hI.n20; omega) (isr T)
    (fun j hj a => by
      show (if nI j < m.1 1 (am_ix 15) then _ else _) = _
      rw [if_pos (mm_lt hT hI hj), (mm_isRun hT hI hj).2, b01_if, nI_1])
    (fun a => by
      show (if nI n < m.1 1 (am_ix 15) then _ else _) = _
      rw [if_neg (mm_nlt hT hI)]) (fun j hj a => mm_ps hT hI hj (fun h => (mm_isRun hT hI h).1))
  exact ⟨a, by rw [v_M_running, b]⟩
theorem mm_runs1 (hT : m.1 1 = T) (hI : Inv T n) {t : Nat} (ht : t < 4) : p_M_runs m (nI t) 1 ∧ v_M_runs m (nI t) 1 = nI (cn (fun k => isr T k && Nat.beq (Fr T k) t) n) := by
  obtain ⟨a, b⟩ := cnt_loop (step := s_M_runs_5 m (nI t) 1) (pst := ps_M_runs_5 m (nI t) 1) (n := n) (by have := hI.n20; omega) (fun k => isr T k && Nat.beq (Fr T k) t)
    (fun j hj a => by
      show (if nI j < m.1 1 (am_ix 15) then _ else _) = _
      rw [if_pos (mm_lt hT hI hj), (mm_isRun hT hI hj).2, nI_1, (mm_fr hT hI hj).2]
      congr 3
      cases isr T j with
      | false => rfl
      | true => rw [if_neg b01_t]; exact if_b _ (by have := (hI.frL hj); rw [nI_eq (by omega) (by omega)]; exact beq_iff.symm))
    (fun a => by
      show (if nI n < m.1 1 (am_ix 15) then _ else _) = _
      rw [if_neg (mm_nlt hT hI)]) (fun j hj a => mm_ps hT hI hj (fun h => ⟨(mm_isRun hT hI h).1, fun _ => trivial, fun _ => (mm_fr hT hI h).1⟩))
  exact ⟨a, by rw [v_M_runs, b]⟩
theorem mm_runs2 (hT : m.1 1 = T) (hI : Inv T n) {t : Nat} (ht : t < 4) : p_M_runs m (nI t) 2 ∧ v_M_runs m (nI t) 2 = nI (cn (fun k => isr T k && Nat.beq (Go T k) t) n) := by
  obtain ⟨a, b⟩ := cnt_loop (step := s_M_runs_5 m (nI t) 2) (pst := ps_M_runs_5 m (nI t) 2) (n := n) (by have := hI.n20; omega) (fun k => isr T k && Nat.beq (Go T k) t)
    (fun j hj a => by
      show (if nI j < m.1 1 (am_ix 15) then _ else _) = _
      rw [if_pos (mm_lt hT hI hj), (mm_isRun hT hI hj).2, nI_1, (mm_go hT hI hj).2]
      congr 3
      cases isr T j with
      | false => rfl
      | true => rw [if_neg b01_t]; exact if_b _ (by have := (hI.goL hj); rw [nI_eq (by omega) (by omega)]; exact beq_iff.symm))
    (fun a => by
      show (if nI n < m.1 1 (am_ix 15) then _ else _) = _
      rw [if_neg (mm_nlt hT hI)]) (fun j hj a => mm_ps hT hI hj (fun h => ⟨(mm_isRun hT hI h).1, fun _ => trivial, fun _ => (mm_go hT hI h).1⟩))
  exact ⟨a, by rw [v_M_runs, b]⟩
theorem mm_underIn (hT : m.1 1 = T) (hI : Inv T n) {k : Nat} (hk : k < n) (a : Int32) : itrp (s_M_underWay_28 m (a, nI k)) (ps_M_underWay_28 m (a, nI k)) NF (0, 0) ∧ itr (s_M_underWay_28 m (a, nI k)) NF (0, 0) = some (nI (uw T n k), nI n) := by
  have hu : uw T n k = cn (fun j => isr T k && (isr T j && (Nat.ble (Dp T j) (Dp T k) && Nat.blt (Dp T k) (Ar T j)))) n := by
    unfold uw
    cases isr T k with
    | true => rfl
    | false =>
      have : ∀ n, cn (fun _ => false) n = 0 := fun n => by induction n with | zero => rfl | succ n ih => rw [cn, ih]; rfl
      exact (this n).symm
  rw [hu]
  refine cnt_loop (step := s_M_underWay_28 m (a, nI k)) (pst := ps_M_underWay_28 m (a, nI k)) (n := n) (by have := hI.n20; omega) (fun j => isr T k && (isr T j && (Nat.ble (Dp T j) (Dp T k) && Nat.blt (Dp T k) (Ar T j))))
    (fun j hj a => by
      have h0 := (hI.dpL hk)
      have h1 := (hI.dpL hj)
      have h2 := (hI.lnL hj)
      show (if nI j < m.1 1 (am_ix 15) then _ else _) = _
      rw [if_pos (mm_lt hT hI hj), nI_1]
      show Sum.inl (a + (if v_M_isRun m (nI k) = 0 then (0 : Int32) else (if v_M_isRun m (nI j) = 0 then (0 : Int32) else (if v_M_of m (nI j) 3 ≤ v_M_of m (nI k) 3 then (if v_M_of m (nI k) 3 < v_M_arrival m (nI j) then (1 : Int32) else 0) else 0))), nI (j + 1)) = _
      rw [(mm_isRun hT hI hk).2, (mm_isRun hT hI hj).2, (mm_dp hT hI hj).2, (mm_dp hT hI hk).2, (mm_arr hT hI hj).2]
      congr 3
      cases isr T k with
      | false => rfl
      | true =>
        cases isr T j with
        | false => rfl
        | true =>
          rw [if_neg b01_t, if_neg b01_t]
          cases e : Nat.ble (Dp T j) (Dp T k) with
          | false => rw [if_neg (fun z => by rw [nI_leI (by omega) (by omega)] at z; rw [Nat.ble_eq_true_of_le z] at e; cases e)]; rfl
          | true => rw [if_pos ((nI_leI (by omega) (by omega)).mpr (Nat.le_of_ble_eq_true e))]; exact if_b _ (by rw [nI_ltI (by omega) (by show Dp T j + Ln T j < _; omega)]; exact blt_iff.symm))
    (fun a => by
      show (if nI n < m.1 1 (am_ix 15) then _ else _) = _
      rw [if_neg (mm_nlt hT hI)])
    (fun j hj a => mm_ps hT hI hj (fun h => ⟨(mm_isRun hT hI hk).1, fun _ => trivial, fun _ => ⟨(mm_isRun hT hI h).1, fun _ => trivial, fun _ => ⟨(mm_dp hT hI h).1, fun _ => (mm_arr hT hI h).1, fun _ => trivial⟩⟩⟩))
theorem uw_le (hT : m.1 1 = T) (hI : Inv T n) {k : Nat} : uw T n k ≤ 20 := by
  have := hI.n20
  unfold uw
  split
  · have := cn_le (fun j => isr T j && (Nat.ble (Dp T j) (Dp T k) && Nat.blt (Dp T k) (Ar T j))) n; omega
  · omega
theorem mm_under (hT : m.1 1 = T) (hI : Inv T n) : p_M_underWay m ∧ v_M_underWay m = nI (mx (uw T n) n) := by
  have h20 := hI.n20
  obtain ⟨a, b⟩ := itr_for (step := s_M_underWay_4 m) (pst := ps_M_underWay_4 m) (fun j => (nI (mx (uw T n) j), nI j)) n (nI (mx (uw T n) n), nI n) (by omega)
    (fun j hj => by
      have h1 := uw_le hT hI (k := j)
      have h2 : mx (uw T n) j ≤ 20 := mx_le (fun k _ => uw_le hT hI)
      show (if nI j < m.1 1 (am_ix 15) then (match itr (s_M_underWay_28 m (nI (mx (uw T n) j), nI j)) NF (0, 0) with | some r2 => Sum.inl ((if r2.1 ≤ nI (mx (uw T n) j) then nI (mx (uw T n) j) else r2.1), nI j + 1) | none => Sum.inl (nI (mx (uw T n) j), nI j)) else _) = _
      rw [if_pos (mm_lt hT hI hj), (mm_underIn hT hI hj _).2, nI_1]
      show Sum.inl ((if nI (uw T n j) ≤ nI (mx (uw T n) j) then nI (mx (uw T n) j) else nI (uw T n j)), nI (j + 1)) = Sum.inl (nI (max (mx (uw T n) j) (uw T n j)), nI (j + 1))
      by_cases e : uw T n j ≤ mx (uw T n) j
      · rw [if_pos (nI_le e (by omega)), show max (mx (uw T n) j) (uw T n j) = mx (uw T n) j by omega]
      · rw [if_neg (nI_ge (by omega) (by omega)), show max (mx (uw T n) j) (uw T n j) = uw T n j by omega])
    (by
      show (if nI n < m.1 1 (am_ix 15) then _ else _) = _
      rw [if_neg (mm_nlt hT hI)])
    (fun j hj => mm_ps hT hI hj (fun h => ⟨(mm_dp hT hI h).1, (mm_underIn hT hI h _).1⟩))
  exact ⟨a, by rw [v_M_underWay]; rw [show ((0, 0) : Int32 × Int32) = (nI (mx (uw T n) 0), nI 0) from rfl, b]⟩
end MRD
/-! the same of the class -/
section CMX
variable {h : HP} {T : Nat → Int32} {n : Nat}
theorem cc_most (hR : RT h.1 0 T n) (hI : Inv T n) : p_T_mostUnderWay h ∧ v_T_mostUnderWay h = nI (mx (uw T n) n) := by
  have h20 := hI.n20
  obtain ⟨a, b⟩ := itr_for (step := s_T_mostUnderWay_4 h) (pst := ps_T_mostUnderWay_4 h) (fun j => (nI (mx (uw T n) j), nI j)) n (nI (mx (uw T n) n), nI n) (by omega)
    (fun j hj => by
      have h2 : mx (uw T n) j ≤ 20 := mx_le (fun k _ => uw_le (m := (fun _ => T, h.2)) rfl hI)
      have h3 := (hI.dpL hj)
      show (if nI j < h.1 0 11 then Sum.inl ((if v_T_isRun h (nI j) = 0 then nI (mx (uw T n) j) else v_max (nI (mx (uw T n) j)) (v_T_underWayAt h (v_at 20 (h.1 4) (nI j)))), nI j + 1) else _) = _
      rw [if_pos (cc_lt hR hI hj), cc_isRun hR hI hj, cc_dep hR hI hj, (cc_under hR hI (by omega)).2, nI_1]
      show _ = Sum.inl (nI (max (mx (uw T n) j) (uw T n j)), nI (j + 1))
      rw [uw]
      cases isr T j with
      | false => rw [if_pos b01_f, if_neg ff, show max (mx (uw T n) j) 0 = mx (uw T n) j by omega]
      | true =>
        have h4 := cn_le (fun i => isr T i && (Nat.ble (Dp T i) (Dp T j) && Nat.blt (Dp T j) (Ar T i))) n
        rw [if_neg b01_t, if_pos tr, vmax_nI (by omega) (by omega)])
    (by
      show (if nI n < h.1 0 11 then _ else _) = _
      rw [if_neg (cc_nlt hR hI)])
    (fun j hj => ⟨fun z => ⟨fun _ => trivial, fun _ => by
      have z' : nI j < h.1 0 11 := z
      rw [hR.nn, nI_ltI (by omega) (by omega)] at z'
      have h3 := hI.dpL z'
      show p_T_underWayAt h (v_at 20 (h.1 4) (nI j))
      rw [cc_dep hR hI z']
      exact (cc_under hR hI (by omega)).1⟩, fun _ => trivial⟩)
  exact ⟨a, by rw [v_T_mostUnderWay]; rw [show ((0, 0) : Int32 × Int32) = (nI (mx (uw T n) 0), nI 0) from rfl, b]⟩
/-- the block's first trip, of any number -/
theorem cc_headOf (hR : RT h.1 0 T n) (hI : Inv T n) (x : Int32) : p_T_headOf h x ∧ ((∃ k, k < n ∧ hd T n k = true ∧ x = nI (cn (hd T n) k) ∧ v_T_headOf h x = nI k) ∨ ((∀ k, k < n → hd T n k = true → ¬ x = nI (cn (hd T n) k)) ∧ v_T_headOf h x = -1)) := by
  have h20 := hI.n20
  obtain ⟨a, r, b, c⟩ := itr_invN (step := s_T_headOf_4 h x) (pst := ps_T_headOf_4 h x) (fun v => ∃ j, j ≤ n ∧ v = (nI (cn (hd T n) j), nI j) ∧ ∀ k, k < j → hd T n k = true → ¬ x = nI (cn (hd T n) k)) (fun v => n - am_ix v.2)
    (fun r => (∃ k, k < n ∧ hd T n k = true ∧ x = nI (cn (hd T n) k) ∧ r = .inr (nI k)) ∨ ((∀ k, k < n → hd T n k = true → ¬ x = nI (cn (hd T n) k)) ∧ ∃ q, r = .inl q)) (0, 0)
    (by show n - am_ix 0 < _; omega) ⟨0, Nat.zero_le _, rfl, fun k hk => absurd hk (Nat.not_lt_zero _)⟩
    (fun v hv => by
      obtain ⟨j, hj, rfl, hx⟩ := hv
      refine ⟨trivial, ?_⟩
      by_cases e : j < n
      · have hs : s_T_headOf_4 h x (nI (cn (hd T n) j), nI j) = (if v_T_isHead h (nI j) = 0 then .inl (nI (cn (hd T n) j), nI j + 1) else (if nI (cn (hd T n) j) = x then .inr (.inr (nI j)) else .inl (nI (cn (hd T n) j) + 1, nI j + 1))) := by
          show (if nI j < h.1 0 11 then _ else _) = _
          rw [if_pos (cc_lt hR hI e)]
        rw [hs, cc_isHead hR hI e, nI_1]
        have hm : n - am_ix (nI (j + 1)) < n - am_ix (nI j) := by rw [nI_ix (by omega), nI_ix (by omega)]; omega
        cases e2 : hd T n j with
        | false =>
          rw [if_pos b01_f]
          refine Or.inl ⟨_, rfl, ⟨j + 1, e, ?_, fun k hk hh => ?_⟩, hm⟩
          · rw [cn, e2, if_neg ff]; rfl
          · by_cases e3 : k = j
            · subst e3; rw [e2] at hh; cases hh
            · exact hx k (by omega) hh
        | true =>
          rw [if_neg b01_t]
          by_cases e3 : nI (cn (hd T n) j) = x
          · rw [if_pos e3]
            exact Or.inr ⟨_, rfl, Or.inl ⟨j, e, e2, e3.symm, rfl⟩⟩
          · rw [if_neg e3, nI_1]
            refine Or.inl ⟨_, rfl, ⟨j + 1, e, ?_, fun k hk hh => ?_⟩, hm⟩
            · rw [cn, if_pos e2]
            · by_cases e4 : k = j
              · subst e4; exact fun z => e3 z.symm
              · exact hx k (by omega) hh
      · have e4 : j = n := by omega
        subst e4
        refine Or.inr ⟨.inl (nI (cn (hd T j) j), nI j), ?_, Or.inr ⟨hx, _, rfl⟩⟩
        show (if nI j < h.1 0 11 then _ else _) = _
        rw [if_neg (cc_nlt hR hI)])
  refine ⟨a, ?_⟩
  rw [v_T_headOf, b]
  rcases c with ⟨k, h1, h2, h3, rfl⟩ | ⟨h1, q, rfl⟩
  · exact Or.inl ⟨k, h1, h2, h3, rfl⟩
  · exact Or.inr ⟨h1, rfl⟩
end CMX
