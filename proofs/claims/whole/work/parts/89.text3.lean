/-! PURE: texts: the model's reading by the automaton. -/
def Gx (s : Nat → Nat) : Nat → Nat → Nat → (Nat → Option Nat) → Nat → (Nat → Option Nat) → Prop
  | 0, _, p, f, p', f' => p = p' ∧ f = f'
  | n + 1, i, p, f, p', f' => s i ≠ 59 ∧ ∃ y, xt p f (s i) = some y ∧ Gx s n (i + 1) y.1 y.2 p' f'
theorem Gx.tr {s : Nat → Nat} : ∀ {n m i : Nat} {p p' p'' : Nat} {f f' f'' : Nat → Option Nat}, Gx s n i p f p' f' → Gx s m (i + n) p' f' p'' f'' → Gx s (n + m) i p f p'' f''
  | 0, m, i, p, p', p'', f, f', f'', h, h2 => by
    obtain ⟨rfl, rfl⟩ := h
    rw [Nat.zero_add]; exact h2
  | n + 1, m, i, p, p', p'', f, f', f'', h, h2 => by
    obtain ⟨h59, y, e, h1⟩ := h
    rw [show n + 1 + m = (n + m) + 1 by omega]
    exact ⟨h59, y, e, Gx.tr h1 (by rw [show i + 1 + n = i + (n + 1) by omega]; exact h2)⟩
theorem Gx.one {s : Nat → Nat} {i p : Nat} {f : Nat → Option Nat} {y : Nat × (Nat → Option Nat)} (h59 : s i ≠ 59) (e : xt p f (s i) = some y) : Gx s 1 i p f y.1 y.2 := ⟨h59, y, e, rfl, rfl⟩
theorem Gx.rd {s : Nat → Nat} : ∀ {n m i : Nat} {p p' : Nat} {f f' : Nat → Option Nat}, Gx s n i p f p' f' → rd s (n + m) i p f = rd s m (i + n) p' f'
  | 0, m, i, p, p', f, f', h => by
    obtain ⟨rfl, rfl⟩ := h
    rw [Nat.zero_add]; rfl
  | n + 1, m, i, p, p', f, f', h => by
    obtain ⟨h59, y, e, h1⟩ := h
    rw [show n + 1 + m = (n + m) + 1 by omega, rd_some e, Gx.rd h1, show i + 1 + n = i + (n + 1) by omega]
theorem st_st (f : Nat → Option Nat) (p v w : Nat) : st (st f p v) p w = st f p w := by
  funext j
  unfold st
  split <;> rfl
theorem st_at (f : Nat → Option Nat) (p v : Nat) : st f p v p = some v := if_pos rfl
theorem st_ne {f : Nat → Option Nat} {p v j : Nat} (h : j ≠ p) : st f p v j = f j := if_neg h
/-! what the automaton does, by its place -/
theorem xt_name {p c : Nat} {f : Nat → Option Nat} (hp : p < 3) (h : 48 ≤ c ∧ c ≤ 51) : xt p f c = some (p + 1, st f p (c - 48)) := by unfold xt; rw [if_pos hp, if_pos h]
theorem xt_name0 {p c : Nat} {f : Nat → Option Nat} (hp : p < 3) (h : ¬ (48 ≤ c ∧ c ≤ 51)) : xt p f c = none := by unfold xt; rw [if_pos hp, if_neg h]
theorem xt_at {f : Nat → Option Nat} : xt 3 f 64 = some (4, f) := rfl
theorem xt_at0 {c : Nat} {f : Nat → Option Nat} (h : ¬ c = 64) : xt 3 f c = none := by unfold xt; rw [if_neg (by omega), if_pos rfl, if_neg h]
theorem xt_num {p c : Nat} {f : Nat → Option Nat} (hp : p = 4 ∨ p = 5) (h : 48 ≤ c ∧ c ≤ 57) : xt p f c = (match f p with
    | none => if p = 5 ∧ c = 48 then none else some (p, st f p (c - 48))
    | some v => if v = 0 ∨ mo p < 10 * v + (c - 48) then none else some (p, st f p (10 * v + (c - 48)))) := by
  unfold xt; rw [if_neg (by omega), if_neg (by omega), if_pos h]
  cases f p <;> rfl
theorem xt_num1 {p c : Nat} {f : Nat → Option Nat} (hp : p = 4 ∨ p = 5) (h : 48 ≤ c ∧ c ≤ 57) (e : f p = none) (h1 : ¬ (p = 5 ∧ c = 48)) : xt p f c = some (p, st f p (c - 48)) := by rw [xt_num hp h, e]; exact if_neg h1
theorem xt_num2 {p c v : Nat} {f : Nat → Option Nat} (hp : p = 4 ∨ p = 5) (h : 48 ≤ c ∧ c ≤ 57) (e : f p = some v) (h1 : ¬ (v = 0 ∨ mo p < 10 * v + (c - 48))) : xt p f c = some (p, st f p (10 * v + (c - 48))) := by rw [xt_num hp h, e]; exact if_neg h1
theorem xt_num0 {p c v : Nat} {f : Nat → Option Nat} (hp : p = 4 ∨ p = 5) (h : 48 ≤ c ∧ c ≤ 57) (e : f p = some v) (h1 : v = 0 ∨ mo p < 10 * v + (c - 48)) : xt p f c = none := by rw [xt_num hp h, e]; exact if_pos h1
theorem xt_nd {p c : Nat} {f : Nat → Option Nat} (hp : p = 4 ∨ p = 5) (h : ¬ (48 ≤ c ∧ c ≤ 57)) : xt p f c = (match f p with
    | none => none
    | some _ => if p = 4 then (if c = 43 then some (5, f) else none) else (if c = 59 then some (0, f0) else none)) := by
  unfold xt; rw [if_neg (by omega), if_neg (by omega), if_neg h]
  cases f p <;> rfl
theorem xt_nd0 {p c : Nat} {f : Nat → Option Nat} (hp : p = 4 ∨ p = 5) (h : ¬ (48 ≤ c ∧ c ≤ 57)) (e : f p = none) : xt p f c = none := by rw [xt_nd hp h, e]
theorem xt_plus {v : Nat} {f : Nat → Option Nat} (e : f 4 = some v) : xt 4 f 43 = some (5, f) := by rw [xt_nd (.inl rfl) (by omega), e]; rfl
theorem xt_plus0 {c : Nat} {f : Nat → Option Nat} (h : ¬ (48 ≤ c ∧ c ≤ 57)) (h1 : ¬ c = 43) : xt 4 f c = none := by
  rw [xt_nd (.inl rfl) h]
  cases f 4 with
  | none => rfl
  | some v => exact if_neg h1
theorem xt_semi {v : Nat} {f : Nat → Option Nat} (e : f 5 = some v) : xt 5 f 59 = some (0, f0) := by rw [xt_nd (.inr rfl) (by omega), e]; rfl
theorem xt_semi0 {c : Nat} {f : Nat → Option Nat} (h : ¬ (48 ≤ c ∧ c ≤ 57)) (h1 : ¬ c = 59) : xt 5 f c = none := by
  rw [xt_nd (.inr rfl) h]
  cases f 5 with
  | none => rfl
  | some v => exact if_neg h1
/-! the model -/
def MS (M : HP) (L : Nat) (s : Nat → Nat) (i q : Nat) : Prop := M.1 0 12 = nI i ∧ M.1 0 14 = nI q ∧ M.1 0 7 = nI L ∧ ∀ k, k < L → M.1 6 k = nI (s k)
def MQk (m m' : HP) : Prop := mk m m' ∧ m'.1 1 = m.1 1 ∧ m'.1 0 8 = m.1 0 8
theorem MQk.rf {m : HP} : MQk m m := ⟨mk.rf, rfl, rfl⟩
theorem MQk.tr {m m' m'' : HP} (a : MQk m m') (b : MQk m' m'') : MQk m m'' := ⟨a.1.tr b.1, b.2.1.trans a.2.1, b.2.2.trans a.2.2⟩
theorem MQk.sp (m : HP) {k : Nat} (hk : 9 ≤ k) (x : Int32) : MQk m (am_si m 0 k x) :=
  ⟨⟨am_si_ne (by omega), am_si_ne (by omega), am_si_ne (by omega), am_si_ne (by omega), by rw [am_si1, if_neg (by omega)], by rw [am_si1, if_neg (by omega)]⟩, am_si_ne (by omega), by rw [am_si1, if_neg (by omega)]⟩
theorem MQk.r9 (m : HP) (k : Nat) (x : Int32) : MQk m (am_si m 9 k x) :=
  ⟨⟨am_si_ne (by omega), am_si_ne (by omega), am_si_ne (by omega), am_si_ne (by omega), by rw [am_si_ne (by omega)], by rw [am_si_ne (by omega)]⟩, am_si_ne (by omega), by rw [am_si_ne (by omega)]⟩
section MRD
variable {M : HP} {s : Nat → Nat} {L i q : Nat}
theorem MS.adv (t : MS M L s i q) (j : Nat) : MS (am_si M 0 12 (nI j)) L s j q :=
  ⟨by rw [am_si1, if_pos ⟨rfl, rfl⟩], by rw [am_si1, if_neg (by omega)]; exact t.2.1, by rw [am_si1, if_neg (by omega)]; exact t.2.2.1, fun k hk => by rw [am_si_ne (by omega)]; exact t.2.2.2 k hk⟩
theorem MS.r9 (t : MS M L s i q) (k : Nat) (x : Int32) : MS (am_si M 9 k x) L s i q :=
  ⟨by rw [am_si_ne (by omega)]; exact t.1, by rw [am_si_ne (by omega)]; exact t.2.1, by rw [am_si_ne (by omega)]; exact t.2.2.1, fun k hk => by rw [am_si_ne (by omega)]; exact t.2.2.2 k hk⟩
theorem ms_sees (hL : L ≤ 60) (hs : ∀ i, i < L → s i ≤ 126) (hi : i ≤ L) (t : MS M L s i q) {lo hj : Nat} (h1 : lo ≤ 126) (h2 : hj ≤ 126) : p_M_sees M (nI lo) (nI hj) ∧ v_M_sees M (nI lo) (nI hj) = (if i < L ∧ lo ≤ s i ∧ s i ≤ hj then 1 else 0) := by
  have hlt : M.1 0 12 < M.1 0 7 ↔ i < L := by rw [t.1, t.2.2.1]; exact nI_lti (by omega) (by omega)
  refine ⟨⟨fun z => ?_, fun _ => trivial⟩, ?_⟩
  · have := hlt.mp z
    rw [t.1]; exact nI_am (by omega) (by omega)
  · unfold v_M_sees
    by_cases h : i < L
    · have h126 := hs i h
      rw [if_pos (hlt.mpr h), t.1, nI_ix (by omega), t.2.2.2 i h]
      unfold v_M_in
      by_cases h3 : lo ≤ s i
      · have n1 : ¬ nI (s i) < nI lo := fun z => by have := (nI_lti (by omega) (by omega)).mp z; omega
        rw [if_neg n1]
        by_cases h4 : s i ≤ hj
        · rw [if_pos ((nI_lei (by omega) (by omega)).mpr h4), if_neg one0, if_pos ⟨h, h3, h4⟩]
        · have n2 : ¬ nI (s i) ≤ nI hj := fun z => h4 ((nI_lei (by omega) (by omega)).mp z)
          rw [if_neg n2, if_pos rfl, if_neg (fun z => h4 z.2.2)]
      · rw [if_pos ((nI_lti (by omega) (by omega)).mpr (by omega)), if_pos rfl, if_neg (fun z => h3 z.2.1)]
    · rw [if_neg (fun z => h (hlt.mp z)), if_neg (fun z => h z.1)]
theorem ms_takes (hL : L ≤ 60) (hs : ∀ i, i < L → s i ≤ 126) (hi : i ≤ L) (t : MS M L s i q) {c : Nat} (h1 : c ≤ 126) : p_M_takes M (nI c) ∧ v_M_takes M (nI c) = (if i < L ∧ s i = c then (1, am_si M 0 12 (nI (i + 1))) else (0, am_si M 0 12 (nI i))) := by
  obtain ⟨a, b⟩ := ms_sees hL hs hi t h1 h1
  refine ⟨⟨a, by rw [b]; split; exact .inr rfl; exact .inl rfl⟩, ?_⟩
  unfold v_M_takes
  rw [b, t.1]
  by_cases h : i < L ∧ s i = c
  · rw [if_pos ⟨h.1, by omega, by omega⟩, if_pos h, if_neg one0, nI_1]
  · rw [if_neg (fun z => h ⟨z.1, by omega⟩), if_neg h, if_pos rfl, Int32.add_zero]
theorem ms_digit (hL : L ≤ 60) (hs : ∀ i, i < L → s i ≤ 126) (hi : i ≤ L) (hq : 5 * q + 4 < 40) (t : MS M L s i q) {w : Nat} (hw : w < 3) : p_M_isDigit M (nI w) ∧ ((i < L ∧ (48 ≤ s i ∧ s i ≤ 51) ∧ ∃ M', v_M_isDigit M (nI w) = (1, M') ∧ MS M' L s (i + 1) q ∧ MQk M M' ∧ (∀ k, k ≠ 5 * q + w → M'.1 9 k = M.1 9 k) ∧ M'.1 9 (5 * q + w) = nI (s i - 48)) ∨ ((i = L ∨ ¬ (48 ≤ s i ∧ s i ≤ 51)) ∧ v_M_isDigit M (nI w) = (0, M))) := by
  obtain ⟨a, b⟩ := ms_sees hL hs hi t (lo := 48) (hj := 51) (by omega) (by omega)
  have b' : v_M_sees M 48 51 = (if i < L ∧ 48 ≤ s i ∧ s i ≤ 51 then 1 else 0) := b
  have e5 : 5 * M.1 0 14 + nI w = nI (5 * q + w) := by rw [t.2.1, show (5 : Int32) = nI 5 from rfl, nI_mul, nI_add]
  by_cases h : i < L ∧ 48 ≤ s i ∧ s i ≤ 51
  · have h126 := hs i h.1
    refine ⟨⟨a, fun z => absurd z (by rw [b', if_pos h]; exact one0), fun _ => ⟨by rw [t.1]; exact nI_am (by omega) (by omega), by rw [e5]; exact nI_am (by omega) (by omega)⟩⟩, .inl ⟨h.1, h.2, am_si (am_si M 9 (5 * q + w) (nI (s i - 48))) 0 12 (nI (i + 1)), ?_, (t.r9 _ _).adv _, (MQk.r9 _ _ _).tr (MQk.sp _ (by omega) _), fun k hk => ?_, ?_⟩⟩
    · unfold v_M_isDigit
      rw [b', if_pos h, if_neg one0, e5, nI_ix (by omega), t.1, nI_ix (by omega), t.2.2.2 i h.1, sub48 h.2.1, nI_1]
    · rw [am_si_ne (by omega), am_si1, if_neg (fun z => hk z.2)]
    · rw [am_si_ne (by omega), am_si1, if_pos ⟨rfl, rfl⟩]
  · refine ⟨⟨a, fun _ => trivial, fun z => absurd (by rw [b', if_neg h]) z⟩, .inr ⟨?_, ?_⟩⟩
    · by_cases h1 : i = L
      · exact .inl h1
      · exact .inr (fun z => h ⟨by omega, z⟩)
    · unfold v_M_isDigit
      rw [b', if_neg h, if_pos rfl]
end MRD
