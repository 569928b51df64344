/-! PURE: texts: the model's parts, and its reading whole. -/
/-- a journey read: the automaton's and the model's row -/
def Rw (p : Nat) (f : Nat → Option Nat) (R : Nat → Int32) (q : Nat) : Prop :=
  p = 5 ∧ ∃ a b c d e, a ≤ 3 ∧ b ≤ 3 ∧ c ≤ 3 ∧ d ≤ 1439 ∧ 1 ≤ e ∧ e ≤ 240 ∧ f 0 = some a ∧ f 1 = some b ∧ f 2 = some c ∧ f 4 = some d ∧ f 5 = some e ∧ R (5 * q) = nI a ∧ R (5 * q + 1) = nI b ∧ R (5 * q + 2) = nI c ∧ R (5 * q + 3) = nI d ∧ R (5 * q + 4) = nI e
def PartR (M : HP) (s : Nat → Nat) (L i q : Nat) (w : Int32 × HP) : Prop :=
  ∃ n p f, i + n ≤ L ∧ Gx s n i 0 f0 p f ∧ MS w.2 L s (i + n) q ∧ MQk M w.2 ∧ (∀ k, k < 5 * q → w.2.1 9 k = M.1 9 k) ∧
    ((w.1 = 0 ∧ fi p f = false ∧ (i + n = L ∨ xt p f (s (i + n)) = none)) ∨ (w.1 = 1 ∧ 7 ≤ n ∧ Rw p f (w.2.1 9) q ∧ (i + n = L ∨ s (i + n) = 59 ∨ xt p f (s (i + n)) = none)))
/-- on the way -/
def SC (M : HP) (s : Nat → Nat) (L i q n p : Nat) (f : Nat → Option Nat) (M' : HP) : Prop :=
  i + n ≤ L ∧ Gx s n i 0 f0 p f ∧ MS M' L s (i + n) q ∧ MQk M M' ∧ (∀ k, k < 5 * q → M'.1 9 k = M.1 9 k)
def D3 (f : Nat → Option Nat) (R : Nat → Int32) (q k : Nat) : Prop := ∀ j, j < k → ∃ a, a ≤ 3 ∧ f j = some a ∧ R (5 * q + j) = nI a
theorem fi_ne {p : Nat} {f : Nat → Option Nat} (h : p ≠ 5) : fi p f = false := by
  unfold fi
  rw [show Nat.beq p 5 = false from Bool.eq_false_iff.mpr (fun z => h (Nat.eq_of_beq_eq_true z))]; rfl
theorem fi_none {p : Nat} {f : Nat → Option Nat} (h : f 5 = none) : fi p f = false := by unfold fi; rw [h]; exact Bool.and_false _
theorem SC.bad {M : HP} {s : Nat → Nat} {L i q n p : Nat} {f : Nat → Option Nat} {M' : HP} (h : SC M s L i q n p f M') (h1 : fi p f = false) (h2 : i + n = L ∨ xt p f (s (i + n)) = none) : PartR M s L i q (0, M') :=
  ⟨n, p, f, h.1, h.2.1, h.2.2.1, h.2.2.2.1, h.2.2.2.2, .inl ⟨rfl, h1, h2⟩⟩
section MPT
variable {M : HP} {s : Nat → Nat} {L i q : Nat}
theorem ms_pd (hL : L ≤ 60) (hs : ∀ i, i < L → s i ≤ 126) (hq : 5 * q + 4 < 40) {k : Nat} (hk : k < 3) {K : HP → Int32 × HP} {PK : HP → Prop} (hK : ∀ M' f, SC M s L i q (k + 1) (k + 1) f M' → D3 f (M'.1 9) q (k + 1) → (∀ j, k + 1 ≤ j → f j = none) → PK M' ∧ PartR M s L i q (K M'))
    {M' : HP} {f : Nat → Option Nat} (h : SC M s L i q k k f M') (h1 : D3 f (M'.1 9) q k) (h2 : ∀ j, k ≤ j → f j = none) :
    (p_M_isDigit M' (nI k) ∧ (∀ y, v_M_isDigit M' (nI k) = y → ((y.1 = 0 → True) ∧ (¬ y.1 = 0 → PK y.2)))) ∧ PartR M s L i q (bnd (v_M_isDigit M' (nI k)) fun y => if y.1 = 0 then (0, y.2) else K y.2) := by
  obtain ⟨a, b⟩ := ms_digit hL hs h.1 hq h.2.2.1 hk
  refine and_assoc.mpr ⟨a, ?_⟩
  rcases b with ⟨b1, b2, M2, b3, b4, b5, b6, b7⟩ | ⟨b1, b3⟩
  · have g1 := Gx.one (s := s) (i := i + k) (p := k) (f := f) (by omega) (xt_name hk b2)
    have hsc : SC M s L i q (k + 1) (k + 1) (st f k (s (i + k) - 48)) M2 := ⟨by omega, Gx.tr h.2.1 g1, b4, h.2.2.2.1.tr b5, fun x hx => by rw [b6 x (by omega)]; exact h.2.2.2.2 x hx⟩
    obtain ⟨c1, c2⟩ := hK M2 _ hsc
      (fun j hj => by
        by_cases e : j = k
        · subst e; exact ⟨s (i + j) - 48, by omega, st_at _ _ _, b7⟩
        · obtain ⟨x, x1, x2, x3⟩ := h1 j (by omega)
          exact ⟨x, x1, by rw [st_ne e]; exact x2, by rw [b6 _ (by omega)]; exact x3⟩)
      (fun j hj => by rw [st_ne (by omega)]; exact h2 j (by omega))
    rw [b3]
    refine ⟨fun y hy => by subst hy; exact ⟨fun _ => trivial, fun _ => c1⟩, ?_⟩
    show PartR M s L i q (if (1 : Int32) = 0 then (0, M2) else K M2)
    rw [if_neg one0]; exact c2
  · rw [b3]
    refine ⟨fun y hy => by subst hy; exact ⟨fun _ => trivial, fun z => absurd rfl z⟩, ?_⟩
    show PartR M s L i q (if (0 : Int32) = 0 then (0, M') else K M')
    rw [if_pos rfl]
    refine h.bad (fi_ne (by omega)) ?_
    rcases b1 with b1 | b1
    · exact .inl b1
    · exact .inr (xt_name0 hk b1)
theorem ms_pt (hL : L ≤ 60) (hs : ∀ i, i < L → s i ≤ 126) (hq : 5 * q + 4 < 40) {n p c : Nat} {f : Nat → Option Nat} (hc : c ≤ 126) (hc59 : c ≠ 59) (hp : p = 3 ∨ p = 4) {K : HP → Int32 × HP} {PK : HP → Prop}
    {M' : HP} (h : SC M s L i q n p f M') (hx : xt p f c = some (p + (4 - p) + (p - 3), f)) (hx0 : i + n = L ∨ s (i + n) = c ∨ xt p f (s (i + n)) = none)
    (hK : ∀ M2, SC M s L i q (n + 1) (p + (4 - p) + (p - 3)) f M2 → M2.1 9 = M'.1 9 → PK M2 ∧ PartR M s L i q (K M2)) :
    (p_M_takes M' (nI c) ∧ (∀ y, v_M_takes M' (nI c) = y → ((y.1 = 0 → True) ∧ (¬ y.1 = 0 → PK y.2)))) ∧ PartR M s L i q (bnd (v_M_takes M' (nI c)) fun y => if y.1 = 0 then (0, y.2) else K y.2) := by
  obtain ⟨a, b⟩ := ms_takes hL hs h.1 h.2.2.1 hc
  refine and_assoc.mpr ⟨a, ?_⟩
  by_cases e : i + n < L ∧ s (i + n) = c
  · rw [if_pos e] at b
    have g1 := Gx.one (s := s) (i := i + n) (p := p) (f := f) (by omega) (by rw [e.2]; exact hx)
    have hsc : SC M s L i q (n + 1) (p + (4 - p) + (p - 3)) f (am_si M' 0 12 (nI (i + n + 1))) := ⟨by omega, Gx.tr h.2.1 g1, h.2.2.1.adv _, h.2.2.2.1.tr (MQk.sp _ (by omega) _), fun x hx => by rw [am_si_ne (by omega)]; exact h.2.2.2.2 x hx⟩
    obtain ⟨c1, c2⟩ := hK _ hsc (am_si_ne (by omega))
    rw [b]
    refine ⟨fun y hy => by subst hy; exact ⟨fun _ => trivial, fun _ => c1⟩, ?_⟩
    show PartR M s L i q (if (1 : Int32) = 0 then (0, am_si M' 0 12 (nI (i + n + 1))) else K (am_si M' 0 12 (nI (i + n + 1))))
    rw [if_neg one0]; exact c2
  · rw [if_neg e] at b
    rw [b]
    refine ⟨fun y hy => by subst hy; exact ⟨fun _ => trivial, fun z => absurd rfl z⟩, ?_⟩
    show PartR M s L i q (if (0 : Int32) = 0 then (0, am_si M' 0 12 (nI (i + n))) else K (am_si M' 0 12 (nI (i + n))))
    rw [if_pos rfl]
    have hsc : SC M s L i q n p f (am_si M' 0 12 (nI (i + n))) := ⟨h.1, h.2.1, h.2.2.1.adv _, h.2.2.2.1.tr (MQk.sp _ (by omega) _), fun x hx => by rw [am_si_ne (by omega)]; exact h.2.2.2.2 x hx⟩
    refine hsc.bad (fi_ne (by omega)) ?_
    rcases hx0 with z | z | z
    · exact .inl z
    · by_cases e2 : i + n = L
      · exact .inl e2
      · exact absurd ⟨by have := h.1; omega, z⟩ e
    · exact .inr z
theorem ms_p7 (hL : L ≤ 60) (hs : ∀ i, i < L → s i ≤ 126) (hq : 5 * q + 4 < 40) {n : Nat} {f : Nat → Option Nat} {M' : HP} (hn : 6 ≤ n) (h : SC M s L i q n 5 f M') (h3 : D3 f (M'.1 9) q 3) (h4 : ∃ d, d ≤ 1439 ∧ f 4 = some d ∧ M'.1 9 (5 * q + 3) = nI d) (h5 : f 5 = none) :
    p_M_isNumber M' 4 1 240 ∧ PartR M s L i q (bnd (v_M_isNumber M' 4 1 240) fun y7 => ((if y7.1 = 0 then (0 : Int32) else 1), y7.2)) := by
  have h2' := ms_number hL hs h.1 hq h.2.2.1 (p := 5) (w := 4) (lo := 1) (.inr ⟨rfl, rfl, rfl⟩) h5
  obtain ⟨a, b⟩ := h2'
  refine ⟨a, ?_⟩
  rcases b with ⟨k, v, M2, b1, b2, b3, b4, b5, b6, b7, b8, b9, b10, b11⟩ | ⟨b1, b2⟩
  · have b1' : v_M_isNumber M' 4 1 240 = (1, M2) := b1
    rw [b1']
    show PartR M s L i q ((if (1 : Int32) = 0 then 0 else 1), M2)
    rw [if_neg one0]
    have hmo : mo 5 = 240 := rfl
    obtain ⟨d, d1, d2, d3⟩ := h4
    obtain ⟨x0, y0, z0, w0⟩ := h3 0 (by omega)
    obtain ⟨x1, y1, z1, w1⟩ := h3 1 (by omega)
    obtain ⟨x2, y2, z2, w2⟩ := h3 2 (by omega)
    refine ⟨n + k, 5, st f 5 v, by omega, Gx.tr h.2.1 b6, by rw [show i + (n + k) = i + n + k by omega]; exact b7, h.2.2.2.1.tr b8, fun x hx => by rw [b9 x (by omega)]; exact h.2.2.2.2 x hx, .inr ⟨rfl, by omega, ⟨rfl, x0, x1, x2, d, v, y0, y1, y2, d1, b4, by omega, by rw [st_ne (by omega)]; exact z0, by rw [st_ne (by omega)]; exact z1, by rw [st_ne (by omega)]; exact z2, by rw [st_ne (by omega)]; exact d2, st_at _ _ _, by rw [b9 _ (by omega)]; exact w0, by rw [b9 _ (by omega)]; exact w1, by rw [b9 _ (by omega)]; exact w2, by rw [b9 _ (by omega)]; exact d3, b10⟩, ?_⟩⟩
    rw [show i + (n + k) = i + n + k by omega]
    rcases b11 with z | z | z
    · exact .inl z
    · by_cases e : s (i + n + k) = 59
      · exact .inr (.inl e)
      · exact .inr (.inr (xt_semi0 z e))
    · by_cases e : 48 ≤ s (i + n + k) ∧ s (i + n + k) ≤ 57
      · exact .inr (.inr (xt_num0 (.inr rfl) e (st_at _ _ _) z))
      · by_cases e2 : s (i + n + k) = 59
        · exact .inr (.inl e2)
        · exact .inr (.inr (xt_semi0 e e2))
  · have b1' : v_M_isNumber M' 4 1 240 = (0, M') := b1
    rw [b1']
    show PartR M s L i q ((if (0 : Int32) = 0 then 0 else 1), M')
    rw [if_pos rfl]
    exact h.bad (fi_none h5) b2
theorem ms_p5 (hL : L ≤ 60) (hs : ∀ i, i < L → s i ≤ 126) (hq : 5 * q + 4 < 40) {f : Nat → Option Nat} {M' : HP} (h : SC M s L i q 4 4 f M') (h3 : D3 f (M'.1 9) q 3) (h4 : f 4 = none) (h5 : f 5 = none) {K : HP → Int32 × HP} {PK : HP → Prop}
    (hK : ∀ n f M2, 5 ≤ n → SC M s L i q n 4 f M2 → D3 f (M2.1 9) q 3 → (∃ d, d ≤ 1439 ∧ f 4 = some d ∧ M2.1 9 (5 * q + 3) = nI d) → f 5 = none → (i + n = L ∨ s (i + n) = 43 ∨ xt 4 f (s (i + n)) = none) → PK M2 ∧ PartR M s L i q (K M2)) :
    (p_M_isNumber M' 3 0 1439 ∧ (∀ y, v_M_isNumber M' 3 0 1439 = y → ((y.1 = 0 → True) ∧ (¬ y.1 = 0 → PK y.2)))) ∧ PartR M s L i q (bnd (v_M_isNumber M' 3 0 1439) fun y => if y.1 = 0 then (0, y.2) else K y.2) := by
  have h2' := ms_number hL hs h.1 hq h.2.2.1 (p := 4) (w := 3) (lo := 0) (.inl ⟨rfl, rfl, rfl⟩) h4
  obtain ⟨a, b⟩ := h2'
  refine and_assoc.mpr ⟨a, ?_⟩
  rcases b with ⟨k, v, M2, b1, b2, b3, b4, b5, b6, b7, b8, b9, b10, b11⟩ | ⟨b1, b2⟩
  · have b1' : v_M_isNumber M' 3 0 1439 = (1, M2) := b1
    have hmo : mo 4 = 1439 := rfl
    obtain ⟨c1, c2⟩ := hK (4 + k) (st f 4 v) M2 (by omega) ⟨by omega, Gx.tr h.2.1 b6, by rw [show i + (4 + k) = i + 4 + k by omega]; exact b7, h.2.2.2.1.tr b8, fun x hx => by rw [b9 x (by omega)]; exact h.2.2.2.2 x hx⟩
      (fun j hj => by
        obtain ⟨x, x1, x2, x3⟩ := h3 j hj
        exact ⟨x, x1, by rw [st_ne (by omega)]; exact x2, by rw [b9 _ (by omega)]; exact x3⟩)
      ⟨v, by omega, st_at _ _ _, b10⟩ (by rw [st_ne (by omega)]; exact h5)
      (by
        rw [show i + (4 + k) = i + 4 + k by omega]
        rcases b11 with z | z | z
        · exact .inl z
        · by_cases e : s (i + 4 + k) = 43
          · exact .inr (.inl e)
          · exact .inr (.inr (xt_plus0 z e))
        · by_cases e : 48 ≤ s (i + 4 + k) ∧ s (i + 4 + k) ≤ 57
          · exact .inr (.inr (xt_num0 (.inl rfl) e (st_at _ _ _) z))
          · by_cases e2 : s (i + 4 + k) = 43
            · exact .inr (.inl e2)
            · exact .inr (.inr (xt_plus0 e e2)))
    rw [b1']
    refine ⟨fun y hy => by subst hy; exact ⟨fun _ => trivial, fun _ => c1⟩, ?_⟩
    show PartR M s L i q (if (1 : Int32) = 0 then (0, M2) else K M2)
    rw [if_neg one0]; exact c2
  · have b1' : v_M_isNumber M' 3 0 1439 = (0, M') := b1
    rw [b1']
    refine ⟨fun y hy => by subst hy; exact ⟨fun _ => trivial, fun z => absurd rfl z⟩, ?_⟩
    show PartR M s L i q (if (0 : Int32) = 0 then (0, M') else K M')
    rw [if_pos rfl]
    exact h.bad (fi_ne (by omega)) b2
theorem ms_part (hL : L ≤ 60) (hs : ∀ i, i < L → s i ≤ 126) (hq : 5 * q + 4 < 40) (hi : i ≤ L) (t : MS M L s i q) : p_M_isPart M ∧ PartR M s L i q (v_M_isPart M) := by
  have k6 := fun (n : Nat) (f : Nat → Option Nat) (M2 : HP) (hn : 5 ≤ n) (h : SC M s L i q n 4 f M2) (h3 : D3 f (M2.1 9) q 3) (h4 : ∃ d, d ≤ 1439 ∧ f 4 = some d ∧ M2.1 9 (5 * q + 3) = nI d) (h5 : f 5 = none) (hx0 : i + n = L ∨ s (i + n) = 43 ∨ xt 4 f (s (i + n)) = none) =>
    ms_pt hL hs hq (c := 43) (by omega) (by omega) (.inr rfl) h (by obtain ⟨d, -, d2, -⟩ := h4; exact xt_plus d2) hx0 (fun M3 h' e9 => ms_p7 hL hs hq (n := n + 1) (by omega) h' (by rw [e9]; exact h3) (by rw [e9]; exact h4) h5)
  have k5 := fun (f : Nat → Option Nat) (M2 : HP) (h : SC M s L i q 4 4 f M2) (h3 : D3 f (M2.1 9) q 3) (h4 : f 4 = none) (h5 : f 5 = none) =>
    ms_p5 hL hs hq h h3 h4 h5 (fun n f M3 hn h h3 h4 h5 hx0 => k6 n f M3 hn h h3 h4 h5 hx0)
  have k4 := fun (M2 : HP) (f : Nat → Option Nat) (h : SC M s L i q 3 3 f M2) (h3 : D3 f (M2.1 9) q 3) (hn : ∀ j, 3 ≤ j → f j = none) =>
    ms_pt hL hs hq (c := 64) (by omega) (by omega) (.inl rfl) h xt_at (by
      by_cases e : s (i + 3) = 64
      · exact .inr (.inl e)
      · exact .inr (.inr (xt_at0 e))) (fun M3 h' e9 => k5 f M3 h' (by rw [e9]; exact h3) (hn 4 (by omega)) (hn 5 (by omega)))
  have k3 := fun (M2 : HP) (f : Nat → Option Nat) (h : SC M s L i q 2 2 f M2) (h3 : D3 f (M2.1 9) q 2) (hn : ∀ j, 2 ≤ j → f j = none) =>
    ms_pd hL hs hq (k := 2) (by omega) (fun M3 f h h3 hn => k4 M3 f h h3 hn) h h3 hn
  have k2 := fun (M2 : HP) (f : Nat → Option Nat) (h : SC M s L i q 1 1 f M2) (h3 : D3 f (M2.1 9) q 1) (hn : ∀ j, 1 ≤ j → f j = none) =>
    ms_pd hL hs hq (k := 1) (by omega) (fun M3 f h h3 hn => k3 M3 f h h3 hn) h h3 hn
  exact ms_pd hL hs hq (k := 0) (by omega) (fun M3 f h h3 hn => k2 M3 f h h3 hn) (M' := M) (f := f0) ⟨hi, ⟨rfl, rfl⟩, t, MQk.rf, fun _ _ => rfl⟩ (fun j hj => absurd hj (Nat.not_lt_zero _)) (fun _ _ => rfl)
end MPT
