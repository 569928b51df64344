/-! PURE: texts: load, class and model side by side. -/
theorem si_self {h : HP} {c k : Nat} {x : Int32} (e : h.1 c k = x) : am_si h c k x = h := by
  refine Prod.ext ?_ rfl
  funext c' k'
  rw [am_si1]
  by_cases e1 : c' = c ∧ k' = k
  · rw [if_pos e1, e1.1, e1.2, e]
  · rw [if_neg e1]
/-- the class's answer and the model's, where what is thrown leaves its heap changed -/
def Bo2 (l : List (String × Int32)) (c : (String × HP) ⊕ (Int32 × HP)) (w : Int32 × HP) : Prop :=
  match c with
  | .inl E => (E.1, w.2.1 0 8) ∈ l ∧ ∃ n, RR n E.2 w.2
  | .inr r => w.2.1 0 8 = 0 ∧ w.1 = r.1 ∧ ∃ n, RR n r.2 w.2
/-- a row that can be a trip -/
def Rg (R : Nat → Int32) (q : Nat) : Prop := ∃ a b c d e, a ≤ 3 ∧ b ≤ 3 ∧ c ≤ 3 ∧ d ≤ 1439 ∧ 1 ≤ e ∧ e ≤ 240 ∧ R (5 * q) = nI a ∧ R (5 * q + 1) = nI b ∧ R (5 * q + 2) = nI c ∧ R (5 * q + 3) = nI d ∧ R (5 * q + 4) = nI e
theorem Rw.rg {p q : Nat} {f : Nat → Option Nat} {R : Nat → Int32} (h : Rw p f R q) : Rg R q := by
  obtain ⟨h5, a1, b1, c1, d1, e1, g1, g2, g3, g4, g5, g6, k1, k2, k3, k4, k5, r⟩ := h
  exact ⟨a1, b1, c1, d1, e1, g1, g2, g3, g4, g5, g6, r⟩
theorem Wh.rg {s : Nat → Nat} {R : Nat → Int32} : ∀ {n i p q r : Nat} {f : Nat → Option Nat}, Wh s R n i p f q r → q < r ∧ ∀ x, q ≤ x → x < r → Rg R x
  | 0, i, p, q, r, f, h => ⟨by rw [h.2]; omega, fun x h1 h2 => by
    have hx : x = q := by have := h.2; omega
    rw [hx]; exact h.1.rg⟩
  | n + 1, i, p, q, r, f, h => by
    obtain ⟨y, e, h2⟩ := h
    rcases h2 with ⟨-, h3, h2⟩ | ⟨-, h2⟩
    · obtain ⟨a, b⟩ := Wh.rg h2
      refine ⟨by omega, fun x h4 h5 => ?_⟩
      by_cases e1 : x = q
      · rw [e1]; exact h3.rg
      · exact b x (by omega) h5
    · exact Wh.rg h2
/-- the timetable with the first q journeys of a text -/
def TT (R : Nat → Int32) (T : Nat → Int32) (n : Nat) : Nat → (Nat → Int32)
  | 0 => T
  | q + 1 => addT (TT R T n q) (n + q) (R (5 * q)) (R (5 * q + 1)) (R (5 * q + 2)) (R (5 * q + 3)) (R (5 * q + 4))
theorem TT.inv {R T : Nat → Int32} {n r : Nat} (hI : Inv T n) (hr : ∀ x, x < r → Rg R x) (h20 : n + r ≤ 20) : ∀ {q : Nat}, q ≤ r → Inv (TT R T n q) (n + q)
  | 0, _ => hI
  | q + 1, hq => by
    have h1 := TT.inv hI hr h20 (q := q) (by omega)
    obtain ⟨a, b, c, d, e, g1, g2, g3, g4, g5, g6, r1, r2, r3, r4, r5⟩ := hr q (by omega)
    rw [TT, r1, r2, r3, r4, r5]
    exact h1.add (by omega) g1 g2 g3 g4 g6 g5
/-- the class adds a journey -/
theorem cx_add {H : HP} {R T : Nat → Int32} {n q r p : Nat} {f : Nat → Option Nat} (hI : Inv T n) (hr : ∀ x, x < r → Rg R x) (h20 : n + r ≤ 20) (hq : q < r) (hR : RT H.1 0 (TT R T n q) (n + q)) (hc : CX H p f) (hw : Rw p f R q) : RT (v_X_addJourney_0 H).1 0 (TT R T n (q + 1)) (n + (q + 1)) ∧ ∀ c, 9 ≤ c → (v_X_addJourney_0 H).1 c = H.1 c := by
  obtain ⟨h5, a1, b1, c1, d1, e1, g1, g2, g3, g4, g5, g6, k1, k2, k3, k4, k5, r1, r2, r3, r4, r5⟩ := hw
  have ea : ∀ j v, j < 6 → f j = some v → v_at 6 (H.1 20) (nI j) = nI v := fun j v hj e => by rw [at_nI (by omega) _ hj, hc.2 j hj, e]; rfl
  have ev : v_X_addJourney_0 H = (v_T_addTrip H (R (5 * q)) (R (5 * q + 1)) (R (5 * q + 2)) (R (5 * q + 3)) (R (5 * q + 4))).2 := by
    show (v_T_addTrip H (v_at 6 (H.1 20) 0) (v_at 6 (H.1 20) 1) (v_at 6 (H.1 20) 2) (v_at 6 (H.1 20) 4) (v_at 6 (H.1 20) 5)).2 = _
    rw [show v_at 6 (H.1 20) 0 = nI a1 from ea 0 a1 (by omega) k1, show v_at 6 (H.1 20) 1 = nI b1 from ea 1 b1 (by omega) k2, show v_at 6 (H.1 20) 2 = nI c1 from ea 2 c1 (by omega) k3, show v_at 6 (H.1 20) 4 = nI d1 from ea 4 d1 (by omega) k4, show v_at 6 (H.1 20) 5 = nI e1 from ea 5 e1 (by omega) k5, r1, r2, r3, r4, r5]
  obtain ⟨x1, x2, x3⟩ := cc_add hR (TT.inv hI hr h20 (q := q) (by omega)) (by omega) (R (5 * q)) (R (5 * q + 1)) (R (5 * q + 2)) (R (5 * q + 3)) (R (5 * q + 4))
  rw [ev]
  exact ⟨x1, x3⟩
section CLD
variable {s : Nat → Nat} {L : Nat}
theorem cx_addTo (hL : L ≤ 60) (hs : ∀ i, i < L → s i ≤ 126) (h0 y : HP) {R T : Nat → Int32} {n r : Nat} (hI : Inv T n) (hr : ∀ x, x < r → Rg R x) (h20 : n + r ≤ 20) : ∀ (N m i q p : Nat) (f : Nat → Option Nat) (H : HP), i + m = L → m < N → CX H p f → XO p f → TX H L s → RT H.1 0 (TT R T n q) (n + q) → Wh s R m i p f q r → itrp (s_X_addTo_0_6 h0 y) (ps_X_addTo_0_6 h0 y) N (nI i, H) ∧ ∃ H', itr (s_X_addTo_0_6 h0 y) N (nI i, H) = some (nI L, H') ∧ hk H H' ∧ ∃ p' f' q', CX H' p' f' ∧ q' + 1 = r ∧ RT H'.1 0 (TT R T n q') (n + q') ∧ Rw p' f' R q'
  | 0, _, _, _, _, _, _, _, hN, _, _, _, _, _ => absurd hN (Nat.not_lt_zero _)
  | N + 1, 0, i, q, p, f, H, hi, hN, hc, hx, ht, hR, hw => by
    have hn : ¬ nI i < H.1 18 2 := by rw [ht.1]; exact nI_nlt (b := L) (by omega) (by omega)
    have e1 : s_X_addTo_0_6 h0 y (nI i, H) = .inr (nI i, H) := by
      show (if nI i < H.1 18 2 then _ else Sum.inr (nI i, H)) = _
      rw [if_neg hn]
    refine ⟨⟨⟨fun z => absurd z hn, fun _ => trivial⟩, fun v' hv => by rw [e1] at hv; cases hv⟩, H, by rw [itr, e1, show i = L by omega], hk.rf, p, f, q, hc, hw.2.symm, hR, hw.1⟩
  | N + 1, m + 1, i, q, p, f, H, hi, hN, hc, hx, ht, hR, hw => by
    have hn : nI i < H.1 18 2 := by rw [ht.1]; exact nI_lt (b := L) (by omega) (by omega)
    have ea : v_at 60 (H.1 19) (nI i) = nI (s i) := by rw [at_nI (by omega) _ (by omega)]; exact ht.2 i (by omega)
    have h126 := hs i (by omega)
    have e59 : nI (s i) = 59 ↔ s i = 59 := nI_eq (b := 59) (by omega) (by omega)
    obtain ⟨w, e, h2⟩ := hw
    rcases h2 with ⟨c59, hrw, h2⟩ | ⟨c59, h2⟩
    · have hq : q + 1 < r := (Wh.rg h2).1
      obtain ⟨g1, g2⟩ := cx_add hI hr h20 (by omega) hR hc hrw
      obtain ⟨y4, hy4⟩ : ∃ y4, v_X_addJourney_0 H = y4 := ⟨_, rfl⟩
      rw [hy4] at g1 g2
      have hc4 : CX y4 p f := ⟨by rw [g2 18 (by omega)]; exact hc.1, fun j hj => by rw [g2 20 (by omega)]; exact hc.2 j hj⟩
      have ht4 : TX y4 L s := ⟨by rw [g2 18 (by omega)]; exact ht.1, fun k hk => by rw [g2 19 (by omega)]; exact ht.2 k hk⟩
      have ea4 : v_at 60 (y4.1 19) (nI i) = nI (s i) := by rw [g2 19 (by omega)]; exact ea
      obtain ⟨t1, t2⟩ := cx_takes hc4 hx (c := s i) h126
      rw [e] at t2
      obtain ⟨k1, k2, k3, k4⟩ := t2
      have e1 : s_X_addTo_0_6 h0 y (nI i, H) = .inl (nI (i + 1), (v_X_takes y4 (nI (s i))).2) := by
        show (if nI i < H.1 18 2 then (if v_at 60 (H.1 19) (nI i) = 59 then Sum.inl (nI i + 1, (v_X_takes (v_X_addJourney_0 H) (v_at 60 ((v_X_addJourney_0 H).1 19) (nI i))).2) else _) else _) = _
        rw [if_pos hn, ea, if_pos (e59.mpr c59), hy4, ea4, nI_1]
      have hps : ps_X_addTo_0_6 h0 y (nI i, H) := ⟨fun _ => ⟨fun _ y' hy' => by
        have : y4 = y' := hy4.symm.trans hy'
        subst this
        show p_X_takes y4 (v_at 60 (y4.1 19) (nI i))
        rw [ea4]; exact t1, fun z => absurd (e59.mpr c59) (by
          have z' : ¬ v_at 60 (H.1 19) (nI i) = 59 := z
          rw [ea] at z'; exact z')⟩, fun z => absurd hn z⟩
      obtain ⟨x1, H', x2, x3, x4⟩ := cx_addTo hL hs h0 y hI hr h20 N m (i + 1) (q + 1) w.1 w.2 (v_X_takes y4 (nI (s i))).2 (by omega) (by omega) k3 k4 (ht4.k k1) (k1.RT g1) h2
      have hkH : hk H y4 := ⟨fun c hc => g2 c (by omega), by rw [g2 18 (by omega)]⟩
      exact ⟨⟨hps, fun v' hv => by rw [e1] at hv; cases hv; exact x1⟩, H', by rw [itr, e1]; exact x2, hkH.tr (k1.k.tr x3), x4⟩
    · obtain ⟨t1, t2⟩ := cx_takes hc hx (c := s i) h126
      rw [e] at t2
      obtain ⟨k1, k2, k3, k4⟩ := t2
      have n59 : ¬ nI (s i) = 59 := fun z => c59 (e59.mp z)
      have e1 : s_X_addTo_0_6 h0 y (nI i, H) = .inl (nI (i + 1), (v_X_takes H (nI (s i))).2) := by
        show (if nI i < H.1 18 2 then (if v_at 60 (H.1 19) (nI i) = 59 then _ else Sum.inl (nI i + 1, (v_X_takes H (v_at 60 (H.1 19) (nI i))).2)) else _) = _
        rw [if_pos hn, ea, if_neg n59, nI_1]
      have hps : ps_X_addTo_0_6 h0 y (nI i, H) := ⟨fun _ => ⟨fun z => absurd (ea.symm.trans z) n59, fun _ => by show p_X_takes H (v_at 60 (H.1 19) (nI i)); rw [ea]; exact t1⟩, fun z => absurd hn z⟩
      obtain ⟨x1, H', x2, x3, x4⟩ := cx_addTo hL hs h0 y hI hr h20 N m (i + 1) q w.1 w.2 (v_X_takes H (nI (s i))).2 (by omega) (by omega) k3 k4 (ht.k k1) (k1.RT hR) h2
      exact ⟨⟨hps, fun v' hv => by rw [e1] at hv; cases hv; exact x1⟩, H', by rw [itr, e1]; exact x2, k1.k.tr x3, x4⟩
end CLD
/-- the model adds its journeys -/
theorem mm_load (h0 : HP) (y1 : Int32 × HP) (y2 : HP) {R T : Nat → Int32} {n r : Nat} (hI : Inv T n) (hr : ∀ x, x < r → Rg R x) (h20 : n + r ≤ 20) (hr8 : r ≤ 8) : ∀ (N k q : Nat) (M : HP), q + k = r → k < N → M.1 1 = TT R T n q → M.1 0 14 = nI r → M.1 9 = R → itrp (s_M_load_47 h0 y1 y2) (ps_M_load_47 h0 y1 y2) N (nI (5 * q), M) ∧ ∃ M', itr (s_M_load_47 h0 y1 y2) N (nI (5 * q), M) = some (nI (5 * r), M') ∧ M'.1 1 = TT R T n r ∧ ∀ c, c ≠ 1 → M'.1 c = M.1 c
  | 0, _, _, _, _, hN, _, _, _ => absurd hN (Nat.not_lt_zero _)
  | N + 1, k, q, M, hk, hN, hT, h14, h9 => by
    have e5 : 5 * M.1 0 14 = nI (5 * r) := by rw [h14, show (5 : Int32) = nI 5 from rfl, nI_mul]
    cases k with
    | zero =>
      have hn : ¬ nI (5 * q) < 5 * M.1 0 14 := by rw [e5]; exact nI_nlt (b := 5 * r) (by omega) (by omega)
      have e1 : s_M_load_47 h0 y1 y2 (nI (5 * q), M) = .inr (nI (5 * q), M) := by
        show (if nI (5 * q) < 5 * M.1 0 14 then _ else Sum.inr (nI (5 * q), M)) = _
        rw [if_neg hn]
      have hqr : q = r := by omega
      exact ⟨⟨⟨fun z => absurd z hn, fun _ => trivial⟩, fun v' hv => by rw [e1] at hv; cases hv⟩, M, by rw [itr, e1, hqr], by rw [hT, hqr], fun _ _ => rfl⟩
    | succ k =>
      have hn : nI (5 * q) < 5 * M.1 0 14 := by rw [e5]; exact nI_lt (b := 5 * r) (by omega) (by omega)
      have hi := TT.inv hI hr h20 (q := q) (by omega)
      have h15 : M.1 1 15 = nI (n + q) := by rw [hT]; exact hi.t15
      have ei : ∀ w, am_ix (nI (5 * q) + nI w) = 5 * q + w ∨ 40 < 5 * q + w := fun w => by
        by_cases e : 40 < 5 * q + w
        · exact .inr e
        · rw [nI_add, nI_ix (by omega)]; exact .inl rfl
      have i0 : am_ix (nI (5 * q)) = 5 * q := nI_ix (by omega)
      have i1 : am_ix (nI (5 * q) + 1) = 5 * q + 1 := (ei 1).resolve_right (by omega)
      have i2 : am_ix (nI (5 * q) + 2) = 5 * q + 2 := (ei 2).resolve_right (by omega)
      have i3 : am_ix (nI (5 * q) + 3) = 5 * q + 3 := (ei 3).resolve_right (by omega)
      have i4 : am_ix (nI (5 * q) + 4) = 5 * q + 4 := (ei 4).resolve_right (by omega)
      obtain ⟨q1, q2, q3, q4⟩ := mm_puts M (k := n + q) (by omega) (R (5 * q)) (R (5 * q + 1)) (R (5 * q + 2)) (R (5 * q + 3)) (R (5 * q + 4))
      let P := v_M_puts M (nI (n + q)) (R (5 * q)) (R (5 * q + 1)) (R (5 * q + 2)) (R (5 * q + 3)) (R (5 * q + 4))
      have p15 : P.1 1 15 = nI (n + q) := by
        show (v_M_puts _ _ _ _ _ _ _).1 1 15 = _
        rw [q2, newT_ne (by omega)]; exact h15
      have e1 : s_M_load_47 h0 y1 y2 (nI (5 * q), M) = .inl (nI (5 * (q + 1)), am_si P 1 15 (nI (n + q + 1))) := by
        show (if nI (5 * q) < 5 * M.1 0 14 then Sum.inl (nI (5 * q) + 5, am_si (v_M_puts M (M.1 1 (am_ix 15)) (M.1 9 (am_ix (nI (5 * q)))) (M.1 9 (am_ix (nI (5 * q) + 1))) (M.1 9 (am_ix (nI (5 * q) + 2))) (M.1 9 (am_ix (nI (5 * q) + 3))) (M.1 9 (am_ix (nI (5 * q) + 4)))) 1 (am_ix 15) ((v_M_puts M (M.1 1 (am_ix 15)) (M.1 9 (am_ix (nI (5 * q)))) (M.1 9 (am_ix (nI (5 * q) + 1))) (M.1 9 (am_ix (nI (5 * q) + 2))) (M.1 9 (am_ix (nI (5 * q) + 3))) (M.1 9 (am_ix (nI (5 * q) + 4)))).1 1 (am_ix 15) + 1)) else _) = _
        rw [if_pos hn, ix15, i0, i1, i2, i3, i4, h9, h15]
        show Sum.inl (nI (5 * q) + 5, am_si P 1 15 (P.1 1 15 + 1)) = _
        rw [p15, nI_1, show nI (5 * q) + 5 = nI (5 * (q + 1)) from (nI_add (5 * q) 5)]
      have hps : ps_M_load_47 h0 y1 y2 (nI (5 * q), M) := ⟨fun _ => by
        have a0 : ∀ w, w < 5 → am_in (nI (5 * q) + nI w) 40 := fun w hw => by rw [nI_add]; exact nI_am (by omega) (by omega)
        refine ⟨nI_am (by omega) (by omega), a0 1 (by omega), a0 2 (by omega), a0 3 (by omega), a0 4 (by omega), ?_⟩
        show p_M_puts M (M.1 1 (am_ix 15)) (M.1 9 (am_ix (nI (5 * q)))) (M.1 9 (am_ix (nI (5 * q) + 1))) (M.1 9 (am_ix (nI (5 * q) + 2))) (M.1 9 (am_ix (nI (5 * q) + 3))) (M.1 9 (am_ix (nI (5 * q) + 4)))
        rw [ix15, i0, i1, i2, i3, i4, h9, h15]
        exact q1, fun z => absurd hn z⟩
      have hM : ∀ c, c ≠ 1 → (am_si P 1 15 (nI (n + q + 1))).1 c = M.1 c := fun c hc => by rw [am_si_ne hc]; exact q3 c hc
      obtain ⟨x1, M', x2, x3, x4⟩ := mm_load h0 y1 y2 hI hr h20 hr8 N k (q + 1) (am_si P 1 15 (nI (n + q + 1))) (by omega) (by omega)
        (by
          rw [si1]
          show upd ((v_M_puts _ _ _ _ _ _ _).1 1) 15 _ = _
          rw [q2, hT]; rfl)
        (by rw [hM 0 (by omega)]; exact h14) (by rw [hM 9 (by omega)]; exact h9)
      exact ⟨⟨hps, fun v' hv => by rw [e1] at hv; cases hv; exact x1⟩, M', by rw [itr, e1]; exact x2, x3, fun c hc => (x4 c hc).trans (hM c hc)⟩
