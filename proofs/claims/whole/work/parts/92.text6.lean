/-! PURE: texts: a text that is whole; the first error, class and model side by side. -/
def Wh (s : Nat → Nat) (R : Nat → Int32) : Nat → Nat → Nat → (Nat → Option Nat) → Nat → Nat → Prop
  | 0, _, p, f, q, r => Rw p f R q ∧ r = q + 1
  | n + 1, i, p, f, q, r => ∃ y, xt p f (s i) = some y ∧ ((s i = 59 ∧ Rw p f R q ∧ Wh s R n (i + 1) y.1 y.2 (q + 1) r) ∨ (s i ≠ 59 ∧ Wh s R n (i + 1) y.1 y.2 q r))
theorem Gx.wh {s : Nat → Nat} {R : Nat → Int32} : ∀ {n m i : Nat} {p p' q r : Nat} {f f' : Nat → Option Nat}, Gx s n i p f p' f' → Wh s R m (i + n) p' f' q r → Wh s R (n + m) i p f q r
  | 0, m, i, p, p', q, r, f, f', h, h2 => by
    obtain ⟨rfl, rfl⟩ := h
    rw [Nat.zero_add]; exact h2
  | n + 1, m, i, p, p', q, r, f, f', h, h2 => by
    obtain ⟨h59, y, e, h1⟩ := h
    rw [show n + 1 + m = (n + m) + 1 by omega]
    exact ⟨y, e, .inr ⟨h59, Gx.wh h1 (by rw [show i + 1 + n = i + (n + 1) by omega]; exact h2)⟩⟩
theorem Wh.rd {s : Nat → Nat} {R : Nat → Int32} : ∀ {n i p q r : Nat} {f : Nat → Option Nat}, Wh s R n i p f q r → (rd s n i p f).1 = i + n ∧ fi (rd s n i p f).2.1 (rd s n i p f).2.2 = true
  | 0, i, p, q, r, f, h => by
    obtain ⟨⟨rfl, a, b, c, d, e, -, -, -, -, -, -, -, -, -, -, h5, -⟩, -⟩ := h
    refine ⟨rfl, ?_⟩
    show (Nat.beq 5 5 && (f 5).isSome) = true
    rw [h5]; rfl
  | n + 1, i, p, q, r, f, h => by
    obtain ⟨y, e, h2⟩ := h
    rw [rd_some e, show i + (n + 1) = i + 1 + n by omega]
    rcases h2 with ⟨-, -, h2⟩ | ⟨-, h2⟩
    · exact Wh.rd h2
    · exact Wh.rd h2
theorem Wh.jn {s : Nat → Nat} {R : Nat → Int32} : ∀ {n i p q r : Nat} {f : Nat → Option Nat}, Wh s R n i p f q r → r + sn (fun i => if s i = 59 then 1 else 0) i = q + 1 + sn (fun i => if s i = 59 then 1 else 0) (i + n)
  | 0, i, p, q, r, f, h => by rw [h.2]; rfl
  | n + 1, i, p, q, r, f, h => by
    obtain ⟨y, e, h2⟩ := h
    have h4 : sn (fun i => if s i = 59 then 1 else 0) (i + 1) = sn (fun i => if s i = 59 then 1 else 0) i + (if s i = 59 then 1 else 0) := rfl
    rw [show i + (n + 1) = i + 1 + n by omega]
    rcases h2 with ⟨h3, -, h2⟩ | ⟨h3, h2⟩
    · have := Wh.jn h2
      rw [if_pos h3] at h4; omega
    · have := Wh.jn h2
      rw [if_neg h3] at h4; omega
theorem Rw.ag {p q : Nat} {f : Nat → Option Nat} {R R' : Nat → Int32} (h : Rw p f R q) (a : ∀ k, k < 5 * (q + 1) → R' k = R k) : Rw p f R' q := by
  obtain ⟨h5, a1, b1, c1, d1, e1, g1, g2, g3, g4, g5, g6, k1, k2, k3, k4, k5, r1, r2, r3, r4, r5⟩ := h
  exact ⟨h5, a1, b1, c1, d1, e1, g1, g2, g3, g4, g5, g6, k1, k2, k3, k4, k5, by rw [a _ (by omega)]; exact r1, by rw [a _ (by omega)]; exact r2, by rw [a _ (by omega)]; exact r3, by rw [a _ (by omega)]; exact r4, by rw [a _ (by omega)]; exact r5⟩
/-- what the model's reading comes to -/
def WR (M : HP) (s : Nat → Nat) (L i q : Nat) (w : Int32 × HP) : Prop :=
  MQk M w.2 ∧ (∀ k, k < 5 * q → w.2.1 9 k = M.1 9 k) ∧ ∃ j q', MS w.2 L s j q' ∧ j ≤ L ∧ q' ≤ 8 ∧
    ((w.1 = 1 ∧ j = L ∧ Wh s (w.2.1 9) (L - i) i 0 f0 q q') ∨ (w.1 = 0 ∧ (rd s (L - i) i 0 f0).1 = j ∧ ¬ (j = L ∧ fi (rd s (L - i) i 0 f0).2.1 (rd s (L - i) i 0 f0).2.2 = true)))
def Rz (r : (Int32 × HP) ⊕ (Int32 × HP)) : Int32 × HP := match r with
  | .inl r1 => ((if r1.2.1 0 12 = r1.2.1 0 7 then (1 : Int32) else 0), r1.2)
  | .inr q => q
section MWH
variable {s : Nat → Nat} {L : Nat}
theorem rd_stop (hL : L ≤ 60) (hs : ∀ i, i < L → s i ≤ 126) {n i m p : Nat} {f : Nat → Option Nat} (g : Gx s n i 0 f0 p f) (hm : i + n + m = L) (h : m = 0 ∨ xt p f (s (i + n)) = none) : rd s (L - i) i 0 f0 = (i + n, p, f) := by
  rw [show L - i = n + m by omega, g.rd]
  cases m with
  | zero => rfl
  | succ m => exact rd_none (h.resolve_left (by omega))
theorem ms_wl (hL : L ≤ 60) (hs : ∀ i, i < L → s i ≤ 126) (h0 : HP) : ∀ (N n i q : Nat) (M : HP), i + n = L → 2 * n + 2 < N → 8 * q ≤ i → MS M L s i q → itrp (s_M_isWhole_12 h0) (ps_M_isWhole_12 h0) N (1, M) ∧ ∃ r, itr (s_M_isWhole_12 h0) N (1, M) = some r ∧ WR M s L i q (Rz r)
  | 0, _, _, _, _, _, hN, _, _ => absurd hN (Nat.not_lt_zero _)
  | N + 1, n, i, q, M, hn, hN, hq, t => by
    obtain ⟨a, n', p, f, c1, c2, c3, c4, c5, c6⟩ := ms_part hL hs (i := i) (q := q) (by omega) (by omega) t
    obtain ⟨w, hw⟩ : ∃ w, v_M_isPart M = w := ⟨_, rfl⟩
    rw [hw] at c3 c4 c5 c6
    have e0 : s_M_isWhole_12 h0 (1, M) = (if w.1 = 0 then .inr (.inr (0, w.2)) else .inl ((v_M_takes (am_si w.2 0 14 (w.2.1 0 14 + 1)) 59).1, (v_M_takes (am_si w.2 0 14 (w.2.1 0 14 + 1)) 59).2)) := by
      show (if (1 : Int32) = 0 then _ else (if (v_M_isPart M).1 = 0 then Sum.inr (Sum.inr (0, (v_M_isPart M).2)) else Sum.inl ((v_M_takes (am_si (v_M_isPart M).2 0 14 ((v_M_isPart M).2.1 0 14 + 1)) 59).1, (v_M_takes (am_si (v_M_isPart M).2 0 14 ((v_M_isPart M).2.1 0 14 + 1)) 59).2))) = _
      rw [if_neg one0, hw]
    rw [c3.2.1, nI_1] at e0
    have t3 : MS (am_si w.2 0 14 (nI (q + 1))) L s (i + n') (q + 1) := ⟨by rw [am_si1, if_neg (by omega)]; exact c3.1, by rw [am_si1, if_pos ⟨rfl, rfl⟩], by rw [am_si1, if_neg (by omega)]; exact c3.2.2.1, fun k hk => by rw [am_si_ne (by omega)]; exact c3.2.2.2 k hk⟩
    obtain ⟨d1, d2'⟩ := ms_takes hL hs c1 t3 (c := 59) (by omega)
    have d2 : v_M_takes (am_si w.2 0 14 (nI (q + 1))) 59 = (if i + n' < L ∧ s (i + n') = 59 then (1, am_si (am_si w.2 0 14 (nI (q + 1))) 0 12 (nI (i + n' + 1))) else (0, am_si (am_si w.2 0 14 (nI (q + 1))) 0 12 (nI (i + n')))) := d2'
    have hps : ps_M_isWhole_12 h0 (1, M) := ⟨fun z => absurd z one0, fun _ => ⟨a, fun y2 hy => ⟨fun _ => trivial, fun _ => by
      have hy' : w = y2 := hw.symm.trans hy
      subst hy'
      rw [c3.2.1, nI_1]; exact d1⟩⟩⟩
    have f14 : MQk w.2 (am_si w.2 0 14 (nI (q + 1))) := MQk.sp _ (by omega) _
    rcases c6 with ⟨b1, b2, b3⟩ | ⟨b1, b2, b3, b4⟩
    · rw [if_pos b1] at e0
      have hr := rd_stop hL hs c2 (m := L - (i + n')) (by omega) (b3.imp (fun z => by omega) id)
      refine ⟨⟨hps, fun v' hv => by rw [e0] at hv; cases hv⟩, .inr (0, w.2), by rw [itr, e0], c4, c5, i + n', q, c3, c1, by omega, .inr ⟨rfl, by rw [hr], fun z => ?_⟩⟩
      rw [hr] at z
      exact absurd (b2.symm.trans z.2) (by decide)
    · rw [if_neg (by rw [b1]; exact one0), d2] at e0
      by_cases e59 : i + n' < L ∧ s (i + n') = 59
      · rw [if_pos e59] at e0
        let M4 := am_si (am_si w.2 0 14 (nI (q + 1))) 0 12 (nI (i + n' + 1))
        have t4 : MS M4 L s (i + n' + 1) (q + 1) := t3.adv _
        obtain ⟨x1, r, x2, x3, x4, j, q', x5, x6, x8, x7⟩ := ms_wl hL hs h0 N (L - (i + n' + 1)) (i + n' + 1) (q + 1) M4 (by omega) (by omega) (by omega) t4
        have h9 : ∀ k, M4.1 9 k = w.2.1 9 k := fun k => by
          show (am_si (am_si w.2 0 14 _) 0 12 _).1 9 k = _
          rw [am_si_ne (by omega), am_si_ne (by omega)]
        obtain ⟨-, a', b', c', d', e', -, -, -, -, -, -, -, -, -, -, hf5, -⟩ := id b3
        obtain ⟨hp5, -⟩ := id b3
        have hxt : xt p f (s (i + n')) = some (0, f0) := by rw [e59.2, hp5]; exact xt_semi hf5
        refine ⟨⟨hps, fun v' hv => by rw [e0] at hv; cases hv; exact x1⟩, r, by rw [itr, e0]; exact x2, (c4.tr (f14.tr (MQk.sp _ (by omega) _))).tr x3, fun k hk => by rw [x4 k (by omega), h9]; exact c5 k hk, j, q', x5, x6, x8, ?_⟩
        rcases x7 with ⟨y1, y2, y3⟩ | ⟨y1, y2, y3⟩
        · refine .inl ⟨y1, y2, ?_⟩
          rw [show L - i = n' + (L - (i + n')) by omega]
          refine c2.wh ?_
          rw [show L - (i + n') = (L - (i + n' + 1)) + 1 by omega]
          exact ⟨(0, f0), hxt, .inl ⟨e59.2, b3.ag (fun k hk => by rw [x4 k hk, h9]), y3⟩⟩
        · have hrd : rd s (L - i) i 0 f0 = rd s (L - (i + n' + 1)) (i + n' + 1) 0 f0 := by
            rw [show L - i = n' + ((L - (i + n' + 1)) + 1) by omega, c2.rd, rd_some hxt]
          rw [hrd]
          exact .inr ⟨y1, y2, y3⟩
      · rw [if_neg e59] at e0
        let M4 := am_si (am_si w.2 0 14 (nI (q + 1))) 0 12 (nI (i + n'))
        have t4 : MS M4 L s (i + n') (q + 1) := t3.adv _
        have h9 : ∀ k, M4.1 9 k = w.2.1 9 k := fun k => by
          show (am_si (am_si w.2 0 14 _) 0 12 _).1 9 k = _
          rw [am_si_ne (by omega), am_si_ne (by omega)]
        match N, hN with
        | 0, hN => omega
        | N + 1, hN =>
          have e1 : s_M_isWhole_12 h0 (0, M4) = .inr (.inl (0, M4)) := by
            show (if (0 : Int32) = 0 then Sum.inr (Sum.inl (0, M4)) else _) = _
            rw [if_pos rfl]
          have hz : Rz (.inl (0, M4)) = ((if i + n' = L then 1 else 0), M4) := by
            show ((if M4.1 0 12 = M4.1 0 7 then (1 : Int32) else 0), M4) = _
            rw [t4.1, t4.2.2.1]
            by_cases e : i + n' = L
            · rw [if_pos (by rw [e]), if_pos e]
            · rw [if_neg (fun z => e (nI_inj (by omega) (by omega) z)), if_neg e]
          refine ⟨⟨hps, fun v' hv => by rw [e0] at hv; cases hv; exact ⟨⟨fun _ => trivial, fun z => absurd rfl z⟩, fun v' hv => by rw [e1] at hv; cases hv⟩⟩, .inl (0, M4), by rw [itr, e0]; show itr _ (N + 1) (0, M4) = _; rw [itr, e1], ?_⟩
          rw [hz]
          refine ⟨c4.tr (f14.tr (MQk.sp _ (by omega) _)), fun k hk => by rw [h9]; exact c5 k hk, i + n', q + 1, t4, c1, by omega, ?_⟩
          by_cases e : i + n' = L
          · refine .inl ⟨if_pos e, e, ?_⟩
            rw [show L - i = n' + 0 by omega]
            exact c2.wh ⟨b3.ag (fun k hk => h9 k), rfl⟩
          · have hnone : xt p f (s (i + n')) = none := by
              rcases b4 with z | z | z
              · exact absurd z e
              · exact absurd ⟨by omega, z⟩ e59
              · exact z
            have hr := rd_stop hL hs c2 (m := L - (i + n')) (by omega) (.inr hnone)
            exact .inr ⟨if_neg e, by rw [hr], fun z => e z.1⟩
theorem ms_whole (hL : L ≤ 60) (hs : ∀ i, i < L → s i ≤ 126) {M : HP} (h7 : M.1 0 7 = nI L) (h6 : ∀ k, k < L → M.1 6 k = nI (s k)) : p_M_isWhole M ∧ WR M s L 0 0 (v_M_isWhole M) := by
  have t : MS (am_si (am_si M 0 12 0) 0 14 0) L s 0 0 := ⟨by rw [am_si1, if_neg (by omega), am_si1, if_pos ⟨rfl, rfl⟩]; rfl, by rw [am_si1, if_pos ⟨rfl, rfl⟩]; rfl, by rw [am_si1, if_neg (by omega), am_si1, if_neg (by omega)]; exact h7, fun k hk => by rw [am_si_ne (by omega), am_si_ne (by omega)]; exact h6 k hk⟩
  obtain ⟨a, r, b1, b2, b3, b4⟩ := ms_wl hL hs M NF L 0 0 _ (by omega) (by rw [NF_eq]; omega) (by omega) t
  have ev : v_M_isWhole M = Rz r := by
    rw [v_M_isWhole, b1]
    cases r with
    | inl r1 => rfl
    | inr q => rfl
  refine ⟨a, ?_⟩
  rw [ev]
  exact ⟨((MQk.sp _ (by omega) _).tr (MQk.sp _ (by omega) _)).tr b2, fun k hk => absurd hk (by omega), b4⟩
end MWH
/-- the text of both -/
theorem RrX.txt {h m : HP} (hx : RrX h m) : ∃ L s, L ≤ 60 ∧ (∀ i, i < L → s i ≤ 126) ∧ TX h L s ∧ m.1 0 7 = nI L ∧ ∀ k, k < L → m.1 6 k = nI (s k) := by
  obtain ⟨l, x1, x2, x3, x4⟩ := hx
  have hc : ∀ i, i < l → am_ix (m.1 6 i) ≤ 126 ∧ m.1 6 i = nI (am_ix (m.1 6 i)) ∧ h.1 19 i = nI (am_ix (m.1 6 i)) := fun i hi => by
    obtain ⟨c, c1, c2, c3, c4⟩ := x4 i hi
    rw [c4, nI_ix (by omega)]
    exact ⟨c2, rfl, c3⟩
  exact ⟨l, fun i => am_ix (m.1 6 i), x1, fun i hi => (hc i hi).1, ⟨x2, fun i hi => (hc i hi).2.2⟩, x3, fun k hk => (hc k hk).2.1⟩
theorem firstError_both {n : Nat} {h m : HP} (hr : RR n h m) : p_B_firstError h ∧ p_M_firstError m ∧ Bo [] h (.inr (v_B_firstError h)) (v_M_firstError m) := by
  obtain ⟨L, s, hL, hs, t1, t2, t3⟩ := hr.2.2.2.2.1.txt
  obtain ⟨a1, a2, a3, a4⟩ := cx_read hL hs t1
  obtain ⟨b1, b2, b3, j, q', b4, b5, b7, b6⟩ := ms_whole hL hs (M := am_si m 0 8 0) (by rw [am_si1, if_neg (by omega)]; exact t2) (fun k hk => by rw [am_si_ne (by omega)]; exact t3 k hk)
  refine ⟨a1, b1, ?_⟩
  obtain ⟨w, hw⟩ : ∃ w, v_M_isWhole (am_si m 0 8 0) = w := ⟨_, rfl⟩
  rw [hw] at b2 b3 b4 b6
  have ev : v_M_firstError m = ((if w.1 = 0 then w.2.1 0 12 else w.2.1 0 7), w.2) := by
    show ((if (v_M_isWhole (am_si m 0 8 0)).1 = 0 then (v_M_isWhole (am_si m 0 8 0)).2.1 0 12 else (v_M_isWhole (am_si m 0 8 0)).2.1 0 7), (v_M_isWhole (am_si m 0 8 0)).2) = _
    rw [hw]
  rw [ev]
  refine ⟨by show w.2.1 0 8 = 0; rw [b2.2.2]; exact th8 _ _, ?_, n, (hr.th 0).look a3 b2.1 (fun i _ => by rw [b2.2.1])⟩
  show (if w.1 = 0 then w.2.1 0 12 else w.2.1 0 7) = (v_X_readToError h).1
  rw [a2]
  rcases b6 with ⟨c1, c2, c3⟩ | ⟨c1, c2, c3⟩
  · rw [if_neg (by rw [c1]; exact one0), b4.2.2.1]
    have := (Wh.rd c3).1
    rw [Nat.sub_zero, Nat.zero_add] at this
    rw [this]
  · rw [if_pos c1, b4.1, ← c2, Nat.sub_zero]
