/-! PURE: the digest, class and model side by side: settings, terminals. -/
/-- k steps -/
def pth {σ ρ : Type} (s : σ → σ ⊕ ρ) (p : σ → Prop) : Nat → σ → σ → Prop
  | 0, v, w => v = w
  | k + 1, v, w => p v ∧ ∃ u, s v = .inl u ∧ pth s p k u w
theorem pth_run {σ ρ : Type} {s : σ → σ ⊕ ρ} {p : σ → Prop} : ∀ (k : Nat) (v w : σ), pth s p k v w → ∀ N, itr s (N + k) v = itr s N w ∧ (itrp s p N w → itrp s p (N + k) v)
  | 0, v, w, h, N => by
    have e : v = w := h
    subst e
    exact ⟨rfl, fun z => z⟩
  | k + 1, v, w, h, N => by
    obtain ⟨h1, u, h2, h3⟩ := h
    obtain ⟨a, b⟩ := pth_run k u w h3 N
    rw [show N + (k + 1) = (N + k) + 1 by omega]
    refine ⟨?_, fun z => ⟨h1, fun v' e => ?_⟩⟩
    · rw [itr, h2]; exact a
    · rw [h2] at e; cases e; exact b z
/-- one step of the first against K of the second -/
theorem itr_relK {σ₁ σ₂ ρ₁ ρ₂ : Type} {s₁ : σ₁ → σ₁ ⊕ ρ₁} {s₂ : σ₂ → σ₂ ⊕ ρ₂} {p₁ : σ₁ → Prop} {p₂ : σ₂ → Prop} (R : σ₁ → σ₂ → Prop) (m : σ₁ → Nat) (Q : ρ₁ → ρ₂ → Prop) (K : Nat)
    (h : ∀ v w, R v w → p₁ v ∧ ((∃ v' w', s₁ v = .inl v' ∧ pth s₂ p₂ K w w' ∧ R v' w' ∧ m v' < m v) ∨ (p₂ w ∧ ∃ r q, s₁ v = .inr r ∧ s₂ w = .inr q ∧ Q r q))) : ∀ (d : Nat) (v : σ₁) (w : σ₂), m v ≤ d → R v w → ∀ N₁ N₂, d < N₁ → K * d < N₂ → itrp s₁ p₁ N₁ v ∧ itrp s₂ p₂ N₂ w ∧ ∃ r q, itr s₁ N₁ v = some r ∧ itr s₂ N₂ w = some q ∧ Q r q
  | d, v, w, hm, hR, N₁, N₂, h1, h2 => by
    obtain ⟨a, b⟩ := h v w hR
    obtain ⟨N, rfl⟩ : ∃ N, N₁ = N + 1 := ⟨N₁ - 1, by omega⟩
    rcases b with ⟨v', w', e1, e2, hR', hm'⟩ | ⟨c, r, q, e1, e2, hQ⟩
    · match d, hm, h1, h2 with
      | 0, hm, _, _ => omega
      | d + 1, hm, h1, h2 =>
        rw [Nat.mul_succ] at h2
        obtain ⟨M, rfl⟩ : ∃ M, N₂ = M + K := ⟨N₂ - K, by omega⟩
        obtain ⟨c1, c2, r, q, c3, c4, c5⟩ := itr_relK R m Q K h d v' w' (by omega) hR' N M (by omega) (by omega)
        obtain ⟨d1, d2⟩ := pth_run K w w' e2 M
        exact ⟨⟨a, fun x hx => by rw [e1] at hx; cases hx; exact c1⟩, d2 c2, r, q, by rw [itr, e1]; exact c3, d1.trans c4, c5⟩
    · obtain ⟨M, rfl⟩ : ∃ M, N₂ = M + 1 := ⟨N₂ - 1, by omega⟩
      exact ⟨⟨a, fun x hx => by rw [e1] at hx; cases hx⟩, ⟨c, fun x hx => by rw [e2] at hx; cases hx⟩, r, q, by rw [itr, e1], by rw [itr, e2], hQ⟩
theorem dig_set {n : Nat} {a : Int64} {h0 m0 : HP} {r1 : Int64 × Int32 × HP} {r1' : Int32 × HP} {m : HP} (hr : DR n a r1.2.2 m) : itrp (s_B_digest_33 h0 r1) (ps_B_digest_33 h0 r1) NF (a, 0) ∧ itrp (s_M_mixesAll_26 m0 r1') (ps_M_mixesAll_26 m0 r1') NF (0, m) ∧ ∃ r q, itr (s_B_digest_33 h0 r1) NF (a, 0) = some r ∧ itr (s_M_mixesAll_26 m0 r1') NF (0, m) = some q ∧ DR n r.1 r1.2.2 q.2 := by
  refine itr_relN (s₁ := s_B_digest_33 h0 r1) (s₂ := s_M_mixesAll_26 m0 r1') (p₁ := ps_B_digest_33 h0 r1) (p₂ := ps_M_mixesAll_26 m0 r1')
    (fun x y => ∃ v b M, v ≤ 4 ∧ x = (b, nI v) ∧ y = (nI v, M) ∧ DR n b r1.2.2 M) (fun x _ => 4 - am_ix x.2) (fun r q => DR n r.1 r1.2.2 q.2) _ _ (by show 4 - _ < 100000; omega) ⟨0, a, m, by omega, rfl, rfl, hr⟩ ?_
  rintro x y ⟨v, b, M, hv, rfl, rfl, hD⟩
  by_cases e : v < 4
  · have l2 : nI v < 4 := nI_lt (b := 4) e (by omega)
    have hix : (8 : Int32) + nI v = nI (8 + v) := nI_add 8 v
    refine ⟨trivial, ⟨fun _ => by show am_in (8 + nI v) 163; rw [hix]; exact nI_am (by omega) (by omega), fun _ => trivial⟩, .inl ⟨_, _, ?_, ?_, ⟨v + 1, _, _, by omega, rfl, rfl, hD.mix (q := (M.1 1 (8 + v)).toInt64)⟩, ?_⟩⟩
    · show (if nI v < 4 then Sum.inl (31 * b + (v_at 4 (r1.2.2.1 11) (nI v)).toInt64, nI v + 1) else _) = _
      rw [if_pos l2, nI_1, at_nI (by omega) _ e, (hD.1.1.se e : r1.2.2.1 11 v = M.1 1 (8 + v))]
    · show (if nI v < 4 then Sum.inl (nI v + 1, v_M_mixes M (M.1 1 (am_ix (8 + nI v))).toInt64) else _) = _
      rw [if_pos l2, nI_1, hix, nI_ix (by omega)]
    · show 4 - am_ix (nI (v + 1)) < 4 - am_ix (nI v)
      rw [nI_ix (by omega), nI_ix (by omega)]; omega
  · have l2 : ¬ nI v < 4 := nI_nlt (b := 4) (by omega) (by omega)
    refine ⟨trivial, ⟨fun z => absurd z l2, fun _ => trivial⟩, .inr ⟨(b, nI v), (nI v, M), ?_, ?_, hD⟩⟩
    · show (if nI v < 4 then _ else _) = _
      rw [if_neg l2]
    · show (if nI v < 4 then _ else _) = _
      rw [if_neg l2]
theorem terminal_lk {n t v : Nat} {h m : HP} (hr : RR n h m) (h8 : m.1 0 8 = 0) (ht : t < 4) (hv : v ≤ 4) : p_B_terminalOf h (nI t) (nI v) ∧ p_M_aboutTerminal m (nI t) (nI v) ∧ ∃ H, v_B_terminalOf h (nI t) (nI v) = .inr (v_M_aboutTerminal m (nI t) (nI v), H) ∧ RR n H m := by
  obtain ⟨a1, a2, a3⟩ := terminalOf_both hr (nI t) (nI v)
  have hin : v_M_in m (nI v) 0 4 = 1 := by
    rw [v_M_in, if_neg (nI_pos (by omega)), if_pos (show nI v ≤ 4 from (nI_lei (b := 4) (by omega) (by omega)).mpr hv)]
  have hit : v_M_isTerminal m (nI t) = 1 := by
    rw [v_M_isTerminal, v_M_in, if_neg (nI_pos (by omega)), if_pos (show nI t ≤ 3 from (nI_lei (b := 3) (by omega) (by omega)).mpr (by omega))]
  have n1 : ¬ v_M_isTerminal (am_si m 0 8 0) (nI t) = 0 := by rw [si8 h8, hit]; exact one0
  have n2 : ¬ v_M_in (am_si m 0 8 0) (nI v) 0 4 = 0 := by rw [si8 h8, hin]; exact one0
  have hmv : v_M_terminalOf m (nI t) (nI v) = (v_M_aboutTerminal m (nI t) (nI v), m) := by rw [v_M_terminalOf, if_neg n1, if_neg n2, si8 h8]
  have hp : p_M_aboutTerminal m (nI t) (nI v) := by have := (a2.2.2 n1).2 n2; rw [si8 h8] at this; exact this
  rw [hmv] at a3
  refine ⟨a1, hp, ?_⟩
  cases ec : v_B_terminalOf h (nI t) (nI v) with
  | inl E =>
    rw [ec] at a3
    have a4 : (E, m.1 0 8) ∈ [(xI, (1 : Int32)), (xA, 2)] := a3.1
    rw [h8, List.mem_cons, List.mem_singleton] at a4
    rcases a4 with a4 | a4
    · exact absurd (Prod.mk.inj a4).2 (by decide)
    · exact absurd (Prod.mk.inj a4).2 (by decide)
  | inr r =>
    rw [ec] at a3
    obtain ⟨b1, b2, n', b3⟩ := a3
    refine ⟨r.2, ?_, ?_⟩
    · rw [show v_M_aboutTerminal m (nI t) (nI v) = r.1 from b2]
    · have e1 : m.1 1 15 = nI n' := b3.2.1.t15
      rw [hr.2.1.t15] at e1
      have h20 := hr.2.1.n20
      have h20' := b3.2.1.n20
      have e2 : n = n' := nI_inj (by omega) (by omega) e1
      rw [e2]; exact b3
/-- the looks at one terminal: the class's inner loop, five steps of the model's -/
theorem dig_termIn {n t : Nat} {h0 m0 : HP} {r1 : Int64 × Int32 × HP} {r3 : Int64 × Int32} {v1 : Int64 × Int32 × HP} {q1 q4 : Int32 × HP} (ht : t < 4) (hv1 : v1.2.1 = nI t) : ∀ (d j : Nat) (b : Int64) (H M : HP), j + d = 5 → DR n b H M → ∀ N, d < N →
    itrp (s_B_digest_73 h0 r1 r3 v1) (ps_B_digest_73 h0 r1 r3 v1) N (b, nI j, H) ∧ ∃ r M', itr (s_B_digest_73 h0 r1 r3 v1) N (b, nI j, H) = some r ∧ pth (s_M_mixesAll_53 m0 q1 q4) (ps_M_mixesAll_53 m0 q1 q4) d (nI (5 * t + j), M) (nI (5 * t + 5), M') ∧ DR n r.1 r.2.2 M'
  | 0, j, b, H, M, hj, hD, N, hN => by
    obtain ⟨N, rfl⟩ : ∃ k, N = k + 1 := ⟨N - 1, by omega⟩
    have ej : j = 5 := by omega
    subst ej
    have l1 : ¬ nI 5 ≤ 4 := by decide +kernel
    have hs : s_B_digest_73 h0 r1 r3 v1 (b, nI 5, H) = .inr (b, nI 5, H) := by
      show (if nI 5 ≤ 4 then _ else _) = _
      rw [if_neg l1]
    exact ⟨⟨⟨fun z => absurd z l1, fun _ => trivial⟩, fun x hx => by rw [hs] at hx; cases hx⟩, _, M, by rw [itr, hs], rfl, hD⟩
  | d + 1, j, b, H, M, hj, hD, N, hN => by
    obtain ⟨N, rfl⟩ : ∃ k, N = k + 1 := ⟨N - 1, by omega⟩
    have hj4 : j ≤ 4 := by omega
    have l1 : nI j ≤ 4 := (nI_lei (b := 4) (by omega) (by omega)).mpr hj4
    have l2 : nI (5 * t + j) < 20 := nI_lt (b := 20) (by omega) (by omega)
    have ed : nI (5 * t + j) / 5 = nI t := by
      rw [show (5 : Int32) = nI 5 from rfl, nI_div (by omega) (by omega)]; congr 1; omega
    have em : nI (5 * t + j) - nI (5 * t + j) / 5 * 5 = nI j := by
      rw [show (5 : Int32) = nI 5 from rfl, nI_mod (by omega) (by omega)]; congr 1; omega
    obtain ⟨c1, c2, H', c3, c4⟩ := terminal_lk hD.1 hD.2.1 ht hj4
    have hD' : DR n (31 * b + (v_M_aboutTerminal M (nI t) (nI j)).toInt64) H' (v_M_mixes M (v_M_aboutTerminal M (nI t) (nI j)).toInt64) := DR.mix (h := H') ⟨c4, hD.2.1, hD.2.2⟩
    have hs : s_B_digest_73 h0 r1 r3 v1 (b, nI j, H) = .inl (31 * b + (v_M_aboutTerminal M (nI t) (nI j)).toInt64, nI (j + 1), H') := by
      show (if nI j ≤ 4 then (match v_B_terminalOf H v1.2.1 (nI j) with | Sum.inl _ => Sum.inl (b, nI j, H) | Sum.inr y6 => (Sum.inl (((31 * b) + ((y6.1).toInt64)), (nI j + 1), y6.2))) else _) = _
      rw [if_pos l1, hv1, c3, nI_1]
    have hs2 : s_M_mixesAll_53 m0 q1 q4 (nI (5 * t + j), M) = .inl (nI (5 * t + (j + 1)), v_M_mixes M (v_M_aboutTerminal M (nI t) (nI j)).toInt64) := by
      show (if nI (5 * t + j) < 20 then Sum.inl (nI (5 * t + j) + 1, v_M_mixes M (v_M_aboutTerminal M (nI (5 * t + j) / 5) (nI (5 * t + j) - nI (5 * t + j) / 5 * 5)).toInt64) else _) = _
      rw [if_pos l2, em, ed, nI_1]
      rfl
    obtain ⟨e1, r, M', e2, e3, e4⟩ := dig_termIn (h0 := h0) (m0 := m0) (r1 := r1) (r3 := r3) (q1 := q1) (q4 := q4) ht hv1 d (j + 1) _ H' _ (by omega) hD' N (by omega)
    refine ⟨⟨⟨fun _ => ⟨by rw [hv1]; exact c1, _, by rw [hv1]; exact c3⟩, fun _ => trivial⟩, fun x hx => by rw [hs] at hx; cases hx; exact e1⟩, r, M', by rw [itr, hs]; exact e2, ⟨⟨fun _ => ?_, fun _ => trivial⟩, _, hs2, e3⟩, e4⟩
    show p_M_aboutTerminal M (nI (5 * t + j) / 5) (nI (5 * t + j) - nI (5 * t + j) / 5 * 5)
    rw [em, ed]; exact c2
theorem dig_term {n : Nat} {a : Int64} {h m h0 m0 : HP} {r1 : Int64 × Int32 × HP} {r3 : Int64 × Int32} {q1 q4 : Int32 × HP} (hr : DR n a h m) : itrp (s_B_digest_65 h0 r1 r3) (ps_B_digest_65 h0 r1 r3) NF (a, 0, h) ∧ itrp (s_M_mixesAll_53 m0 q1 q4) (ps_M_mixesAll_53 m0 q1 q4) NF (0, m) ∧ ∃ r q, itr (s_B_digest_65 h0 r1 r3) NF (a, 0, h) = some r ∧ itr (s_M_mixesAll_53 m0 q1 q4) NF (0, m) = some q ∧ DR n r.1 r.2.2 q.2 := by
  refine itr_relK (s₁ := s_B_digest_65 h0 r1 r3) (s₂ := s_M_mixesAll_53 m0 q1 q4) (p₁ := ps_B_digest_65 h0 r1 r3) (p₂ := ps_M_mixesAll_53 m0 q1 q4)
    (fun x y => ∃ t b H M, t ≤ 4 ∧ x = (b, nI t, H) ∧ y = (nI (5 * t), M) ∧ DR n b H M) (fun x => 4 - am_ix x.2.1) (fun r q => DR n r.1 r.2.2 q.2) 5 ?_ 4 _ _ (by show 4 - _ ≤ 4; omega) ⟨0, a, h, m, by omega, rfl, rfl, hr⟩ NF NF (by rw [NF_eq]; omega) (by rw [NF_eq]; omega)
  rintro x y ⟨t, b, H, M, ht, rfl, rfl, hD⟩
  by_cases e : t < 4
  · have l1 : nI t < 4 := nI_lt (b := 4) e (by omega)
    obtain ⟨c1, r, M', c2, c3, c4⟩ := dig_termIn (h0 := h0) (m0 := m0) (r1 := r1) (r3 := r3) (q1 := q1) (q4 := q4) (v1 := (b, nI t, H)) e rfl 5 0 b H M (by omega) hD NF (by rw [NF_eq]; omega)
    refine ⟨⟨fun _ => c1, fun _ => trivial⟩, .inl ⟨_, _, ?_, c3, ⟨t + 1, r.1, r.2.2, M', by omega, rfl, rfl, c4⟩, ?_⟩⟩
    · show (if nI t < 4 then (match itr (s_B_digest_73 h0 r1 r3 (b, nI t, H)) NF (b, 0, H) with | some r5 => (Sum.inl (r5.1, (nI t + 1), r5.2.2)) | none => Sum.inl (b, nI t, H)) else _) = _
      rw [if_pos l1, show itr (s_B_digest_73 h0 r1 r3 (b, nI t, H)) NF (b, 0, H) = some r from c2, nI_1]
    · show 4 - am_ix (nI (t + 1)) < 4 - am_ix (nI t)
      rw [nI_ix (by omega), nI_ix (by omega)]; omega
  · have l1 : ¬ nI t < 4 := nI_nlt (b := 4) (by omega) (by omega)
    have l2 : ¬ nI (5 * t) < 20 := nI_nlt (b := 20) (by omega) (by omega)
    refine ⟨⟨fun z => absurd z l1, fun _ => trivial⟩, .inr ⟨⟨fun z => absurd z l2, fun _ => trivial⟩, (b, nI t, H), (nI (5 * t), M), ?_, ?_, hD⟩⟩
    · show (if nI t < 4 then _ else _) = _
      rw [if_neg l1]
    · show (if nI (5 * t) < 20 then _ else _) = _
      rw [if_neg l2]
