/-! PURE: the digest, class and model side by side: trips. -/
theorem itr_keep {σ ρ : Type} {s : σ → σ ⊕ ρ} {I : σ → Prop} {J : ρ → Prop} (h : ∀ v, I v → (∀ v', s v = .inl v' → I v') ∧ (∀ r, s v = .inr r → J r)) : ∀ (N : Nat) (v : σ) (r : ρ), I v → itr s N v = some r → J r
  | 0, _, _, _, e => nomatch e
  | N + 1, v, r, hI, e => by
    rw [itr] at e
    cases es : s v with
    | inl v' => rw [es] at e; exact itr_keep h N v' r ((h v hI).1 v' es) e
    | inr q => rw [es] at e; cases e; exact (h v hI).2 r es
theorem best_keep {m : HP} {k w : Nat} (hk : k < 20) : (v_M_best m (nI k) (nI w)).2.2 = m.2 ∧ (v_M_best m (nI k) (nI w)).2.1 0 8 = m.1 0 8 ∧ ∀ i, i ≠ 16 + 7 * k + 3 → (v_M_best m (nI k) (nI w)).2.1 1 i = m.1 1 i := by
  have hb : ∀ (M : HP) (x : Int32), v_M_becomes M (nI k) 3 x = am_si M 1 (16 + 7 * k + 3) x := fun M x => vm_becomes M (w := 3) (by omega) (by omega) x
  have hbk : ∀ (M : HP) (x : Int32), (M.2 = m.2 ∧ M.1 0 8 = m.1 0 8 ∧ ∀ i, i ≠ 16 + 7 * k + 3 → M.1 1 i = m.1 1 i) → ((v_M_becomes M (nI k) 3 x).2 = m.2 ∧ (v_M_becomes M (nI k) 3 x).1 0 8 = m.1 0 8 ∧ ∀ i, i ≠ 16 + 7 * k + 3 → (v_M_becomes M (nI k) 3 x).1 1 i = m.1 1 i) := fun M x z => by
    rw [hb]
    exact ⟨z.1, by rw [am_si_ne (by omega)]; exact z.2.1, fun i hi => by rw [am_si1, if_neg (fun y => hi y.2)]; exact z.2.2 i hi⟩
  rw [v_M_best]
  cases e : itr (s_M_best_26 m (nI k) (nI w)) NF ((v_M_of m (nI k) 3), (v_M_byDeficits m (m.1 1 (am_ix 15))), 1, m) with
  | none => exact ⟨rfl, rfl, fun _ _ => rfl⟩
  | some r =>
    have hr := itr_keep (I := fun v => v.2.2.2.2 = m.2 ∧ v.2.2.2.1 0 8 = m.1 0 8 ∧ ∀ i, i ≠ 16 + 7 * k + 3 → v.2.2.2.1 1 i = m.1 1 i) (J := fun r => r.2.2.2.2 = m.2 ∧ r.2.2.2.1 0 8 = m.1 0 8 ∧ ∀ i, i ≠ 16 + 7 * k + 3 → r.2.2.2.1 1 i = m.1 1 i) (fun v hv => by
      unfold s_M_best_26
      by_cases c : v.2.2.1 ≤ 2 * nI w
      · rw [if_pos c]
        exact ⟨fun v' z => (by cases z; exact hbk _ _ hv), fun r z => (nomatch z)⟩
      · rw [if_neg c]
        exact ⟨fun v' z => (nomatch z), fun r z => (by cases z; exact hv)⟩) _ _ _ ⟨rfl, rfl, fun _ _ => rfl⟩ e
    exact hbk _ _ hr
theorem isTrip1 {n k : Nat} {m : HP} {T : Nat → Int32} (hT : m.1 1 = T) (hI : Inv T n) (hk : k < n) : v_M_isTrip m (nI k) = 1 := by
  have h20 := hI.n20
  obtain ⟨N, rfl⟩ : ∃ N, n = N + 1 := ⟨n - 1, by omega⟩
  rw [v_M_isTrip, ix15, hT, hI.t15, nI_pred, v_M_in, if_neg (nI_pos (by omega)), if_pos ((nI_lei (by omega) (by omega)).mpr (by omega))]
/-- the same trips in both -/
theorem RR.same {n n' : Nat} {h H m M : HP} (hr : RR n h m) (b : RR n' H M) (e : M.1 1 15 = m.1 1 15) : RR n H M := by
  have e1 : M.1 1 15 = nI n' := b.2.1.t15
  rw [e, hr.2.1.t15] at e1
  have h20 := hr.2.1.n20
  have h20' := b.2.1.n20
  have e2 : n = n' := nI_inj (by omega) (by omega) e1
  rw [e2]; exact b
theorem trip_lk {n t v : Nat} {h m : HP} (hr : RR n h m) (h8 : m.1 0 8 = 0) (ht : t < n) (hv : v ≤ 8) : p_B_tripOf h (nI t) (nI v) ∧ p_M_aboutTrip m (nI t) (nI v) ∧ v_B_tripOf h (nI t) (nI v) = .inr (v_M_aboutTrip m (nI t) (nI v)) := by
  obtain ⟨a1, a2, a3⟩ := tripOf_both hr (nI t) (nI v)
  have hin : v_M_in m (nI v) 0 8 = 1 := by
    rw [v_M_in, if_neg (nI_pos (by omega)), if_pos (show nI v ≤ 8 from (nI_lei (b := 8) (by omega) (by omega)).mpr hv)]
  have hit := isTrip1 (m := m) rfl hr.2.1 ht
  have n1 : ¬ v_M_isTrip (am_si m 0 8 0) (nI t) = 0 := by rw [si8 h8, hit]; exact one0
  have n2 : ¬ v_M_in (am_si m 0 8 0) (nI v) 0 8 = 0 := by rw [si8 h8, hin]; exact one0
  have hmv : v_M_tripOf m (nI t) (nI v) = (v_M_aboutTrip m (nI t) (nI v), m) := by rw [v_M_tripOf, if_neg n1, if_neg n2, si8 h8]
  have hp : p_M_aboutTrip m (nI t) (nI v) := by have := (a2.2.2 n1).2 n2; rw [si8 h8] at this; exact this
  rw [hmv] at a3
  refine ⟨a1, hp, ?_⟩
  cases ec : v_B_tripOf h (nI t) (nI v) with
  | inl E =>
    rw [ec] at a3
    have a4 : (E, m.1 0 8) ∈ [(xI, (1 : Int32)), (xA, 2)] := a3.1
    rw [h8, List.mem_cons, List.mem_singleton] at a4
    rcases a4 with a4 | a4
    · exact absurd (Prod.mk.inj a4).2 (by decide)
    · exact absurd (Prod.mk.inj a4).2 (by decide)
  | inr r =>
    rw [ec] at a3
    rw [show v_M_aboutTrip m (nI t) (nI v) = r from a3.2.1]
theorem best_lk {n k : Nat} {h m : HP} (hr : RR n h m) (h8 : m.1 0 8 = 0) (hk : k < n) (hrun : isr (m.1 1) k = true) : p_B_bestTime h (nI k) 10 ∧ p_M_best m (nI k) 10 ∧ ∃ H, v_B_bestTime h (nI k) 10 = .inr ((v_M_best m (nI k) 10).1, H) ∧ RR n H (v_M_best m (nI k) 10).2 ∧ (v_M_best m (nI k) 10).2.1 0 8 = 0 ∧ (v_M_best m (nI k) 10).2.2 = m.2 ∧ ∀ i, i ≠ 16 + 7 * k + 3 → (v_M_best m (nI k) 10).2.1 1 i = m.1 1 i := by
  obtain ⟨a1, a2, a3⟩ := bestTime_both hr (nI k) 10
  have h20 := hr.2.1.n20
  obtain ⟨g1, g2, g3⟩ := best_keep (m := m) (k := k) (w := 10) (by omega)
  have hin : v_M_in m 10 0 120 = 1 := by
    show (if (10 : Int32) < 0 then (0 : Int32) else if (10 : Int32) ≤ 120 then 1 else 0) = 1
    decide +kernel
  have hit := isTrip1 (m := m) rfl hr.2.1 hk
  have n1 : ¬ v_M_isTrip (am_si m 0 8 0) (nI k) = 0 := by rw [si8 h8, hit]; exact one0
  have n2 : ¬ v_M_in (am_si m 0 8 0) 10 0 120 = 0 := by rw [si8 h8, hin]; exact one0
  have n3 : ¬ v_M_isRun (am_si m 0 8 0) (nI k) = 0 := by rw [si8 h8, (mm_isRun rfl hr.2.1 hk).2, hrun]; exact one0
  have hmv : v_M_bestTime m (nI k) 10 = v_M_best m (nI k) 10 := by rw [v_M_bestTime, if_neg n1, if_neg n2, if_neg n3, si8 h8]; rfl
  have hp : p_M_best m (nI k) 10 := by have := ((a2.2.2 n1).2 n2).2.2 n3; rw [si8 h8] at this; exact this
  rw [hmv] at a3
  refine ⟨a1, hp, ?_⟩
  cases ec : v_B_bestTime h (nI k) 10 with
  | inl E =>
    rw [ec] at a3
    have a4 : (E, (v_M_best m (nI k) 10).2.1 0 8) ∈ [(xI, (1 : Int32)), (xA, 2), (xS, 3)] := a3.1
    rw [show (v_M_best m (nI k) 10).2.1 0 8 = m.1 0 8 from g2, h8, List.mem_cons, List.mem_cons, List.mem_singleton] at a4
    rcases a4 with a4 | a4 | a4
    · exact absurd (Prod.mk.inj a4).2 (by decide)
    · exact absurd (Prod.mk.inj a4).2 (by decide)
    · exact absurd (Prod.mk.inj a4).2 (by decide)
  | inr r =>
    rw [ec] at a3
    obtain ⟨b1, b2, n', b3⟩ := a3
    refine ⟨r.2, ?_, hr.same b3 (g3 15 (by omega)), g2.trans h8, g1, g3⟩
    rw [show (v_M_best m (nI k) 10).1 = r.1 from b2]
theorem failed_lk {n k : Nat} {h m : HP} (hr : RR n h m) (hk : k < n) (hrun : isr (m.1 1) k = true) : p_B_ifFailed h (nI k) ∧ p_M_failed m (nI k) ∧ v_B_ifFailed h (nI k) = .inr (v_M_failed m (nI k)).1 ∧ RR n h (v_M_failed m (nI k)).2 ∧ (v_M_failed m (nI k)).2.1 0 8 = m.1 0 8 ∧ (v_M_failed m (nI k)).2.2 = m.2 := by
  obtain ⟨a1, a2⟩ := cc_losses hr.1 hr.2.1 hk
  obtain ⟨b1, b2, b3, b4, b5⟩ := mm_failed (m := m) rfl hr.2.1 hk
  have hc := cc_isRun hr.1 hr.2.1 hk
  have z : v_B_checkRun h (nI k) = none := by rw [v_B_checkRun, hc, hrun, if_neg (show ¬ b01 true = 0 from one0)]
  have zt : v_B_checkTrip h (nI k) = none := by
    have h20 := hr.2.1.n20
    rw [v_B_checkTrip, if_neg (nI_pos (by omega)), if_pos (cc_lt hr.1 hr.2.1 hk)]
  refine ⟨fun _ _ => a1, b1, ?_, hr.look hK.rf (mk_of (fun c _ _ h2 h1 => b4 c h1 h2)) (fun i _ => by rw [b3]), by rw [b4 0 (by omega) (by omega)], b5⟩
  rw [v_B_ifFailed, zt]
  show (match v_B_checkRun h (nI k) with | some E => Sum.inl E | none => Sum.inr (v_T_lossesFrom h (nI k))) = _
  rw [z, a2, b2]
