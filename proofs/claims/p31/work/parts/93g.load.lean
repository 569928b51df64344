/-! PURE: the class's methods by the state: the first error, load. -/
def sg (S : Sta) : Nat → Nat := fun i => S.2.2.2.getD i 0
theorem sg_le {h : HP} {S : Sta} (hs : RS h S) : ∀ i, i < S.2.2.2.length → sg S i ≤ 126 := fun i hi => by
  unfold sg
  rw [List.getD_eq_getElem?_getD, List.getElem?_eq_getElem hi]
  exact (hs.2.2.2.1.2.1 _ (List.getElem_mem hi)).2
theorem sg_tx {h : HP} {S : Sta} (hs : RS h S) : TX h S.2.2.2.length (sg S) := hs.2.2.2.1.2.2
def l_firstError (S : Sta) : Int32 := nI (rd (sg S) S.2.2.2.length 0 0 f0).1
theorem firstError_s {h : HP} {S : Sta} (hs : RS h S) : p_B_firstError h ∧ (v_B_firstError h).1 = l_firstError S ∧ RS (v_B_firstError h).2 S := by
  obtain ⟨a, b, c, -⟩ := cx_read hs.2.2.2.1.1 (sg_le hs) (sg_tx hs)
  exact ⟨a, b, hs.look c⟩
/-! journeys added as they are read -/
def addF (t : TN) (f : Nat → Option Nat) : TN := (addT t.1 t.2 (eo (f 0)) (eo (f 1)) (eo (f 2)) (eo (f 4)) (eo (f 5)), t.2 + 1)
def c59 (s : Nat → Nat) : Nat → Nat → Nat
  | 0, _ => 0
  | m + 1, i => (if s i = 59 then 1 else 0) + c59 s m (i + 1)
theorem c59_sn {s : Nat → Nat} : ∀ m i, sn (fun j => if s j = 59 then 1 else 0) (i + m) = sn (fun j => if s j = 59 then 1 else 0) i + c59 s m i
  | 0, _ => rfl
  | m + 1, i => by
    rw [show i + (m + 1) = (i + 1) + m by omega, c59_sn m (i + 1), sn, c59]; omega
theorem c59_jn (s : Nat → Nat) (L : Nat) : jn s L = 1 + c59 s L 0 := by
  unfold jn
  have := c59_sn (s := s) L 0
  rw [Nat.zero_add] at this
  rw [this, sn, Nat.zero_add]
def ldS (s : Nat → Nat) : Nat → Nat → Nat → (Nat → Option Nat) → TN → TN
  | 0, _, _, f, t => addF t f
  | m + 1, i, p, f, t => match xt p f (s i) with
    | none => t
    | some y => ldS s m (i + 1) y.1 y.2 (if s i = 59 then addF t f else t)
/-- what is read so far is in its ranges -/
def XJ (p : Nat) (f : Nat → Option Nat) : Prop := (∀ j, j < 3 → j < p → ∃ v, v ≤ 3 ∧ f j = some v) ∧ (p = 5 → ∃ v, v ≤ 1439 ∧ f 4 = some v) ∧ (∀ v, f 5 = some v → 1 ≤ v ∧ v ≤ 240) ∧ (∀ v, f 4 = some v → v ≤ 1439)
theorem XJ.z : XJ 0 f0 := ⟨fun j _ h => absurd h (Nat.not_lt_zero _), (fun h => nomatch h), (fun v h => nomatch h), (fun v h => nomatch h)⟩
theorem st_at' (f : Nat → Option Nat) (p v : Nat) : st f p v p = some v := if_pos rfl
theorem st_ne' {f : Nat → Option Nat} {p v j : Nat} (h : j ≠ p) : st f p v j = f j := if_neg h
theorem XJ.xt {p c : Nat} {f : Nat → Option Nat} {y : Nat × (Nat → Option Nat)} (h : XJ p f) (hx : XO p f) (e : _root_.Jvm.Pilot.@@N@@.xt p f c = some y) : XJ y.1 y.2 := by
  obtain ⟨h1, h2, h3, h4⟩ := h
  have hp5 := hx.1
  unfold _root_.Jvm.Pilot.@@N@@.xt at e
  by_cases c3 : p < 3
  · rw [if_pos c3] at e
    split at e
    · rename_i hc
      cases e
      show XJ (p + 1) (st f p (c - 48))
      refine ⟨fun j hj hjp => ?_, fun z => by omega, fun v hv => ?_, fun v hv => ?_⟩
      · by_cases ej : j = p
        · exact ⟨c - 48, by omega, by rw [ej]; exact st_at' _ _ _⟩
        · rw [st_ne' ej]; exact h1 j hj (by have : j < p + 1 := hjp; omega)
      · rw [st_ne' (by omega)] at hv; exact h3 v hv
      · rw [st_ne' (by omega)] at hv; exact h4 v hv
    · cases e
  · rw [if_neg c3] at e
    by_cases c4 : p = 3
    · rw [if_pos c4] at e
      split at e
      · cases e
        exact ⟨fun j hj _ => h1 j hj (by omega), (fun z => nomatch z), h3, h4⟩
      · cases e
    · rw [if_neg c4] at e
      have hnum : ∀ w, (p = 5 → 1 ≤ w) → w ≤ mo p → XJ p (st f p w) := fun w hw1 hw => by
        refine ⟨fun j hj _ => ?_, fun z => ?_, fun v hv => ?_, fun v hv => ?_⟩
        · rw [st_ne' (by omega)]; exact h1 j hj (by omega)
        · rw [st_ne' (by omega)]; exact h2 z
        · by_cases e5 : p = 5
          · rw [e5, st_at'] at hv; cases hv
            unfold mo at hw; rw [if_pos e5] at hw
            exact ⟨hw1 e5, hw⟩
          · rw [st_ne' (by omega)] at hv; exact h3 v hv
        · by_cases e5 : p = 4
          · rw [e5, st_at'] at hv; cases hv
            unfold mo at hw; rw [if_neg (by omega)] at hw
            exact hw
          · rw [st_ne' (by omega)] at hv; exact h4 v hv
      split at e
      · rename_i hc
        have hmo : 240 ≤ mo p := by unfold mo; split <;> omega
        split at e
        · rename_i ef
          split at e
          · cases e
          · rename_i hz
            cases e
            exact hnum _ (fun z => by have : c ≠ 48 := fun z' => hz ⟨z, z'⟩; omega) (by omega)
        · rename_i v ef
          split at e
          · cases e
          · rename_i hz
            cases e
            exact hnum _ (fun z => by omega) (by omega)
      · split at e
        · cases e
        · rename_i v ef
          split at e
          · rename_i e4
            split at e
            · cases e
              refine ⟨fun j hj _ => h1 j hj (by omega), fun _ => ?_, h3, h4⟩
              rw [e4] at ef
              exact ⟨v, h4 v ef, ef⟩
            · cases e
          · split at e
            · cases e; exact XJ.z
            · cases e
theorem xt_59 {p : Nat} {f : Nat → Option Nat} {y : Nat × (Nat → Option Nat)} (hx : XO p f) (e : _root_.Jvm.Pilot.@@N@@.xt p f 59 = some y) : p = 5 ∧ ∃ v, f 5 = some v := by
  have hp5 := hx.1
  unfold _root_.Jvm.Pilot.@@N@@.xt at e
  by_cases c3 : p < 3
  · rw [if_pos c3, if_neg (by omega)] at e; cases e
  · rw [if_neg c3] at e
    by_cases c4 : p = 3
    · rw [if_pos c4, if_neg (by omega)] at e; cases e
    · rw [if_neg c4, if_neg (by omega)] at e
      split at e
      · cases e
      · rename_i v ef
        split at e
        · rw [if_neg (by omega)] at e; cases e
        · have : p = 5 := by omega
          exact ⟨this, v, by rw [← this]; exact ef⟩
/-- a journey read whole can be added -/
theorem addF_c {H : HP} {t : TN} {p : Nat} {f : Nat → Option Nat} (hT : TH H 0 t) (hn : t.2 < 20) (hc : CX H p f) (hj : XJ p f) (hp : p = 5) (h5 : ∃ v, f 5 = some v) : TH (v_X_addJourney_0 H) 0 (addF t f) ∧ ∀ c, 9 ≤ c → (v_X_addJourney_0 H).1 c = H.1 c := by
  obtain ⟨h1, h2, h3, h4⟩ := hj
  obtain ⟨a1, g1, k1⟩ := h1 0 (by omega) (by omega)
  obtain ⟨b1, g2, k2⟩ := h1 1 (by omega) (by omega)
  obtain ⟨c1, g3, k3⟩ := h1 2 (by omega) (by omega)
  obtain ⟨d1, g4, k4⟩ := h2 hp
  obtain ⟨e1, k5⟩ := h5
  obtain ⟨g5, g6⟩ := h3 e1 k5
  have ea : ∀ j v, j < 6 → f j = some v → v_at 6 (H.1 20) (nI j) = nI v := fun j v hj e => by rw [at_nI (by omega) _ hj, hc.2 j hj, e]; rfl
  have ev : v_X_addJourney_0 H = (v_T_addTrip H (nI a1) (nI b1) (nI c1) (nI d1) (nI e1)).2 := by
    show (v_T_addTrip H (v_at 6 (H.1 20) 0) (v_at 6 (H.1 20) 1) (v_at 6 (H.1 20) 2) (v_at 6 (H.1 20) 4) (v_at 6 (H.1 20) 5)).2 = _
    rw [show v_at 6 (H.1 20) 0 = nI a1 from ea 0 a1 (by omega) k1, show v_at 6 (H.1 20) 1 = nI b1 from ea 1 b1 (by omega) k2, show v_at 6 (H.1 20) 2 = nI c1 from ea 2 c1 (by omega) k3, show v_at 6 (H.1 20) 4 = nI d1 from ea 4 d1 (by omega) k4, show v_at 6 (H.1 20) 5 = nI e1 from ea 5 e1 (by omega) k5]
  have ef : addF t f = (addT t.1 t.2 (nI a1) (nI b1) (nI c1) (nI d1) (nI e1), t.2 + 1) := by unfold addF; rw [k1, k2, k3, k4, k5]; rfl
  obtain ⟨x1, x2, x3⟩ := cc_add hT.1 hT.2 hn (nI a1) (nI b1) (nI c1) (nI d1) (nI e1)
  rw [ev, ef]
  exact ⟨⟨x1, hT.2.add hn g1 g2 g3 g4 g6 g5⟩, x3⟩
theorem ld_loop {s : Nat → Nat} {L : Nat} (hL : L ≤ 60) (hs : ∀ i, i < L → s i ≤ 126) (h0 y : HP) : ∀ (N m i p : Nat) (f : Nat → Option Nat) (H : HP) (t : TN), i + m = L → m < N → CX H p f → XO p f → XJ p f → TX H L s → TH H 0 t → (rd s m i p f).1 = i + m → fi (rd s m i p f).2.1 (rd s m i p f).2.2 = true → t.2 + (1 + c59 s m i) ≤ 20 →
    itrp (s_X_addTo_0_6 h0 y) (ps_X_addTo_0_6 h0 y) N (nI i, H) ∧ ∃ H', itr (s_X_addTo_0_6 h0 y) N (nI i, H) = some (nI L, H') ∧ hk H (v_X_addJourney_0 H') ∧ TH (v_X_addJourney_0 H') 0 (ldS s m i p f t) ∧ (ldS s m i p f t).2 = t.2 + (1 + c59 s m i)
  | 0, _, _, _, _, _, _, _, hN, _, _, _, _, _, _, _, _ => absurd hN (Nat.not_lt_zero _)
  | N + 1, 0, i, p, f, H, t, hi, hN, hc, hx, hj, ht, hT, hr, hf, hn => by
    have hlt : ¬ nI i < H.1 18 2 := by rw [ht.1]; exact nI_nlt (b := L) (by omega) (by omega)
    have e1 : s_X_addTo_0_6 h0 y (nI i, H) = .inr (nI i, H) := by
      show (if nI i < H.1 18 2 then _ else Sum.inr (nI i, H)) = _
      rw [if_neg hlt]
    have hf' : fi p f = true := hf
    unfold fi at hf'
    rw [Bool.and_eq_true] at hf'
    have hc0 : c59 s 0 i = 0 := rfl
    obtain ⟨g1, g2⟩ := addF_c hT (by omega) hc hj (Nat.eq_of_beq_eq_true hf'.1) (Option.isSome_iff_exists.mp hf'.2)
    exact ⟨⟨⟨fun z => absurd z hlt, fun _ => trivial⟩, fun v' hv => by rw [e1] at hv; cases hv⟩, H, by rw [itr, e1, show i = L by omega], ⟨fun c hc => g2 c (by omega), by rw [g2 18 (by omega)]⟩, g1, rfl⟩
  | N + 1, m + 1, i, p, f, H, t, hi, hN, hc, hx, hj, ht, hT, hr, hf, hn => by
    have hlt : nI i < H.1 18 2 := by rw [ht.1]; exact nI_lt (b := L) (by omega) (by omega)
    have ea : v_at 60 (H.1 19) (nI i) = nI (s i) := by rw [at_nI (by omega) _ (by omega)]; exact ht.2 i (by omega)
    have h126 := hs i (by omega)
    have e59 : nI (s i) = 59 ↔ s i = 59 := nI_eq (b := 59) (by omega) (by omega)
    cases e : xt p f (s i) with
    | none => rw [rd_none e] at hr; have hr' : i = i + (m + 1) := hr; omega
    | some w =>
      rw [rd_some e] at hr hf
      have hl : ldS s (m + 1) i p f t = ldS s m (i + 1) w.1 w.2 (if s i = 59 then addF t f else t) := by rw [ldS, e]
      have hcs : c59 s (m + 1) i = (if s i = 59 then 1 else 0) + c59 s m (i + 1) := rfl
      rw [hcs] at hn ⊢
      rw [hl]
      by_cases c5 : s i = 59
      · rw [if_pos c5] at hn ⊢
        rw [if_pos c5]
        obtain ⟨hp, h5⟩ := xt_59 hx (by rw [← c5]; exact e)
        obtain ⟨g1, g2⟩ := addF_c hT (by omega) hc hj hp h5
        obtain ⟨y4, hy4⟩ : ∃ y4, v_X_addJourney_0 H = y4 := ⟨_, rfl⟩
        rw [hy4] at g1 g2
        have hc4 : CX y4 p f := ⟨by rw [g2 18 (by omega)]; exact hc.1, fun j hj => by rw [g2 20 (by omega)]; exact hc.2 j hj⟩
        have ht4 : TX y4 L s := ⟨by rw [g2 18 (by omega)]; exact ht.1, fun k hk => by rw [g2 19 (by omega)]; exact ht.2 k hk⟩
        have ea4 : v_at 60 (y4.1 19) (nI i) = nI (s i) := by rw [g2 19 (by omega)]; exact ea
        obtain ⟨t1, t2⟩ := cx_takes hc4 hx (c := s i) h126
        rw [e] at t2
        obtain ⟨k1, k2, k3, k4⟩ := t2
        have e1 : s_X_addTo_0_6 h0 y (nI i, H) = .inl (nI (i + 1), (v_X_takes y4 (nI (s i))).2) := by
          show (if nI i < H.1 18 2 then (if v_at 60 (H.1 19) (nI i) = 59 then Sum.inl (nI i + 1, (v_X_takes (v_X_addJourney_0 H) (v_at 60 ((v_X_addJourney_0 H).1 19) (nI i))).2) else _) else _) = _
          rw [if_pos hlt, ea, if_pos (e59.mpr c5), hy4, ea4, nI_1]
        have hps : ps_X_addTo_0_6 h0 y (nI i, H) := ⟨fun _ => ⟨fun _ y' hy' => by
          have : y4 = y' := hy4.symm.trans hy'
          subst this
          show p_X_takes y4 (v_at 60 (y4.1 19) (nI i))
          rw [ea4]; exact t1, fun z => absurd (e59.mpr c5) (by
            have z' : ¬ v_at 60 (H.1 19) (nI i) = 59 := z
            rw [ea] at z'; exact z')⟩, fun z => absurd hlt z⟩
        have g1' : TH (v_X_takes y4 (nI (s i))).2 0 (addF t f) := g1.congr (fun j hj => k1.1 _ (by omega))
        obtain ⟨x1, H', x2, x3, x4, x5⟩ := ld_loop hL hs h0 y N m (i + 1) w.1 w.2 (v_X_takes y4 (nI (s i))).2 (addF t f) (by omega) (by omega) k3 k4 (hj.xt hx e) (ht4.k k1) g1' (by rw [hr]; omega) hf (by show t.2 + 1 + _ ≤ 20; omega)
        have hkH : hk H y4 := ⟨fun c hc => g2 c (by omega), by rw [g2 18 (by omega)]⟩
        refine ⟨⟨hps, fun v' hv => by rw [e1] at hv; cases hv; exact x1⟩, H', by rw [itr, e1]; exact x2, hkH.tr (k1.k.tr x3), x4, ?_⟩
        rw [x5]; show t.2 + 1 + _ = _; omega
      · rw [if_neg c5] at hn ⊢
        rw [if_neg c5]
        obtain ⟨t1, t2⟩ := cx_takes hc hx (c := s i) h126
        rw [e] at t2
        obtain ⟨k1, k2, k3, k4⟩ := t2
        have n59 : ¬ nI (s i) = 59 := fun z => c5 (e59.mp z)
        have e1 : s_X_addTo_0_6 h0 y (nI i, H) = .inl (nI (i + 1), (v_X_takes H (nI (s i))).2) := by
          show (if nI i < H.1 18 2 then (if v_at 60 (H.1 19) (nI i) = 59 then _ else Sum.inl (nI i + 1, (v_X_takes H (v_at 60 (H.1 19) (nI i))).2)) else _) = _
          rw [if_pos hlt, ea, if_neg n59, nI_1]
        have hps : ps_X_addTo_0_6 h0 y (nI i, H) := ⟨fun _ => ⟨fun z => absurd (ea.symm.trans z) n59, fun _ => by show p_X_takes H (v_at 60 (H.1 19) (nI i)); rw [ea]; exact t1⟩, fun z => absurd hlt z⟩
        obtain ⟨x1, H', x2, x3, x4, x5⟩ := ld_loop hL hs h0 y N m (i + 1) w.1 w.2 (v_X_takes H (nI (s i))).2 t (by omega) (by omega) k3 k4 (hj.xt hx e) (ht.k k1) (hT.congr (fun j hj => k1.1 _ (by omega))) (by rw [hr]; omega) hf (by omega)
        exact ⟨⟨hps, fun v' hv => by rw [e1] at hv; cases hv; exact x1⟩, H', by rw [itr, e1]; exact x2, k1.k.tr x3, x4, by rw [x5]; omega⟩
def ldw (S : Sta) : Bool := Nat.beq (rd (sg S) S.2.2.2.length 0 0 f0).1 S.2.2.2.length && fi (rd (sg S) S.2.2.2.length 0 0 f0).2.1 (rd (sg S) S.2.2.2.length 0 0 f0).2.2
def s_load (S : Sta) : Rsl := if ldw S = true then (if S.1.2 + jn (sg S) S.2.2.2.length ≤ 20 then .inr (nI (ldS (sg S) S.2.2.2.length 0 0 f0 S.1).2, (ldS (sg S) S.2.2.2.length 0 0 f0 S.1, psh S.2.1 S.1, S.2.2.1, [])) else .inl xS) else .inl xA
def Co2 (c : (String × HP) ⊕ (Int32 × HP)) (r : Rsl) (S : Sta) : Prop := match c, r with
  | .inl q, .inl E' => q.1 = E' ∧ RS q.2 S
  | .inr q, .inr w => q.1 = w.1 ∧ RS q.2 w.2
  | _, _ => False
theorem load_s {h : HP} {S : Sta} (hs : RS h S) : p_B_load h ∧ Co2 (v_B_load h) (s_load S) S := by
  have hL := hs.2.2.2.1.1
  have hsg := sg_le hs
  have h20 := hs.1.2.n20
  obtain ⟨a1, a2, a3⟩ := cx_whole hL hsg (sg_tx hs)
  have a3 : (v_X_isWhole h).1 = b01 (ldw S) := a3
  obtain ⟨y1, hy⟩ : ∃ y1, v_X_isWhole h = y1 := ⟨_, rfl⟩
  rw [hy] at a2 a3
  have r1 : RS y1.2 S := hs.look a2
  unfold s_load
  cases hw : ldw S with
  | false =>
    rw [hw] at a3
    refine ⟨⟨a1, fun y hy' => ⟨fun _ => trivial, fun z => absurd (by rw [← hy', hy]; exact a3) z⟩⟩, ?_⟩
    have hcv : v_B_load h = .inl (xA, y1.2) := by
      show (if (v_X_isWhole h).1 = 0 then Sum.inl (xA, (v_X_isWhole h).2) else _) = _
      rw [hy, if_pos (show y1.1 = 0 from a3)]
    rw [hcv, if_neg ff]
    exact ⟨rfl, r1⟩
  | true =>
    rw [hw] at a3
    have hw' := hw
    unfold ldw at hw'
    rw [Bool.and_eq_true] at hw'
    have hrd := Nat.eq_of_beq_eq_true hw'.1
    have n0 : ¬ y1.1 = 0 := by rw [a3]; exact b01_t
    obtain ⟨j1, j2⟩ := cx_journeys hL hsg ((sg_tx hs).k a2)
    have hjb : jn (sg S) S.2.2.2.length ≤ 100 := by
      unfold jn
      have := sn_le (f := fun i => if sg S i = 59 then 1 else 0) (b := 1) (n := S.2.2.2.length) (fun k _ => by split <;> omega)
      omega
    have e11 : y1.2.1 0 11 + v_X_journeys y1.2 = nI (S.1.2 + jn (sg S) S.2.2.2.length) := by rw [j2, r1.nn, nI_add]
    have hle : nI (S.1.2 + jn (sg S) S.2.2.2.length) ≤ 20 ↔ S.1.2 + jn (sg S) S.2.2.2.length ≤ 20 := nI_lei (b := 20) (by omega) (by omega)
    obtain ⟨s1, s3, s4⟩ := r1.save
    obtain ⟨y2, hy2⟩ : ∃ y2, v_B_save y1.2 = y2 := ⟨_, rfl⟩
    rw [hy2] at s3 s4
    obtain ⟨g1, g2⟩ := cx_begin y2
    have ty2 : TX y2 S.2.2.2.length (sg S) := s3.2.2.2.1.2.2
    have key : S.1.2 + jn (sg S) S.2.2.2.length ≤ 20 → p_X_addTo_0 y2 ∧ ∃ H, v_X_addTo_0 y2 = H ∧ hk y2 H ∧ TH H 0 (ldS (sg S) S.2.2.2.length 0 0 f0 S.1) := fun hn => by
      rw [c59_jn] at hn
      obtain ⟨x1, H', x2, x3, x4, x5⟩ := ld_loop hL hsg y2 (v_X_beginJourney y2) NF S.2.2.2.length 0 0 f0 (v_X_beginJourney y2) S.1 (by omega) (by rw [NF_eq]; omega) g1 XO.z XJ.z (ty2.k g2) (s3.1.congr (fun j hj => g2.1 _ (by omega))) (by rw [hrd]; omega) hw'.2 hn
      refine ⟨fun y hy' => by subst hy'; exact x1, v_X_addJourney_0 H', ?_, g2.k.tr x3, x4⟩
      show (match itr (s_X_addTo_0_6 y2 (v_X_beginJourney y2)) NF (0, v_X_beginJourney y2) with | some r2 => v_X_addJourney_0 r2.2 | none => y2) = _
      rw [show ((0 : Int32), v_X_beginJourney y2) = (nI 0, v_X_beginJourney y2) from rfl, x2]
    refine ⟨⟨a1, fun y hy' => ⟨fun _ => trivial, fun _ => ?_⟩⟩, ?_⟩
    · have : y1 = y := hy.symm.trans hy'
      subst this
      refine ⟨j1, fun hn => ⟨s1, fun y' hy'' => ?_⟩, fun _ => trivial⟩
      have : y2 = y' := hy2.symm.trans hy''
      subst this
      rw [e11] at hn
      exact (key (hle.mp hn)).1
    · rw [if_pos tr]
      by_cases hn : S.1.2 + jn (sg S) S.2.2.2.length ≤ 20
      · obtain ⟨-, H, k1, k2, k3⟩ := key hn
        have hcv : v_B_load h = .inr (H.1 0 11, am_si H 18 2 0) := by
          show (if (v_X_isWhole h).1 = 0 then _ else (if (v_X_isWhole h).2.1 0 11 + v_X_journeys (v_X_isWhole h).2 ≤ 20 then Sum.inr ((v_X_addTo_0 (v_B_save (v_X_isWhole h).2)).1 0 11, am_si (v_X_addTo_0 (v_B_save (v_X_isWhole h).2)) 18 2 0) else _)) = _
          rw [hy, if_neg n0, e11, if_pos (hle.mpr hn), hy2, k1]
        rw [hcv, if_pos hn]
        have hH : RS H (ldS (sg S) S.2.2.2.length 0 0 f0 S.1, psh S.2.1 S.1, S.2.2) := s3.put k2 k3
        exact ⟨k3.1.nn, (clear_s hH).2⟩
      · have hcv : v_B_load h = .inl (xS, y1.2) := by
          show (if (v_X_isWhole h).1 = 0 then _ else (if (v_X_isWhole h).2.1 0 11 + v_X_journeys (v_X_isWhole h).2 ≤ 20 then _ else Sum.inl (xS, (v_X_isWhole h).2))) = _
          rw [hy, if_neg n0, e11, if_neg (fun z => hn (hle.mp z))]
        rw [hcv, if_neg hn]
        exact ⟨rfl, r1⟩
