/-! PURE: the class's walks along blocks. -/
/-- the last trip of a chain -/
def lastc (g : Nat → Option Nat) (k : Nat) : Nat := (cho g (g k)).foldl (fun _ j => j) k
theorem lastc_none {g : Nat → Option Nat} {k : Nat} (e : g k = none) : lastc g k = k := by unfold lastc; rw [e]; rfl
theorem lastc_some {g : Nat → Option Nat} {n : Nat} {r : Nat → Nat} (hG : Gd g n r) {k j : Nat} (hk : k < n) (e : g k = some j) : lastc g k = lastc g j := by
  unfold lastc
  rw [e, cho_some hG (hG.1 k j hk e).1]
  rfl
theorem lastc_lt {g : Nat → Option Nat} {n : Nat} {r : Nat → Nat} (hG : Gd g n r) {k : Nat} (hk : k < n) : lastc g k < n ∧ g (lastc g k) = none := by
  have h : ∀ o, okO n o → ∀ k, o = some k → lastc g k < n ∧ g (lastc g k) = none :=
    ch_ind hG (fun _ e => nomatch e) (fun k hk ih k' e => by
      cases e
      cases e : g k with
      | none => rw [lastc_none e]; exact ⟨hk, e⟩
      | some j => rw [lastc_some hG hk e]; exact ih j e)
  exact h (some k) (okO_some hk) k rfl
/-- minutes driven in a chain -/
def drv (T : Nat → Int32) (o : Option Nat) : Nat := (cho (nx T) o).foldl (fun a k => a + Ln T k) 0
def chg (T : Nat → Int32) (k : Nat) : Nat := ((cho (nx T) (nx T k)).foldl (fun (a : Nat × Nat) j => (a.1 + (if Rt T a.2 = Rt T j then 0 else 1), j)) (0, k)).1
theorem foldl_plus {f : Nat → Nat} : ∀ (l : List Nat) (a : Nat), l.foldl (fun a k => a + f k) a = a + (l.map f).sum
  | [], a => by simp
  | k :: l, a => by rw [List.foldl_cons, foldl_plus l, List.map_cons, List.sum_cons, Nat.add_assoc]
theorem sum_le {f : Nat → Nat} {b : Nat} : ∀ (l : List Nat), (∀ k ∈ l, f k ≤ b) → (l.map f).sum ≤ b * l.length
  | [], _ => Nat.zero_le _
  | k :: l, h => by
    have h1 := sum_le l (fun k hk => h k (List.mem_cons_of_mem _ hk))
    have h2 := h k List.mem_cons_self
    rw [List.map_cons, List.sum_cons, List.length_cons, Nat.mul_succ]
    omega
theorem sp_tab : ∀ a, a < 10 → ∀ b, b < 10 → v_max 0 (nI a - nI b) = nI (a - b) := by decide +kernel
section CCH
variable {h : HP} {T : Nat → Int32} {n : Nat}
theorem cc_end (hR : RT h.1 0 T n) (hI : Inv T n) {k : Nat} (hk : k < n) : p_T_endFrom h (nI k) ∧ v_T_endFrom h (nI k) = nI (lastc (nx T) k) := by
  have h20 := hI.n20
  obtain ⟨a, b, -⟩ := chain_all hI.fw (step := s_T_endFrom_4 h (nI k)) (pst := ps_T_endFrom_4 h (nI k)) (fun (a : Nat) c _ => (nI a, nI c)) (fun a o => a < n ∧ o = nx T a) (fun _ j => j) (fun a c => (nI a, nI c))
    (fun a c j hP hj hc => by
      obtain ⟨h1, h2⟩ := hP
      refine ⟨?_, hj, rfl⟩
      show (if nI c < nI 20 then (if v_at 20 (h.1 7) (nI a) = -1 then _ else _) else _) = _
      rw [if_pos (nI_lt hc (by omega)), cc_nx hR hI h1, ← h2, if_neg (show ¬ eo (some j) = -1 from nI_m1 (by omega)), nI_1]
      rfl)
    (fun a c hP hc => by
      obtain ⟨h1, h2⟩ := hP
      show (if nI c < nI 20 then (if v_at 20 (h.1 7) (nI a) = -1 then _ else _) else _) = _
      rw [cc_nx hR hI h1, ← h2, if_pos (show eo none = -1 from rfl), ite_self])
    (fun _ _ _ _ _ _ => trivial) (nx T k) k ⟨hk, rfl⟩ (hI.onx hk)
  exact ⟨a, by rw [v_T_endFrom]; rw [show ((nI k, (0 : Int32)) : Int32 × Int32) = (nI k, nI 0) from rfl, b]; rfl⟩
theorem cc_trips (hR : RT h.1 0 T n) (hI : Inv T n) {k : Nat} (hk : k < n) : p_T_tripsFrom h (nI k) ∧ v_T_tripsFrom h (nI k) = nI (ch (nx T) k).length := by
  have h20 := hI.n20
  obtain ⟨a, b, -⟩ := chain_all hI.fw (step := s_T_tripsFrom_4 h (nI k)) (pst := ps_T_tripsFrom_4 h (nI k)) (fun (_ : Unit) c o => (nI c, eo o)) (fun _ o => okO n o) (fun _ _ => ()) (fun _ c => (nI c, eo none))
    (fun a c j hP hj hc => by
      refine ⟨?_, hI.onx hj⟩
      show (if nI j = -1 then _ else (if nI c < nI 20 then _ else _)) = _
      rw [if_neg (nI_m1 (by omega)), if_pos (nI_lt hc (by omega))]
      show Sum.inl (nI c + 1, v_at 20 (h.1 7) (nI j)) = _
      rw [cc_nx hR hI hj, nI_1])
    (fun a c hP hc => rfl)
    (fun _ _ _ _ _ _ => trivial) (some k) () (okO_some hk) (okO_some hk)
  exact ⟨a, by rw [v_T_tripsFrom]; rw [show ((0, nI k) : Int32 × Int32) = (nI 0, eo (some k)) from rfl, b]; rfl⟩
theorem cc_driven (hR : RT h.1 0 T n) (hI : Inv T n) {k : Nat} (hk : k < n) : p_T_drivenFrom h (nI k) ∧ v_T_drivenFrom h (nI k) = nI (drv T (some k)) := by
  have h20 := hI.n20
  obtain ⟨a, b, -⟩ := chain_all hI.fw (step := s_T_drivenFrom_7 h (nI k)) (pst := ps_T_drivenFrom_7 h (nI k)) (fun (a : Nat) c o => (nI a, eo o, nI c)) (fun _ o => okO n o) (fun a k => a + Ln T k) (fun a c => (nI a, eo none, nI c))
    (fun a c j hP hj hc => by
      refine ⟨?_, hI.onx hj⟩
      show (if nI c < nI 20 then (if nI j = -1 then _ else _) else _) = _
      rw [if_pos (nI_lt hc (by omega)), if_neg (nI_m1 (by omega))]
      show Sum.inl (nI a + v_at 20 (h.1 5) (nI j), v_at 20 (h.1 7) (nI j), nI c + 1) = _
      rw [cc_nx hR hI hj, cc_len hR hI hj, nI_1, nI_add])
    (fun a c hP hc => by
      show (if nI c < nI 20 then _ else _) = _
      exact ite_self _)
    (fun _ _ _ _ _ _ => trivial) (some k) 0 (okO_some hk) (okO_some hk)
  exact ⟨a, by rw [v_T_drivenFrom]; rw [show ((0, nI k, 0) : Int32 × Int32 × Int32) = (nI 0, eo (some k), nI 0) from rfl, b]; rfl⟩
theorem cc_changes (hR : RT h.1 0 T n) (hI : Inv T n) {k : Nat} (hk : k < n) : p_T_routeChangesFrom h (nI k) ∧ v_T_routeChangesFrom h (nI k) = nI (chg T k) := by
  have h20 := hI.n20
  obtain ⟨a, b, -⟩ := chain_all hI.fw (step := s_T_routeChangesFrom_17 h (nI k)) (pst := ps_T_routeChangesFrom_17 h (nI k)) (fun (a : Nat × Nat) c o => (nI a.1, nI a.2, eo o, nI c)) (fun a o => a.2 < n ∧ o = nx T a.2) (fun (a : Nat × Nat) j => (a.1 + (if Rt T a.2 = Rt T j then 0 else 1), j)) (fun a c => (nI a.1, nI a.2, eo none, nI c))
    (fun a c j hP hj hc => by
      obtain ⟨h1, h2⟩ := hP
      refine ⟨?_, hj, rfl⟩
      show (if nI c < nI 20 then (if nI j = -1 then _ else _) else _) = _
      rw [if_pos (nI_lt hc (by omega)), if_neg (nI_m1 (by omega))]
      show Sum.inl (nI a.1 + (if v_at 20 (h.1 1) (nI a.2) = v_at 20 (h.1 1) (nI j) then (0 : Int32) else 1), nI j, v_at 20 (h.1 7) (nI j), nI c + 1) = _
      have e1 := (hI.rtL h1)
      have e2 := (hI.rtL hj)
      rw [cc_nx hR hI hj, cc_rt hR hI h1, cc_rt hR hI hj, nI_1]
      by_cases e : Rt T a.2 = Rt T j
      · rw [if_pos (by rw [e])]
        show _ = Sum.inl (nI (a.1 + (if Rt T a.2 = Rt T j then 0 else 1)), nI j, eo (nx T j), nI (c + 1))
        rw [if_pos e, Int32.add_zero]; rfl
      · rw [if_neg (fun z => e (nI_inj (by omega) (by omega) z))]
        show _ = Sum.inl (nI (a.1 + (if Rt T a.2 = Rt T j then 0 else 1)), nI j, eo (nx T j), nI (c + 1))
        rw [if_neg e, nI_1])
    (fun a c hP hc => by
      show (if nI c < nI 20 then _ else _) = _
      exact ite_self _)
    (fun _ _ _ _ _ _ => trivial) (nx T k) (0, k) ⟨hk, rfl⟩ (hI.onx hk)
  refine ⟨?_, ?_⟩
  · rw [p_T_routeChangesFrom, cc_nx hR hI hk]; exact a
  · rw [v_T_routeChangesFrom, cc_nx hR hI hk]
    rw [show ((0, nI k, eo (nx T k), 0) : Int32 × Int32 × Int32 × Int32) = (nI 0, nI k, eo (nx T k), nI 0) from rfl, b]; rfl
/-- the first trip of a trip's block -/
theorem cc_blockWith (hR : RT h.1 0 T n) (hI : Inv T n) {k : Nat} (hk : k < n) : p_T_blockWith h (nI k) ∧ v_T_blockWith h (nI k) = if isr T k = true then nI (cn (hd T n) (lastc (bf T n) k)) else -1 := by
  have h20 := hI.n20
  obtain ⟨a, b, -⟩ := chain_all hI.bw (step := s_T_blockWith_14 h (nI k)) (pst := ps_T_blockWith_14 h (nI k)) (fun (a : Nat) c _ => (nI a, nI c)) (fun a o => a < n ∧ o = bf T n a) (fun _ j => j) (fun a c => (nI a, nI c))
    (fun a c j hP hj hc => by
      obtain ⟨h1, h2⟩ := hP
      refine ⟨?_, hj, rfl⟩
      show (if nI c < nI 20 then (if v_at 20 (h.1 6) (nI a) = -1 then _ else _) else _) = _
      rw [if_pos (nI_lt hc (by omega)), cc_bf hR hI h1, show bfo T a n = some j from h2.symm, if_neg (show ¬ eo (some j) = -1 from nI_m1 (by omega)), nI_1]
      rfl)
    (fun a c hP hc => by
      obtain ⟨h1, h2⟩ := hP
      show (if nI c < nI 20 then (if v_at 20 (h.1 6) (nI a) = -1 then _ else _) else _) = _
      rw [cc_bf hR hI h1, show bfo T a n = none from h2.symm, if_pos (show eo none = -1 from rfl), ite_self])
    (fun _ _ _ _ _ _ => trivial) (bf T n k) k ⟨hk, rfl⟩ hI.obf
  have hl := (lastc_lt hI.bw hk).1
  have h1 := cc_heads hR hI (Nat.le_of_lt hl)
  have hx : ((nI k, 0) : Int32 × Int32) = (nI k, nI 0) := rfl
  rw [p_T_blockWith, v_T_blockWith, cc_isRun hR hI hk]
  rw [hx] 
  refine ⟨⟨fun _ => trivial, fun _ => ⟨a, fun r1 hr => ?_⟩⟩, ?_⟩
  · rw [b] at hr
    cases hr
    exact h1.1
  · cases isr T k with
    | false => rfl
    | true =>
      rw [if_neg b01_t, b]
      exact h1.2
theorem cc_span (hR : RT h.1 0 T n) (hI : Inv T n) {k : Nat} (hk : k < n) : p_T_spanFrom h (nI k) ∧ v_T_spanFrom h (nI k) = nI (Ar T (lastc (nx T) k)) - nI (Dp T k) := by
  obtain ⟨a, b⟩ := cc_end hR hI hk
  exact ⟨a, by rw [v_T_spanFrom, b, cc_arr hR hI (lastc_lt hI.fw hk).1, cc_dep hR hI hk]⟩
theorem cc_spares (hR : RT h.1 0 T n) (hI : Inv T n) : v_T_sparesLeft h = nI (nT T 10 - nT T 12) := by
  have h1 := hI.s2.2
  have h2 := hI.us.2
  rw [v_T_sparesLeft, cc_s2 hR hI, hR.us, hI.us.1]
  exact sp_tab _ (by omega) _ (by omega)
/-- the trips that a failure takes: those of the block from k on, all without a spare bus, else those ahead of the spare bus -/
def lq (T : Nat → Int32) (k : Nat) : Nat → Bool := fun j => Nat.beq (nT T 10 - nT T 12) 0 || Nat.blt (Dp T j) (Dp T k + nT T 11)
def lsl (T : Nat → Int32) (k : Nat) : List Nat := (ch (nx T) k).takeWhile (lq T k)
theorem cc_losses (hR : RT h.1 0 T n) (hI : Inv T n) {k : Nat} (hk : k < n) : p_T_lossesFrom h (nI k) ∧ v_T_lossesFrom h (nI k) = nI (lsl T k).length := by
  have h20 := hI.n20
  have g1 := hI.s2.2
  have g2 := hI.us.2
  have g3 := (hI.dpL hk)
  have g4 := hI.s3.2
  have key : ∀ j, j < n → ∀ c, c < 20 → s_T_lossesFrom_37 h (nI k) (nI c, nI j) = if lq T k j = true then .inl (nI (c + 1), eo (nx T j)) else .inr (nI c, nI j) := by
    intro j hj c hc
    have g5 := (hI.dpL hj)
    show (if nI j = -1 then _ else (if nI c < nI 20 then (if (if v_T_sparesLeft h = 0 then (1 : Int32) else 0) = 0 then (if v_at 20 (h.1 4) (nI j) < v_at 20 (h.1 4) (nI k) + v_at 4 (h.1 11) 3 then Sum.inl (nI c + 1, v_at 20 (h.1 7) (nI j)) else Sum.inr (nI c, nI j)) else Sum.inl (nI c + 1, v_at 20 (h.1 7) (nI j))) else _)) = _
    rw [if_neg (nI_m1 (by omega)), if_pos (nI_lt hc (by omega)), cc_spares hR hI, cc_dep hR hI hj, cc_dep hR hI hk, cc_s3 hR hI, nI_add, cc_nx hR hI hj, nI_1, lq, if_b (b := Nat.beq (nT T 10 - nT T 12) 0) _ (by rw [nI_z (by omega)]; exact beq_iff.symm)]
    cases Nat.beq (nT T 10 - nT T 12) 0 with
    | true => rw [if_neg b01_t, if_pos (by simp)]
    | false =>
      rw [if_pos b01_f, Bool.false_or]
      by_cases e : Dp T j < Dp T k + nT T 11
      · rw [if_pos ((nI_ltI (by omega) (by omega)).mpr e), if_pos (blt_iff.mpr e)]
      · rw [if_neg (fun z => e ((nI_ltI (by omega) (by omega)).mp z)), if_neg (by rw [blt_iff]; exact e)]
  obtain ⟨a, b, -⟩ := chain_while hI.fw (step := s_T_lossesFrom_37 h (nI k)) (pst := ps_T_lossesFrom_37 h (nI k)) (fun (_ : Unit) c o => (nI c, eo o)) (fun _ o => okO n o) (fun _ _ => ()) (lq T k) (fun _ c o => (nI c, eo o))
    (fun a c j hP hj hc hq => ⟨by
      show s_T_lossesFrom_37 h (nI k) (nI c, nI j) = _
      rw [key j hj c hc, if_pos hq], hI.onx hj⟩)
    (fun a c j hP hj hc hq => by
      show s_T_lossesFrom_37 h (nI k) (nI c, nI j) = _
      rw [key j hj c hc, if_neg (by rw [hq]; decide)]; rfl)
    (fun a c hP hc => rfl)
    (fun _ _ _ _ _ _ => trivial) (some k) () (okO_some hk) (okO_some hk)
  exact ⟨a, by rw [v_T_lossesFrom]; rw [show ((0, nI k) : Int32 × Int32) = (nI 0, eo (some k)) from rfl, b]; rfl⟩
end CCH
