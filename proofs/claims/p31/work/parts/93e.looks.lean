/-! PURE: the class's methods by the state: looks. -/
def hdo (p : Nat → Bool) (a : Int32) : Nat → Option Nat
  | 0 => none
  | m + 1 => if p m = true ∧ a = nI (cn p m) then some m else hdo p a m
theorem hdo_some {p : Nat → Bool} {a : Int32} : ∀ {m k : Nat}, hdo p a m = some k → k < m ∧ p k = true ∧ a = nI (cn p k)
  | 0, _, h => nomatch h
  | m + 1, k, h => by
    rw [hdo] at h
    split at h
    · rename_i e; cases h; exact ⟨by omega, e⟩
    · obtain ⟨a, b⟩ := hdo_some h; exact ⟨by omega, b⟩
theorem hdo_none {p : Nat → Bool} {a : Int32} : ∀ {m : Nat}, hdo p a m = none → ∀ k, k < m → p k = true → ¬ a = nI (cn p k)
  | 0, _, k, hk => absurd hk (Nat.not_lt_zero _)
  | m + 1, h, k, hk => by
    rw [hdo] at h
    split at h
    · cases h
    · rename_i e
      by_cases e2 : k = m
      · rw [e2]; exact fun h1 h2 => e ⟨h1, h2⟩
      · exact hdo_none h k (by omega)
theorem cn_step {p : Nat → Bool} {k : Nat} (h : p k = true) : ∀ {b : Nat}, k + 1 ≤ b → cn p k + 1 ≤ cn p b
  | 0, z => by omega
  | b + 1, z => by
    by_cases e : k = b
    · subst e; rw [cn, h, if_pos rfl]; exact Nat.le_refl _
    · have := cn_step h (b := b) (by omega)
      rw [cn]; omega
theorem cn_inj {p : Nat → Bool} {k k' : Nat} (h : p k = true) (h' : p k' = true) (e : cn p k = cn p k') : k = k' := by
  rcases Nat.lt_trichotomy k k' with z | z | z
  · have := cn_step h (b := k') z; omega
  · exact z
  · have := cn_step h' (b := k) z; omega
def tvl (T : Nat → Int32) (n t v : Nat) : Int32 := if v = 0 then nI (Rt T t) else if v = 1 then nI (Fr T t) else if v = 2 then nI (Go T t) else if v = 3 then nI (Dp T t) else if v = 4 then nI (Ar T t) else if v = 5 then eo (bfo T t n) else if v = 6 then eo (nx T t) else if v = 7 then (if isr T t = true then nI (cn (hd T n) (lastc (bf T n) t)) else -1) else nI (Lo T t)
def bvl (T : Nat → Int32) (n k v : Nat) : Int32 := if v = 0 then nI k else if v = 1 then nI (ch (nx T) k).length else if v = 2 then nI (Ar T (lastc (nx T) k)) - nI (Dp T k) else if v = 3 then (nI (Ar T (lastc (nx T) k)) - nI (Dp T k)) - nI (drv T (some k)) else if v = 4 then nI (chg T k) else if v = 5 then eo (ndu T k) else bkv T n k
def tml (T : Nat → Int32) (n t v : Nat) : Int32 := if v = 0 then T t else if v = 1 then T (4 + t) else if v = 2 then nI (cn (fun k => isr T k && Nat.beq (Fr T k) t) n) else if v = 3 then nI (cn (fun k => isr T k && Nat.beq (Go T k) t) n) else nI (dfc T n t)
def cnl (T : Nat → Int32) (n v : Nat) : Int32 := if v = 0 then nI n else if v = 1 then nI (cn (isr T) n) else if v = 2 then nI (cn (hd T n) n) else if v = 3 then nI (cn (hd (baT T n) n) n) else if v = 4 then nI (sn (dfc T n) 4) else if v = 5 then nI (nT T 10 - nT T 12) else if v = 6 then T 13 else if v = 7 then T 14 else if v = 8 then nI (mx (uw T n) n) else eo (ado T n n)
abbrev Lk0 : Type := String ⊕ Int32
def l_setting (S : Sta) (a : Int32) : Lk0 := match ixN a 4 with
  | none => .inl xI
  | some t => .inr (S.1.1 (8 + t))
def l_whyNot (S : Sta) (a b : Int32) : Lk0 := match ixN a S.1.2 with
  | none => .inl xI
  | some s => match ixN b S.1.2 with
    | none => .inl xI
    | some t => .inr (nI (rsn S.1.1 S.1.2 s t))
def l_ifFailed (S : Sta) (a : Int32) : Lk0 := match ixN a S.1.2 with
  | none => .inl xI
  | some t => if isr S.1.1 t = true then .inr (nI (lsl S.1.1 t).length) else .inl xS
def l_tripOf (S : Sta) (a b : Int32) : Lk0 := match ixN a S.1.2 with
  | none => .inl xI
  | some t => match rnN b 0 8 with
    | none => .inl xA
    | some v => .inr (tvl S.1.1 S.1.2 t v)
def l_blockOf (S : Sta) (a b : Int32) : Lk0 := match hdo (hd S.1.1 S.1.2) a S.1.2 with
  | none => .inl xI
  | some k => match rnN b 0 6 with
    | none => .inl xA
    | some v => .inr (bvl S.1.1 S.1.2 k v)
def l_duty (S : Sta) (a b w : Int32) : Lk0 := match hdo (hd S.1.1 S.1.2) a S.1.2 with
  | none => .inl xI
  | some k => if b < 0 then .inl xA else match rnN w 0 2 with
    | none => .inl xA
    | some _ => .inr (dv S.1.1 k b.toNatClampNeg w)
def l_terminalOf (S : Sta) (a b : Int32) : Lk0 := match ixN a 4 with
  | none => .inl xI
  | some t => match rnN b 0 4 with
    | none => .inl xA
    | some v => .inr (tml S.1.1 S.1.2 t v)
def l_count (S : Sta) (a : Int32) : Lk0 := match rnN a 0 10 with
  | none => .inl xA
  | some v => .inr (if v = 10 then nI S.2.1.length else cnl S.1.1 S.1.2 v)
def l_ifTrip (S : Sta) (a b c d e : Int32) : Lk0 := if told a b c d e = true then .inr (nI (sn (dfc (newT S.1.1 S.1.2 a b c d e) (S.1.2 + 1)) 4)) else .inl xA
/-- a look: the answer, and nothing changed -/
def lks (S : Sta) (l : Lk0) : Rsl := l.map id (fun q => (q, S))
section LKS
variable {h : HP} {S : Sta}
theorem setting_s (hs : RS h S) (a : Int32) : v_B_setting h a = l_setting S a := by
  rcases sett_c h a with ⟨t, ht, ea, e1, e2⟩ | ⟨e1, e2⟩
  · rw [v_B_setting, e1, l_setting, e2]
    show Sum.inr (v_at 4 (h.1 11) a) = _
    rw [ea, at_nI (by omega) _ ht]
    exact congrArg Sum.inr (hs.1.1.se ht)
  · rw [v_B_setting, e1, l_setting, e2]
theorem whyNot_s (hs : RS h S) (a b : Int32) : v_B_whyNot h a b = l_whyNot S a b := by
  rcases trip_c hs.1.1 hs.1.2 a with ⟨s, hs', ea, e1, e2⟩ | ⟨e1, e2⟩
  · rcases trip_c hs.1.1 hs.1.2 b with ⟨t, ht, eb, f1, f2⟩ | ⟨f1, f2⟩
    · rw [v_B_whyNot, e1, f1, l_whyNot, e2]
      show Sum.inr (v_T_reasonAgainst h a b) = (match ixN b S.1.2 with | none => _ | some t => _)
      rw [f2, ea, eb, cc_reason hs.1.1 hs.1.2 hs' ht]
    · rw [v_B_whyNot, e1, f1, l_whyNot, e2]
      show _ = (match ixN b S.1.2 with | none => _ | some t => _)
      rw [f2]
  · rw [v_B_whyNot, e1, l_whyNot, e2]
theorem ifFailed_s (hs : RS h S) (a : Int32) : p_B_ifFailed h a ∧ v_B_ifFailed h a = l_ifFailed S a := by
  rcases trip_c hs.1.1 hs.1.2 a with ⟨t, ht, ea, e1, e2⟩ | ⟨e1, e2⟩
  · have hz := checkRun_c hs ht
    obtain ⟨a1, a2⟩ := cc_losses hs.1.1 hs.1.2 ht
    refine ⟨fun _ _ => by rw [ea]; exact a1, ?_⟩
    rw [v_B_ifFailed, e1, l_ifFailed, e2]
    show (match v_B_checkRun h a with | some E => Sum.inl E | none => Sum.inr (v_T_lossesFrom h a)) = (if isr S.1.1 t = true then _ else _)
    rw [ea, hz]
    by_cases en : isr S.1.1 t = true
    · rw [if_pos en, if_pos en]
      exact congrArg Sum.inr a2
    · rw [if_neg en, if_neg en]
  · refine ⟨fun z => (nomatch (e1.symm.trans z)), ?_⟩
    rw [v_B_ifFailed, e1, l_ifFailed, e2]
theorem tripOf_s (hs : RS h S) (a b : Int32) : p_B_tripOf h a b ∧ v_B_tripOf h a b = l_tripOf S a b := by
  have hR := hs.1.1
  have hI := hs.1.2
  have h20 := hI.n20
  rcases trip_c hR hI a with ⟨t, ht, ea, e1, e2⟩ | ⟨e1, e2⟩
  · have hbw := cc_blockWith hR hI ht
    refine ⟨fun _ _ => ⟨fun _ => trivial, fun _ => ⟨fun _ => trivial, fun _ => ⟨fun _ => trivial, fun _ => ⟨fun _ => trivial, fun _ => ⟨fun _ => trivial, fun _ => ⟨fun _ => trivial, fun _ => ⟨fun _ => trivial, fun _ => ⟨fun _ => by rw [ea]; exact hbw.1, fun _ => trivial⟩⟩⟩⟩⟩⟩⟩⟩, ?_⟩
    rcases rng_c (lo := 0) (hi := 8) (by omega) (by omega) h b with ⟨v, _, hv, eb, f1, f2⟩ | ⟨f1, f2⟩
    · have f1' : v_B_checkRange h (nI v) 0 8 = none := by rw [← eb]; exact f1
      have e1' : v_B_checkTrip h (nI t) = none := by rw [← ea]; exact e1
      rw [l_tripOf, e2]
      show _ = (match rnN b 0 8 with | none => _ | some v => _)
      rw [f2, ea, eb, v_B_tripOf, e1', f1']
      match v, hv with
      | 0, _ => exact congrArg Sum.inr (cc_rt hR hI ht)
      | 1, _ => exact congrArg Sum.inr (cc_fr hR hI ht)
      | 2, _ => exact congrArg Sum.inr (cc_go hR hI ht)
      | 3, _ => exact congrArg Sum.inr (cc_dep hR hI ht)
      | 4, _ => exact congrArg Sum.inr (cc_arr hR hI ht)
      | 5, _ => exact congrArg Sum.inr (cc_bf hR hI ht)
      | 6, _ => exact congrArg Sum.inr (cc_nx hR hI ht)
      | 7, _ => exact congrArg Sum.inr hbw.2
      | 8, _ =>
        refine congrArg Sum.inr (show (if v_T_isRun h (nI t) = 0 then (1 : Int32) else 0) = nI (Lo S.1.1 t) from ?_)
        rw [cc_isRun hR hI ht]
        have hl : Lo S.1.1 t ≤ 1 := (hI.lo ht).2
        unfold isr
        rcases (show Lo S.1.1 t = 0 ∨ Lo S.1.1 t = 1 by omega) with e | e
        · rw [e]; rfl
        · rw [e]; rfl
      | v + 9, z => omega
    · have f1' : v_B_checkRange h b 0 8 = some xA := f1
      rw [v_B_tripOf, e1, f1', l_tripOf, e2]
      show _ = (match rnN b 0 8 with | none => _ | some v => _)
      rw [f2]
  · refine ⟨fun z => (nomatch (e1.symm.trans z)), ?_⟩
    rw [v_B_tripOf, e1, l_tripOf, e2]
theorem block_c (hs : RS h S) (a : Int32) : p_T_headOf h a ∧ ((∃ k, k < S.1.2 ∧ hd S.1.1 S.1.2 k = true ∧ a = nI (cn (hd S.1.1 S.1.2) k) ∧ v_T_headOf h a = nI k ∧ v_B_checkHead h (nI k) = none ∧ hdo (hd S.1.1 S.1.2) a S.1.2 = some k) ∨ (v_T_headOf h a = -1 ∧ hdo (hd S.1.1 S.1.2) a S.1.2 = none)) := by
  have h20 := hs.1.2.n20
  obtain ⟨h1, h2⟩ := cc_headOf hs.1.1 hs.1.2 a
  refine ⟨h1, ?_⟩
  cases e : hdo (hd S.1.1 S.1.2) a S.1.2 with
  | none =>
    rcases h2 with ⟨k, k1, k2, k3, k4⟩ | ⟨k1, k2⟩
    · exact absurd k3 (hdo_none e k k1 k2)
    · exact .inr ⟨k2, rfl⟩
  | some q =>
    obtain ⟨q1, q2, q3⟩ := hdo_some e
    rcases h2 with ⟨k, k1, k2, k3, k4⟩ | ⟨k1, k2⟩
    · have c1 := cn_le (hd S.1.1 S.1.2) k
      have c2 := cn_le (hd S.1.1 S.1.2) q
      have : k = q := cn_inj k2 q2 (nI_inj (by omega) (by omega) (k3.symm.trans q3))
      subst this
      exact .inl ⟨k, k1, k2, k3, k4, if_neg (nI_m1 (by omega)), rfl⟩
    · exact absurd q3 (k1 q q1 q2)
theorem blockOf_s (hs : RS h S) (a b : Int32) : p_B_blockOf h a b ∧ Co (v_B_blockOf h a b) (lks S (l_blockOf S a b)) := by
  have hR := hs.1.1
  have hI := hs.1.2
  have h20 := hI.n20
  obtain ⟨p1, hcs⟩ := block_c hs a
  rcases hcs with ⟨k, hk, hh, ea, e1, e2, e3⟩ | ⟨e1, e3⟩
  · have hbk := hd_bf hh hk
    obtain ⟨u1, u3, u4⟩ := cc_back hR hI hk hbk
    refine ⟨⟨p1, fun _ _ => ?_⟩, ?_⟩
    · rw [e1]
      exact ⟨fun _ => trivial, fun _ => ⟨fun _ => (cc_trips hR hI hk).1, fun _ => ⟨fun _ => (cc_span hR hI hk).1, fun _ => ⟨fun _ => ⟨(cc_span hR hI hk).1, (cc_driven hR hI hk).1⟩, fun _ => ⟨fun _ => (cc_changes hR hI hk).1, fun _ => ⟨fun _ => (cc_forward hR hI hk).1, fun _ => u1⟩⟩⟩⟩⟩⟩
    rcases rng_c (lo := 0) (hi := 6) (by omega) (by omega) h b with ⟨v, _, hv, eb, f1, f2⟩ | ⟨f1, f2⟩
    · have f1' : v_B_checkRange h (nI v) 0 6 = none := by rw [← eb]; exact f1
      have hl : lks S (l_blockOf S a b) = .inr (bvl S.1.1 S.1.2 k v, S) := by
        rw [l_blockOf, e3]
        show lks S (match rnN b 0 6 with | none => _ | some v => _) = _
        rw [f2]; rfl
      rw [hl, eb, v_B_blockOf, e1, e2, f1']
      match v, hv with
      | 0, _ => exact ⟨rfl, hs⟩
      | 1, _ => exact ⟨(cc_trips hR hI hk).2, hs⟩
      | 2, _ => exact ⟨(cc_span hR hI hk).2, hs⟩
      | 3, _ => exact ⟨(show v_T_spanFrom h (nI k) - v_T_drivenFrom h (nI k) = _ by rw [(cc_span hR hI hk).2, (cc_driven hR hI hk).2]; rfl), hs⟩
      | 4, _ => exact ⟨(cc_changes hR hI hk).2, hs⟩
      | 5, _ => exact ⟨(cc_forward hR hI hk).2, hs⟩
      | 6, _ => exact ⟨u3, hs.look ⟨fun c hc => u4 c (by omega), by rw [u4 18 (by omega)]⟩⟩
      | v + 7, z => omega
    · have f1' : v_B_checkRange h b 0 6 = some xA := f1
      have hl : lks S (l_blockOf S a b) = .inl xA := by
        rw [l_blockOf, e3]
        show lks S (match rnN b 0 6 with | none => _ | some v => _) = _
        rw [f2]; rfl
      rw [hl, v_B_blockOf, e1, e2, f1']
      rfl
  · refine ⟨⟨p1, fun z => by rw [e1, noHead] at z; cases z⟩, ?_⟩
    rw [v_B_blockOf, e1, noHead, l_blockOf, e3]
    rfl
theorem duty_s (hs : RS h S) (a b w : Int32) : p_B_duty h a b w ∧ v_B_duty h a b w = l_duty S a b w := by
  have hR := hs.1.1
  have hI := hs.1.2
  have h20 := hI.n20
  obtain ⟨p1, hcs⟩ := block_c hs a
  rcases hcs with ⟨k, hk, hh, ea, e1, e2, e3⟩ | ⟨e1, e3⟩
  · rcases nneg b with ⟨r, hr2, eb, hb⟩ | hb
    · obtain ⟨c1, c2, c3⟩ := cc_duty hR hI hk hr2 w
      refine ⟨⟨p1, fun _ => ⟨fun _ => trivial, fun _ _ => ?_⟩⟩, ?_⟩
      · rw [e1, eb]
        exact ⟨c1, fun _ => trivial, fun z => c2 z⟩
      · rcases rng_c (lo := 0) (hi := 2) (by omega) (by omega) h w with ⟨v, _, hv, ew, f1, f2⟩ | ⟨f1, f2⟩
        · have f1' : v_B_checkRange h w 0 2 = none := f1
          have hl : l_duty S a b w = .inr (dv S.1.1 k r w) := by
            rw [l_duty, e3]
            show (if b < 0 then _ else match rnN w 0 2 with | none => _ | some _ => _) = _
            rw [if_neg hb, f2, eb, nI_clamp (by omega)]
          rw [hl, v_B_duty, e1, e2]
          show (if b < 0 then _ else (match v_B_checkRange h w 0 2 with | some E => _ | none => _)) = _
          rw [if_neg hb, f1', eb, ← c3]
          exact inr4
        · have f1' : v_B_checkRange h w 0 2 = some xA := f1
          rw [v_B_duty, e1, e2, l_duty, e3]
          show (if b < 0 then _ else (match v_B_checkRange h w 0 2 with | some E => _ | none => _)) = (if b < 0 then _ else match rnN w 0 2 with | none => _ | some _ => _)
          rw [if_neg hb, f1', if_neg hb, f2]
    · refine ⟨⟨p1, fun _ => ⟨fun _ => trivial, fun z => absurd hb z⟩⟩, ?_⟩
      rw [v_B_duty, e1, e2, l_duty, e3]
      show (if b < 0 then Sum.inl xA else _) = (if b < 0 then _ else _)
      rw [if_pos hb, if_pos hb]
  · refine ⟨⟨p1, fun z => by rw [e1, noHead] at z; cases z⟩, ?_⟩
    rw [v_B_duty, e1, noHead, l_duty, e3]
theorem terminalOf_s (hs : RS h S) (a b : Int32) : p_B_terminalOf h a b ∧ Co (v_B_terminalOf h a b) (lks S (l_terminalOf S a b)) := by
  have hR := hs.1.1
  have hI := hs.1.2
  have h20 := hI.n20
  rcases term_c h a with ⟨t, ht, ea, e1, e2⟩ | ⟨e1, e2⟩
  · obtain ⟨d1, d2, d3, d4, d5⟩ := cc_deficits hR hI
    refine ⟨fun _ _ => by rw [ea]; exact ⟨fun _ => trivial, fun _ => ⟨fun _ => trivial, fun _ => ⟨fun _ => (cc_runAt2 hR hI ht).1, fun _ => ⟨fun _ => (cc_runAt3 hR hI ht).1, fun _ => ⟨d1, fun y hy => by subst hy; exact ⟨d2, fun y2 hy2 => by subst hy2; exact (d4 t ht).1⟩⟩⟩⟩⟩⟩, ?_⟩
    rcases rng_c (lo := 0) (hi := 4) (by omega) (by omega) h b with ⟨v, _, hv, eb, f1, f2⟩ | ⟨f1, f2⟩
    · have f1' : v_B_checkRange h (nI v) 0 4 = none := by rw [← eb]; exact f1
      have e1' : v_B_checkTerminal h (nI t) = none := by rw [← ea]; exact e1
      have hl : lks S (l_terminalOf S a b) = .inr (tml S.1.1 S.1.2 t v, S) := by
        rw [l_terminalOf, e2]
        show lks S (match rnN b 0 4 with | none => _ | some v => _) = _
        rw [f2]; rfl
      rw [hl, ea, eb, v_B_terminalOf, e1', f1']
      match v, hv with
      | 0, _ => exact ⟨(cc_lay hR hI ht).trans (hI.lay ht).1.symm, hs⟩
      | 1, _ => exact ⟨(cc_rel hR hI ht).trans (hI.rel ht).1.symm, hs⟩
      | 2, _ => exact ⟨(cc_runAt2 hR hI ht).2, hs⟩
      | 3, _ => exact ⟨(cc_runAt3 hR hI ht).2, hs⟩
      | 4, _ => exact ⟨(d4 t ht).2, hs.look d5⟩
      | v + 5, z => omega
    · have f1' : v_B_checkRange h b 0 4 = some xA := f1
      have hl : lks S (l_terminalOf S a b) = .inl xA := by
        rw [l_terminalOf, e2]
        show lks S (match rnN b 0 4 with | none => _ | some v => _) = _
        rw [f2]; rfl
      rw [hl, v_B_terminalOf, e1, f1']
      rfl
  · refine ⟨fun z => (nomatch (e1.symm.trans z)), ?_⟩
    rw [v_B_terminalOf, e1, l_terminalOf, e2]
    rfl
/-- blocks by a trial -/
theorem trial_c {h : HP} {T : Nat → Int32} {n : Nat} (hR : RT h.1 0 T n) (hI : Inv T n) :
    (∀ y1, v_copyFrom h 21 0 = y1 → (p_T_blockEverything (am_pull pl21 y1) ∧ ∀ y2, am_push pl21 y1 (v_T_blockEverything (am_pull pl21 y1)) = y2 → p_T_blocks (am_pull pl21 y2))) ∧
    v_T_blocks (am_pull pl21 (am_push pl21 (v_copyFrom h 21 0) (v_T_blockEverything (am_pull pl21 (v_copyFrom h 21 0))))) = nI (cn (hd (baT T n) n) n) ∧
    hK h (am_push pl21 (v_copyFrom h 21 0) (v_T_blockEverything (am_pull pl21 (v_copyFrom h 21 0)))) := by
  have h20 := hI.n20
  have hq : (21, 0) ∈ cql := by decide
  have hR1 : RT (am_pull pl21 (v_copyFrom h 21 0)).1 0 T n := (copy_RT hq hR h20).shift (fun j hj => by
    show (v_copyFrom h 21 0).1 (am_pi pl21 (0 + j)) = _
    rw [Nat.zero_add, pi21 j hj])
  obtain ⟨a1, a3, a4, a8⟩ := cc_ball hR1 hI
  have hR2 : RT (am_pull pl21 (am_push pl21 (v_copyFrom h 21 0) (v_T_blockEverything (am_pull pl21 (v_copyFrom h 21 0))))).1 0 (baT T n) n := a3.shift (fun j hj => by
    show (match am_ip pl21 (am_pi pl21 (0 + j)) with | some k => (v_T_blockEverything (am_pull pl21 (v_copyFrom h 21 0))).1 k | none => _) = _
    rw [Nat.zero_add, pi21 j hj, ip21 j hj])
  obtain ⟨b1, b2⟩ := cc_blocks hR2 a4
  have hH : ∀ c, c < 21 ∨ 33 ≤ c → (am_push pl21 (v_copyFrom h 21 0) (v_T_blockEverything (am_pull pl21 (v_copyFrom h 21 0)))).1 c = h.1 c := fun c hc => by
    show (match am_ip pl21 c with | some k => _ | none => (v_copyFrom h 21 0).1 c) = _
    rw [ip21n hc]
    exact copy_rest hq _ (by omega)
  exact ⟨fun y1 hy1 => by subst hy1; exact ⟨a1, fun y2 hy2 => by subst hy2; exact b1⟩, b2, ⟨fun c hc => hH c (by omega), by rw [hH 18 (by omega)]⟩⟩
theorem count_s (hs : RS h S) (a : Int32) : p_B_count h a ∧ Co (v_B_count h a) (lks S (l_count S a)) := by
  have hR := hs.1.1
  have hI := hs.1.2
  have h20 := hI.n20
  obtain ⟨d1, d2, d3, d4, d5⟩ := cc_deficits hR hI
  obtain ⟨t1, t3, t4⟩ := trial_c hR hI
  refine ⟨fun _ => ⟨fun _ => trivial, fun _ => ⟨fun _ => (cc_run hR hI).1, fun _ => ⟨fun _ => (cc_blocks hR hI).1, fun _ => ⟨fun _ => t1, fun _ => ⟨fun _ => ⟨d1, fun y hy => by subst hy; exact d2⟩, fun _ => ⟨fun _ => trivial, fun _ => ⟨fun _ => trivial, fun _ => ⟨fun _ => trivial, fun _ => ⟨fun _ => (cc_most hR hI).1, fun _ => ⟨fun _ => (cc_all hR hI).1, fun _ => trivial⟩⟩⟩⟩⟩⟩⟩⟩⟩⟩, ?_⟩
  rcases rng_c (lo := 0) (hi := 10) (by omega) (by omega) h a with ⟨v, _, hv, ea, f1, f2⟩ | ⟨f1, f2⟩
  · have f1' : v_B_checkRange h (nI v) 0 10 = none := by rw [← ea]; exact f1
    have hl : lks S (l_count S a) = .inr (if v = 10 then nI S.2.1.length else cnl S.1.1 S.1.2 v, S) := by rw [l_count, f2]; rfl
    rw [hl, ea, v_B_count, f1']
    match v, hv with
    | 0, _ => exact ⟨hR.nn, hs⟩
    | 1, _ => exact ⟨(cc_run hR hI).2, hs⟩
    | 2, _ => exact ⟨(cc_blocks hR hI).2, hs⟩
    | 3, _ => exact ⟨t3, hs.look t4⟩
    | 4, _ => exact ⟨d3, hs.look d5⟩
    | 5, _ => exact ⟨cc_spares hR hI, hs⟩
    | 6, _ => exact ⟨hR.fa, hs⟩
    | 7, _ => exact ⟨hR.re, hs⟩
    | 8, _ => exact ⟨(cc_most hR hI).2, hs⟩
    | 9, _ => exact ⟨(cc_all hR hI).2, hs⟩
    | 10, _ =>
      obtain ⟨o, k1, k2, k3, k4, k5⟩ := hs.2.1
      exact ⟨k3, hs⟩
    | v + 11, z => omega
  · have f1' : v_B_checkRange h a 0 10 = some xA := f1
    have hl : lks S (l_count S a) = .inl xA := by rw [l_count, f2]; rfl
    rw [hl, v_B_count, f1']
    rfl
theorem ifTrip_s (hs : RS h S) (a b c d e : Int32) : p_B_ifTrip h a b c d e ∧ Co (v_B_ifTrip h a b c d e) (lks S (l_ifTrip S a b c d e)) := by
  have hR := hs.1.1
  have hI := hs.1.2
  have h20 := hI.n20
  rcases told_c h a b c d e with ⟨r, f, t, p, l, b1, b2, b3, b4, b5, b6, ea, eb, ec, ed, ee, t1, t2⟩ | ⟨t1, t2⟩
  · obtain ⟨g1, A, s, hE, h2n, hq, hf, -⟩ := cc_gather hR hI none okO_none
    have hE' : EvS (v_D_gather h (-1)) A s := hE
    have hRg : RT (v_D_gather h (-1)).1 0 S.1.1 S.1.2 := hR.congr (fun j hj => hf _ (by omega) (by omega))
    obtain ⟨w1, w2, w3, w4⟩ := cc_fewestWith hRg hI hE' (r := r) (f := f) (t := t) (d := p) (l := l) (by omega) (by omega) (by omega) b4 b6 b5
    have hlr : lvN S.1.1 r f p ≤ rdN S.1.1 r t (p + l) := by
      have k1 := keyN_lt (T := S.1.1) (r := r) (t := f) (by omega) (by omega)
      unfold lvN rdN
      have : p + 1 ≤ p + l + nT S.1.1 t := by omega
      omega
    obtain ⟨s1, s2⟩ := mrg_srt hE'.2.2.1 hlr
    have hIB := new_IB hI b1 b2 b3 b4 b6 b5
    have hq' : ∀ q : Nat → Bool, cn (fun i => q (mrg A s (lvN S.1.1 r f p) (rdN S.1.1 r t (p + l)) i)) (s + 1 + 1) = evM (newT S.1.1 S.1.2 (nI r) (nI f) (nI t) (nI p) (nI l)) (S.1.2 + 1) q := fun q => by
      rw [s2 q, new_ev hI b1 b2 b3 b4 b6 q, hq q, evn_evM]; rfl
    have hsum := sw_sum hIB s1 hq'
    refine ⟨fun _ => ⟨g1, fun y hy => by subst hy; rw [ea, eb, ec, ed, ee]; exact w1⟩, ?_⟩
    rw [v_B_ifTrip, t1, l_ifTrip, if_pos t2]
    show Co (.inr ((v_D_fewestWith (v_D_gather h (-1)) a b c d e).1, (v_D_fewestWith (v_D_gather h (-1)) a b c d e).2)) (.inr (nI (sn (dfc (newT S.1.1 S.1.2 a b c d e) (S.1.2 + 1)) 4), S))
    rw [ea, eb, ec, ed, ee]
    refine ⟨?_, hs.look ⟨fun c' hc' => by rw [w3 c' (by omega) (by omega) (by omega)]; exact hf c' (by omega) (by omega), by rw [w3 18 (by omega) (by omega) (by omega)]; exact congrFun (hf 18 (by omega) (by omega)) 2⟩⟩
    show (v_D_fewestWith _ _ _ _ _ _).1 = nI _
    rw [w2, hsum]
  · refine ⟨fun z => (nomatch (t1.symm.trans z)), ?_⟩
    have hcv : v_B_ifTrip h a b c d e = .inl xA := by rw [v_B_ifTrip, t1]
    rw [hcv, l_ifTrip, if_neg (show ¬ told a b c d e = true by rw [t2]; decide)]
    rfl
theorem share_s (hs : RS h S) : p_B_drivenShare h ∧ v_B_drivenShare h = shr S.1.1 S.1.2 := cc_shr quoOK hs.1.1 hs.1.2
end LKS
