/-! THE LAW behind its loop: all refused, all undone, back to the snapshot. -/
theorem gb_s {S : Sta} {Kt : TN} (h3 : S.2.2.1.1 = some Kt) (h2 : Kt.2 = 2) : s_goBack S 0 = .inr (nI 2, sav S Kt) := by
  unfold s_goBack
  rw [show (0 : Int32) = nI 0 from rfl, rnN_nI (lo := 0) (hi := 1) (by omega) (by omega) (by omega)]
  show (match slot S 0 with | none => _ | some t => _) = _
  have e : slot S 0 = some Kt := h3
  rw [e]
  show (Sum.inr (nI Kt.2, sav S Kt) : Rsl) = _
  rw [h2]
theorem un_0 {S : Sta} (h0 : S.2.1 = []) : s_undo S = .inl xS := by
  unfold s_undo
  rw [h0]; rfl
theorem nI_le5 {k : Nat} (hk : k ≤ 5) : nI k ≤ 5 := (nI_lei (b := 5) (by omega) (by omega)).mpr hk
theorem nI_n0 {k : Nat} (h : 0 < k) (hk : k ≤ 100) : ¬ nI k ≤ 0 := fun z => absurd ((nI_lei (b := 0) (by omega) (by omega)).mp z) (by omega)
section LWA
variable {L : Nat} {P : AR → HP → Prop} {g A k : Nat} {h : HP} {S : Sta} {kept : Int64} {Kt : TN}
set_option maxRecDepth 100000 in
theorem lw_end {y6 : Int32} (ha : At h S g) (h0 : S.2.1 = []) (h3 : S.2.2.1.1 = some Kt) (hK : Kt.2 = 2) (hk : kept = seenV Kt) (hg : g + 3 ≤ 4400) (hP : ∀ H : HP, (H.1 2000 0).toNatClampNeg ≤ 4400 → P (.inl (some (.int 1))) H) : EvL L P (609, [.ref 1005, .ref 38, .ref 135, .int (nI A), .long kept, .retAddr 0, .int y6, rA, rA, rA, rA, rA, rA, rA], [], h) := by
  refine am_Ev_G [615] 8 _ ?_
  show EvL L P (615, [.ref 1005, .ref 38, .ref 135, .int (nI A), .long kept, .retAddr 0, .int y6, rA, rA, rA, rA, rA, rA, rA], [.long 0, .int 0, .int 0, .int 13, .ref 38], h)
  refine act false (i := 112) (cd := d_L_call) (x := 1) (g := g) (r := [.int 13, .int 0, .int 0, .long 0]) (v := .int (-13 : Int32)) rfl rfl rfl rfl rfl (Nat.le_refl _) (fun _ => rfl) (by show g + 1 + 1 ≤ 4401; omega) (by omega) (dz_callT 13 0 0 0 ?_ ?_) ha ?_
  · show thrB (s_undo S) = true
    rw [un_0 h0]; rfl
  · show (rs (s_undo S) S).1 = -13
    rw [un_0 h0]; exact hcS
  intro H1 ha1 _
  refine am_Ev_G [620] 4 _ ?_
  show EvL L P (620, [.ref 1005, .ref 38, .ref 135, .int (nI A), .long kept, .retAddr 0, .int y6, rA, rA, rA, rA, rA, rA, rA], [.int (-13 : Int32), .int (-13 : Int32)], H1)
  refine wk_ne rfl rfl ?_
  refine am_Ev_G [625] 4 _ ?_
  show EvL L P (625, [.ref 1005, .ref 38, .ref 135, .int (nI A), .long kept, .retAddr 0, .int y6, rA, rA, rA, rA, rA, rA, rA], [.int 0, .ref 38], H1)
  have eg := gb_s h3 hK
  refine act true (i := 59) (cd := d_B_goBack 15) (x := 0) (g := g + 1) (r := [.int 0]) (v := .int (nI 2)) rfl rfl rfl rfl rfl (Nat.le_refl _) (fun _ => rfl) (by show g + 1 + 0 + 1 ≤ 4401; omega) (by omega) (dz_goBack 0 (by rw [eg]; rfl)) ha1 ?_
  intro H2 ha2 _
  rw [eg] at ha2
  have ha2 : At H2 (sav S Kt) (g + 1) := ha2
  refine am_Ev_G [629] 4 _ ?_
  show EvL L P (629, [.ref 1005, .ref 38, .ref 135, .int (nI A), .long kept, .retAddr 0, .int y6, rA, rA, rA, rA, rA, rA, rA], [.int 2, .int (nI 2)], H2)
  refine wk_ne rfl rfl ?_
  refine am_Ev_G [633] 4 _ ?_
  show EvL L P (633, [.ref 1005, .ref 38, .ref 135, .int (nI A), .long kept, .retAddr 0, .int y6, rA, rA, rA, rA, rA, rA, rA], [.ref 38], H2)
  refine act false (i := 126) (cd := d_L_seen 0) (x := 0) (g := g + 1) (r := []) (v := .long (seenV Kt)) rfl rfl rfl rfl rfl (Nat.le_refl _) (fun _ => rfl) (by show g + 1 + 0 + 1 ≤ 4401; omega) (by omega) (dz_seen (S := sav S Kt)) ha2 ?_
  intro H3 ha3 _
  refine am_Ev_G [639] 4 _ ?_
  show EvL L P (639, [.ref 1005, .ref 38, .ref 135, .int (nI A), .long kept, .retAddr 0, .int y6, rA, rA, rA, rA, rA, rA, rA], [.int (lg_cmp (seenV Kt) kept)], H3)
  refine wk_ifne rfl (by rw [hk]; exact lg_self _) ?_
  refine am_Ev_G [645] 4 _ ?_
  show EvL L P (645, [.ref 1005, .ref 38, .ref 135, .int (nI A), .long kept, .retAddr 0, .int y6, rA, rA, rA, rA, rA, rA, rA], [.int 10, .ref 38], H3)
  refine lw_cnt rfl ha3 (by omega) rfl (fun H4 ha4 _ => ?_)
  have el : (sav S Kt).2.1.length = 1 := by
    show (psh S.2.1 S.1).length = 1
    rw [h0]; rfl
  rw [el]
  refine am_Ev_G [649] 4 _ ?_
  show EvL L P (649, [.ref 1005, .ref 38, .ref 135, .int (nI A), .long kept, .retAddr 0, .int y6, rA, rA, rA, rA, rA, rA, rA], [.int 1, .int (nI 1)], H4)
  refine wk_ne rfl rfl ?_
  refine am_Ev_G [657] 4 _ ?_
  show EvL L P (657, [.ref 1005, .ref 38, .ref 135, .int (nI A), .long kept, .retAddr 0, .int y6, rA, rA, rA, rA, rA, rA, rA], [.int 1], H4)
  refine wk_ret rfl rfl (.inr rfl) (hP _ ?_)
  rw [ha4.2, nI_clamp (by omega)]; omega
/-- one undo -/
theorem rev_cons {l : List TN} (h : 0 < l.length) : ∃ t r, l.reverse = t :: r ∧ r.reverse.length = l.length - 1 := by
  cases e : l.reverse with
  | nil =>
    have h2 : l.length = 0 := by rw [← List.length_reverse, e]; rfl
    omega
  | cons t r =>
    refine ⟨t, r, rfl, ?_⟩
    have := congrArg List.length e
    rw [List.length_reverse, List.length_cons] at this
    rw [List.length_reverse]; omega
theorem lw_undo {pc : Nat} {ls : List Value} {t : TN} {r : List TN} (hcd : (m_code (m_L_law L) pc).1 = .invokevirtual 62) (ha : At h S g) (hg : g + 2 ≤ 4400) (e : S.2.1.reverse = t :: r) (kk : ∀ H, At H (t, r.reverse, S.2.2) g → Kp h H → EvL L P (pc + 3, ls, [.int (nI (S.2.1.length - 1))], H)) : EvL L P (pc, ls, [.ref 38], h) := by
  have eu := undo_rev e
  refine act true (i := 62) (cd := d_B_undo 15) (x := 0) (g := g) (r := []) (v := .int (nI (S.2.1.length - 1))) hcd rfl rfl rfl rfl (Nat.le_refl _) (fun _ => rfl) (by show g + 0 + 1 ≤ 4401; omega) (by omega) (dz_undo (by rw [eu]; rfl)) ha ?_
  intro H hA hK
  rw [eu] at hA
  exact kk H hA hK
set_option maxRecDepth 100000 in
theorem lw_un2 (h3 : ∀ S : Sta, S.2.2.1.1 = some Kt → True) (hK : Kt.2 = 2) (hk : kept = seenV Kt) (hg : g + 3 ≤ 4400) (hP : ∀ H : HP, (H.1 2000 0).toNatClampNeg ≤ 4400 → P (.inl (some (.int 1))) H) : ∀ (n k : Nat) (h : HP) (S : Sta), S.2.1.length ≤ n → S.2.1.length + k ≤ 6 → At h S g → S.2.2.1.1 = some Kt → EvL L P (578, lsL A kept k [rA, rA, rA, rA, rA, rA, rA], [], h) := by
  intro n
  induction n with
  | zero =>
    intro k h S hn hk6 ha h3
    have h0 : S.2.1 = [] := List.length_eq_zero_iff.mp (by omega)
    refine am_Ev_G [582] 4 _ ?_
    show EvL L P (582, lsL A kept k [rA, rA, rA, rA, rA, rA, rA], [.int 6, .int (nI k)], h)
    by_cases e6 : k < 6
    · refine wk_ge rfl (show nI k < 6 from nI_lt (b := 6) e6 (by omega)) ?_
      refine am_Ev_G [588] 4 _ ?_
      show EvL L P (588, lsL A kept k [rA, rA, rA, rA, rA, rA, rA], [.int 10, .ref 38], h)
      refine lw_cnt rfl ha (by omega) rfl (fun H ha1 _ => ?_)
      rw [h0]
      refine wk_le1 rfl (by decide) ?_
      exact lw_end ha1 h0 h3 hK hk hg hP
    · refine wk_ge1 rfl (show ¬ nI k < 6 from nI_nlt (b := 6) (by omega) (by omega)) ?_
      exact lw_end ha h0 h3 hK hk hg hP
  | succ n ih =>
    intro k h S hn hk6 ha h3
    refine am_Ev_G [582] 4 _ ?_
    show EvL L P (582, lsL A kept k [rA, rA, rA, rA, rA, rA, rA], [.int 6, .int (nI k)], h)
    by_cases h0 : S.2.1 = []
    · by_cases e6 : k < 6
      · refine wk_ge rfl (show nI k < 6 from nI_lt (b := 6) e6 (by omega)) ?_
        refine am_Ev_G [588] 4 _ ?_
        show EvL L P (588, lsL A kept k [rA, rA, rA, rA, rA, rA, rA], [.int 10, .ref 38], h)
        refine lw_cnt rfl ha (by omega) rfl (fun H ha1 _ => ?_)
        rw [h0]
        refine wk_le1 rfl (by decide) ?_
        exact lw_end ha1 h0 h3 hK hk hg hP
      · refine wk_ge1 rfl (show ¬ nI k < 6 from nI_nlt (b := 6) (by omega) (by omega)) ?_
        exact lw_end ha h0 h3 hK hk hg hP
    · have hl : 0 < S.2.1.length := List.length_pos_iff.mpr h0
      obtain ⟨t, r, er, el⟩ := rev_cons hl
      refine wk_ge rfl (show nI k < 6 from nI_lt (b := 6) (by omega) (by omega)) ?_
      refine am_Ev_G [588] 4 _ ?_
      show EvL L P (588, lsL A kept k [rA, rA, rA, rA, rA, rA, rA], [.int 10, .ref 38], h)
      refine lw_cnt rfl ha (by omega) rfl (fun H ha1 _ => ?_)
      refine wk_le rfl (nI_n0 hl (by omega)) ?_
      refine am_Ev_G [595] 4 _ ?_
      show EvL L P (595, lsL A kept k [rA, rA, rA, rA, rA, rA, rA], [.ref 38], H)
      refine lw_undo rfl ha1 (by omega) er (fun H2 ha2 _ => ?_)
      refine wk_ifge1 rfl (nI_pos (by omega)) ?_
      refine am_Ev_G [578] 4 _ ?_
      show EvL L P (578, [.ref 1005, .ref 38, .ref 135, .int (nI A), .long kept, .retAddr 0, .int (nI k + 1), rA, rA, rA, rA, rA, rA, rA], [], H2)
      rw [nI_1]
      exact ih (k + 1) H2 (t, r.reverse, S.2.2) (by show r.reverse.length ≤ n; omega) (by show r.reverse.length + (k + 1) ≤ 6; omega) ha2 h3
set_option maxRecDepth 100000 in
theorem lw_un1 (hK : Kt.2 = 2) (hk : kept = seenV Kt) (hg : g + 3 ≤ 4400) (hA : A ≤ 28) (hP : ∀ H : HP, (H.1 2000 0).toNatClampNeg ≤ 4400 → P (.inl (some (.int 1))) H) : ∀ (n k : Nat) (h : HP) (S : Sta), S.2.1.length ≤ n → S.2.1.length + k ≤ 6 → k ≤ A → At h S g → S.2.2.1.1 = some Kt → Ch h S (A - k) → h.2 135 (A - k) = seenV S.1 → EvL L P (513, lsL A kept k [rA, rA, rA, rA, rA, rA, rA], [], h) := by
  have hX : ∀ (k : Nat) (h : HP) (S : Sta), S.2.1.length ≤ 6 → At h S g → S.2.2.1.1 = some Kt → EvL L P (575, lsL A kept k [rA, rA, rA, rA, rA, rA, rA], [], h) := fun k h S hl ha h3 => by
    refine am_Ev_G [578] 4 _ ?_
    show EvL L P (578, lsL A kept 0 [rA, rA, rA, rA, rA, rA, rA], [], h)
    exact lw_un2 (fun _ _ => trivial) hK hk hg hP 6 0 h S hl (by omega) ha h3
  intro n
  induction n with
  | zero =>
    intro k h S hn hk6 hkA ha h3 hc hs
    have h0 : S.2.1 = [] := List.length_eq_zero_iff.mp (by omega)
    refine am_Ev_G [516] 4 _ ?_
    show EvL L P (516, lsL A kept k [rA, rA, rA, rA, rA, rA, rA], [.int 10, .ref 38], h)
    refine lw_cnt rfl ha (by omega) rfl (fun H ha1 _ => ?_)
    rw [h0]
    refine wk_le1 rfl (by decide) ?_
    exact hX k H S (by omega) ha1 h3
  | succ n ih =>
    intro k h S hn hk6 hkA ha h3 hc hs
    refine am_Ev_G [516] 4 _ ?_
    show EvL L P (516, lsL A kept k [rA, rA, rA, rA, rA, rA, rA], [.int 10, .ref 38], h)
    refine lw_cnt rfl ha (by omega) rfl (fun H1 ha1 hK1 => ?_)
    by_cases h0 : S.2.1 = []
    · rw [h0]
      refine wk_le1 rfl (by decide) ?_
      exact hX k H1 S (by omega) ha1 h3
    · have hl : 0 < S.2.1.length := List.length_pos_iff.mpr h0
      obtain ⟨t, r, er, el⟩ := rev_cons hl
      refine wk_le rfl (nI_n0 hl (by omega)) ?_
      refine am_Ev_G [525] 4 _ ?_
      show EvL L P (525, lsL A kept k [rA, rA, rA, rA, rA, rA, rA], [.int (nI A), .int (nI k)], H1)
      by_cases eA : k < A
      · refine wk_ge rfl (show nI k < nI A from nI_lt eA (by omega)) ?_
        refine am_Ev_G [531] 4 _ ?_
        show EvL L P (531, lsL A kept k [rA, rA, rA, rA, rA, rA, rA], [.int 10, .ref 38], H1)
        refine lw_cnt rfl ha1 (by omega) rfl (fun H2 ha2 hK2 => ?_)
        refine am_Ev_G [539] 6 _ ?_
        show EvL L P (539, lsL A kept k [.int (nI S.2.1.length), rA, rA, rA, rA, rA, rA], [.int 5, .int (nI k)], H2)
        refine wk_gt rfl (nI_le5 (by omega)) ?_
        refine am_Ev_G [543] 4 _ ?_
        show EvL L P (543, lsL A kept k [.int (nI S.2.1.length), rA, rA, rA, rA, rA, rA], [.ref 38], H2)
        refine act false (i := 126) (cd := d_L_seen 0) (x := 0) (g := g) (r := []) (v := .long (seenV S.1)) rfl rfl rfl rfl rfl (Nat.le_refl _) (fun _ => rfl) (by show g + 0 + 1 ≤ 4401; omega) (by omega) dz_seen ha2 ?_
        intro H3 ha3 hK3
        have hKp := (hK1.tr hK2).tr hK3
        refine am_Ev_G [553] 8 _ ?_
        show (am_in (nI A - nI k) 64 ∧ EvL L P (553, lsL A kept k [.int (nI S.2.1.length), rA, rA, rA, rA, rA, rA], [.int (lg_cmp (seenV S.1) (H3.2 135 (am_ix (nI A - nI k))))], H3))
        rw [nI_sub (by omega), nI_ix (by omega), (hKp 135 (Nat.le_refl _) (by omega)).2, hs]
        refine ⟨nI_am (by omega) (by omega), ?_⟩
        refine wk_ifne rfl (lg_self _) ?_
        refine am_Ev_G [557] 4 _ ?_
        show EvL L P (557, lsL A kept k [.int (nI S.2.1.length), rA, rA, rA, rA, rA, rA], [.ref 38], H3)
        refine lw_undo rfl ha3 (by omega) er (fun H4 ha4 hK4 => ?_)
        refine am_Ev_G [564] 6 _ ?_
        show EvL L P (564, lsL A kept k [.int (nI S.2.1.length), rA, rA, rA, rA, rA, rA], [.int (nI S.2.1.length - 1), .int (nI (S.2.1.length - 1))], H4)
        refine wk_eq1 rfl (by rw [show (1 : Int32) = nI 1 from rfl, nI_sub (by omega)]) ?_
        refine am_Ev_G [513] 4 _ ?_
        show EvL L P (513, [.ref 1005, .ref 38, .ref 135, .int (nI A), .long kept, .retAddr 0, .int (nI k + 1), .int (nI S.2.1.length), rA, rA, rA, rA, rA, rA], [], H4)
        rw [nI_1]
        refine am_fg 7 ?_
        obtain ⟨c1, c2⟩ := Ch.undo (a := A - (k + 1)) (by rw [show A - (k + 1) + 1 = A - k by omega]; exact hc.kp (hKp.tr hK4)) er
        exact ih (k + 1) H4 (t, r.reverse, S.2.2) (by show r.reverse.length ≤ n; omega) (by show r.reverse.length + (k + 1) ≤ 6; omega) (by omega) ha4 h3 c2 c1
      · refine wk_ge1 rfl (show ¬ nI k < nI A from nI_nlt (by omega) (by omega)) ?_
        exact hX k H1 S (by omega) ha1 h3
set_option maxRecDepth 100000 in
/-- the loop is over -/
theorem lw_exit (li : LI h S g A Kt) (hA : A ≤ 28) (hK : Kt.2 = 2) (hk : kept = seenV Kt) (hg : g + 170 ≤ 4400) (hP : ∀ H : HP, (H.1 2000 0).toNatClampNeg ≤ 4400 → P (.inl (some (.int 1))) H) : EvL L P (86, lsL A kept 28 [rA, rA, rA, rA, rA, rA, rA], [], h) := by
  obtain ⟨ha, h2, h3, h4⟩ := li
  refine am_Ev_G [90] 4 _ ?_
  show EvL L P (90, lsL A kept 28 [rA, rA, rA, rA, rA, rA, rA], [.int 28, .int (nI 28)], h)
  refine wk_ge1 rfl (by decide) ?_
  refine am_Ev_G [497] 5 _ ?_
  show EvL L P (497, lsL A kept 28 [rA, rA, rA, rA, rA, rA, rA], [.ref 38, .int (nI A), .ref 135], h)
  refine lw_seen rfl rfl ha (by omega) (by omega) (fun H1 ha1 hK1 => ?_)
  have h41 := (h4.kp hK1).sl (x := seenV S.1)
  have h51 := sl_at (h := H1) (x := seenV S.1) (j := A)
  have ha1 := ha1.sl (x := seenV S.1) (j := A)
  generalize am_sl H1 135 A (seenV S.1) = H1 at h41 h51 ha1 ⊢
  refine am_Ev_G [502] 4 _ ?_
  show EvL L P (502, lsL A kept 28 [rA, rA, rA, rA, rA, rA, rA], [.ref 38], H1)
  refine act false (i := 139) (cd := d_L_refused 0) (x := 164) (g := g) (r := []) (v := .int 1) rfl rfl rfl rfl rfl (Nat.le_refl _) (fun _ => rfl) (by show g + 164 + 1 ≤ 4401; omega) (by omega) (dz_refused h2) ha1 ?_
  intro H2 ha2 hK2
  refine wk_ifne1 rfl one0 ?_
  refine am_Ev_G [513] 5 _ ?_
  show EvL L P (513, lsL A kept 0 [rA, rA, rA, rA, rA, rA, rA], [], H2)
  have hl := ha.1.sl
  exact lw_un1 hK hk (by omega) hA hP 6 0 H2 S hl (by omega) (by omega) ha2 h3 (h41.kp hK2) (by rw [(hK2 135 (Nat.le_refl _) (by omega)).2]; exact h51)
/-- the loop, to its end -/
theorem lw_loop (hL : L ≤ 260) (hK : Kt.2 = 2) (hk : kept = seenV Kt) (hP : ∀ H : HP, (H.1 2000 0).toNatClampNeg ≤ 4400 → P (.inl (some (.int 1))) H) : ∀ (n K : Nat) (h : HP) (S : Sta) (g A : Nat), K + n = 28 → LI h S g A Kt → A ≤ K → g ≤ 4001 + K → EvL L P (86, lsL A kept K [rA, rA, rA, rA, rA, rA, rA], [], h) := by
  intro n
  induction n with
  | zero =>
    intro K h S g A hKn li hA hg
    have e : K = 28 := by omega
    subst e
    exact lw_exit li hA hK hk (by omega) hP
  | succ n ih =>
    intro K h S g A hKn li hA hg
    exact lw_turn hL li hA (by omega) (by omega) (fun H S' g' A' li' hA' hg' => ih (K + 1) H S' g' A' (by omega) li' (by omega) (by omega))
end LWA
