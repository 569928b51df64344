/-! THE LAW'S loop (written by gen/law31c.py). -/
section LW
variable {L : Nat} {P : AR → HP → Prop} {pc g A K : Nat} {ls st : List Value} {h : HP} {S : Sta} {kept : Int64}
theorem At.sl {x : Int64} {j : Nat} (ha : At h S g) : At (am_sl h 135 j x) S g := ⟨ha.1.ext (fun _ _ => rfl) ha.1.2.2.2.2, ha.2⟩
theorem sl_at {x : Int64} {j : Nat} : (am_sl h 135 j x).2 135 j = x := by
  show am_upL h.2 135 j x 135 j = x
  unfold am_upL
  rw [if_pos rfl]
  exact if_pos rfl
theorem sl_ne {x : Int64} {j i : Nat} (hij : i ≠ j) : (am_sl h 135 j x).2 135 i = h.2 135 i := by
  show am_upL h.2 135 j x 135 i = _
  unfold am_upL
  rw [if_pos rfl]
  exact if_neg hij
theorem Ch.sl {x : Int64} (c : Ch h S A) : Ch (am_sl h 135 A x) S A := fun i t hi e => by rw [sl_ne (by omega)]; exact c i t hi e
set_option maxRecDepth 100000 in
/-- what was seen is written down -/
theorem lw_seen (hcd : (m_code (m_L_law L) pc).1 = .invokestatic 126) (hcd2 : (m_code (m_L_law L) (pc + 3)).1 = .lastore) (ha : At h S g) (hg : g + 2 ≤ 4400) (hA : A < 64) (kk : ∀ H, At H S g → Kp h H → EvL L P (pc + 4, ls, [], am_sl H 135 A (seenV S.1))) : EvL L P (pc, ls, [.ref 38, .int (nI A), .ref 135], h) := by
  refine act false (i := 126) (cd := d_L_seen 0) (x := 0) (g := g) (r := []) (v := .long (seenV S.1)) hcd rfl rfl rfl rfl (Nat.le_refl _) (fun _ => rfl) (by show g + 0 + 1 ≤ 4401; omega) (by omega) dz_seen ha ?_
  intro H hB hK
  refine am_Ev_F ?_
  unfold am_F am_Fi
  dsimp only
  rw [hcd2]
  show am_in (nI A) 64 ∧ EvL L P (pc + 3 + 1, ls, [], am_sl H 135 (am_ix (nI A)) (seenV S.1))
  refine ⟨nI_am hA (by omega), ?_⟩
  rw [nI_ix (by omega)]
  exact kk H hB hK
theorem lw_cnt (hcd : (m_code (m_L_law L) pc).1 = .invokevirtual 78) (ha : At h S g) (hg : g + 2 ≤ 4400) (hst : Nat.ble (am_csum st) 10 = true) (kk : ∀ H, At H S g → Kp h H → EvL L P (pc + 3, ls, .int (nI S.2.1.length) :: st, H)) : EvL L P (pc, ls, .int 10 :: .ref 38 :: st, h) := by
  refine act true (i := 78) (cd := d_B_count 15) (x := 0) (g := g) (r := [.int 10]) (v := .int (nI S.2.1.length)) hcd rfl ?_ rfl rfl (Nat.le_refl _) (fun _ => rfl) (by show g + 0 + 1 ≤ 4401; omega) (by omega) (dz_count 10 (l10 S)) ha (fun H a b => kk H a b)
  show (true && true && Nat.ble (am_csum st) 10 && true && true) = true
  rw [hst]; rfl
set_option maxRecDepth 100000 in
theorem lw_next {x kind undos a b d : Int32} {v : Int32} {A' : Nat} (hv : v = 1 ∧ A' = A ∨ v = 0 ∧ A' = A + 1) (kk : EvL L P (86, lsL A' kept (K + 1) [rA, rA, rA, rA, rA, rA, rA], [], h)) : EvL L P (475, [.ref 1005, .ref 38, .ref 135, .int (nI A), .long kept, .retAddr 0, .int (nI K), .int x, .int kind, .int undos, .int a, .int b, .int d, .int v], [], h) := by
  rcases hv with ⟨rfl, rfl⟩ | ⟨rfl, rfl⟩
  · refine am_Ev_G [478] 4 _ ?_
    show EvL L P (478, [.ref 1005, .ref 38, .ref 135, .int (nI A'), .long kept, .retAddr 0, .int (nI K), .int x, .int kind, .int undos, .int a, .int b, .int d, .int 1], [.int 1, .int (nI A')], h)
    refine wk_ifeq rfl one0 ?_
    refine am_Ev_G [86] 12 _ ?_
    show EvL L P (86, [.ref 1005, .ref 38, .ref 135, .int (nI A' + 0), .long kept, .retAddr 0, .int (nI K + 1), .int x, .int kind, .int undos, .int a, .int b, .int d, .int 1], [], h)
    rw [Int32.add_zero, nI_1]
    exact am_fg 7 (am_fg 8 (am_fg 9 (am_fg 10 (am_fg 11 (am_fg 12 (am_fg 13 kk))))))
  · refine am_Ev_G [478] 4 _ ?_
    show EvL L P (478, [.ref 1005, .ref 38, .ref 135, .int (nI A), .long kept, .retAddr 0, .int (nI K), .int x, .int kind, .int undos, .int a, .int b, .int d, .int 0], [.int 0, .int (nI A)], h)
    refine wk_ifeq1 rfl rfl ?_
    refine am_Ev_G [86] 12 _ ?_
    show EvL L P (86, [.ref 1005, .ref 38, .ref 135, .int (nI A + 1), .long kept, .retAddr 0, .int (nI K + 1), .int x, .int kind, .int undos, .int a, .int b, .int d, .int 0], [], h)
    rw [nI_1, nI_1]
    exact am_fg 7 (am_fg 8 (am_fg 9 (am_fg 10 (am_fg 11 (am_fg 12 (am_fg 13 kk))))))
set_option maxRecDepth 100000 in
/-- from the act's answer to the next turn -/
theorem lw_tail {x kind a b : Int32} {q : Int32 × Sta} {Kt : TN} {g' : Nat} {h0 : HP} (hs0 : RS h0 S) (hB : At h q.2 g') (hg : g' + 2 ≤ 4400) (hq : AcO S q) (hA : A < 64) (h2 : S.2.2.2 = []) (h3 : S.2.2.1.1 = some Kt) (h4 : Ch h S A) (h5 : h.2 135 A = seenV S.1)
    (IH : ∀ H S' A', LI H S' g' A' Kt → A' ≤ A + 1 → EvL L P (86, lsL A' kept (K + 1) [rA, rA, rA, rA, rA, rA, rA], [], H)) : EvL L P (432, [.ref 1005, .ref 38, .ref 135, .int (nI A), .long kept, .retAddr 0, .int (nI K), .int x, .int kind, .int (nI S.2.1.length), .int a, .int b, .retAddr 0, .retAddr 0], [.int q.1], h) := by
  refine am_Ev_G [436] 4 _ ?_
  show EvL L P (436, [.ref 1005, .ref 38, .ref 135, .int (nI A), .long kept, .retAddr 0, .int (nI K), .int x, .int kind, .int (nI S.2.1.length), .int a, .int b, .int q.1, .retAddr 0], [.int q.1], h)
  rcases hq with ⟨q1, q2⟩ | ⟨q1, t, q2⟩
  · rw [q2] at hB
    refine wk_ifge rfl q1 ?_
    refine am_Ev_G [448] 6 _ ?_
    show EvL L P (448, [.ref 1005, .ref 38, .ref 135, .int (nI A), .long kept, .retAddr 0, .int (nI K), .int x, .int kind, .int (nI S.2.1.length), .int a, .int b, .int q.1, .int 1], [.int 1], h)
    refine wk_ifeq rfl one0 ?_
    refine am_Ev_G [454] 6 _ ?_
    show EvL L P (454, [.ref 1005, .ref 38, .ref 135, .int (nI A), .long kept, .retAddr 0, .int (nI K), .int x, .int kind, .int (nI S.2.1.length), .int a, .int b, .int q.1, .int 1], [.int 10, .ref 38], h)
    refine lw_cnt rfl hB hg rfl (fun H hB1 hK1 => ?_)
    refine am_Ev_G [459] 4 _ ?_
    show EvL L P (459, [.ref 1005, .ref 38, .ref 135, .int (nI A), .long kept, .retAddr 0, .int (nI K), .int x, .int kind, .int (nI S.2.1.length), .int a, .int b, .int q.1, .int 1], [.int (nI S.2.1.length), .int (nI S.2.1.length)], H)
    refine wk_ne rfl rfl ?_
    refine am_Ev_G [463] 4 _ ?_
    show EvL L P (463, [.ref 1005, .ref 38, .ref 135, .int (nI A), .long kept, .retAddr 0, .int (nI K), .int x, .int kind, .int (nI S.2.1.length), .int a, .int b, .int q.1, .int 1], [.ref 38], H)
    refine act false (i := 126) (cd := d_L_seen 0) (x := 0) (g := g') (r := []) (v := .long (seenV S.1)) rfl rfl rfl rfl rfl (Nat.le_refl _) (fun _ => rfl) (by show g' + 0 + 1 ≤ 4401; omega) (by omega) dz_seen hB1 ?_
    intro H2 hB2 hK2
    have hK := hK1.tr hK2
    refine am_Ev_G [470] 6 _ ?_
    show (am_in (nI A) 64 ∧ EvL L P (470, [.ref 1005, .ref 38, .ref 135, .int (nI A), .long kept, .retAddr 0, .int (nI K), .int x, .int kind, .int (nI S.2.1.length), .int a, .int b, .int q.1, .int 1], [.int (lg_cmp (seenV S.1) (H2.2 135 (am_ix (nI A))))], H2))
    refine ⟨nI_am hA (by omega), ?_⟩
    have e5 : H2.2 135 (am_ix (nI A)) = seenV S.1 := by rw [nI_ix (by omega), (hK 135 (Nat.le_refl _) (by omega)).2]; exact h5
    refine wk_ifeq1 rfl (by rw [e5]; exact lg_self _) ?_
    exact lw_next (.inl ⟨rfl, rfl⟩) (IH H2 S A ⟨hB2, h2, h3, h4.kp hK⟩ (by omega))
  · refine wk_ifge1 rfl q1 ?_
    refine am_Ev_G [448] 6 _ ?_
    show EvL L P (448, [.ref 1005, .ref 38, .ref 135, .int (nI A), .long kept, .retAddr 0, .int (nI K), .int x, .int kind, .int (nI S.2.1.length), .int a, .int b, .int q.1, .int 0], [.int 0], h)
    refine wk_ifeq1 rfl rfl ?_
    refine lw_next (.inr ⟨rfl, rfl⟩) (IH h q.2 (A + 1) ⟨hB, ?_, ?_, ?_⟩ (by omega))
    · rw [q2]; exact h2
    · rw [q2]; exact h3
    · rw [q2]; exact h4.sav hs0.sl h5
set_option maxRecDepth 100000 in
theorem lw_turn {Kt : TN} (hL : L ≤ 260) (li : LI h S g A Kt) (hA : A ≤ K) (hK : K < 28) (hg : g + 3 ≤ 4400)
    (IH : ∀ H S' g' A', LI H S' g' A' Kt → A' ≤ A + 1 → g' ≤ g + 1 → EvL L P (86, lsL A' kept (K + 1) [rA, rA, rA, rA, rA, rA, rA], [], H)) : EvL L P (86, lsL A kept K [rA, rA, rA, rA, rA, rA, rA], [], h) := by
  obtain ⟨ha, h2, h3, h4⟩ := li
  refine am_Ev_G [90] 4 _ ?_
  show EvL L P (90, [.ref 1005, .ref 38, .ref 135, .int (nI A), .long kept, .retAddr 0, .int (nI K), .retAddr 0, .retAddr 0, .retAddr 0, .retAddr 0, .retAddr 0, .retAddr 0, .retAddr 0], [.int 28, .int (nI K)], h)
  refine wk_ge rfl (show nI K < 28 from nI_lt (b := 28) hK (by omega)) ?_
  refine am_Ev_G [96] 4 _ ?_
  show EvL L P (96, [.ref 1005, .ref 38, .ref 135, .int (nI A), .long kept, .retAddr 0, .int (nI K), .retAddr 0, .retAddr 0, .retAddr 0, .retAddr 0, .retAddr 0, .retAddr 0, .retAddr 0], [.int (nI K), .ref 1005], h)
  refine wk_pl (i := 227) (cd := d_L_drawn L) (as := [.ref 1005, .int (nI K)]) (v := .int (v_L_drawn L h (nI K))) rfl rfl rfl rfl rfl (lw_bud ha (by omega)) ⟨rfl, ⟨K, by omega, rfl⟩, rfl, rfl, rfl⟩ ?_
  generalize v_L_drawn L h (nI K) = x
  refine am_Ev_G [105] 6 _ ?_
  show EvL L P (105, [.ref 1005, .ref 38, .ref 135, .int (nI A), .long kept, .retAddr 0, .int (nI K), .int x, .retAddr 0, .retAddr 0, .retAddr 0, .retAddr 0, .retAddr 0, .retAddr 0], [.int 18, .int x], h)
  refine lw_part rfl ha (by omega) rfl (by decide) (fun kind => ?_)
  refine am_Ev_G [113] 6 _ ?_
  show EvL L P (113, [.ref 1005, .ref 38, .ref 135, .int (nI A), .long kept, .retAddr 0, .int (nI K), .int x, .int kind, .retAddr 0, .retAddr 0, .retAddr 0, .retAddr 0, .retAddr 0], [.ref 38, .int (nI A), .ref 135], h)
  refine lw_seen rfl rfl ha (by omega) (by omega) (fun H1 ha1 hK1 => ?_)
  have h41 := (h4.kp hK1).sl (x := seenV S.1)
  have h51 := sl_at (h := H1) (x := seenV S.1) (j := A)
  have ha1 := ha1.sl (x := seenV S.1) (j := A)
  generalize am_sl H1 135 A (seenV S.1) = H1 at h41 h51 ha1 ⊢
  refine am_Ev_G [120] 6 _ ?_
  show EvL L P (120, [.ref 1005, .ref 38, .ref 135, .int (nI A), .long kept, .retAddr 0, .int (nI K), .int x, .int kind, .retAddr 0, .retAddr 0, .retAddr 0, .retAddr 0, .retAddr 0], [.int 10, .ref 38], H1)
  refine lw_cnt rfl ha1 (by omega) rfl (fun H2 ha2 hK2 => ?_)
  have h42 := h41.kp hK2
  have h52 : H2.2 135 A = seenV S.1 := by rw [(hK2 135 (Nat.le_refl _) (by omega)).2]; exact h51
  refine am_Ev_G [131] 6 _ ?_
  show EvL L P (131, [.ref 1005, .ref 38, .ref 135, .int (nI A), .long kept, .retAddr 0, .int (nI K), .int x, .int kind, .int (nI S.2.1.length), .retAddr 0, .retAddr 0, .retAddr 0, .retAddr 0], [.int 6, .int (x >>> (4 &&& 31))], H2)
  refine lw_part rfl ha2 (by omega) rfl (by decide) (fun a => ?_)
  refine am_Ev_G [143] 6 _ ?_
  show EvL L P (143, [.ref 1005, .ref 38, .ref 135, .int (nI A), .long kept, .retAddr 0, .int (nI K), .int x, .int kind, .int (nI S.2.1.length), .int a, .retAddr 0, .retAddr 0, .retAddr 0], [.int 6, .int (x >>> (7 &&& 31))], H2)
  refine lw_part rfl ha2 (by omega) rfl (by decide) (fun b => ?_)
  refine am_Ev_G [148] 3 _ ?_
  show EvL L P (148, [.ref 1005, .ref 38, .ref 135, .int (nI A), .long kept, .retAddr 0, .int (nI K), .int x, .int kind, .int (nI S.2.1.length), .int a, .int b, .retAddr 0, .retAddr 0], [], H2)
  refine lw_disp ha2 (by omega) (fun H q g' hB hg' hK3 hq => ?_)
  exact lw_tail ha2.1 hB (by omega) hq (by omega) h2 h3 (h42.kp hK3) (by rw [(hK3 135 (Nat.le_refl _) (by omega)).2]; exact h52) (fun H' S' A' li' hA' => IH H' S' g' A' li' hA' hg')
end LW
