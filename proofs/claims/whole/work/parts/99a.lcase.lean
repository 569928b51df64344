/-! THE LAW'S CASES (printed by wip/whole/gen/law99a.py). -/
def LPq : AR → HP → Prop := fun r h => r = .inl (some (.int 1)) ∧ (h.1 2000 0).toNatClampNeg ≤ 2000
abbrev LSq (i : Nat) (x y : Value) : List Value := [.ref 1005, .ref 38, .ref 135, .ref 145, .int (nI i), x, y, .retAddr 0, .retAddr 0]
def Nx (L i g : Nat) : Prop := ∀ (h' : HP) (g' : Nat), LR h' → h'.1 2000 0 = nI g' → g' ≤ g + 1 → am_Ev m_law WL (ROL L) LPq (1754, LSq i (.retAddr 0) (.retAddr 0), [], h')
theorem Nx.at {L i g : Nat} (hn : Nx L i g) {h' : HP} {g' : Nat} (a : LR h') (b : h'.1 2000 0 = nI g') (c : g' ≤ g + 1) (x y : Value) : am_Ev m_law WL (ROL L) LPq (1754, LSq i x y, [], h') :=
  am_fg 5 (am_fg 6 (hn h' g' a b c))
theorem lg_self (x : Int64) : lg_cmp x x = 0 := by
  unfold lg_cmp
  rw [if_neg (Int64.lt_irrefl), if_pos rfl]
theorem ix0 : am_ix 0 = 0 := by decide +kernel
theorem in0 : am_in 0 1 := ⟨by decide +kernel, by decide +kernel⟩
theorem g1_le {a b : Int32} {g : Nat} (ha : a = nI g) (hb : b = nI (g + 1)) (hg : g < 1000) : am_ix a + 1 ≤ am_ix b := by rw [ha, hb, nI_ix (by omega), nI_ix (by omega)]; exact Nat.le_refl _
theorem g0_le {a b : Int32} (hb : b = a) : am_ix a + 0 ≤ am_ix b := by rw [hb]; exact Nat.le_refl _
theorem gB_le {a : Int32} {g : Nat} (ha : a = nI g) (hg : g < 1500) : am_ix a + 1 ≤ 2000 := by rw [ha, nI_ix (by omega)]; omega
theorem Bo.nil {α : Prop} {h : HP} {a : Int32 × HP} {w : Int32 × HP} (hb : Bo [] h (.inr a) w) : (∃ n, RR n a.2 w.2) ∧ some (Value.int a.1) = some (.int w.1) := ⟨hb.2.2, by rw [hb.2.1]⟩

set_option maxRecDepth 100000 in
theorem lc_layover {L i g : Nat} (hL : L ≤ 3072) (hi : i + 6 ≤ L) {h : HP} (hr : LR h) (hg : h.1 2000 0 = nI g) (hgb : g < 1000) (hn : Nx L i g) : am_Ev m_law WL (ROL L) LPq (168, LSq i (.retAddr 0) (.retAddr 0), [], h) := by
  have hin : ∀ j, j < 6 → am_in (nI i + nI j) L := fun j hj => by rw [nI_add]; exact nI_am (by omega) (by omega)
  refine am_Ev_G [182] 400 _ ?_
  show (am_in (nI i + 1) L ∧ (am_in (nI i + 2) L ∧ am_Ev m_law WL (ROL L) LPq (182, LSq i (.retAddr 0) (.retAddr 0), [.ref 145, .int (h.1 1005 (am_ix (nI i + 2))), .int (h.1 1005 (am_ix (nI i + 1))), .ref 38], h)))
  refine ⟨hin 1 (by omega), hin 2 (by omega), ?_⟩
  obtain ⟨a1, e1⟩ : ∃ a, h.1 1005 (am_ix (nI i + 1)) = a := ⟨_, rfl⟩
  obtain ⟨a2, e2⟩ : ∃ a, h.1 1005 (am_ix (nI i + 2)) = a := ⟨_, rfl⟩
  rw [e1, e2]
  obtain ⟨f1, f2, f3, f4, f5⟩ := law_facts hr (g0 := (g_B_layover WB (ROL L) [.ref 38, .int a1, .int a2] h)) (hs := hs_layover) (pM := fun m => p_M_layover m a1 a2) (vM := fun m => v_M_layover m a1 a2) (fun n m hr' => let q := layover_both hr' a1 a2; ⟨q.1, q.2.1, gr_IW (hs := hs_layover) (by decide +kernel) q.2.2 _ _⟩) hg
  refine am_Ev_call false (i := 93) (cd := dG 1 dL_layover) (g := Lh (g_B_layover WB (ROL L) [.ref 38, .int a1, .int a2] h) hs_layover h) rfl rfl rfl rfl rfl (g1_le hg f4 hgb) (gB_le hg (by omega)) f1 rfl ?_
  show am_Ev m_law WL (ROL L) LPq (185, LSq i (.retAddr 0) (.retAddr 0), [.int (LkC (g_B_layover WB (ROL L) [.ref 38, .int a1, .int a2] h) hs_layover)], g_hp (Lh (g_B_layover WB (ROL L) [.ref 38, .int a1, .int a2] h) hs_layover h))
  obtain ⟨H1, hH1⟩ : ∃ H1, g_hp (Lh (g_B_layover WB (ROL L) [.ref 38, .int a1, .int a2] h) hs_layover h) = H1 := ⟨_, rfl⟩
  obtain ⟨K, hK⟩ : ∃ K, LkC (g_B_layover WB (ROL L) [.ref 38, .int a1, .int a2] h) hs_layover = K := ⟨_, rfl⟩
  rw [hH1] at f2 f3 f4 f5 ⊢
  rw [hK] at f5 ⊢
  obtain ⟨H2, hH2⟩ : ∃ H2, am_push plM H1 (v_M_layover (am_pull plM H1) a1 a2).2 = H2 := ⟨_, rfl⟩
  obtain ⟨x1, x2, x3, x4⟩ := f5 H2 hH2.symm
  refine am_Ev_G [200] 400 _ ?_
  show (am_in (nI i + 1) L ∧ (am_in (nI i + 2) L ∧ am_Ev m_law WL (ROL L) LPq (200, LSq i (.int K) (.retAddr 0), [.int (H1.1 1005 (am_ix (nI i + 2))), .int (H1.1 1005 (am_ix (nI i + 1))), .ref 135], H1)))
  refine ⟨hin 1 (by omega), hin 2 (by omega), ?_⟩
  rw [f3, e1, e2]
  refine am_Ev_call true (i := 98) (cd := dPl plM 0 WM (d_M_layover 16)) (g := gP plM (g_M_layover WM (ROL L) [.ref 0, .int a1, .int a2] (am_pull plM H1)) H1) rfl rfl rfl (gPl_M rfl) rfl (g0_le ?_) (gB_le f4 (by omega)) f2 rfl ?_
  · show (am_push plM H1 (v_M_layover (am_pull plM H1) a1 a2).2).1 2000 0 = _
    rw [hH2, x1, f4]
  show am_Ev m_law WL (ROL L) LPq (203, LSq i (.int K) (.retAddr 0), [.int (v_M_layover (am_pull plM H1) a1 a2).1], am_push plM H1 (v_M_layover (am_pull plM H1) a1 a2).2)
  obtain ⟨b, hb⟩ : ∃ b, (v_M_layover (am_pull plM H1) a1 a2).1 = b := ⟨_, rfl⟩
  rw [hH2, hb]
  refine am_Ev_G [206] 400 _ ?_
  show am_Ev m_law WL (ROL L) LPq (206, LSq i (.int K) (.int b), [.ref 135], H2)
  refine am_Ev_call true (i := 99) (cd := dPl plM 0 WM (d_M_thrown 16)) (g := gP plM (g_M_thrown WM (ROL L) [.ref 0] (am_pull plM H2)) H2) rfl rfl rfl (gPl_M rfl) rfl (g0_le ?_) (gB_le x1 (by omega)) trivial rfl ?_
  · show (am_push plM H2 (am_pull plM H2)).1 2000 0 = _
    rw [pushM_pull]
  show am_Ev m_law WL (ROL L) LPq (209, LSq i (.int K) (.int b), [.int ((am_pull plM H2).1 0 8)], am_push plM H2 (am_pull plM H2))
  rw [pushM_pull, x3]
  refine am_Ev_G [1754] 400 _ ?_
  have hE : am_Ev m_law WL (ROL L) LPq (1754, LSq i (.int K) (.int b), [], H2) := hn.at x2 x1 (Nat.le_refl _) _ _
  show (K = K → ((¬ K = 0 → am_Ev m_law WL (ROL L) LPq (1754, LSq i (.int K) (.int b), [], H2)) ∧ (K = 0 → (am_in 0 1 ∧ ((lg_cmp (H2.2 145 (am_ix 0)) b.toInt64 = 0 → am_Ev m_law WL (ROL L) LPq (1754, LSq i (.int K) (.int b), [], H2)) ∧ (¬ lg_cmp (H2.2 145 (am_ix 0)) b.toInt64 = 0 → (((0 : Int32) = 0 ∨ (0 : Int32) = 1) ∧ LPq (.inl (some (.int 0))) H2))))))) ∧ (¬ K = K → (((0 : Int32) = 0 ∨ (0 : Int32) = 1) ∧ LPq (.inl (some (.int 0))) H2))
  refine ⟨fun _ => ⟨fun _ => hE, fun h0 => ⟨in0, fun _ => hE, fun z => absurd ?_ z⟩⟩, fun z => absurd rfl z⟩
  rw [ix0, x4 h0, ← hb]
  exact lg_self _
set_option maxRecDepth 100000 in
theorem lc_relief {L i g : Nat} (hL : L ≤ 3072) (hi : i + 6 ≤ L) {h : HP} (hr : LR h) (hg : h.1 2000 0 = nI g) (hgb : g < 1000) (hn : Nx L i g) : am_Ev m_law WL (ROL L) LPq (236, LSq i (.retAddr 0) (.retAddr 0), [], h) := by
  have hin : ∀ j, j < 6 → am_in (nI i + nI j) L := fun j hj => by rw [nI_add]; exact nI_am (by omega) (by omega)
  refine am_Ev_G [244] 400 _ ?_
  show (am_in (nI i + 1) L ∧ am_Ev m_law WL (ROL L) LPq (244, LSq i (.retAddr 0) (.retAddr 0), [.ref 145, .int (h.1 1005 (am_ix (nI i + 1))), .ref 38], h))
  refine ⟨hin 1 (by omega), ?_⟩
  obtain ⟨a1, e1⟩ : ∃ a, h.1 1005 (am_ix (nI i + 1)) = a := ⟨_, rfl⟩
  rw [e1]
  obtain ⟨f1, f2, f3, f4, f5⟩ := law_facts hr (g0 := (g_B_relief WB (ROL L) [.ref 38, .int a1] h)) (hs := hs_relief) (pM := fun m => p_M_relief m a1) (vM := fun m => v_M_relief m a1) (fun n m hr' => let q := relief_both hr' a1; ⟨q.1, q.2.1, gr_IW (hs := hs_relief) (by decide +kernel) q.2.2 _ _⟩) hg
  refine am_Ev_call false (i := 102) (cd := dG 1 dL_relief) (g := Lh (g_B_relief WB (ROL L) [.ref 38, .int a1] h) hs_relief h) rfl rfl rfl rfl rfl (g1_le hg f4 hgb) (gB_le hg (by omega)) f1 rfl ?_
  show am_Ev m_law WL (ROL L) LPq (247, LSq i (.retAddr 0) (.retAddr 0), [.int (LkC (g_B_relief WB (ROL L) [.ref 38, .int a1] h) hs_relief)], g_hp (Lh (g_B_relief WB (ROL L) [.ref 38, .int a1] h) hs_relief h))
  obtain ⟨H1, hH1⟩ : ∃ H1, g_hp (Lh (g_B_relief WB (ROL L) [.ref 38, .int a1] h) hs_relief h) = H1 := ⟨_, rfl⟩
  obtain ⟨K, hK⟩ : ∃ K, LkC (g_B_relief WB (ROL L) [.ref 38, .int a1] h) hs_relief = K := ⟨_, rfl⟩
  rw [hH1] at f2 f3 f4 f5 ⊢
  rw [hK] at f5 ⊢
  obtain ⟨H2, hH2⟩ : ∃ H2, am_push plM H1 (v_M_relief (am_pull plM H1) a1).2 = H2 := ⟨_, rfl⟩
  obtain ⟨x1, x2, x3, x4⟩ := f5 H2 hH2.symm
  refine am_Ev_G [256] 400 _ ?_
  show (am_in (nI i + 1) L ∧ am_Ev m_law WL (ROL L) LPq (256, LSq i (.int K) (.retAddr 0), [.int (H1.1 1005 (am_ix (nI i + 1))), .ref 135], H1))
  refine ⟨hin 1 (by omega), ?_⟩
  rw [f3, e1]
  refine am_Ev_call true (i := 105) (cd := dPl plM 0 WM (d_M_relief 16)) (g := gP plM (g_M_relief WM (ROL L) [.ref 0, .int a1] (am_pull plM H1)) H1) rfl rfl rfl (gPl_M rfl) rfl (g0_le ?_) (gB_le f4 (by omega)) f2 rfl ?_
  · show (am_push plM H1 (v_M_relief (am_pull plM H1) a1).2).1 2000 0 = _
    rw [hH2, x1, f4]
  show am_Ev m_law WL (ROL L) LPq (259, LSq i (.int K) (.retAddr 0), [.int (v_M_relief (am_pull plM H1) a1).1], am_push plM H1 (v_M_relief (am_pull plM H1) a1).2)
  obtain ⟨b, hb⟩ : ∃ b, (v_M_relief (am_pull plM H1) a1).1 = b := ⟨_, rfl⟩
  rw [hH2, hb]
  refine am_Ev_G [262] 400 _ ?_
  show am_Ev m_law WL (ROL L) LPq (262, LSq i (.int K) (.int b), [.ref 135], H2)
  refine am_Ev_call true (i := 99) (cd := dPl plM 0 WM (d_M_thrown 16)) (g := gP plM (g_M_thrown WM (ROL L) [.ref 0] (am_pull plM H2)) H2) rfl rfl rfl (gPl_M rfl) rfl (g0_le ?_) (gB_le x1 (by omega)) trivial rfl ?_
  · show (am_push plM H2 (am_pull plM H2)).1 2000 0 = _
    rw [pushM_pull]
  show am_Ev m_law WL (ROL L) LPq (265, LSq i (.int K) (.int b), [.int ((am_pull plM H2).1 0 8)], am_push plM H2 (am_pull plM H2))
  rw [pushM_pull, x3]
  refine am_Ev_G [1754] 400 _ ?_
  have hE : am_Ev m_law WL (ROL L) LPq (1754, LSq i (.int K) (.int b), [], H2) := hn.at x2 x1 (Nat.le_refl _) _ _
  show (K = K → ((¬ K = 0 → am_Ev m_law WL (ROL L) LPq (1754, LSq i (.int K) (.int b), [], H2)) ∧ (K = 0 → (am_in 0 1 ∧ ((lg_cmp (H2.2 145 (am_ix 0)) b.toInt64 = 0 → am_Ev m_law WL (ROL L) LPq (1754, LSq i (.int K) (.int b), [], H2)) ∧ (¬ lg_cmp (H2.2 145 (am_ix 0)) b.toInt64 = 0 → (((0 : Int32) = 0 ∨ (0 : Int32) = 1) ∧ LPq (.inl (some (.int 0))) H2))))))) ∧ (¬ K = K → (((0 : Int32) = 0 ∨ (0 : Int32) = 1) ∧ LPq (.inl (some (.int 0))) H2))
  refine ⟨fun _ => ⟨fun _ => hE, fun h0 => ⟨in0, fun _ => hE, fun z => absurd ?_ z⟩⟩, fun z => absurd rfl z⟩
  rw [ix0, x4 h0, ← hb]
  exact lg_self _
set_option maxRecDepth 100000 in
theorem lc_trip {L i g : Nat} (hL : L ≤ 3072) (hi : i + 6 ≤ L) {h : HP} (hr : LR h) (hg : h.1 2000 0 = nI g) (hgb : g < 1000) (hn : Nx L i g) : am_Ev m_law WL (ROL L) LPq (292, LSq i (.retAddr 0) (.retAddr 0), [], h) := by
  have hin : ∀ j, j < 6 → am_in (nI i + nI j) L := fun j hj => by rw [nI_add]; exact nI_am (by omega) (by omega)
  refine am_Ev_G [324] 400 _ ?_
  show (am_in (nI i + 1) L ∧ (am_in (nI i + 2) L ∧ (am_in (nI i + 3) L ∧ (am_in (nI i + 4) L ∧ (am_in (nI i + 5) L ∧ am_Ev m_law WL (ROL L) LPq (324, LSq i (.retAddr 0) (.retAddr 0), [.ref 145, .int (h.1 1005 (am_ix (nI i + 5))), .int (h.1 1005 (am_ix (nI i + 4))), .int (h.1 1005 (am_ix (nI i + 3))), .int (h.1 1005 (am_ix (nI i + 2))), .int (h.1 1005 (am_ix (nI i + 1))), .ref 38], h))))))
  refine ⟨hin 1 (by omega), hin 2 (by omega), hin 3 (by omega), hin 4 (by omega), hin 5 (by omega), ?_⟩
  obtain ⟨a1, e1⟩ : ∃ a, h.1 1005 (am_ix (nI i + 1)) = a := ⟨_, rfl⟩
  obtain ⟨a2, e2⟩ : ∃ a, h.1 1005 (am_ix (nI i + 2)) = a := ⟨_, rfl⟩
  obtain ⟨a3, e3⟩ : ∃ a, h.1 1005 (am_ix (nI i + 3)) = a := ⟨_, rfl⟩
  obtain ⟨a4, e4⟩ : ∃ a, h.1 1005 (am_ix (nI i + 4)) = a := ⟨_, rfl⟩
  obtain ⟨a5, e5⟩ : ∃ a, h.1 1005 (am_ix (nI i + 5)) = a := ⟨_, rfl⟩
  rw [e1, e2, e3, e4, e5]
  obtain ⟨f1, f2, f3, f4, f5⟩ := law_facts hr (g0 := (g_B_trip WB (ROL L) [.ref 38, .int a1, .int a2, .int a3, .int a4, .int a5] h)) (hs := hs_trip) (pM := fun m => p_M_trip m a1 a2 a3 a4 a5) (vM := fun m => v_M_trip m a1 a2 a3 a4 a5) (fun n m hr' => let q := trip_both hr' a1 a2 a3 a4 a5; ⟨q.1, q.2.1, gr_IW (hs := hs_trip) (by decide +kernel) q.2.2 _ _⟩) hg
  refine am_Ev_call false (i := 106) (cd := dG 1 dL_trip) (g := Lh (g_B_trip WB (ROL L) [.ref 38, .int a1, .int a2, .int a3, .int a4, .int a5] h) hs_trip h) rfl rfl rfl rfl rfl (g1_le hg f4 hgb) (gB_le hg (by omega)) f1 rfl ?_
  show am_Ev m_law WL (ROL L) LPq (327, LSq i (.retAddr 0) (.retAddr 0), [.int (LkC (g_B_trip WB (ROL L) [.ref 38, .int a1, .int a2, .int a3, .int a4, .int a5] h) hs_trip)], g_hp (Lh (g_B_trip WB (ROL L) [.ref 38, .int a1, .int a2, .int a3, .int a4, .int a5] h) hs_trip h))
  obtain ⟨H1, hH1⟩ : ∃ H1, g_hp (Lh (g_B_trip WB (ROL L) [.ref 38, .int a1, .int a2, .int a3, .int a4, .int a5] h) hs_trip h) = H1 := ⟨_, rfl⟩
  obtain ⟨K, hK⟩ : ∃ K, LkC (g_B_trip WB (ROL L) [.ref 38, .int a1, .int a2, .int a3, .int a4, .int a5] h) hs_trip = K := ⟨_, rfl⟩
  rw [hH1] at f2 f3 f4 f5 ⊢
  rw [hK] at f5 ⊢
  obtain ⟨H2, hH2⟩ : ∃ H2, am_push plM H1 (v_M_trip (am_pull plM H1) a1 a2 a3 a4 a5).2 = H2 := ⟨_, rfl⟩
  obtain ⟨x1, x2, x3, x4⟩ := f5 H2 hH2.symm
  refine am_Ev_G [360] 400 _ ?_
  show (am_in (nI i + 1) L ∧ (am_in (nI i + 2) L ∧ (am_in (nI i + 3) L ∧ (am_in (nI i + 4) L ∧ (am_in (nI i + 5) L ∧ am_Ev m_law WL (ROL L) LPq (360, LSq i (.int K) (.retAddr 0), [.int (H1.1 1005 (am_ix (nI i + 5))), .int (H1.1 1005 (am_ix (nI i + 4))), .int (H1.1 1005 (am_ix (nI i + 3))), .int (H1.1 1005 (am_ix (nI i + 2))), .int (H1.1 1005 (am_ix (nI i + 1))), .ref 135], H1))))))
  refine ⟨hin 1 (by omega), hin 2 (by omega), hin 3 (by omega), hin 4 (by omega), hin 5 (by omega), ?_⟩
  rw [f3, e1, e2, e3, e4, e5]
  refine am_Ev_call true (i := 109) (cd := dPl plM 0 WM (d_M_trip 16)) (g := gP plM (g_M_trip WM (ROL L) [.ref 0, .int a1, .int a2, .int a3, .int a4, .int a5] (am_pull plM H1)) H1) rfl rfl rfl (gPl_M rfl) rfl (g0_le ?_) (gB_le f4 (by omega)) f2 rfl ?_
  · show (am_push plM H1 (v_M_trip (am_pull plM H1) a1 a2 a3 a4 a5).2).1 2000 0 = _
    rw [hH2, x1, f4]
  show am_Ev m_law WL (ROL L) LPq (363, LSq i (.int K) (.retAddr 0), [.int (v_M_trip (am_pull plM H1) a1 a2 a3 a4 a5).1], am_push plM H1 (v_M_trip (am_pull plM H1) a1 a2 a3 a4 a5).2)
  obtain ⟨b, hb⟩ : ∃ b, (v_M_trip (am_pull plM H1) a1 a2 a3 a4 a5).1 = b := ⟨_, rfl⟩
  rw [hH2, hb]
  refine am_Ev_G [366] 400 _ ?_
  show am_Ev m_law WL (ROL L) LPq (366, LSq i (.int K) (.int b), [.ref 135], H2)
  refine am_Ev_call true (i := 99) (cd := dPl plM 0 WM (d_M_thrown 16)) (g := gP plM (g_M_thrown WM (ROL L) [.ref 0] (am_pull plM H2)) H2) rfl rfl rfl (gPl_M rfl) rfl (g0_le ?_) (gB_le x1 (by omega)) trivial rfl ?_
  · show (am_push plM H2 (am_pull plM H2)).1 2000 0 = _
    rw [pushM_pull]
  show am_Ev m_law WL (ROL L) LPq (369, LSq i (.int K) (.int b), [.int ((am_pull plM H2).1 0 8)], am_push plM H2 (am_pull plM H2))
  rw [pushM_pull, x3]
  refine am_Ev_G [1754] 400 _ ?_
  have hE : am_Ev m_law WL (ROL L) LPq (1754, LSq i (.int K) (.int b), [], H2) := hn.at x2 x1 (Nat.le_refl _) _ _
  show (K = K → ((¬ K = 0 → am_Ev m_law WL (ROL L) LPq (1754, LSq i (.int K) (.int b), [], H2)) ∧ (K = 0 → (am_in 0 1 ∧ ((lg_cmp (H2.2 145 (am_ix 0)) b.toInt64 = 0 → am_Ev m_law WL (ROL L) LPq (1754, LSq i (.int K) (.int b), [], H2)) ∧ (¬ lg_cmp (H2.2 145 (am_ix 0)) b.toInt64 = 0 → (((0 : Int32) = 0 ∨ (0 : Int32) = 1) ∧ LPq (.inl (some (.int 0))) H2))))))) ∧ (¬ K = K → (((0 : Int32) = 0 ∨ (0 : Int32) = 1) ∧ LPq (.inl (some (.int 0))) H2))
  refine ⟨fun _ => ⟨fun _ => hE, fun h0 => ⟨in0, fun _ => hE, fun z => absurd ?_ z⟩⟩, fun z => absurd rfl z⟩
  rw [ix0, x4 h0, ← hb]
  exact lg_self _
set_option maxRecDepth 100000 in
theorem lc_shift {L i g : Nat} (hL : L ≤ 3072) (hi : i + 6 ≤ L) {h : HP} (hr : LR h) (hg : h.1 2000 0 = nI g) (hgb : g < 1000) (hn : Nx L i g) : am_Ev m_law WL (ROL L) LPq (396, LSq i (.retAddr 0) (.retAddr 0), [], h) := by
  have hin : ∀ j, j < 6 → am_in (nI i + nI j) L := fun j hj => by rw [nI_add]; exact nI_am (by omega) (by omega)
  refine am_Ev_G [410] 400 _ ?_
  show (am_in (nI i + 1) L ∧ (am_in (nI i + 2) L ∧ am_Ev m_law WL (ROL L) LPq (410, LSq i (.retAddr 0) (.retAddr 0), [.ref 145, .int (h.1 1005 (am_ix (nI i + 2))), .int (h.1 1005 (am_ix (nI i + 1))), .ref 38], h)))
  refine ⟨hin 1 (by omega), hin 2 (by omega), ?_⟩
  obtain ⟨a1, e1⟩ : ∃ a, h.1 1005 (am_ix (nI i + 1)) = a := ⟨_, rfl⟩
  obtain ⟨a2, e2⟩ : ∃ a, h.1 1005 (am_ix (nI i + 2)) = a := ⟨_, rfl⟩
  rw [e1, e2]
  obtain ⟨f1, f2, f3, f4, f5⟩ := law_facts hr (g0 := (g_B_shift WB (ROL L) [.ref 38, .int a1, .int a2] h)) (hs := hs_shift) (pM := fun m => p_M_shift m a1 a2) (vM := fun m => v_M_shift m a1 a2) (fun n m hr' => let q := shift_both hr' a1 a2; ⟨q.1, q.2.1, gr_IW (hs := hs_shift) (by decide +kernel) q.2.2 _ _⟩) hg
  refine am_Ev_call false (i := 110) (cd := dG 1 dL_shift) (g := Lh (g_B_shift WB (ROL L) [.ref 38, .int a1, .int a2] h) hs_shift h) rfl rfl rfl rfl rfl (g1_le hg f4 hgb) (gB_le hg (by omega)) f1 rfl ?_
  show am_Ev m_law WL (ROL L) LPq (413, LSq i (.retAddr 0) (.retAddr 0), [.int (LkC (g_B_shift WB (ROL L) [.ref 38, .int a1, .int a2] h) hs_shift)], g_hp (Lh (g_B_shift WB (ROL L) [.ref 38, .int a1, .int a2] h) hs_shift h))
  obtain ⟨H1, hH1⟩ : ∃ H1, g_hp (Lh (g_B_shift WB (ROL L) [.ref 38, .int a1, .int a2] h) hs_shift h) = H1 := ⟨_, rfl⟩
  obtain ⟨K, hK⟩ : ∃ K, LkC (g_B_shift WB (ROL L) [.ref 38, .int a1, .int a2] h) hs_shift = K := ⟨_, rfl⟩
  rw [hH1] at f2 f3 f4 f5 ⊢
  rw [hK] at f5 ⊢
  obtain ⟨H2, hH2⟩ : ∃ H2, am_push plM H1 (v_M_shift (am_pull plM H1) a1 a2).2 = H2 := ⟨_, rfl⟩
  obtain ⟨x1, x2, x3, x4⟩ := f5 H2 hH2.symm
  refine am_Ev_G [428] 400 _ ?_
  show (am_in (nI i + 1) L ∧ (am_in (nI i + 2) L ∧ am_Ev m_law WL (ROL L) LPq (428, LSq i (.int K) (.retAddr 0), [.int (H1.1 1005 (am_ix (nI i + 2))), .int (H1.1 1005 (am_ix (nI i + 1))), .ref 135], H1)))
  refine ⟨hin 1 (by omega), hin 2 (by omega), ?_⟩
  rw [f3, e1, e2]
  refine am_Ev_call true (i := 112) (cd := dPl plM 0 WM (d_M_shift 16)) (g := gP plM (g_M_shift WM (ROL L) [.ref 0, .int a1, .int a2] (am_pull plM H1)) H1) rfl rfl rfl (gPl_M rfl) rfl (g0_le ?_) (gB_le f4 (by omega)) f2 rfl ?_
  · show (am_push plM H1 (v_M_shift (am_pull plM H1) a1 a2).2).1 2000 0 = _
    rw [hH2, x1, f4]
  show am_Ev m_law WL (ROL L) LPq (431, LSq i (.int K) (.retAddr 0), [.int (v_M_shift (am_pull plM H1) a1 a2).1], am_push plM H1 (v_M_shift (am_pull plM H1) a1 a2).2)
  obtain ⟨b, hb⟩ : ∃ b, (v_M_shift (am_pull plM H1) a1 a2).1 = b := ⟨_, rfl⟩
  rw [hH2, hb]
  refine am_Ev_G [434] 400 _ ?_
  show am_Ev m_law WL (ROL L) LPq (434, LSq i (.int K) (.int b), [.ref 135], H2)
  refine am_Ev_call true (i := 99) (cd := dPl plM 0 WM (d_M_thrown 16)) (g := gP plM (g_M_thrown WM (ROL L) [.ref 0] (am_pull plM H2)) H2) rfl rfl rfl (gPl_M rfl) rfl (g0_le ?_) (gB_le x1 (by omega)) trivial rfl ?_
  · show (am_push plM H2 (am_pull plM H2)).1 2000 0 = _
    rw [pushM_pull]
  show am_Ev m_law WL (ROL L) LPq (437, LSq i (.int K) (.int b), [.int ((am_pull plM H2).1 0 8)], am_push plM H2 (am_pull plM H2))
  rw [pushM_pull, x3]
  refine am_Ev_G [1754] 400 _ ?_
  have hE : am_Ev m_law WL (ROL L) LPq (1754, LSq i (.int K) (.int b), [], H2) := hn.at x2 x1 (Nat.le_refl _) _ _
  show (K = K → ((¬ K = 0 → am_Ev m_law WL (ROL L) LPq (1754, LSq i (.int K) (.int b), [], H2)) ∧ (K = 0 → (am_in 0 1 ∧ ((lg_cmp (H2.2 145 (am_ix 0)) b.toInt64 = 0 → am_Ev m_law WL (ROL L) LPq (1754, LSq i (.int K) (.int b), [], H2)) ∧ (¬ lg_cmp (H2.2 145 (am_ix 0)) b.toInt64 = 0 → (((0 : Int32) = 0 ∨ (0 : Int32) = 1) ∧ LPq (.inl (some (.int 0))) H2))))))) ∧ (¬ K = K → (((0 : Int32) = 0 ∨ (0 : Int32) = 1) ∧ LPq (.inl (some (.int 0))) H2))
  refine ⟨fun _ => ⟨fun _ => hE, fun h0 => ⟨in0, fun _ => hE, fun z => absurd ?_ z⟩⟩, fun z => absurd rfl z⟩
  rw [ix0, x4 h0, ← hb]
  exact lg_self _
set_option maxRecDepth 100000 in
theorem lc_set {L i g : Nat} (hL : L ≤ 3072) (hi : i + 6 ≤ L) {h : HP} (hr : LR h) (hg : h.1 2000 0 = nI g) (hgb : g < 1000) (hn : Nx L i g) : am_Ev m_law WL (ROL L) LPq (464, LSq i (.retAddr 0) (.retAddr 0), [], h) := by
  have hin : ∀ j, j < 6 → am_in (nI i + nI j) L := fun j hj => by rw [nI_add]; exact nI_am (by omega) (by omega)
  refine am_Ev_G [478] 400 _ ?_
  show (am_in (nI i + 1) L ∧ (am_in (nI i + 2) L ∧ am_Ev m_law WL (ROL L) LPq (478, LSq i (.retAddr 0) (.retAddr 0), [.ref 145, .int (h.1 1005 (am_ix (nI i + 2))), .int (h.1 1005 (am_ix (nI i + 1))), .ref 38], h)))
  refine ⟨hin 1 (by omega), hin 2 (by omega), ?_⟩
  obtain ⟨a1, e1⟩ : ∃ a, h.1 1005 (am_ix (nI i + 1)) = a := ⟨_, rfl⟩
  obtain ⟨a2, e2⟩ : ∃ a, h.1 1005 (am_ix (nI i + 2)) = a := ⟨_, rfl⟩
  rw [e1, e2]
  obtain ⟨f1, f2, f3, f4, f5⟩ := law_facts hr (g0 := (g_B_set WB (ROL L) [.ref 38, .int a1, .int a2] h)) (hs := hs_set) (pM := fun m => p_M_set m a1 a2) (vM := fun m => v_M_set m a1 a2) (fun n m hr' => let q := set_both hr' a1 a2; ⟨q.1, q.2.1, gr_IW (hs := hs_set) (by decide +kernel) q.2.2 _ _⟩) hg
  refine am_Ev_call false (i := 113) (cd := dG 1 dL_set) (g := Lh (g_B_set WB (ROL L) [.ref 38, .int a1, .int a2] h) hs_set h) rfl rfl rfl rfl rfl (g1_le hg f4 hgb) (gB_le hg (by omega)) f1 rfl ?_
  show am_Ev m_law WL (ROL L) LPq (481, LSq i (.retAddr 0) (.retAddr 0), [.int (LkC (g_B_set WB (ROL L) [.ref 38, .int a1, .int a2] h) hs_set)], g_hp (Lh (g_B_set WB (ROL L) [.ref 38, .int a1, .int a2] h) hs_set h))
  obtain ⟨H1, hH1⟩ : ∃ H1, g_hp (Lh (g_B_set WB (ROL L) [.ref 38, .int a1, .int a2] h) hs_set h) = H1 := ⟨_, rfl⟩
  obtain ⟨K, hK⟩ : ∃ K, LkC (g_B_set WB (ROL L) [.ref 38, .int a1, .int a2] h) hs_set = K := ⟨_, rfl⟩
  rw [hH1] at f2 f3 f4 f5 ⊢
  rw [hK] at f5 ⊢
  obtain ⟨H2, hH2⟩ : ∃ H2, am_push plM H1 (v_M_set (am_pull plM H1) a1 a2).2 = H2 := ⟨_, rfl⟩
  obtain ⟨x1, x2, x3, x4⟩ := f5 H2 hH2.symm
  refine am_Ev_G [496] 400 _ ?_
  show (am_in (nI i + 1) L ∧ (am_in (nI i + 2) L ∧ am_Ev m_law WL (ROL L) LPq (496, LSq i (.int K) (.retAddr 0), [.int (H1.1 1005 (am_ix (nI i + 2))), .int (H1.1 1005 (am_ix (nI i + 1))), .ref 135], H1)))
  refine ⟨hin 1 (by omega), hin 2 (by omega), ?_⟩
  rw [f3, e1, e2]
  refine am_Ev_call true (i := 115) (cd := dPl plM 0 WM (d_M_set 16)) (g := gP plM (g_M_set WM (ROL L) [.ref 0, .int a1, .int a2] (am_pull plM H1)) H1) rfl rfl rfl (gPl_M rfl) rfl (g0_le ?_) (gB_le f4 (by omega)) f2 rfl ?_
  · show (am_push plM H1 (v_M_set (am_pull plM H1) a1 a2).2).1 2000 0 = _
    rw [hH2, x1, f4]
  show am_Ev m_law WL (ROL L) LPq (499, LSq i (.int K) (.retAddr 0), [.int (v_M_set (am_pull plM H1) a1 a2).1], am_push plM H1 (v_M_set (am_pull plM H1) a1 a2).2)
  obtain ⟨b, hb⟩ : ∃ b, (v_M_set (am_pull plM H1) a1 a2).1 = b := ⟨_, rfl⟩
  rw [hH2, hb]
  refine am_Ev_G [502] 400 _ ?_
  show am_Ev m_law WL (ROL L) LPq (502, LSq i (.int K) (.int b), [.ref 135], H2)
  refine am_Ev_call true (i := 99) (cd := dPl plM 0 WM (d_M_thrown 16)) (g := gP plM (g_M_thrown WM (ROL L) [.ref 0] (am_pull plM H2)) H2) rfl rfl rfl (gPl_M rfl) rfl (g0_le ?_) (gB_le x1 (by omega)) trivial rfl ?_
  · show (am_push plM H2 (am_pull plM H2)).1 2000 0 = _
    rw [pushM_pull]
  show am_Ev m_law WL (ROL L) LPq (505, LSq i (.int K) (.int b), [.int ((am_pull plM H2).1 0 8)], am_push plM H2 (am_pull plM H2))
  rw [pushM_pull, x3]
  refine am_Ev_G [1754] 400 _ ?_
  have hE : am_Ev m_law WL (ROL L) LPq (1754, LSq i (.int K) (.int b), [], H2) := hn.at x2 x1 (Nat.le_refl _) _ _
  show (K = K → ((¬ K = 0 → am_Ev m_law WL (ROL L) LPq (1754, LSq i (.int K) (.int b), [], H2)) ∧ (K = 0 → (am_in 0 1 ∧ ((lg_cmp (H2.2 145 (am_ix 0)) b.toInt64 = 0 → am_Ev m_law WL (ROL L) LPq (1754, LSq i (.int K) (.int b), [], H2)) ∧ (¬ lg_cmp (H2.2 145 (am_ix 0)) b.toInt64 = 0 → (((0 : Int32) = 0 ∨ (0 : Int32) = 1) ∧ LPq (.inl (some (.int 0))) H2))))))) ∧ (¬ K = K → (((0 : Int32) = 0 ∨ (0 : Int32) = 1) ∧ LPq (.inl (some (.int 0))) H2))
  refine ⟨fun _ => ⟨fun _ => hE, fun h0 => ⟨in0, fun _ => hE, fun z => absurd ?_ z⟩⟩, fun z => absurd rfl z⟩
  rw [ix0, x4 h0, ← hb]
  exact lg_self _
set_option maxRecDepth 100000 in
theorem lc_follow {L i g : Nat} (hL : L ≤ 3072) (hi : i + 6 ≤ L) {h : HP} (hr : LR h) (hg : h.1 2000 0 = nI g) (hgb : g < 1000) (hn : Nx L i g) : am_Ev m_law WL (ROL L) LPq (532, LSq i (.retAddr 0) (.retAddr 0), [], h) := by
  have hin : ∀ j, j < 6 → am_in (nI i + nI j) L := fun j hj => by rw [nI_add]; exact nI_am (by omega) (by omega)
  refine am_Ev_G [546] 400 _ ?_
  show (am_in (nI i + 1) L ∧ (am_in (nI i + 2) L ∧ am_Ev m_law WL (ROL L) LPq (546, LSq i (.retAddr 0) (.retAddr 0), [.ref 145, .int (h.1 1005 (am_ix (nI i + 2))), .int (h.1 1005 (am_ix (nI i + 1))), .ref 38], h)))
  refine ⟨hin 1 (by omega), hin 2 (by omega), ?_⟩
  obtain ⟨a1, e1⟩ : ∃ a, h.1 1005 (am_ix (nI i + 1)) = a := ⟨_, rfl⟩
  obtain ⟨a2, e2⟩ : ∃ a, h.1 1005 (am_ix (nI i + 2)) = a := ⟨_, rfl⟩
  rw [e1, e2]
  obtain ⟨f1, f2, f3, f4, f5⟩ := law_facts hr (g0 := (g_B_follow WB (ROL L) [.ref 38, .int a1, .int a2] h)) (hs := hs_follow) (pM := fun m => p_M_follow m a1 a2) (vM := fun m => v_M_follow m a1 a2) (fun n m hr' => let q := follow_both hr' a1 a2; ⟨q.1, q.2.1, gr_IW (hs := hs_follow) (by decide +kernel) q.2.2 _ _⟩) hg
  refine am_Ev_call false (i := 116) (cd := dG 1 dL_follow) (g := Lh (g_B_follow WB (ROL L) [.ref 38, .int a1, .int a2] h) hs_follow h) rfl rfl rfl rfl rfl (g1_le hg f4 hgb) (gB_le hg (by omega)) f1 rfl ?_
  show am_Ev m_law WL (ROL L) LPq (549, LSq i (.retAddr 0) (.retAddr 0), [.int (LkC (g_B_follow WB (ROL L) [.ref 38, .int a1, .int a2] h) hs_follow)], g_hp (Lh (g_B_follow WB (ROL L) [.ref 38, .int a1, .int a2] h) hs_follow h))
  obtain ⟨H1, hH1⟩ : ∃ H1, g_hp (Lh (g_B_follow WB (ROL L) [.ref 38, .int a1, .int a2] h) hs_follow h) = H1 := ⟨_, rfl⟩
  obtain ⟨K, hK⟩ : ∃ K, LkC (g_B_follow WB (ROL L) [.ref 38, .int a1, .int a2] h) hs_follow = K := ⟨_, rfl⟩
  rw [hH1] at f2 f3 f4 f5 ⊢
  rw [hK] at f5 ⊢
  obtain ⟨H2, hH2⟩ : ∃ H2, am_push plM H1 (v_M_follow (am_pull plM H1) a1 a2).2 = H2 := ⟨_, rfl⟩
  obtain ⟨x1, x2, x3, x4⟩ := f5 H2 hH2.symm
  refine am_Ev_G [564] 400 _ ?_
  show (am_in (nI i + 1) L ∧ (am_in (nI i + 2) L ∧ am_Ev m_law WL (ROL L) LPq (564, LSq i (.int K) (.retAddr 0), [.int (H1.1 1005 (am_ix (nI i + 2))), .int (H1.1 1005 (am_ix (nI i + 1))), .ref 135], H1)))
  refine ⟨hin 1 (by omega), hin 2 (by omega), ?_⟩
  rw [f3, e1, e2]
  refine am_Ev_call true (i := 118) (cd := dPl plM 0 WM (d_M_follow 16)) (g := gP plM (g_M_follow WM (ROL L) [.ref 0, .int a1, .int a2] (am_pull plM H1)) H1) rfl rfl rfl (gPl_M rfl) rfl (g0_le ?_) (gB_le f4 (by omega)) f2 rfl ?_
  · show (am_push plM H1 (v_M_follow (am_pull plM H1) a1 a2).2).1 2000 0 = _
    rw [hH2, x1, f4]
  show am_Ev m_law WL (ROL L) LPq (567, LSq i (.int K) (.retAddr 0), [.int (v_M_follow (am_pull plM H1) a1 a2).1], am_push plM H1 (v_M_follow (am_pull plM H1) a1 a2).2)
  obtain ⟨b, hb⟩ : ∃ b, (v_M_follow (am_pull plM H1) a1 a2).1 = b := ⟨_, rfl⟩
  rw [hH2, hb]
  refine am_Ev_G [570] 400 _ ?_
  show am_Ev m_law WL (ROL L) LPq (570, LSq i (.int K) (.int b), [.ref 135], H2)
  refine am_Ev_call true (i := 99) (cd := dPl plM 0 WM (d_M_thrown 16)) (g := gP plM (g_M_thrown WM (ROL L) [.ref 0] (am_pull plM H2)) H2) rfl rfl rfl (gPl_M rfl) rfl (g0_le ?_) (gB_le x1 (by omega)) trivial rfl ?_
  · show (am_push plM H2 (am_pull plM H2)).1 2000 0 = _
    rw [pushM_pull]
  show am_Ev m_law WL (ROL L) LPq (573, LSq i (.int K) (.int b), [.int ((am_pull plM H2).1 0 8)], am_push plM H2 (am_pull plM H2))
  rw [pushM_pull, x3]
  refine am_Ev_G [1754] 400 _ ?_
  have hE : am_Ev m_law WL (ROL L) LPq (1754, LSq i (.int K) (.int b), [], H2) := hn.at x2 x1 (Nat.le_refl _) _ _
  show (K = K → ((¬ K = 0 → am_Ev m_law WL (ROL L) LPq (1754, LSq i (.int K) (.int b), [], H2)) ∧ (K = 0 → (am_in 0 1 ∧ ((lg_cmp (H2.2 145 (am_ix 0)) b.toInt64 = 0 → am_Ev m_law WL (ROL L) LPq (1754, LSq i (.int K) (.int b), [], H2)) ∧ (¬ lg_cmp (H2.2 145 (am_ix 0)) b.toInt64 = 0 → (((0 : Int32) = 0 ∨ (0 : Int32) = 1) ∧ LPq (.inl (some (.int 0))) H2))))))) ∧ (¬ K = K → (((0 : Int32) = 0 ∨ (0 : Int32) = 1) ∧ LPq (.inl (some (.int 0))) H2))
  refine ⟨fun _ => ⟨fun _ => hE, fun h0 => ⟨in0, fun _ => hE, fun z => absurd ?_ z⟩⟩, fun z => absurd rfl z⟩
  rw [ix0, x4 h0, ← hb]
  exact lg_self _
set_option maxRecDepth 100000 in
theorem lc_part {L i g : Nat} (hL : L ≤ 3072) (hi : i + 6 ≤ L) {h : HP} (hr : LR h) (hg : h.1 2000 0 = nI g) (hgb : g < 1000) (hn : Nx L i g) : am_Ev m_law WL (ROL L) LPq (600, LSq i (.retAddr 0) (.retAddr 0), [], h) := by
  have hin : ∀ j, j < 6 → am_in (nI i + nI j) L := fun j hj => by rw [nI_add]; exact nI_am (by omega) (by omega)
  refine am_Ev_G [608] 400 _ ?_
  show (am_in (nI i + 1) L ∧ am_Ev m_law WL (ROL L) LPq (608, LSq i (.retAddr 0) (.retAddr 0), [.ref 145, .int (h.1 1005 (am_ix (nI i + 1))), .ref 38], h))
  refine ⟨hin 1 (by omega), ?_⟩
  obtain ⟨a1, e1⟩ : ∃ a, h.1 1005 (am_ix (nI i + 1)) = a := ⟨_, rfl⟩
  rw [e1]
  obtain ⟨f1, f2, f3, f4, f5⟩ := law_facts hr (g0 := (g_B_part WB (ROL L) [.ref 38, .int a1] h)) (hs := hs_part) (pM := fun m => p_M_part m a1) (vM := fun m => v_M_part m a1) (fun n m hr' => let q := part_both hr' a1; ⟨q.1, q.2.1, gr_IW (hs := hs_part) (by decide +kernel) q.2.2 _ _⟩) hg
  refine am_Ev_call false (i := 119) (cd := dG 1 dL_part) (g := Lh (g_B_part WB (ROL L) [.ref 38, .int a1] h) hs_part h) rfl rfl rfl rfl rfl (g1_le hg f4 hgb) (gB_le hg (by omega)) f1 rfl ?_
  show am_Ev m_law WL (ROL L) LPq (611, LSq i (.retAddr 0) (.retAddr 0), [.int (LkC (g_B_part WB (ROL L) [.ref 38, .int a1] h) hs_part)], g_hp (Lh (g_B_part WB (ROL L) [.ref 38, .int a1] h) hs_part h))
  obtain ⟨H1, hH1⟩ : ∃ H1, g_hp (Lh (g_B_part WB (ROL L) [.ref 38, .int a1] h) hs_part h) = H1 := ⟨_, rfl⟩
  obtain ⟨K, hK⟩ : ∃ K, LkC (g_B_part WB (ROL L) [.ref 38, .int a1] h) hs_part = K := ⟨_, rfl⟩
  rw [hH1] at f2 f3 f4 f5 ⊢
  rw [hK] at f5 ⊢
  obtain ⟨H2, hH2⟩ : ∃ H2, am_push plM H1 (v_M_part (am_pull plM H1) a1).2 = H2 := ⟨_, rfl⟩
  obtain ⟨x1, x2, x3, x4⟩ := f5 H2 hH2.symm
  refine am_Ev_G [620] 400 _ ?_
  show (am_in (nI i + 1) L ∧ am_Ev m_law WL (ROL L) LPq (620, LSq i (.int K) (.retAddr 0), [.int (H1.1 1005 (am_ix (nI i + 1))), .ref 135], H1))
  refine ⟨hin 1 (by omega), ?_⟩
  rw [f3, e1]
  refine am_Ev_call true (i := 121) (cd := dPl plM 0 WM (d_M_part 16)) (g := gP plM (g_M_part WM (ROL L) [.ref 0, .int a1] (am_pull plM H1)) H1) rfl rfl rfl (gPl_M rfl) rfl (g0_le ?_) (gB_le f4 (by omega)) f2 rfl ?_
  · show (am_push plM H1 (v_M_part (am_pull plM H1) a1).2).1 2000 0 = _
    rw [hH2, x1, f4]
  show am_Ev m_law WL (ROL L) LPq (623, LSq i (.int K) (.retAddr 0), [.int (v_M_part (am_pull plM H1) a1).1], am_push plM H1 (v_M_part (am_pull plM H1) a1).2)
  obtain ⟨b, hb⟩ : ∃ b, (v_M_part (am_pull plM H1) a1).1 = b := ⟨_, rfl⟩
  rw [hH2, hb]
  refine am_Ev_G [626] 400 _ ?_
  show am_Ev m_law WL (ROL L) LPq (626, LSq i (.int K) (.int b), [.ref 135], H2)
  refine am_Ev_call true (i := 99) (cd := dPl plM 0 WM (d_M_thrown 16)) (g := gP plM (g_M_thrown WM (ROL L) [.ref 0] (am_pull plM H2)) H2) rfl rfl rfl (gPl_M rfl) rfl (g0_le ?_) (gB_le x1 (by omega)) trivial rfl ?_
  · show (am_push plM H2 (am_pull plM H2)).1 2000 0 = _
    rw [pushM_pull]
  show am_Ev m_law WL (ROL L) LPq (629, LSq i (.int K) (.int b), [.int ((am_pull plM H2).1 0 8)], am_push plM H2 (am_pull plM H2))
  rw [pushM_pull, x3]
  refine am_Ev_G [1754] 400 _ ?_
  have hE : am_Ev m_law WL (ROL L) LPq (1754, LSq i (.int K) (.int b), [], H2) := hn.at x2 x1 (Nat.le_refl _) _ _
  show (K = K → ((¬ K = 0 → am_Ev m_law WL (ROL L) LPq (1754, LSq i (.int K) (.int b), [], H2)) ∧ (K = 0 → (am_in 0 1 ∧ ((lg_cmp (H2.2 145 (am_ix 0)) b.toInt64 = 0 → am_Ev m_law WL (ROL L) LPq (1754, LSq i (.int K) (.int b), [], H2)) ∧ (¬ lg_cmp (H2.2 145 (am_ix 0)) b.toInt64 = 0 → (((0 : Int32) = 0 ∨ (0 : Int32) = 1) ∧ LPq (.inl (some (.int 0))) H2))))))) ∧ (¬ K = K → (((0 : Int32) = 0 ∨ (0 : Int32) = 1) ∧ LPq (.inl (some (.int 0))) H2))
  refine ⟨fun _ => ⟨fun _ => hE, fun h0 => ⟨in0, fun _ => hE, fun z => absurd ?_ z⟩⟩, fun z => absurd rfl z⟩
  rw [ix0, x4 h0, ← hb]
  exact lg_self _
set_option maxRecDepth 100000 in
theorem lc_fail {L i g : Nat} (hL : L ≤ 3072) (hi : i + 6 ≤ L) {h : HP} (hr : LR h) (hg : h.1 2000 0 = nI g) (hgb : g < 1000) (hn : Nx L i g) : am_Ev m_law WL (ROL L) LPq (669, LSq i (.retAddr 0) (.retAddr 0), [], h) := by
  have hin : ∀ j, j < 6 → am_in (nI i + nI j) L := fun j hj => by rw [nI_add]; exact nI_am (by omega) (by omega)
  refine am_Ev_G [677] 400 _ ?_
  show (am_in (nI i + 1) L ∧ am_Ev m_law WL (ROL L) LPq (677, LSq i (.retAddr 0) (.retAddr 0), [.ref 145, .int (h.1 1005 (am_ix (nI i + 1))), .ref 38], h))
  refine ⟨hin 1 (by omega), ?_⟩
  obtain ⟨a1, e1⟩ : ∃ a, h.1 1005 (am_ix (nI i + 1)) = a := ⟨_, rfl⟩
  rw [e1]
  obtain ⟨f1, f2, f3, f4, f5⟩ := law_facts hr (g0 := (g_B_fail WB (ROL L) [.ref 38, .int a1] h)) (hs := hs_fail) (pM := fun m => p_M_fail m a1) (vM := fun m => v_M_fail m a1) (fun n m hr' => let q := fail_both hr' a1; ⟨q.1, q.2.1, gr_IW (hs := hs_fail) (by decide +kernel) q.2.2 _ _⟩) hg
  refine am_Ev_call false (i := 126) (cd := dG 1 dL_fail) (g := Lh (g_B_fail WB (ROL L) [.ref 38, .int a1] h) hs_fail h) rfl rfl rfl rfl rfl (g1_le hg f4 hgb) (gB_le hg (by omega)) f1 rfl ?_
  show am_Ev m_law WL (ROL L) LPq (680, LSq i (.retAddr 0) (.retAddr 0), [.int (LkC (g_B_fail WB (ROL L) [.ref 38, .int a1] h) hs_fail)], g_hp (Lh (g_B_fail WB (ROL L) [.ref 38, .int a1] h) hs_fail h))
  obtain ⟨H1, hH1⟩ : ∃ H1, g_hp (Lh (g_B_fail WB (ROL L) [.ref 38, .int a1] h) hs_fail h) = H1 := ⟨_, rfl⟩
  obtain ⟨K, hK⟩ : ∃ K, LkC (g_B_fail WB (ROL L) [.ref 38, .int a1] h) hs_fail = K := ⟨_, rfl⟩
  rw [hH1] at f2 f3 f4 f5 ⊢
  rw [hK] at f5 ⊢
  obtain ⟨H2, hH2⟩ : ∃ H2, am_push plM H1 (v_M_fail (am_pull plM H1) a1).2 = H2 := ⟨_, rfl⟩
  obtain ⟨x1, x2, x3, x4⟩ := f5 H2 hH2.symm
  refine am_Ev_G [689] 400 _ ?_
  show (am_in (nI i + 1) L ∧ am_Ev m_law WL (ROL L) LPq (689, LSq i (.int K) (.retAddr 0), [.int (H1.1 1005 (am_ix (nI i + 1))), .ref 135], H1))
  refine ⟨hin 1 (by omega), ?_⟩
  rw [f3, e1]
  refine am_Ev_call true (i := 128) (cd := dPl plM 0 WM (d_M_fail 16)) (g := gP plM (g_M_fail WM (ROL L) [.ref 0, .int a1] (am_pull plM H1)) H1) rfl rfl rfl (gPl_M rfl) rfl (g0_le ?_) (gB_le f4 (by omega)) f2 rfl ?_
  · show (am_push plM H1 (v_M_fail (am_pull plM H1) a1).2).1 2000 0 = _
    rw [hH2, x1, f4]
  show am_Ev m_law WL (ROL L) LPq (692, LSq i (.int K) (.retAddr 0), [.int (v_M_fail (am_pull plM H1) a1).1], am_push plM H1 (v_M_fail (am_pull plM H1) a1).2)
  obtain ⟨b, hb⟩ : ∃ b, (v_M_fail (am_pull plM H1) a1).1 = b := ⟨_, rfl⟩
  rw [hH2, hb]
  refine am_Ev_G [695] 400 _ ?_
  show am_Ev m_law WL (ROL L) LPq (695, LSq i (.int K) (.int b), [.ref 135], H2)
  refine am_Ev_call true (i := 99) (cd := dPl plM 0 WM (d_M_thrown 16)) (g := gP plM (g_M_thrown WM (ROL L) [.ref 0] (am_pull plM H2)) H2) rfl rfl rfl (gPl_M rfl) rfl (g0_le ?_) (gB_le x1 (by omega)) trivial rfl ?_
  · show (am_push plM H2 (am_pull plM H2)).1 2000 0 = _
    rw [pushM_pull]
  show am_Ev m_law WL (ROL L) LPq (698, LSq i (.int K) (.int b), [.int ((am_pull plM H2).1 0 8)], am_push plM H2 (am_pull plM H2))
  rw [pushM_pull, x3]
  refine am_Ev_G [1754] 400 _ ?_
  have hE : am_Ev m_law WL (ROL L) LPq (1754, LSq i (.int K) (.int b), [], H2) := hn.at x2 x1 (Nat.le_refl _) _ _
  show (K = K → ((¬ K = 0 → am_Ev m_law WL (ROL L) LPq (1754, LSq i (.int K) (.int b), [], H2)) ∧ (K = 0 → (am_in 0 1 ∧ ((lg_cmp (H2.2 145 (am_ix 0)) b.toInt64 = 0 → am_Ev m_law WL (ROL L) LPq (1754, LSq i (.int K) (.int b), [], H2)) ∧ (¬ lg_cmp (H2.2 145 (am_ix 0)) b.toInt64 = 0 → (((0 : Int32) = 0 ∨ (0 : Int32) = 1) ∧ LPq (.inl (some (.int 0))) H2))))))) ∧ (¬ K = K → (((0 : Int32) = 0 ∨ (0 : Int32) = 1) ∧ LPq (.inl (some (.int 0))) H2))
  refine ⟨fun _ => ⟨fun _ => hE, fun h0 => ⟨in0, fun _ => hE, fun z => absurd ?_ z⟩⟩, fun z => absurd rfl z⟩
  rw [ix0, x4 h0, ← hb]
  exact lg_self _
set_option maxRecDepth 100000 in
theorem lc_append {L i g : Nat} (hL : L ≤ 3072) (hi : i + 6 ≤ L) {h : HP} (hr : LR h) (hg : h.1 2000 0 = nI g) (hgb : g < 1000) (hn : Nx L i g) : am_Ev m_law WL (ROL L) LPq (725, LSq i (.retAddr 0) (.retAddr 0), [], h) := by
  have hin : ∀ j, j < 6 → am_in (nI i + nI j) L := fun j hj => by rw [nI_add]; exact nI_am (by omega) (by omega)
  refine am_Ev_G [733] 400 _ ?_
  show (am_in (nI i + 1) L ∧ am_Ev m_law WL (ROL L) LPq (733, LSq i (.retAddr 0) (.retAddr 0), [.ref 145, .int (h.1 1005 (am_ix (nI i + 1))), .ref 38], h))
  refine ⟨hin 1 (by omega), ?_⟩
  obtain ⟨a1, e1⟩ : ∃ a, h.1 1005 (am_ix (nI i + 1)) = a := ⟨_, rfl⟩
  rw [e1]
  obtain ⟨f1, f2, f3, f4, f5⟩ := law_facts hr (g0 := (g_B_append WB (ROL L) [.ref 38, .int a1] h)) (hs := hs_append) (pM := fun m => p_M_append m a1) (vM := fun m => v_M_append m a1) (fun n m hr' => let q := append_both hr' a1; ⟨trivial, q.1, gr_IW (hs := hs_append) (by decide +kernel) q.2 _ _⟩) hg
  refine am_Ev_call false (i := 129) (cd := dG 1 dL_append) (g := Lh (g_B_append WB (ROL L) [.ref 38, .int a1] h) hs_append h) rfl rfl rfl rfl rfl (g1_le hg f4 hgb) (gB_le hg (by omega)) f1 rfl ?_
  show am_Ev m_law WL (ROL L) LPq (736, LSq i (.retAddr 0) (.retAddr 0), [.int (LkC (g_B_append WB (ROL L) [.ref 38, .int a1] h) hs_append)], g_hp (Lh (g_B_append WB (ROL L) [.ref 38, .int a1] h) hs_append h))
  obtain ⟨H1, hH1⟩ : ∃ H1, g_hp (Lh (g_B_append WB (ROL L) [.ref 38, .int a1] h) hs_append h) = H1 := ⟨_, rfl⟩
  obtain ⟨K, hK⟩ : ∃ K, LkC (g_B_append WB (ROL L) [.ref 38, .int a1] h) hs_append = K := ⟨_, rfl⟩
  rw [hH1] at f2 f3 f4 f5 ⊢
  rw [hK] at f5 ⊢
  obtain ⟨H2, hH2⟩ : ∃ H2, am_push plM H1 (v_M_append (am_pull plM H1) a1).2 = H2 := ⟨_, rfl⟩
  obtain ⟨x1, x2, x3, x4⟩ := f5 H2 hH2.symm
  refine am_Ev_G [745] 400 _ ?_
  show (am_in (nI i + 1) L ∧ am_Ev m_law WL (ROL L) LPq (745, LSq i (.int K) (.retAddr 0), [.int (H1.1 1005 (am_ix (nI i + 1))), .ref 135], H1))
  refine ⟨hin 1 (by omega), ?_⟩
  rw [f3, e1]
  refine am_Ev_call true (i := 131) (cd := dPl plM 0 WM (d_M_append 16)) (g := gP plM (g_M_append WM (ROL L) [.ref 0, .int a1] (am_pull plM H1)) H1) rfl rfl rfl (gPl_M rfl) rfl (g0_le ?_) (gB_le f4 (by omega)) f2 rfl ?_
  · show (am_push plM H1 (v_M_append (am_pull plM H1) a1).2).1 2000 0 = _
    rw [hH2, x1, f4]
  show am_Ev m_law WL (ROL L) LPq (748, LSq i (.int K) (.retAddr 0), [.int (v_M_append (am_pull plM H1) a1).1], am_push plM H1 (v_M_append (am_pull plM H1) a1).2)
  obtain ⟨b, hb⟩ : ∃ b, (v_M_append (am_pull plM H1) a1).1 = b := ⟨_, rfl⟩
  rw [hH2, hb]
  refine am_Ev_G [751] 400 _ ?_
  show am_Ev m_law WL (ROL L) LPq (751, LSq i (.int K) (.int b), [.ref 135], H2)
  refine am_Ev_call true (i := 99) (cd := dPl plM 0 WM (d_M_thrown 16)) (g := gP plM (g_M_thrown WM (ROL L) [.ref 0] (am_pull plM H2)) H2) rfl rfl rfl (gPl_M rfl) rfl (g0_le ?_) (gB_le x1 (by omega)) trivial rfl ?_
  · show (am_push plM H2 (am_pull plM H2)).1 2000 0 = _
    rw [pushM_pull]
  show am_Ev m_law WL (ROL L) LPq (754, LSq i (.int K) (.int b), [.int ((am_pull plM H2).1 0 8)], am_push plM H2 (am_pull plM H2))
  rw [pushM_pull, x3]
  refine am_Ev_G [1754] 400 _ ?_
  have hE : am_Ev m_law WL (ROL L) LPq (1754, LSq i (.int K) (.int b), [], H2) := hn.at x2 x1 (Nat.le_refl _) _ _
  show (K = K → ((¬ K = 0 → am_Ev m_law WL (ROL L) LPq (1754, LSq i (.int K) (.int b), [], H2)) ∧ (K = 0 → (am_in 0 1 ∧ ((lg_cmp (H2.2 145 (am_ix 0)) b.toInt64 = 0 → am_Ev m_law WL (ROL L) LPq (1754, LSq i (.int K) (.int b), [], H2)) ∧ (¬ lg_cmp (H2.2 145 (am_ix 0)) b.toInt64 = 0 → (((0 : Int32) = 0 ∨ (0 : Int32) = 1) ∧ LPq (.inl (some (.int 0))) H2))))))) ∧ (¬ K = K → (((0 : Int32) = 0 ∨ (0 : Int32) = 1) ∧ LPq (.inl (some (.int 0))) H2))
  refine ⟨fun _ => ⟨fun _ => hE, fun h0 => ⟨in0, fun _ => hE, fun z => absurd ?_ z⟩⟩, fun z => absurd rfl z⟩
  rw [ix0, x4 h0, ← hb]
  exact lg_self _
set_option maxRecDepth 100000 in
theorem lc_load {L i g : Nat} (hL : L ≤ 3072) (hi : i + 6 ≤ L) {h : HP} (hr : LR h) (hg : h.1 2000 0 = nI g) (hgb : g < 1000) (hn : Nx L i g) : am_Ev m_law WL (ROL L) LPq (807, LSq i (.retAddr 0) (.retAddr 0), [], h) := by
  have hin : ∀ j, j < 6 → am_in (nI i + nI j) L := fun j hj => by rw [nI_add]; exact nI_am (by omega) (by omega)
  refine am_Ev_G [809] 400 _ ?_
  show am_Ev m_law WL (ROL L) LPq (809, LSq i (.retAddr 0) (.retAddr 0), [.ref 145, .ref 38], h)
  obtain ⟨f1, f2, f3, f4, f5⟩ := law_facts hr (g0 := (g_B_load WB (ROL L) [.ref 38] h)) (hs := hs_load) (pM := fun m => p_M_load m ) (vM := fun m => v_M_load m ) (fun n m hr' => let q := load_both hr' ; ⟨q.1, q.2.1, gr_IU (hs := hs_load) (by decide +kernel) q.2.2 _ _⟩) hg
  refine am_Ev_call false (i := 140) (cd := dG 1 dL_load) (g := Lh (g_B_load WB (ROL L) [.ref 38] h) hs_load h) rfl rfl rfl rfl rfl (g1_le hg f4 hgb) (gB_le hg (by omega)) f1 rfl ?_
  show am_Ev m_law WL (ROL L) LPq (812, LSq i (.retAddr 0) (.retAddr 0), [.int (LkC (g_B_load WB (ROL L) [.ref 38] h) hs_load)], g_hp (Lh (g_B_load WB (ROL L) [.ref 38] h) hs_load h))
  obtain ⟨H1, hH1⟩ : ∃ H1, g_hp (Lh (g_B_load WB (ROL L) [.ref 38] h) hs_load h) = H1 := ⟨_, rfl⟩
  obtain ⟨K, hK⟩ : ∃ K, LkC (g_B_load WB (ROL L) [.ref 38] h) hs_load = K := ⟨_, rfl⟩
  rw [hH1] at f2 f3 f4 f5 ⊢
  rw [hK] at f5 ⊢
  obtain ⟨H2, hH2⟩ : ∃ H2, am_push plM H1 (v_M_load (am_pull plM H1) ).2 = H2 := ⟨_, rfl⟩
  obtain ⟨x1, x2, x3, x4⟩ := f5 H2 hH2.symm
  refine am_Ev_G [815] 400 _ ?_
  show am_Ev m_law WL (ROL L) LPq (815, LSq i (.int K) (.retAddr 0), [.ref 135], H1)
  refine am_Ev_call true (i := 143) (cd := dPl plM 0 WM (d_M_load 16)) (g := gP plM (g_M_load WM (ROL L) [.ref 0] (am_pull plM H1)) H1) rfl rfl rfl (gPl_M rfl) rfl (g0_le ?_) (gB_le f4 (by omega)) f2 rfl ?_
  · show (am_push plM H1 (v_M_load (am_pull plM H1) ).2).1 2000 0 = _
    rw [hH2, x1, f4]
  show am_Ev m_law WL (ROL L) LPq (818, LSq i (.int K) (.retAddr 0), [.int (v_M_load (am_pull plM H1) ).1], am_push plM H1 (v_M_load (am_pull plM H1) ).2)
  obtain ⟨b, hb⟩ : ∃ b, (v_M_load (am_pull plM H1) ).1 = b := ⟨_, rfl⟩
  rw [hH2, hb]
  refine am_Ev_G [821] 400 _ ?_
  show am_Ev m_law WL (ROL L) LPq (821, LSq i (.int K) (.int b), [.ref 135], H2)
  refine am_Ev_call true (i := 99) (cd := dPl plM 0 WM (d_M_thrown 16)) (g := gP plM (g_M_thrown WM (ROL L) [.ref 0] (am_pull plM H2)) H2) rfl rfl rfl (gPl_M rfl) rfl (g0_le ?_) (gB_le x1 (by omega)) trivial rfl ?_
  · show (am_push plM H2 (am_pull plM H2)).1 2000 0 = _
    rw [pushM_pull]
  show am_Ev m_law WL (ROL L) LPq (824, LSq i (.int K) (.int b), [.int ((am_pull plM H2).1 0 8)], am_push plM H2 (am_pull plM H2))
  rw [pushM_pull, x3]
  refine am_Ev_G [1754] 400 _ ?_
  have hE : am_Ev m_law WL (ROL L) LPq (1754, LSq i (.int K) (.int b), [], H2) := hn.at x2 x1 (Nat.le_refl _) _ _
  show (K = K → ((¬ K = 0 → am_Ev m_law WL (ROL L) LPq (1754, LSq i (.int K) (.int b), [], H2)) ∧ (K = 0 → (am_in 0 1 ∧ ((lg_cmp (H2.2 145 (am_ix 0)) b.toInt64 = 0 → am_Ev m_law WL (ROL L) LPq (1754, LSq i (.int K) (.int b), [], H2)) ∧ (¬ lg_cmp (H2.2 145 (am_ix 0)) b.toInt64 = 0 → (((0 : Int32) = 0 ∨ (0 : Int32) = 1) ∧ LPq (.inl (some (.int 0))) H2))))))) ∧ (¬ K = K → (((0 : Int32) = 0 ∨ (0 : Int32) = 1) ∧ LPq (.inl (some (.int 0))) H2))
  refine ⟨fun _ => ⟨fun _ => hE, fun h0 => ⟨in0, fun _ => hE, fun z => absurd ?_ z⟩⟩, fun z => absurd rfl z⟩
  rw [ix0, x4 h0, ← hb]
  exact lg_self _
set_option maxRecDepth 100000 in
theorem lc_keep {L i g : Nat} (hL : L ≤ 3072) (hi : i + 6 ≤ L) {h : HP} (hr : LR h) (hg : h.1 2000 0 = nI g) (hgb : g < 1000) (hn : Nx L i g) : am_Ev m_law WL (ROL L) LPq (851, LSq i (.retAddr 0) (.retAddr 0), [], h) := by
  have hin : ∀ j, j < 6 → am_in (nI i + nI j) L := fun j hj => by rw [nI_add]; exact nI_am (by omega) (by omega)
  refine am_Ev_G [859] 400 _ ?_
  show (am_in (nI i + 1) L ∧ am_Ev m_law WL (ROL L) LPq (859, LSq i (.retAddr 0) (.retAddr 0), [.ref 145, .int (h.1 1005 (am_ix (nI i + 1))), .ref 38], h))
  refine ⟨hin 1 (by omega), ?_⟩
  obtain ⟨a1, e1⟩ : ∃ a, h.1 1005 (am_ix (nI i + 1)) = a := ⟨_, rfl⟩
  rw [e1]
  obtain ⟨f1, f2, f3, f4, f5⟩ := law_facts hr (g0 := (g_B_keep WB (ROL L) [.ref 38, .int a1] h)) (hs := hs_keep) (pM := fun m => p_M_keep m a1) (vM := fun m => v_M_keep m a1) (fun n m hr' => let q := keep_both hr' a1; ⟨q.1, q.2.1, gr_IW (hs := hs_keep) (by decide +kernel) q.2.2 _ _⟩) hg
  refine am_Ev_call false (i := 144) (cd := dG 1 dL_keep) (g := Lh (g_B_keep WB (ROL L) [.ref 38, .int a1] h) hs_keep h) rfl rfl rfl rfl rfl (g1_le hg f4 hgb) (gB_le hg (by omega)) f1 rfl ?_
  show am_Ev m_law WL (ROL L) LPq (862, LSq i (.retAddr 0) (.retAddr 0), [.int (LkC (g_B_keep WB (ROL L) [.ref 38, .int a1] h) hs_keep)], g_hp (Lh (g_B_keep WB (ROL L) [.ref 38, .int a1] h) hs_keep h))
  obtain ⟨H1, hH1⟩ : ∃ H1, g_hp (Lh (g_B_keep WB (ROL L) [.ref 38, .int a1] h) hs_keep h) = H1 := ⟨_, rfl⟩
  obtain ⟨K, hK⟩ : ∃ K, LkC (g_B_keep WB (ROL L) [.ref 38, .int a1] h) hs_keep = K := ⟨_, rfl⟩
  rw [hH1] at f2 f3 f4 f5 ⊢
  rw [hK] at f5 ⊢
  obtain ⟨H2, hH2⟩ : ∃ H2, am_push plM H1 (v_M_keep (am_pull plM H1) a1).2 = H2 := ⟨_, rfl⟩
  obtain ⟨x1, x2, x3, x4⟩ := f5 H2 hH2.symm
  refine am_Ev_G [871] 400 _ ?_
  show (am_in (nI i + 1) L ∧ am_Ev m_law WL (ROL L) LPq (871, LSq i (.int K) (.retAddr 0), [.int (H1.1 1005 (am_ix (nI i + 1))), .ref 135], H1))
  refine ⟨hin 1 (by omega), ?_⟩
  rw [f3, e1]
  refine am_Ev_call true (i := 146) (cd := dPl plM 0 WM (d_M_keep 16)) (g := gP plM (g_M_keep WM (ROL L) [.ref 0, .int a1] (am_pull plM H1)) H1) rfl rfl rfl (gPl_M rfl) rfl (g0_le ?_) (gB_le f4 (by omega)) f2 rfl ?_
  · show (am_push plM H1 (v_M_keep (am_pull plM H1) a1).2).1 2000 0 = _
    rw [hH2, x1, f4]
  show am_Ev m_law WL (ROL L) LPq (874, LSq i (.int K) (.retAddr 0), [.int (v_M_keep (am_pull plM H1) a1).1], am_push plM H1 (v_M_keep (am_pull plM H1) a1).2)
  obtain ⟨b, hb⟩ : ∃ b, (v_M_keep (am_pull plM H1) a1).1 = b := ⟨_, rfl⟩
  rw [hH2, hb]
  refine am_Ev_G [877] 400 _ ?_
  show am_Ev m_law WL (ROL L) LPq (877, LSq i (.int K) (.int b), [.ref 135], H2)
  refine am_Ev_call true (i := 99) (cd := dPl plM 0 WM (d_M_thrown 16)) (g := gP plM (g_M_thrown WM (ROL L) [.ref 0] (am_pull plM H2)) H2) rfl rfl rfl (gPl_M rfl) rfl (g0_le ?_) (gB_le x1 (by omega)) trivial rfl ?_
  · show (am_push plM H2 (am_pull plM H2)).1 2000 0 = _
    rw [pushM_pull]
  show am_Ev m_law WL (ROL L) LPq (880, LSq i (.int K) (.int b), [.int ((am_pull plM H2).1 0 8)], am_push plM H2 (am_pull plM H2))
  rw [pushM_pull, x3]
  refine am_Ev_G [1754] 400 _ ?_
  have hE : am_Ev m_law WL (ROL L) LPq (1754, LSq i (.int K) (.int b), [], H2) := hn.at x2 x1 (Nat.le_refl _) _ _
  show (K = K → ((¬ K = 0 → am_Ev m_law WL (ROL L) LPq (1754, LSq i (.int K) (.int b), [], H2)) ∧ (K = 0 → (am_in 0 1 ∧ ((lg_cmp (H2.2 145 (am_ix 0)) b.toInt64 = 0 → am_Ev m_law WL (ROL L) LPq (1754, LSq i (.int K) (.int b), [], H2)) ∧ (¬ lg_cmp (H2.2 145 (am_ix 0)) b.toInt64 = 0 → (((0 : Int32) = 0 ∨ (0 : Int32) = 1) ∧ LPq (.inl (some (.int 0))) H2))))))) ∧ (¬ K = K → (((0 : Int32) = 0 ∨ (0 : Int32) = 1) ∧ LPq (.inl (some (.int 0))) H2))
  refine ⟨fun _ => ⟨fun _ => hE, fun h0 => ⟨in0, fun _ => hE, fun z => absurd ?_ z⟩⟩, fun z => absurd rfl z⟩
  rw [ix0, x4 h0, ← hb]
  exact lg_self _
set_option maxRecDepth 100000 in
theorem lc_goBack {L i g : Nat} (hL : L ≤ 3072) (hi : i + 6 ≤ L) {h : HP} (hr : LR h) (hg : h.1 2000 0 = nI g) (hgb : g < 1000) (hn : Nx L i g) : am_Ev m_law WL (ROL L) LPq (907, LSq i (.retAddr 0) (.retAddr 0), [], h) := by
  have hin : ∀ j, j < 6 → am_in (nI i + nI j) L := fun j hj => by rw [nI_add]; exact nI_am (by omega) (by omega)
  refine am_Ev_G [915] 400 _ ?_
  show (am_in (nI i + 1) L ∧ am_Ev m_law WL (ROL L) LPq (915, LSq i (.retAddr 0) (.retAddr 0), [.ref 145, .int (h.1 1005 (am_ix (nI i + 1))), .ref 38], h))
  refine ⟨hin 1 (by omega), ?_⟩
  obtain ⟨a1, e1⟩ : ∃ a, h.1 1005 (am_ix (nI i + 1)) = a := ⟨_, rfl⟩
  rw [e1]
  obtain ⟨f1, f2, f3, f4, f5⟩ := law_facts hr (g0 := (g_B_goBack WB (ROL L) [.ref 38, .int a1] h)) (hs := hs_goBack) (pM := fun m => p_M_goBack m a1) (vM := fun m => v_M_goBack m a1) (fun n m hr' => let q := goBack_both hr' a1; ⟨q.1, q.2.1, gr_IW (hs := hs_goBack) (by decide +kernel) q.2.2 _ _⟩) hg
  refine am_Ev_call false (i := 147) (cd := dG 1 dL_goBack) (g := Lh (g_B_goBack WB (ROL L) [.ref 38, .int a1] h) hs_goBack h) rfl rfl rfl rfl rfl (g1_le hg f4 hgb) (gB_le hg (by omega)) f1 rfl ?_
  show am_Ev m_law WL (ROL L) LPq (918, LSq i (.retAddr 0) (.retAddr 0), [.int (LkC (g_B_goBack WB (ROL L) [.ref 38, .int a1] h) hs_goBack)], g_hp (Lh (g_B_goBack WB (ROL L) [.ref 38, .int a1] h) hs_goBack h))
  obtain ⟨H1, hH1⟩ : ∃ H1, g_hp (Lh (g_B_goBack WB (ROL L) [.ref 38, .int a1] h) hs_goBack h) = H1 := ⟨_, rfl⟩
  obtain ⟨K, hK⟩ : ∃ K, LkC (g_B_goBack WB (ROL L) [.ref 38, .int a1] h) hs_goBack = K := ⟨_, rfl⟩
  rw [hH1] at f2 f3 f4 f5 ⊢
  rw [hK] at f5 ⊢
  obtain ⟨H2, hH2⟩ : ∃ H2, am_push plM H1 (v_M_goBack (am_pull plM H1) a1).2 = H2 := ⟨_, rfl⟩
  obtain ⟨x1, x2, x3, x4⟩ := f5 H2 hH2.symm
  refine am_Ev_G [927] 400 _ ?_
  show (am_in (nI i + 1) L ∧ am_Ev m_law WL (ROL L) LPq (927, LSq i (.int K) (.retAddr 0), [.int (H1.1 1005 (am_ix (nI i + 1))), .ref 135], H1))
  refine ⟨hin 1 (by omega), ?_⟩
  rw [f3, e1]
  refine am_Ev_call true (i := 149) (cd := dPl plM 0 WM (d_M_goBack 16)) (g := gP plM (g_M_goBack WM (ROL L) [.ref 0, .int a1] (am_pull plM H1)) H1) rfl rfl rfl (gPl_M rfl) rfl (g0_le ?_) (gB_le f4 (by omega)) f2 rfl ?_
  · show (am_push plM H1 (v_M_goBack (am_pull plM H1) a1).2).1 2000 0 = _
    rw [hH2, x1, f4]
  show am_Ev m_law WL (ROL L) LPq (930, LSq i (.int K) (.retAddr 0), [.int (v_M_goBack (am_pull plM H1) a1).1], am_push plM H1 (v_M_goBack (am_pull plM H1) a1).2)
  obtain ⟨b, hb⟩ : ∃ b, (v_M_goBack (am_pull plM H1) a1).1 = b := ⟨_, rfl⟩
  rw [hH2, hb]
  refine am_Ev_G [933] 400 _ ?_
  show am_Ev m_law WL (ROL L) LPq (933, LSq i (.int K) (.int b), [.ref 135], H2)
  refine am_Ev_call true (i := 99) (cd := dPl plM 0 WM (d_M_thrown 16)) (g := gP plM (g_M_thrown WM (ROL L) [.ref 0] (am_pull plM H2)) H2) rfl rfl rfl (gPl_M rfl) rfl (g0_le ?_) (gB_le x1 (by omega)) trivial rfl ?_
  · show (am_push plM H2 (am_pull plM H2)).1 2000 0 = _
    rw [pushM_pull]
  show am_Ev m_law WL (ROL L) LPq (936, LSq i (.int K) (.int b), [.int ((am_pull plM H2).1 0 8)], am_push plM H2 (am_pull plM H2))
  rw [pushM_pull, x3]
  refine am_Ev_G [1754] 400 _ ?_
  have hE : am_Ev m_law WL (ROL L) LPq (1754, LSq i (.int K) (.int b), [], H2) := hn.at x2 x1 (Nat.le_refl _) _ _
  show (K = K → ((¬ K = 0 → am_Ev m_law WL (ROL L) LPq (1754, LSq i (.int K) (.int b), [], H2)) ∧ (K = 0 → (am_in 0 1 ∧ ((lg_cmp (H2.2 145 (am_ix 0)) b.toInt64 = 0 → am_Ev m_law WL (ROL L) LPq (1754, LSq i (.int K) (.int b), [], H2)) ∧ (¬ lg_cmp (H2.2 145 (am_ix 0)) b.toInt64 = 0 → (((0 : Int32) = 0 ∨ (0 : Int32) = 1) ∧ LPq (.inl (some (.int 0))) H2))))))) ∧ (¬ K = K → (((0 : Int32) = 0 ∨ (0 : Int32) = 1) ∧ LPq (.inl (some (.int 0))) H2))
  refine ⟨fun _ => ⟨fun _ => hE, fun h0 => ⟨in0, fun _ => hE, fun z => absurd ?_ z⟩⟩, fun z => absurd rfl z⟩
  rw [ix0, x4 h0, ← hb]
  exact lg_self _
