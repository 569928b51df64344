/-! THE LAW'S CASES, further on. -/
set_option maxRecDepth 100000 in
theorem lc_undo {L i g : Nat} (hL : L ≤ 3072) (hi : i + 6 ≤ L) {h : HP} (hr : LR h) (hg : h.1 2000 0 = nI g) (hgb : g < 1000) (hn : Nx L i g) : am_Ev m_law WL (ROL L) LPq (963, LSq i (.retAddr 0) (.retAddr 0), [], h) := by
  have hin : ∀ j, j < 6 → am_in (nI i + nI j) L := fun j hj => by rw [nI_add]; exact nI_am (by omega) (by omega)
  refine am_Ev_G [965] 400 _ ?_
  show am_Ev m_law WL (ROL L) LPq (965, LSq i (.retAddr 0) (.retAddr 0), [.ref 145, .ref 38], h)
  obtain ⟨f1, f2, f3, f4, f5⟩ := law_facts hr (g0 := (g_B_undo WB (ROL L) [.ref 38] h)) (hs := hs_undo) (pM := fun m => p_M_undo m ) (vM := fun m => v_M_undo m ) (fun n m hr' => let q := undo_both hr' ; ⟨q.1, q.2.1, gr_IW (hs := hs_undo) (by decide +kernel) q.2.2 _ _⟩) hg
  refine am_Ev_call false (i := 150) (cd := dG 1 dL_undo) (g := Lh (g_B_undo WB (ROL L) [.ref 38] h) hs_undo h) rfl rfl rfl rfl rfl (g1_le hg f4 hgb) (gB_le hg (by omega)) f1 rfl ?_
  show am_Ev m_law WL (ROL L) LPq (968, LSq i (.retAddr 0) (.retAddr 0), [.int (LkC (g_B_undo WB (ROL L) [.ref 38] h) hs_undo)], g_hp (Lh (g_B_undo WB (ROL L) [.ref 38] h) hs_undo h))
  obtain ⟨H1, hH1⟩ : ∃ H1, g_hp (Lh (g_B_undo WB (ROL L) [.ref 38] h) hs_undo h) = H1 := ⟨_, rfl⟩
  obtain ⟨K, hK⟩ : ∃ K, LkC (g_B_undo WB (ROL L) [.ref 38] h) hs_undo = K := ⟨_, rfl⟩
  rw [hH1] at f2 f3 f4 f5 ⊢
  rw [hK] at f5 ⊢
  obtain ⟨H2, hH2⟩ : ∃ H2, am_push plM H1 (v_M_undo (am_pull plM H1) ).2 = H2 := ⟨_, rfl⟩
  obtain ⟨x1, x2, x3, x4⟩ := f5 H2 hH2.symm
  refine am_Ev_G [971] 400 _ ?_
  show am_Ev m_law WL (ROL L) LPq (971, LSq i (.int K) (.retAddr 0), [.ref 135], H1)
  refine am_Ev_call true (i := 152) (cd := dPl plM 0 WM (d_M_undo 16)) (g := gP plM (g_M_undo WM (ROL L) [.ref 0] (am_pull plM H1)) H1) rfl rfl rfl (gPl_M rfl) rfl (g0_le ?_) (gB_le f4 (by omega)) f2 rfl ?_
  · show (am_push plM H1 (v_M_undo (am_pull plM H1) ).2).1 2000 0 = _
    rw [hH2, x1, f4]
  show am_Ev m_law WL (ROL L) LPq (974, LSq i (.int K) (.retAddr 0), [.int (v_M_undo (am_pull plM H1) ).1], am_push plM H1 (v_M_undo (am_pull plM H1) ).2)
  obtain ⟨b, hb⟩ : ∃ b, (v_M_undo (am_pull plM H1) ).1 = b := ⟨_, rfl⟩
  rw [hH2, hb]
  refine am_Ev_G [977] 400 _ ?_
  show am_Ev m_law WL (ROL L) LPq (977, LSq i (.int K) (.int b), [.ref 135], H2)
  refine am_Ev_call true (i := 99) (cd := dPl plM 0 WM (d_M_thrown 16)) (g := gP plM (g_M_thrown WM (ROL L) [.ref 0] (am_pull plM H2)) H2) rfl rfl rfl (gPl_M rfl) rfl (g0_le ?_) (gB_le x1 (by omega)) trivial rfl ?_
  · show (am_push plM H2 (am_pull plM H2)).1 2000 0 = _
    rw [pushM_pull]
  show am_Ev m_law WL (ROL L) LPq (980, LSq i (.int K) (.int b), [.int ((am_pull plM H2).1 0 8)], am_push plM H2 (am_pull plM H2))
  rw [pushM_pull, x3]
  refine am_Ev_G [1754] 400 _ ?_
  have hE : am_Ev m_law WL (ROL L) LPq (1754, LSq i (.int K) (.int b), [], H2) := hn.at x2 x1 (Nat.le_refl _) _ _
  show (K = K → ((¬ K = 0 → am_Ev m_law WL (ROL L) LPq (1754, LSq i (.int K) (.int b), [], H2)) ∧ (K = 0 → (am_in 0 1 ∧ ((lg_cmp (H2.2 145 (am_ix 0)) b.toInt64 = 0 → am_Ev m_law WL (ROL L) LPq (1754, LSq i (.int K) (.int b), [], H2)) ∧ (¬ lg_cmp (H2.2 145 (am_ix 0)) b.toInt64 = 0 → (((0 : Int32) = 0 ∨ (0 : Int32) = 1) ∧ LPq (.inl (some (.int 0))) H2))))))) ∧ (¬ K = K → (((0 : Int32) = 0 ∨ (0 : Int32) = 1) ∧ LPq (.inl (some (.int 0))) H2))
  refine ⟨fun _ => ⟨fun _ => hE, fun h0 => ⟨in0, fun _ => hE, fun z => absurd ?_ z⟩⟩, fun z => absurd rfl z⟩
  rw [ix0, x4 h0, ← hb]
  exact lg_self _
set_option maxRecDepth 100000 in
theorem lc_terminalOf {L i g : Nat} (hL : L ≤ 3072) (hi : i + 6 ≤ L) {h : HP} (hr : LR h) (hg : h.1 2000 0 = nI g) (hgb : g < 1000) (hn : Nx L i g) : am_Ev m_law WL (ROL L) LPq (1007, LSq i (.retAddr 0) (.retAddr 0), [], h) := by
  have hin : ∀ j, j < 6 → am_in (nI i + nI j) L := fun j hj => by rw [nI_add]; exact nI_am (by omega) (by omega)
  refine am_Ev_G [1021] 400 _ ?_
  show (am_in (nI i + 1) L ∧ (am_in (nI i + 2) L ∧ am_Ev m_law WL (ROL L) LPq (1021, LSq i (.retAddr 0) (.retAddr 0), [.ref 145, .int (h.1 1005 (am_ix (nI i + 2))), .int (h.1 1005 (am_ix (nI i + 1))), .ref 38], h)))
  refine ⟨hin 1 (by omega), hin 2 (by omega), ?_⟩
  obtain ⟨a1, e1⟩ : ∃ a, h.1 1005 (am_ix (nI i + 1)) = a := ⟨_, rfl⟩
  obtain ⟨a2, e2⟩ : ∃ a, h.1 1005 (am_ix (nI i + 2)) = a := ⟨_, rfl⟩
  rw [e1, e2]
  obtain ⟨f1, f2, f3, f4, f5⟩ := law_facts hr (g0 := (g_B_terminalOf WB (ROL L) [.ref 38, .int a1, .int a2] h)) (hs := hs_terminalOf) (pM := fun m => p_M_terminalOf m a1 a2) (vM := fun m => v_M_terminalOf m a1 a2) (fun n m hr' => let q := terminalOf_both hr' a1 a2; ⟨q.1, q.2.1, gr_IW (hs := hs_terminalOf) (by decide +kernel) q.2.2 _ _⟩) hg
  refine am_Ev_call false (i := 153) (cd := dG 1 dL_terminalOf) (g := Lh (g_B_terminalOf WB (ROL L) [.ref 38, .int a1, .int a2] h) hs_terminalOf h) rfl rfl rfl rfl rfl (g1_le hg f4 hgb) (gB_le hg (by omega)) f1 rfl ?_
  show am_Ev m_law WL (ROL L) LPq (1024, LSq i (.retAddr 0) (.retAddr 0), [.int (LkC (g_B_terminalOf WB (ROL L) [.ref 38, .int a1, .int a2] h) hs_terminalOf)], g_hp (Lh (g_B_terminalOf WB (ROL L) [.ref 38, .int a1, .int a2] h) hs_terminalOf h))
  obtain ⟨H1, hH1⟩ : ∃ H1, g_hp (Lh (g_B_terminalOf WB (ROL L) [.ref 38, .int a1, .int a2] h) hs_terminalOf h) = H1 := ⟨_, rfl⟩
  obtain ⟨K, hK⟩ : ∃ K, LkC (g_B_terminalOf WB (ROL L) [.ref 38, .int a1, .int a2] h) hs_terminalOf = K := ⟨_, rfl⟩
  rw [hH1] at f2 f3 f4 f5 ⊢
  rw [hK] at f5 ⊢
  obtain ⟨H2, hH2⟩ : ∃ H2, am_push plM H1 (v_M_terminalOf (am_pull plM H1) a1 a2).2 = H2 := ⟨_, rfl⟩
  obtain ⟨x1, x2, x3, x4⟩ := f5 H2 hH2.symm
  refine am_Ev_G [1039] 400 _ ?_
  show (am_in (nI i + 1) L ∧ (am_in (nI i + 2) L ∧ am_Ev m_law WL (ROL L) LPq (1039, LSq i (.int K) (.retAddr 0), [.int (H1.1 1005 (am_ix (nI i + 2))), .int (H1.1 1005 (am_ix (nI i + 1))), .ref 135], H1)))
  refine ⟨hin 1 (by omega), hin 2 (by omega), ?_⟩
  rw [f3, e1, e2]
  refine am_Ev_call true (i := 155) (cd := dPl plM 0 WM (d_M_terminalOf 16)) (g := gP plM (g_M_terminalOf WM (ROL L) [.ref 0, .int a1, .int a2] (am_pull plM H1)) H1) rfl rfl rfl (gPl_M rfl) rfl (g0_le ?_) (gB_le f4 (by omega)) f2 rfl ?_
  · show (am_push plM H1 (v_M_terminalOf (am_pull plM H1) a1 a2).2).1 2000 0 = _
    rw [hH2, x1, f4]
  show am_Ev m_law WL (ROL L) LPq (1042, LSq i (.int K) (.retAddr 0), [.int (v_M_terminalOf (am_pull plM H1) a1 a2).1], am_push plM H1 (v_M_terminalOf (am_pull plM H1) a1 a2).2)
  obtain ⟨b, hb⟩ : ∃ b, (v_M_terminalOf (am_pull plM H1) a1 a2).1 = b := ⟨_, rfl⟩
  rw [hH2, hb]
  refine am_Ev_G [1045] 400 _ ?_
  show am_Ev m_law WL (ROL L) LPq (1045, LSq i (.int K) (.int b), [.ref 135], H2)
  refine am_Ev_call true (i := 99) (cd := dPl plM 0 WM (d_M_thrown 16)) (g := gP plM (g_M_thrown WM (ROL L) [.ref 0] (am_pull plM H2)) H2) rfl rfl rfl (gPl_M rfl) rfl (g0_le ?_) (gB_le x1 (by omega)) trivial rfl ?_
  · show (am_push plM H2 (am_pull plM H2)).1 2000 0 = _
    rw [pushM_pull]
  show am_Ev m_law WL (ROL L) LPq (1048, LSq i (.int K) (.int b), [.int ((am_pull plM H2).1 0 8)], am_push plM H2 (am_pull plM H2))
  rw [pushM_pull, x3]
  refine am_Ev_G [1754] 400 _ ?_
  have hE : am_Ev m_law WL (ROL L) LPq (1754, LSq i (.int K) (.int b), [], H2) := hn.at x2 x1 (Nat.le_refl _) _ _
  show (K = K → ((¬ K = 0 → am_Ev m_law WL (ROL L) LPq (1754, LSq i (.int K) (.int b), [], H2)) ∧ (K = 0 → (am_in 0 1 ∧ ((lg_cmp (H2.2 145 (am_ix 0)) b.toInt64 = 0 → am_Ev m_law WL (ROL L) LPq (1754, LSq i (.int K) (.int b), [], H2)) ∧ (¬ lg_cmp (H2.2 145 (am_ix 0)) b.toInt64 = 0 → (((0 : Int32) = 0 ∨ (0 : Int32) = 1) ∧ LPq (.inl (some (.int 0))) H2))))))) ∧ (¬ K = K → (((0 : Int32) = 0 ∨ (0 : Int32) = 1) ∧ LPq (.inl (some (.int 0))) H2))
  refine ⟨fun _ => ⟨fun _ => hE, fun h0 => ⟨in0, fun _ => hE, fun z => absurd ?_ z⟩⟩, fun z => absurd rfl z⟩
  rw [ix0, x4 h0, ← hb]
  exact lg_self _
set_option maxRecDepth 100000 in
theorem lc_tripOf {L i g : Nat} (hL : L ≤ 3072) (hi : i + 6 ≤ L) {h : HP} (hr : LR h) (hg : h.1 2000 0 = nI g) (hgb : g < 1000) (hn : Nx L i g) : am_Ev m_law WL (ROL L) LPq (1075, LSq i (.retAddr 0) (.retAddr 0), [], h) := by
  have hin : ∀ j, j < 6 → am_in (nI i + nI j) L := fun j hj => by rw [nI_add]; exact nI_am (by omega) (by omega)
  refine am_Ev_G [1089] 400 _ ?_
  show (am_in (nI i + 1) L ∧ (am_in (nI i + 2) L ∧ am_Ev m_law WL (ROL L) LPq (1089, LSq i (.retAddr 0) (.retAddr 0), [.ref 145, .int (h.1 1005 (am_ix (nI i + 2))), .int (h.1 1005 (am_ix (nI i + 1))), .ref 38], h)))
  refine ⟨hin 1 (by omega), hin 2 (by omega), ?_⟩
  obtain ⟨a1, e1⟩ : ∃ a, h.1 1005 (am_ix (nI i + 1)) = a := ⟨_, rfl⟩
  obtain ⟨a2, e2⟩ : ∃ a, h.1 1005 (am_ix (nI i + 2)) = a := ⟨_, rfl⟩
  rw [e1, e2]
  obtain ⟨f1, f2, f3, f4, f5⟩ := law_facts hr (g0 := (g_B_tripOf WB (ROL L) [.ref 38, .int a1, .int a2] h)) (hs := hs_tripOf) (pM := fun m => p_M_tripOf m a1 a2) (vM := fun m => v_M_tripOf m a1 a2) (fun n m hr' => let q := tripOf_both hr' a1 a2; ⟨q.1, q.2.1, gr_I (hs := hs_tripOf) (by decide +kernel) q.2.2 _ _⟩) hg
  refine am_Ev_call false (i := 156) (cd := dG 1 dL_tripOf) (g := Lh (g_B_tripOf WB (ROL L) [.ref 38, .int a1, .int a2] h) hs_tripOf h) rfl rfl rfl rfl rfl (g1_le hg f4 hgb) (gB_le hg (by omega)) f1 rfl ?_
  show am_Ev m_law WL (ROL L) LPq (1092, LSq i (.retAddr 0) (.retAddr 0), [.int (LkC (g_B_tripOf WB (ROL L) [.ref 38, .int a1, .int a2] h) hs_tripOf)], g_hp (Lh (g_B_tripOf WB (ROL L) [.ref 38, .int a1, .int a2] h) hs_tripOf h))
  obtain ⟨H1, hH1⟩ : ∃ H1, g_hp (Lh (g_B_tripOf WB (ROL L) [.ref 38, .int a1, .int a2] h) hs_tripOf h) = H1 := ⟨_, rfl⟩
  obtain ⟨K, hK⟩ : ∃ K, LkC (g_B_tripOf WB (ROL L) [.ref 38, .int a1, .int a2] h) hs_tripOf = K := ⟨_, rfl⟩
  rw [hH1] at f2 f3 f4 f5 ⊢
  rw [hK] at f5 ⊢
  obtain ⟨H2, hH2⟩ : ∃ H2, am_push plM H1 (v_M_tripOf (am_pull plM H1) a1 a2).2 = H2 := ⟨_, rfl⟩
  obtain ⟨x1, x2, x3, x4⟩ := f5 H2 hH2.symm
  refine am_Ev_G [1107] 400 _ ?_
  show (am_in (nI i + 1) L ∧ (am_in (nI i + 2) L ∧ am_Ev m_law WL (ROL L) LPq (1107, LSq i (.int K) (.retAddr 0), [.int (H1.1 1005 (am_ix (nI i + 2))), .int (H1.1 1005 (am_ix (nI i + 1))), .ref 135], H1)))
  refine ⟨hin 1 (by omega), hin 2 (by omega), ?_⟩
  rw [f3, e1, e2]
  refine am_Ev_call true (i := 158) (cd := dPl plM 0 WM (d_M_tripOf 16)) (g := gP plM (g_M_tripOf WM (ROL L) [.ref 0, .int a1, .int a2] (am_pull plM H1)) H1) rfl rfl rfl (gPl_M rfl) rfl (g0_le ?_) (gB_le f4 (by omega)) f2 rfl ?_
  · show (am_push plM H1 (v_M_tripOf (am_pull plM H1) a1 a2).2).1 2000 0 = _
    rw [hH2, x1, f4]
  show am_Ev m_law WL (ROL L) LPq (1110, LSq i (.int K) (.retAddr 0), [.int (v_M_tripOf (am_pull plM H1) a1 a2).1], am_push plM H1 (v_M_tripOf (am_pull plM H1) a1 a2).2)
  obtain ⟨b, hb⟩ : ∃ b, (v_M_tripOf (am_pull plM H1) a1 a2).1 = b := ⟨_, rfl⟩
  rw [hH2, hb]
  refine am_Ev_G [1113] 400 _ ?_
  show am_Ev m_law WL (ROL L) LPq (1113, LSq i (.int K) (.int b), [.ref 135], H2)
  refine am_Ev_call true (i := 99) (cd := dPl plM 0 WM (d_M_thrown 16)) (g := gP plM (g_M_thrown WM (ROL L) [.ref 0] (am_pull plM H2)) H2) rfl rfl rfl (gPl_M rfl) rfl (g0_le ?_) (gB_le x1 (by omega)) trivial rfl ?_
  · show (am_push plM H2 (am_pull plM H2)).1 2000 0 = _
    rw [pushM_pull]
  show am_Ev m_law WL (ROL L) LPq (1116, LSq i (.int K) (.int b), [.int ((am_pull plM H2).1 0 8)], am_push plM H2 (am_pull plM H2))
  rw [pushM_pull, x3]
  refine am_Ev_G [1754] 400 _ ?_
  have hE : am_Ev m_law WL (ROL L) LPq (1754, LSq i (.int K) (.int b), [], H2) := hn.at x2 x1 (Nat.le_refl _) _ _
  show (K = K → ((¬ K = 0 → am_Ev m_law WL (ROL L) LPq (1754, LSq i (.int K) (.int b), [], H2)) ∧ (K = 0 → (am_in 0 1 ∧ ((lg_cmp (H2.2 145 (am_ix 0)) b.toInt64 = 0 → am_Ev m_law WL (ROL L) LPq (1754, LSq i (.int K) (.int b), [], H2)) ∧ (¬ lg_cmp (H2.2 145 (am_ix 0)) b.toInt64 = 0 → (((0 : Int32) = 0 ∨ (0 : Int32) = 1) ∧ LPq (.inl (some (.int 0))) H2))))))) ∧ (¬ K = K → (((0 : Int32) = 0 ∨ (0 : Int32) = 1) ∧ LPq (.inl (some (.int 0))) H2))
  refine ⟨fun _ => ⟨fun _ => hE, fun h0 => ⟨in0, fun _ => hE, fun z => absurd ?_ z⟩⟩, fun z => absurd rfl z⟩
  rw [ix0, x4 h0, ← hb]
  exact lg_self _
set_option maxRecDepth 100000 in
theorem lc_blockOf {L i g : Nat} (hL : L ≤ 3072) (hi : i + 6 ≤ L) {h : HP} (hr : LR h) (hg : h.1 2000 0 = nI g) (hgb : g < 1000) (hn : Nx L i g) : am_Ev m_law WL (ROL L) LPq (1143, LSq i (.retAddr 0) (.retAddr 0), [], h) := by
  have hin : ∀ j, j < 6 → am_in (nI i + nI j) L := fun j hj => by rw [nI_add]; exact nI_am (by omega) (by omega)
  refine am_Ev_G [1157] 400 _ ?_
  show (am_in (nI i + 1) L ∧ (am_in (nI i + 2) L ∧ am_Ev m_law WL (ROL L) LPq (1157, LSq i (.retAddr 0) (.retAddr 0), [.ref 145, .int (h.1 1005 (am_ix (nI i + 2))), .int (h.1 1005 (am_ix (nI i + 1))), .ref 38], h)))
  refine ⟨hin 1 (by omega), hin 2 (by omega), ?_⟩
  obtain ⟨a1, e1⟩ : ∃ a, h.1 1005 (am_ix (nI i + 1)) = a := ⟨_, rfl⟩
  obtain ⟨a2, e2⟩ : ∃ a, h.1 1005 (am_ix (nI i + 2)) = a := ⟨_, rfl⟩
  rw [e1, e2]
  obtain ⟨f1, f2, f3, f4, f5⟩ := law_facts hr (g0 := (g_B_blockOf WB (ROL L) [.ref 38, .int a1, .int a2] h)) (hs := hs_blockOf) (pM := fun m => p_M_blockOf m a1 a2) (vM := fun m => v_M_blockOf m a1 a2) (fun n m hr' => let q := blockOf_both hr' a1 a2; ⟨q.1, q.2.1, gr_IW (hs := hs_blockOf) (by decide +kernel) q.2.2 _ _⟩) hg
  refine am_Ev_call false (i := 159) (cd := dG 1 dL_blockOf) (g := Lh (g_B_blockOf WB (ROL L) [.ref 38, .int a1, .int a2] h) hs_blockOf h) rfl rfl rfl rfl rfl (g1_le hg f4 hgb) (gB_le hg (by omega)) f1 rfl ?_
  show am_Ev m_law WL (ROL L) LPq (1160, LSq i (.retAddr 0) (.retAddr 0), [.int (LkC (g_B_blockOf WB (ROL L) [.ref 38, .int a1, .int a2] h) hs_blockOf)], g_hp (Lh (g_B_blockOf WB (ROL L) [.ref 38, .int a1, .int a2] h) hs_blockOf h))
  obtain ⟨H1, hH1⟩ : ∃ H1, g_hp (Lh (g_B_blockOf WB (ROL L) [.ref 38, .int a1, .int a2] h) hs_blockOf h) = H1 := ⟨_, rfl⟩
  obtain ⟨K, hK⟩ : ∃ K, LkC (g_B_blockOf WB (ROL L) [.ref 38, .int a1, .int a2] h) hs_blockOf = K := ⟨_, rfl⟩
  rw [hH1] at f2 f3 f4 f5 ⊢
  rw [hK] at f5 ⊢
  obtain ⟨H2, hH2⟩ : ∃ H2, am_push plM H1 (v_M_blockOf (am_pull plM H1) a1 a2).2 = H2 := ⟨_, rfl⟩
  obtain ⟨x1, x2, x3, x4⟩ := f5 H2 hH2.symm
  refine am_Ev_G [1175] 400 _ ?_
  show (am_in (nI i + 1) L ∧ (am_in (nI i + 2) L ∧ am_Ev m_law WL (ROL L) LPq (1175, LSq i (.int K) (.retAddr 0), [.int (H1.1 1005 (am_ix (nI i + 2))), .int (H1.1 1005 (am_ix (nI i + 1))), .ref 135], H1)))
  refine ⟨hin 1 (by omega), hin 2 (by omega), ?_⟩
  rw [f3, e1, e2]
  refine am_Ev_call true (i := 161) (cd := dPl plM 0 WM (d_M_blockOf 16)) (g := gP plM (g_M_blockOf WM (ROL L) [.ref 0, .int a1, .int a2] (am_pull plM H1)) H1) rfl rfl rfl (gPl_M rfl) rfl (g0_le ?_) (gB_le f4 (by omega)) f2 rfl ?_
  · show (am_push plM H1 (v_M_blockOf (am_pull plM H1) a1 a2).2).1 2000 0 = _
    rw [hH2, x1, f4]
  show am_Ev m_law WL (ROL L) LPq (1178, LSq i (.int K) (.retAddr 0), [.int (v_M_blockOf (am_pull plM H1) a1 a2).1], am_push plM H1 (v_M_blockOf (am_pull plM H1) a1 a2).2)
  obtain ⟨b, hb⟩ : ∃ b, (v_M_blockOf (am_pull plM H1) a1 a2).1 = b := ⟨_, rfl⟩
  rw [hH2, hb]
  refine am_Ev_G [1181] 400 _ ?_
  show am_Ev m_law WL (ROL L) LPq (1181, LSq i (.int K) (.int b), [.ref 135], H2)
  refine am_Ev_call true (i := 99) (cd := dPl plM 0 WM (d_M_thrown 16)) (g := gP plM (g_M_thrown WM (ROL L) [.ref 0] (am_pull plM H2)) H2) rfl rfl rfl (gPl_M rfl) rfl (g0_le ?_) (gB_le x1 (by omega)) trivial rfl ?_
  · show (am_push plM H2 (am_pull plM H2)).1 2000 0 = _
    rw [pushM_pull]
  show am_Ev m_law WL (ROL L) LPq (1184, LSq i (.int K) (.int b), [.int ((am_pull plM H2).1 0 8)], am_push plM H2 (am_pull plM H2))
  rw [pushM_pull, x3]
  refine am_Ev_G [1754] 400 _ ?_
  have hE : am_Ev m_law WL (ROL L) LPq (1754, LSq i (.int K) (.int b), [], H2) := hn.at x2 x1 (Nat.le_refl _) _ _
  show (K = K → ((¬ K = 0 → am_Ev m_law WL (ROL L) LPq (1754, LSq i (.int K) (.int b), [], H2)) ∧ (K = 0 → (am_in 0 1 ∧ ((lg_cmp (H2.2 145 (am_ix 0)) b.toInt64 = 0 → am_Ev m_law WL (ROL L) LPq (1754, LSq i (.int K) (.int b), [], H2)) ∧ (¬ lg_cmp (H2.2 145 (am_ix 0)) b.toInt64 = 0 → (((0 : Int32) = 0 ∨ (0 : Int32) = 1) ∧ LPq (.inl (some (.int 0))) H2))))))) ∧ (¬ K = K → (((0 : Int32) = 0 ∨ (0 : Int32) = 1) ∧ LPq (.inl (some (.int 0))) H2))
  refine ⟨fun _ => ⟨fun _ => hE, fun h0 => ⟨in0, fun _ => hE, fun z => absurd ?_ z⟩⟩, fun z => absurd rfl z⟩
  rw [ix0, x4 h0, ← hb]
  exact lg_self _
set_option maxRecDepth 100000 in
theorem lc_duty {L i g : Nat} (hL : L ≤ 3072) (hi : i + 6 ≤ L) {h : HP} (hr : LR h) (hg : h.1 2000 0 = nI g) (hgb : g < 1000) (hn : Nx L i g) : am_Ev m_law WL (ROL L) LPq (1211, LSq i (.retAddr 0) (.retAddr 0), [], h) := by
  have hin : ∀ j, j < 6 → am_in (nI i + nI j) L := fun j hj => by rw [nI_add]; exact nI_am (by omega) (by omega)
  refine am_Ev_G [1231] 400 _ ?_
  show (am_in (nI i + 1) L ∧ (am_in (nI i + 2) L ∧ (am_in (nI i + 3) L ∧ am_Ev m_law WL (ROL L) LPq (1231, LSq i (.retAddr 0) (.retAddr 0), [.ref 145, .int (h.1 1005 (am_ix (nI i + 3))), .int (h.1 1005 (am_ix (nI i + 2))), .int (h.1 1005 (am_ix (nI i + 1))), .ref 38], h))))
  refine ⟨hin 1 (by omega), hin 2 (by omega), hin 3 (by omega), ?_⟩
  obtain ⟨a1, e1⟩ : ∃ a, h.1 1005 (am_ix (nI i + 1)) = a := ⟨_, rfl⟩
  obtain ⟨a2, e2⟩ : ∃ a, h.1 1005 (am_ix (nI i + 2)) = a := ⟨_, rfl⟩
  obtain ⟨a3, e3⟩ : ∃ a, h.1 1005 (am_ix (nI i + 3)) = a := ⟨_, rfl⟩
  rw [e1, e2, e3]
  obtain ⟨f1, f2, f3, f4, f5⟩ := law_facts hr (g0 := (g_B_duty WB (ROL L) [.ref 38, .int a1, .int a2, .int a3] h)) (hs := hs_duty) (pM := fun m => p_M_duty m a1 a2 a3) (vM := fun m => v_M_duty m a1 a2 a3) (fun n m hr' => let q := duty_both hr' a1 a2 a3; ⟨q.1, q.2.1, gr_I (hs := hs_duty) (by decide +kernel) q.2.2 _ _⟩) hg
  refine am_Ev_call false (i := 162) (cd := dG 1 dL_duty) (g := Lh (g_B_duty WB (ROL L) [.ref 38, .int a1, .int a2, .int a3] h) hs_duty h) rfl rfl rfl rfl rfl (g1_le hg f4 hgb) (gB_le hg (by omega)) f1 rfl ?_
  show am_Ev m_law WL (ROL L) LPq (1234, LSq i (.retAddr 0) (.retAddr 0), [.int (LkC (g_B_duty WB (ROL L) [.ref 38, .int a1, .int a2, .int a3] h) hs_duty)], g_hp (Lh (g_B_duty WB (ROL L) [.ref 38, .int a1, .int a2, .int a3] h) hs_duty h))
  obtain ⟨H1, hH1⟩ : ∃ H1, g_hp (Lh (g_B_duty WB (ROL L) [.ref 38, .int a1, .int a2, .int a3] h) hs_duty h) = H1 := ⟨_, rfl⟩
  obtain ⟨K, hK⟩ : ∃ K, LkC (g_B_duty WB (ROL L) [.ref 38, .int a1, .int a2, .int a3] h) hs_duty = K := ⟨_, rfl⟩
  rw [hH1] at f2 f3 f4 f5 ⊢
  rw [hK] at f5 ⊢
  obtain ⟨H2, hH2⟩ : ∃ H2, am_push plM H1 (v_M_duty (am_pull plM H1) a1 a2 a3).2 = H2 := ⟨_, rfl⟩
  obtain ⟨x1, x2, x3, x4⟩ := f5 H2 hH2.symm
  refine am_Ev_G [1255] 400 _ ?_
  show (am_in (nI i + 1) L ∧ (am_in (nI i + 2) L ∧ (am_in (nI i + 3) L ∧ am_Ev m_law WL (ROL L) LPq (1255, LSq i (.int K) (.retAddr 0), [.int (H1.1 1005 (am_ix (nI i + 3))), .int (H1.1 1005 (am_ix (nI i + 2))), .int (H1.1 1005 (am_ix (nI i + 1))), .ref 135], H1))))
  refine ⟨hin 1 (by omega), hin 2 (by omega), hin 3 (by omega), ?_⟩
  rw [f3, e1, e2, e3]
  refine am_Ev_call true (i := 165) (cd := dPl plM 0 WM (d_M_duty 16)) (g := gP plM (g_M_duty WM (ROL L) [.ref 0, .int a1, .int a2, .int a3] (am_pull plM H1)) H1) rfl rfl rfl (gPl_M rfl) rfl (g0_le ?_) (gB_le f4 (by omega)) f2 rfl ?_
  · show (am_push plM H1 (v_M_duty (am_pull plM H1) a1 a2 a3).2).1 2000 0 = _
    rw [hH2, x1, f4]
  show am_Ev m_law WL (ROL L) LPq (1258, LSq i (.int K) (.retAddr 0), [.int (v_M_duty (am_pull plM H1) a1 a2 a3).1], am_push plM H1 (v_M_duty (am_pull plM H1) a1 a2 a3).2)
  obtain ⟨b, hb⟩ : ∃ b, (v_M_duty (am_pull plM H1) a1 a2 a3).1 = b := ⟨_, rfl⟩
  rw [hH2, hb]
  refine am_Ev_G [1261] 400 _ ?_
  show am_Ev m_law WL (ROL L) LPq (1261, LSq i (.int K) (.int b), [.ref 135], H2)
  refine am_Ev_call true (i := 99) (cd := dPl plM 0 WM (d_M_thrown 16)) (g := gP plM (g_M_thrown WM (ROL L) [.ref 0] (am_pull plM H2)) H2) rfl rfl rfl (gPl_M rfl) rfl (g0_le ?_) (gB_le x1 (by omega)) trivial rfl ?_
  · show (am_push plM H2 (am_pull plM H2)).1 2000 0 = _
    rw [pushM_pull]
  show am_Ev m_law WL (ROL L) LPq (1264, LSq i (.int K) (.int b), [.int ((am_pull plM H2).1 0 8)], am_push plM H2 (am_pull plM H2))
  rw [pushM_pull, x3]
  refine am_Ev_G [1754] 400 _ ?_
  have hE : am_Ev m_law WL (ROL L) LPq (1754, LSq i (.int K) (.int b), [], H2) := hn.at x2 x1 (Nat.le_refl _) _ _
  show (K = K → ((¬ K = 0 → am_Ev m_law WL (ROL L) LPq (1754, LSq i (.int K) (.int b), [], H2)) ∧ (K = 0 → (am_in 0 1 ∧ ((lg_cmp (H2.2 145 (am_ix 0)) b.toInt64 = 0 → am_Ev m_law WL (ROL L) LPq (1754, LSq i (.int K) (.int b), [], H2)) ∧ (¬ lg_cmp (H2.2 145 (am_ix 0)) b.toInt64 = 0 → (((0 : Int32) = 0 ∨ (0 : Int32) = 1) ∧ LPq (.inl (some (.int 0))) H2))))))) ∧ (¬ K = K → (((0 : Int32) = 0 ∨ (0 : Int32) = 1) ∧ LPq (.inl (some (.int 0))) H2))
  refine ⟨fun _ => ⟨fun _ => hE, fun h0 => ⟨in0, fun _ => hE, fun z => absurd ?_ z⟩⟩, fun z => absurd rfl z⟩
  rw [ix0, x4 h0, ← hb]
  exact lg_self _
set_option maxRecDepth 100000 in
theorem lc_count {L i g : Nat} (hL : L ≤ 3072) (hi : i + 6 ≤ L) {h : HP} (hr : LR h) (hg : h.1 2000 0 = nI g) (hgb : g < 1000) (hn : Nx L i g) : am_Ev m_law WL (ROL L) LPq (1291, LSq i (.retAddr 0) (.retAddr 0), [], h) := by
  have hin : ∀ j, j < 6 → am_in (nI i + nI j) L := fun j hj => by rw [nI_add]; exact nI_am (by omega) (by omega)
  refine am_Ev_G [1299] 400 _ ?_
  show (am_in (nI i + 1) L ∧ am_Ev m_law WL (ROL L) LPq (1299, LSq i (.retAddr 0) (.retAddr 0), [.ref 145, .int (h.1 1005 (am_ix (nI i + 1))), .ref 38], h))
  refine ⟨hin 1 (by omega), ?_⟩
  obtain ⟨a1, e1⟩ : ∃ a, h.1 1005 (am_ix (nI i + 1)) = a := ⟨_, rfl⟩
  rw [e1]
  obtain ⟨f1, f2, f3, f4, f5⟩ := law_facts hr (g0 := (g_B_count WB (ROL L) [.ref 38, .int a1] h)) (hs := hs_count) (pM := fun m => p_M_count m a1) (vM := fun m => v_M_count m a1) (fun n m hr' => let q := count_both hr' a1; ⟨q.1, q.2.1, gr_IW (hs := hs_count) (by decide +kernel) q.2.2 _ _⟩) hg
  refine am_Ev_call false (i := 166) (cd := dG 1 dL_count) (g := Lh (g_B_count WB (ROL L) [.ref 38, .int a1] h) hs_count h) rfl rfl rfl rfl rfl (g1_le hg f4 hgb) (gB_le hg (by omega)) f1 rfl ?_
  show am_Ev m_law WL (ROL L) LPq (1302, LSq i (.retAddr 0) (.retAddr 0), [.int (LkC (g_B_count WB (ROL L) [.ref 38, .int a1] h) hs_count)], g_hp (Lh (g_B_count WB (ROL L) [.ref 38, .int a1] h) hs_count h))
  obtain ⟨H1, hH1⟩ : ∃ H1, g_hp (Lh (g_B_count WB (ROL L) [.ref 38, .int a1] h) hs_count h) = H1 := ⟨_, rfl⟩
  obtain ⟨K, hK⟩ : ∃ K, LkC (g_B_count WB (ROL L) [.ref 38, .int a1] h) hs_count = K := ⟨_, rfl⟩
  rw [hH1] at f2 f3 f4 f5 ⊢
  rw [hK] at f5 ⊢
  obtain ⟨H2, hH2⟩ : ∃ H2, am_push plM H1 (v_M_count (am_pull plM H1) a1).2 = H2 := ⟨_, rfl⟩
  obtain ⟨x1, x2, x3, x4⟩ := f5 H2 hH2.symm
  refine am_Ev_G [1311] 400 _ ?_
  show (am_in (nI i + 1) L ∧ am_Ev m_law WL (ROL L) LPq (1311, LSq i (.int K) (.retAddr 0), [.int (H1.1 1005 (am_ix (nI i + 1))), .ref 135], H1))
  refine ⟨hin 1 (by omega), ?_⟩
  rw [f3, e1]
  refine am_Ev_call true (i := 168) (cd := dPl plM 0 WM (d_M_count 16)) (g := gP plM (g_M_count WM (ROL L) [.ref 0, .int a1] (am_pull plM H1)) H1) rfl rfl rfl (gPl_M rfl) rfl (g0_le ?_) (gB_le f4 (by omega)) f2 rfl ?_
  · show (am_push plM H1 (v_M_count (am_pull plM H1) a1).2).1 2000 0 = _
    rw [hH2, x1, f4]
  show am_Ev m_law WL (ROL L) LPq (1314, LSq i (.int K) (.retAddr 0), [.int (v_M_count (am_pull plM H1) a1).1], am_push plM H1 (v_M_count (am_pull plM H1) a1).2)
  obtain ⟨b, hb⟩ : ∃ b, (v_M_count (am_pull plM H1) a1).1 = b := ⟨_, rfl⟩
  rw [hH2, hb]
  refine am_Ev_G [1317] 400 _ ?_
  show am_Ev m_law WL (ROL L) LPq (1317, LSq i (.int K) (.int b), [.ref 135], H2)
  refine am_Ev_call true (i := 99) (cd := dPl plM 0 WM (d_M_thrown 16)) (g := gP plM (g_M_thrown WM (ROL L) [.ref 0] (am_pull plM H2)) H2) rfl rfl rfl (gPl_M rfl) rfl (g0_le ?_) (gB_le x1 (by omega)) trivial rfl ?_
  · show (am_push plM H2 (am_pull plM H2)).1 2000 0 = _
    rw [pushM_pull]
  show am_Ev m_law WL (ROL L) LPq (1320, LSq i (.int K) (.int b), [.int ((am_pull plM H2).1 0 8)], am_push plM H2 (am_pull plM H2))
  rw [pushM_pull, x3]
  refine am_Ev_G [1754] 400 _ ?_
  have hE : am_Ev m_law WL (ROL L) LPq (1754, LSq i (.int K) (.int b), [], H2) := hn.at x2 x1 (Nat.le_refl _) _ _
  show (K = K → ((¬ K = 0 → am_Ev m_law WL (ROL L) LPq (1754, LSq i (.int K) (.int b), [], H2)) ∧ (K = 0 → (am_in 0 1 ∧ ((lg_cmp (H2.2 145 (am_ix 0)) b.toInt64 = 0 → am_Ev m_law WL (ROL L) LPq (1754, LSq i (.int K) (.int b), [], H2)) ∧ (¬ lg_cmp (H2.2 145 (am_ix 0)) b.toInt64 = 0 → (((0 : Int32) = 0 ∨ (0 : Int32) = 1) ∧ LPq (.inl (some (.int 0))) H2))))))) ∧ (¬ K = K → (((0 : Int32) = 0 ∨ (0 : Int32) = 1) ∧ LPq (.inl (some (.int 0))) H2))
  refine ⟨fun _ => ⟨fun _ => hE, fun h0 => ⟨in0, fun _ => hE, fun z => absurd ?_ z⟩⟩, fun z => absurd rfl z⟩
  rw [ix0, x4 h0, ← hb]
  exact lg_self _
set_option maxRecDepth 100000 in
theorem lc_setting {L i g : Nat} (hL : L ≤ 3072) (hi : i + 6 ≤ L) {h : HP} (hr : LR h) (hg : h.1 2000 0 = nI g) (hgb : g < 1000) (hn : Nx L i g) : am_Ev m_law WL (ROL L) LPq (1347, LSq i (.retAddr 0) (.retAddr 0), [], h) := by
  have hin : ∀ j, j < 6 → am_in (nI i + nI j) L := fun j hj => by rw [nI_add]; exact nI_am (by omega) (by omega)
  refine am_Ev_G [1355] 400 _ ?_
  show (am_in (nI i + 1) L ∧ am_Ev m_law WL (ROL L) LPq (1355, LSq i (.retAddr 0) (.retAddr 0), [.ref 145, .int (h.1 1005 (am_ix (nI i + 1))), .ref 38], h))
  refine ⟨hin 1 (by omega), ?_⟩
  obtain ⟨a1, e1⟩ : ∃ a, h.1 1005 (am_ix (nI i + 1)) = a := ⟨_, rfl⟩
  rw [e1]
  obtain ⟨f1, f2, f3, f4, f5⟩ := law_facts hr (g0 := (g_B_setting WB (ROL L) [.ref 38, .int a1] h)) (hs := hs_setting) (pM := fun m => p_M_setting m a1) (vM := fun m => v_M_setting m a1) (fun n m hr' => let q := setting_both hr' a1; ⟨trivial, q.1, gr_I (hs := hs_setting) (by decide +kernel) q.2 _ _⟩) hg
  refine am_Ev_call false (i := 169) (cd := dG 1 dL_setting) (g := Lh (g_B_setting WB (ROL L) [.ref 38, .int a1] h) hs_setting h) rfl rfl rfl rfl rfl (g1_le hg f4 hgb) (gB_le hg (by omega)) f1 rfl ?_
  show am_Ev m_law WL (ROL L) LPq (1358, LSq i (.retAddr 0) (.retAddr 0), [.int (LkC (g_B_setting WB (ROL L) [.ref 38, .int a1] h) hs_setting)], g_hp (Lh (g_B_setting WB (ROL L) [.ref 38, .int a1] h) hs_setting h))
  obtain ⟨H1, hH1⟩ : ∃ H1, g_hp (Lh (g_B_setting WB (ROL L) [.ref 38, .int a1] h) hs_setting h) = H1 := ⟨_, rfl⟩
  obtain ⟨K, hK⟩ : ∃ K, LkC (g_B_setting WB (ROL L) [.ref 38, .int a1] h) hs_setting = K := ⟨_, rfl⟩
  rw [hH1] at f2 f3 f4 f5 ⊢
  rw [hK] at f5 ⊢
  obtain ⟨H2, hH2⟩ : ∃ H2, am_push plM H1 (v_M_setting (am_pull plM H1) a1).2 = H2 := ⟨_, rfl⟩
  obtain ⟨x1, x2, x3, x4⟩ := f5 H2 hH2.symm
  refine am_Ev_G [1367] 400 _ ?_
  show (am_in (nI i + 1) L ∧ am_Ev m_law WL (ROL L) LPq (1367, LSq i (.int K) (.retAddr 0), [.int (H1.1 1005 (am_ix (nI i + 1))), .ref 135], H1))
  refine ⟨hin 1 (by omega), ?_⟩
  rw [f3, e1]
  refine am_Ev_call true (i := 171) (cd := dPl plM 0 WM (d_M_setting 16)) (g := gP plM (g_M_setting WM (ROL L) [.ref 0, .int a1] (am_pull plM H1)) H1) rfl rfl rfl (gPl_M rfl) rfl (g0_le ?_) (gB_le f4 (by omega)) f2 rfl ?_
  · show (am_push plM H1 (v_M_setting (am_pull plM H1) a1).2).1 2000 0 = _
    rw [hH2, x1, f4]
  show am_Ev m_law WL (ROL L) LPq (1370, LSq i (.int K) (.retAddr 0), [.int (v_M_setting (am_pull plM H1) a1).1], am_push plM H1 (v_M_setting (am_pull plM H1) a1).2)
  obtain ⟨b, hb⟩ : ∃ b, (v_M_setting (am_pull plM H1) a1).1 = b := ⟨_, rfl⟩
  rw [hH2, hb]
  refine am_Ev_G [1373] 400 _ ?_
  show am_Ev m_law WL (ROL L) LPq (1373, LSq i (.int K) (.int b), [.ref 135], H2)
  refine am_Ev_call true (i := 99) (cd := dPl plM 0 WM (d_M_thrown 16)) (g := gP plM (g_M_thrown WM (ROL L) [.ref 0] (am_pull plM H2)) H2) rfl rfl rfl (gPl_M rfl) rfl (g0_le ?_) (gB_le x1 (by omega)) trivial rfl ?_
  · show (am_push plM H2 (am_pull plM H2)).1 2000 0 = _
    rw [pushM_pull]
  show am_Ev m_law WL (ROL L) LPq (1376, LSq i (.int K) (.int b), [.int ((am_pull plM H2).1 0 8)], am_push plM H2 (am_pull plM H2))
  rw [pushM_pull, x3]
  refine am_Ev_G [1754] 400 _ ?_
  have hE : am_Ev m_law WL (ROL L) LPq (1754, LSq i (.int K) (.int b), [], H2) := hn.at x2 x1 (Nat.le_refl _) _ _
  show (K = K → ((¬ K = 0 → am_Ev m_law WL (ROL L) LPq (1754, LSq i (.int K) (.int b), [], H2)) ∧ (K = 0 → (am_in 0 1 ∧ ((lg_cmp (H2.2 145 (am_ix 0)) b.toInt64 = 0 → am_Ev m_law WL (ROL L) LPq (1754, LSq i (.int K) (.int b), [], H2)) ∧ (¬ lg_cmp (H2.2 145 (am_ix 0)) b.toInt64 = 0 → (((0 : Int32) = 0 ∨ (0 : Int32) = 1) ∧ LPq (.inl (some (.int 0))) H2))))))) ∧ (¬ K = K → (((0 : Int32) = 0 ∨ (0 : Int32) = 1) ∧ LPq (.inl (some (.int 0))) H2))
  refine ⟨fun _ => ⟨fun _ => hE, fun h0 => ⟨in0, fun _ => hE, fun z => absurd ?_ z⟩⟩, fun z => absurd rfl z⟩
  rw [ix0, x4 h0, ← hb]
  exact lg_self _
set_option maxRecDepth 100000 in
theorem lc_whyNot {L i g : Nat} (hL : L ≤ 3072) (hi : i + 6 ≤ L) {h : HP} (hr : LR h) (hg : h.1 2000 0 = nI g) (hgb : g < 1000) (hn : Nx L i g) : am_Ev m_law WL (ROL L) LPq (1403, LSq i (.retAddr 0) (.retAddr 0), [], h) := by
  have hin : ∀ j, j < 6 → am_in (nI i + nI j) L := fun j hj => by rw [nI_add]; exact nI_am (by omega) (by omega)
  refine am_Ev_G [1417] 400 _ ?_
  show (am_in (nI i + 1) L ∧ (am_in (nI i + 2) L ∧ am_Ev m_law WL (ROL L) LPq (1417, LSq i (.retAddr 0) (.retAddr 0), [.ref 145, .int (h.1 1005 (am_ix (nI i + 2))), .int (h.1 1005 (am_ix (nI i + 1))), .ref 38], h)))
  refine ⟨hin 1 (by omega), hin 2 (by omega), ?_⟩
  obtain ⟨a1, e1⟩ : ∃ a, h.1 1005 (am_ix (nI i + 1)) = a := ⟨_, rfl⟩
  obtain ⟨a2, e2⟩ : ∃ a, h.1 1005 (am_ix (nI i + 2)) = a := ⟨_, rfl⟩
  rw [e1, e2]
  obtain ⟨f1, f2, f3, f4, f5⟩ := law_facts hr (g0 := (g_B_whyNot WB (ROL L) [.ref 38, .int a1, .int a2] h)) (hs := hs_whyNot) (pM := fun m => p_M_whyNot m a1 a2) (vM := fun m => v_M_whyNot m a1 a2) (fun n m hr' => let q := whyNot_both hr' a1 a2; ⟨trivial, q.1, gr_I (hs := hs_whyNot) (by decide +kernel) q.2 _ _⟩) hg
  refine am_Ev_call false (i := 172) (cd := dG 1 dL_whyNot) (g := Lh (g_B_whyNot WB (ROL L) [.ref 38, .int a1, .int a2] h) hs_whyNot h) rfl rfl rfl rfl rfl (g1_le hg f4 hgb) (gB_le hg (by omega)) f1 rfl ?_
  show am_Ev m_law WL (ROL L) LPq (1420, LSq i (.retAddr 0) (.retAddr 0), [.int (LkC (g_B_whyNot WB (ROL L) [.ref 38, .int a1, .int a2] h) hs_whyNot)], g_hp (Lh (g_B_whyNot WB (ROL L) [.ref 38, .int a1, .int a2] h) hs_whyNot h))
  obtain ⟨H1, hH1⟩ : ∃ H1, g_hp (Lh (g_B_whyNot WB (ROL L) [.ref 38, .int a1, .int a2] h) hs_whyNot h) = H1 := ⟨_, rfl⟩
  obtain ⟨K, hK⟩ : ∃ K, LkC (g_B_whyNot WB (ROL L) [.ref 38, .int a1, .int a2] h) hs_whyNot = K := ⟨_, rfl⟩
  rw [hH1] at f2 f3 f4 f5 ⊢
  rw [hK] at f5 ⊢
  obtain ⟨H2, hH2⟩ : ∃ H2, am_push plM H1 (v_M_whyNot (am_pull plM H1) a1 a2).2 = H2 := ⟨_, rfl⟩
  obtain ⟨x1, x2, x3, x4⟩ := f5 H2 hH2.symm
  refine am_Ev_G [1435] 400 _ ?_
  show (am_in (nI i + 1) L ∧ (am_in (nI i + 2) L ∧ am_Ev m_law WL (ROL L) LPq (1435, LSq i (.int K) (.retAddr 0), [.int (H1.1 1005 (am_ix (nI i + 2))), .int (H1.1 1005 (am_ix (nI i + 1))), .ref 135], H1)))
  refine ⟨hin 1 (by omega), hin 2 (by omega), ?_⟩
  rw [f3, e1, e2]
  refine am_Ev_call true (i := 174) (cd := dPl plM 0 WM (d_M_whyNot 16)) (g := gP plM (g_M_whyNot WM (ROL L) [.ref 0, .int a1, .int a2] (am_pull plM H1)) H1) rfl rfl rfl (gPl_M rfl) rfl (g0_le ?_) (gB_le f4 (by omega)) f2 rfl ?_
  · show (am_push plM H1 (v_M_whyNot (am_pull plM H1) a1 a2).2).1 2000 0 = _
    rw [hH2, x1, f4]
  show am_Ev m_law WL (ROL L) LPq (1438, LSq i (.int K) (.retAddr 0), [.int (v_M_whyNot (am_pull plM H1) a1 a2).1], am_push plM H1 (v_M_whyNot (am_pull plM H1) a1 a2).2)
  obtain ⟨b, hb⟩ : ∃ b, (v_M_whyNot (am_pull plM H1) a1 a2).1 = b := ⟨_, rfl⟩
  rw [hH2, hb]
  refine am_Ev_G [1441] 400 _ ?_
  show am_Ev m_law WL (ROL L) LPq (1441, LSq i (.int K) (.int b), [.ref 135], H2)
  refine am_Ev_call true (i := 99) (cd := dPl plM 0 WM (d_M_thrown 16)) (g := gP plM (g_M_thrown WM (ROL L) [.ref 0] (am_pull plM H2)) H2) rfl rfl rfl (gPl_M rfl) rfl (g0_le ?_) (gB_le x1 (by omega)) trivial rfl ?_
  · show (am_push plM H2 (am_pull plM H2)).1 2000 0 = _
    rw [pushM_pull]
  show am_Ev m_law WL (ROL L) LPq (1444, LSq i (.int K) (.int b), [.int ((am_pull plM H2).1 0 8)], am_push plM H2 (am_pull plM H2))
  rw [pushM_pull, x3]
  refine am_Ev_G [1754] 400 _ ?_
  have hE : am_Ev m_law WL (ROL L) LPq (1754, LSq i (.int K) (.int b), [], H2) := hn.at x2 x1 (Nat.le_refl _) _ _
  show (K = K → ((¬ K = 0 → am_Ev m_law WL (ROL L) LPq (1754, LSq i (.int K) (.int b), [], H2)) ∧ (K = 0 → (am_in 0 1 ∧ ((lg_cmp (H2.2 145 (am_ix 0)) b.toInt64 = 0 → am_Ev m_law WL (ROL L) LPq (1754, LSq i (.int K) (.int b), [], H2)) ∧ (¬ lg_cmp (H2.2 145 (am_ix 0)) b.toInt64 = 0 → (((0 : Int32) = 0 ∨ (0 : Int32) = 1) ∧ LPq (.inl (some (.int 0))) H2))))))) ∧ (¬ K = K → (((0 : Int32) = 0 ∨ (0 : Int32) = 1) ∧ LPq (.inl (some (.int 0))) H2))
  refine ⟨fun _ => ⟨fun _ => hE, fun h0 => ⟨in0, fun _ => hE, fun z => absurd ?_ z⟩⟩, fun z => absurd rfl z⟩
  rw [ix0, x4 h0, ← hb]
  exact lg_self _
set_option maxRecDepth 100000 in
theorem lc_ifTrip {L i g : Nat} (hL : L ≤ 3072) (hi : i + 6 ≤ L) {h : HP} (hr : LR h) (hg : h.1 2000 0 = nI g) (hgb : g < 1000) (hn : Nx L i g) : am_Ev m_law WL (ROL L) LPq (1471, LSq i (.retAddr 0) (.retAddr 0), [], h) := by
  have hin : ∀ j, j < 6 → am_in (nI i + nI j) L := fun j hj => by rw [nI_add]; exact nI_am (by omega) (by omega)
  refine am_Ev_G [1503] 400 _ ?_
  show (am_in (nI i + 1) L ∧ (am_in (nI i + 2) L ∧ (am_in (nI i + 3) L ∧ (am_in (nI i + 4) L ∧ (am_in (nI i + 5) L ∧ am_Ev m_law WL (ROL L) LPq (1503, LSq i (.retAddr 0) (.retAddr 0), [.ref 145, .int (h.1 1005 (am_ix (nI i + 5))), .int (h.1 1005 (am_ix (nI i + 4))), .int (h.1 1005 (am_ix (nI i + 3))), .int (h.1 1005 (am_ix (nI i + 2))), .int (h.1 1005 (am_ix (nI i + 1))), .ref 38], h))))))
  refine ⟨hin 1 (by omega), hin 2 (by omega), hin 3 (by omega), hin 4 (by omega), hin 5 (by omega), ?_⟩
  obtain ⟨a1, e1⟩ : ∃ a, h.1 1005 (am_ix (nI i + 1)) = a := ⟨_, rfl⟩
  obtain ⟨a2, e2⟩ : ∃ a, h.1 1005 (am_ix (nI i + 2)) = a := ⟨_, rfl⟩
  obtain ⟨a3, e3⟩ : ∃ a, h.1 1005 (am_ix (nI i + 3)) = a := ⟨_, rfl⟩
  obtain ⟨a4, e4⟩ : ∃ a, h.1 1005 (am_ix (nI i + 4)) = a := ⟨_, rfl⟩
  obtain ⟨a5, e5⟩ : ∃ a, h.1 1005 (am_ix (nI i + 5)) = a := ⟨_, rfl⟩
  rw [e1, e2, e3, e4, e5]
  obtain ⟨f1, f2, f3, f4, f5⟩ := law_facts hr (g0 := (g_B_ifTrip WB (ROL L) [.ref 38, .int a1, .int a2, .int a3, .int a4, .int a5] h)) (hs := hs_ifTrip) (pM := fun m => p_M_ifTrip m a1 a2 a3 a4 a5) (vM := fun m => v_M_ifTrip m a1 a2 a3 a4 a5) (fun n m hr' => let q := ifTrip_both hr' a1 a2 a3 a4 a5; ⟨q.1, q.2.1, gr_IW (hs := hs_ifTrip) (by decide +kernel) q.2.2 _ _⟩) hg
  refine am_Ev_call false (i := 175) (cd := dG 1 dL_ifTrip) (g := Lh (g_B_ifTrip WB (ROL L) [.ref 38, .int a1, .int a2, .int a3, .int a4, .int a5] h) hs_ifTrip h) rfl rfl rfl rfl rfl (g1_le hg f4 hgb) (gB_le hg (by omega)) f1 rfl ?_
  show am_Ev m_law WL (ROL L) LPq (1506, LSq i (.retAddr 0) (.retAddr 0), [.int (LkC (g_B_ifTrip WB (ROL L) [.ref 38, .int a1, .int a2, .int a3, .int a4, .int a5] h) hs_ifTrip)], g_hp (Lh (g_B_ifTrip WB (ROL L) [.ref 38, .int a1, .int a2, .int a3, .int a4, .int a5] h) hs_ifTrip h))
  obtain ⟨H1, hH1⟩ : ∃ H1, g_hp (Lh (g_B_ifTrip WB (ROL L) [.ref 38, .int a1, .int a2, .int a3, .int a4, .int a5] h) hs_ifTrip h) = H1 := ⟨_, rfl⟩
  obtain ⟨K, hK⟩ : ∃ K, LkC (g_B_ifTrip WB (ROL L) [.ref 38, .int a1, .int a2, .int a3, .int a4, .int a5] h) hs_ifTrip = K := ⟨_, rfl⟩
  rw [hH1] at f2 f3 f4 f5 ⊢
  rw [hK] at f5 ⊢
  obtain ⟨H2, hH2⟩ : ∃ H2, am_push plM H1 (v_M_ifTrip (am_pull plM H1) a1 a2 a3 a4 a5).2 = H2 := ⟨_, rfl⟩
  obtain ⟨x1, x2, x3, x4⟩ := f5 H2 hH2.symm
  refine am_Ev_G [1539] 400 _ ?_
  show (am_in (nI i + 1) L ∧ (am_in (nI i + 2) L ∧ (am_in (nI i + 3) L ∧ (am_in (nI i + 4) L ∧ (am_in (nI i + 5) L ∧ am_Ev m_law WL (ROL L) LPq (1539, LSq i (.int K) (.retAddr 0), [.int (H1.1 1005 (am_ix (nI i + 5))), .int (H1.1 1005 (am_ix (nI i + 4))), .int (H1.1 1005 (am_ix (nI i + 3))), .int (H1.1 1005 (am_ix (nI i + 2))), .int (H1.1 1005 (am_ix (nI i + 1))), .ref 135], H1))))))
  refine ⟨hin 1 (by omega), hin 2 (by omega), hin 3 (by omega), hin 4 (by omega), hin 5 (by omega), ?_⟩
  rw [f3, e1, e2, e3, e4, e5]
  refine am_Ev_call true (i := 177) (cd := dPl plM 0 WM (d_M_ifTrip 16)) (g := gP plM (g_M_ifTrip WM (ROL L) [.ref 0, .int a1, .int a2, .int a3, .int a4, .int a5] (am_pull plM H1)) H1) rfl rfl rfl (gPl_M rfl) rfl (g0_le ?_) (gB_le f4 (by omega)) f2 rfl ?_
  · show (am_push plM H1 (v_M_ifTrip (am_pull plM H1) a1 a2 a3 a4 a5).2).1 2000 0 = _
    rw [hH2, x1, f4]
  show am_Ev m_law WL (ROL L) LPq (1542, LSq i (.int K) (.retAddr 0), [.int (v_M_ifTrip (am_pull plM H1) a1 a2 a3 a4 a5).1], am_push plM H1 (v_M_ifTrip (am_pull plM H1) a1 a2 a3 a4 a5).2)
  obtain ⟨b, hb⟩ : ∃ b, (v_M_ifTrip (am_pull plM H1) a1 a2 a3 a4 a5).1 = b := ⟨_, rfl⟩
  rw [hH2, hb]
  refine am_Ev_G [1545] 400 _ ?_
  show am_Ev m_law WL (ROL L) LPq (1545, LSq i (.int K) (.int b), [.ref 135], H2)
  refine am_Ev_call true (i := 99) (cd := dPl plM 0 WM (d_M_thrown 16)) (g := gP plM (g_M_thrown WM (ROL L) [.ref 0] (am_pull plM H2)) H2) rfl rfl rfl (gPl_M rfl) rfl (g0_le ?_) (gB_le x1 (by omega)) trivial rfl ?_
  · show (am_push plM H2 (am_pull plM H2)).1 2000 0 = _
    rw [pushM_pull]
  show am_Ev m_law WL (ROL L) LPq (1548, LSq i (.int K) (.int b), [.int ((am_pull plM H2).1 0 8)], am_push plM H2 (am_pull plM H2))
  rw [pushM_pull, x3]
  refine am_Ev_G [1754] 400 _ ?_
  have hE : am_Ev m_law WL (ROL L) LPq (1754, LSq i (.int K) (.int b), [], H2) := hn.at x2 x1 (Nat.le_refl _) _ _
  show (K = K → ((¬ K = 0 → am_Ev m_law WL (ROL L) LPq (1754, LSq i (.int K) (.int b), [], H2)) ∧ (K = 0 → (am_in 0 1 ∧ ((lg_cmp (H2.2 145 (am_ix 0)) b.toInt64 = 0 → am_Ev m_law WL (ROL L) LPq (1754, LSq i (.int K) (.int b), [], H2)) ∧ (¬ lg_cmp (H2.2 145 (am_ix 0)) b.toInt64 = 0 → (((0 : Int32) = 0 ∨ (0 : Int32) = 1) ∧ LPq (.inl (some (.int 0))) H2))))))) ∧ (¬ K = K → (((0 : Int32) = 0 ∨ (0 : Int32) = 1) ∧ LPq (.inl (some (.int 0))) H2))
  refine ⟨fun _ => ⟨fun _ => hE, fun h0 => ⟨in0, fun _ => hE, fun z => absurd ?_ z⟩⟩, fun z => absurd rfl z⟩
  rw [ix0, x4 h0, ← hb]
  exact lg_self _
set_option maxRecDepth 100000 in
theorem lc_bestTime {L i g : Nat} (hL : L ≤ 3072) (hi : i + 6 ≤ L) {h : HP} (hr : LR h) (hg : h.1 2000 0 = nI g) (hgb : g < 1000) (hn : Nx L i g) : am_Ev m_law WL (ROL L) LPq (1575, LSq i (.retAddr 0) (.retAddr 0), [], h) := by
  have hin : ∀ j, j < 6 → am_in (nI i + nI j) L := fun j hj => by rw [nI_add]; exact nI_am (by omega) (by omega)
  refine am_Ev_G [1589] 400 _ ?_
  show (am_in (nI i + 1) L ∧ (am_in (nI i + 2) L ∧ am_Ev m_law WL (ROL L) LPq (1589, LSq i (.retAddr 0) (.retAddr 0), [.ref 145, .int (h.1 1005 (am_ix (nI i + 2))), .int (h.1 1005 (am_ix (nI i + 1))), .ref 38], h)))
  refine ⟨hin 1 (by omega), hin 2 (by omega), ?_⟩
  obtain ⟨a1, e1⟩ : ∃ a, h.1 1005 (am_ix (nI i + 1)) = a := ⟨_, rfl⟩
  obtain ⟨a2, e2⟩ : ∃ a, h.1 1005 (am_ix (nI i + 2)) = a := ⟨_, rfl⟩
  rw [e1, e2]
  obtain ⟨f1, f2, f3, f4, f5⟩ := law_facts hr (g0 := (g_B_bestTime WB (ROL L) [.ref 38, .int a1, .int a2] h)) (hs := hs_bestTime) (pM := fun m => p_M_bestTime m a1 a2) (vM := fun m => v_M_bestTime m a1 a2) (fun n m hr' => let q := bestTime_both hr' a1 a2; ⟨q.1, q.2.1, gr_IW (hs := hs_bestTime) (by decide +kernel) q.2.2 _ _⟩) hg
  refine am_Ev_call false (i := 178) (cd := dG 1 dL_bestTime) (g := Lh (g_B_bestTime WB (ROL L) [.ref 38, .int a1, .int a2] h) hs_bestTime h) rfl rfl rfl rfl rfl (g1_le hg f4 hgb) (gB_le hg (by omega)) f1 rfl ?_
  show am_Ev m_law WL (ROL L) LPq (1592, LSq i (.retAddr 0) (.retAddr 0), [.int (LkC (g_B_bestTime WB (ROL L) [.ref 38, .int a1, .int a2] h) hs_bestTime)], g_hp (Lh (g_B_bestTime WB (ROL L) [.ref 38, .int a1, .int a2] h) hs_bestTime h))
  obtain ⟨H1, hH1⟩ : ∃ H1, g_hp (Lh (g_B_bestTime WB (ROL L) [.ref 38, .int a1, .int a2] h) hs_bestTime h) = H1 := ⟨_, rfl⟩
  obtain ⟨K, hK⟩ : ∃ K, LkC (g_B_bestTime WB (ROL L) [.ref 38, .int a1, .int a2] h) hs_bestTime = K := ⟨_, rfl⟩
  rw [hH1] at f2 f3 f4 f5 ⊢
  rw [hK] at f5 ⊢
  obtain ⟨H2, hH2⟩ : ∃ H2, am_push plM H1 (v_M_bestTime (am_pull plM H1) a1 a2).2 = H2 := ⟨_, rfl⟩
  obtain ⟨x1, x2, x3, x4⟩ := f5 H2 hH2.symm
  refine am_Ev_G [1607] 400 _ ?_
  show (am_in (nI i + 1) L ∧ (am_in (nI i + 2) L ∧ am_Ev m_law WL (ROL L) LPq (1607, LSq i (.int K) (.retAddr 0), [.int (H1.1 1005 (am_ix (nI i + 2))), .int (H1.1 1005 (am_ix (nI i + 1))), .ref 135], H1)))
  refine ⟨hin 1 (by omega), hin 2 (by omega), ?_⟩
  rw [f3, e1, e2]
  refine am_Ev_call true (i := 180) (cd := dPl plM 0 WM (d_M_bestTime 16)) (g := gP plM (g_M_bestTime WM (ROL L) [.ref 0, .int a1, .int a2] (am_pull plM H1)) H1) rfl rfl rfl (gPl_M rfl) rfl (g0_le ?_) (gB_le f4 (by omega)) f2 rfl ?_
  · show (am_push plM H1 (v_M_bestTime (am_pull plM H1) a1 a2).2).1 2000 0 = _
    rw [hH2, x1, f4]
  show am_Ev m_law WL (ROL L) LPq (1610, LSq i (.int K) (.retAddr 0), [.int (v_M_bestTime (am_pull plM H1) a1 a2).1], am_push plM H1 (v_M_bestTime (am_pull plM H1) a1 a2).2)
  obtain ⟨b, hb⟩ : ∃ b, (v_M_bestTime (am_pull plM H1) a1 a2).1 = b := ⟨_, rfl⟩
  rw [hH2, hb]
  refine am_Ev_G [1613] 400 _ ?_
  show am_Ev m_law WL (ROL L) LPq (1613, LSq i (.int K) (.int b), [.ref 135], H2)
  refine am_Ev_call true (i := 99) (cd := dPl plM 0 WM (d_M_thrown 16)) (g := gP plM (g_M_thrown WM (ROL L) [.ref 0] (am_pull plM H2)) H2) rfl rfl rfl (gPl_M rfl) rfl (g0_le ?_) (gB_le x1 (by omega)) trivial rfl ?_
  · show (am_push plM H2 (am_pull plM H2)).1 2000 0 = _
    rw [pushM_pull]
  show am_Ev m_law WL (ROL L) LPq (1616, LSq i (.int K) (.int b), [.int ((am_pull plM H2).1 0 8)], am_push plM H2 (am_pull plM H2))
  rw [pushM_pull, x3]
  refine am_Ev_G [1754] 400 _ ?_
  have hE : am_Ev m_law WL (ROL L) LPq (1754, LSq i (.int K) (.int b), [], H2) := hn.at x2 x1 (Nat.le_refl _) _ _
  show (K = K → ((¬ K = 0 → am_Ev m_law WL (ROL L) LPq (1754, LSq i (.int K) (.int b), [], H2)) ∧ (K = 0 → (am_in 0 1 ∧ ((lg_cmp (H2.2 145 (am_ix 0)) b.toInt64 = 0 → am_Ev m_law WL (ROL L) LPq (1754, LSq i (.int K) (.int b), [], H2)) ∧ (¬ lg_cmp (H2.2 145 (am_ix 0)) b.toInt64 = 0 → (((0 : Int32) = 0 ∨ (0 : Int32) = 1) ∧ LPq (.inl (some (.int 0))) H2))))))) ∧ (¬ K = K → (((0 : Int32) = 0 ∨ (0 : Int32) = 1) ∧ LPq (.inl (some (.int 0))) H2))
  refine ⟨fun _ => ⟨fun _ => hE, fun h0 => ⟨in0, fun _ => hE, fun z => absurd ?_ z⟩⟩, fun z => absurd rfl z⟩
  rw [ix0, x4 h0, ← hb]
  exact lg_self _
set_option maxRecDepth 100000 in
theorem lc_ifFailed {L i g : Nat} (hL : L ≤ 3072) (hi : i + 6 ≤ L) {h : HP} (hr : LR h) (hg : h.1 2000 0 = nI g) (hgb : g < 1000) (hn : Nx L i g) : am_Ev m_law WL (ROL L) LPq (1643, LSq i (.retAddr 0) (.retAddr 0), [], h) := by
  have hin : ∀ j, j < 6 → am_in (nI i + nI j) L := fun j hj => by rw [nI_add]; exact nI_am (by omega) (by omega)
  refine am_Ev_G [1651] 400 _ ?_
  show (am_in (nI i + 1) L ∧ am_Ev m_law WL (ROL L) LPq (1651, LSq i (.retAddr 0) (.retAddr 0), [.ref 145, .int (h.1 1005 (am_ix (nI i + 1))), .ref 38], h))
  refine ⟨hin 1 (by omega), ?_⟩
  obtain ⟨a1, e1⟩ : ∃ a, h.1 1005 (am_ix (nI i + 1)) = a := ⟨_, rfl⟩
  rw [e1]
  obtain ⟨f1, f2, f3, f4, f5⟩ := law_facts hr (g0 := (g_B_ifFailed WB (ROL L) [.ref 38, .int a1] h)) (hs := hs_ifFailed) (pM := fun m => p_M_ifFailed m a1) (vM := fun m => v_M_ifFailed m a1) (fun n m hr' => let q := ifFailed_both hr' a1; ⟨q.1, q.2.1, gr_I (hs := hs_ifFailed) (by decide +kernel) q.2.2 _ _⟩) hg
  refine am_Ev_call false (i := 181) (cd := dG 1 dL_ifFailed) (g := Lh (g_B_ifFailed WB (ROL L) [.ref 38, .int a1] h) hs_ifFailed h) rfl rfl rfl rfl rfl (g1_le hg f4 hgb) (gB_le hg (by omega)) f1 rfl ?_
  show am_Ev m_law WL (ROL L) LPq (1654, LSq i (.retAddr 0) (.retAddr 0), [.int (LkC (g_B_ifFailed WB (ROL L) [.ref 38, .int a1] h) hs_ifFailed)], g_hp (Lh (g_B_ifFailed WB (ROL L) [.ref 38, .int a1] h) hs_ifFailed h))
  obtain ⟨H1, hH1⟩ : ∃ H1, g_hp (Lh (g_B_ifFailed WB (ROL L) [.ref 38, .int a1] h) hs_ifFailed h) = H1 := ⟨_, rfl⟩
  obtain ⟨K, hK⟩ : ∃ K, LkC (g_B_ifFailed WB (ROL L) [.ref 38, .int a1] h) hs_ifFailed = K := ⟨_, rfl⟩
  rw [hH1] at f2 f3 f4 f5 ⊢
  rw [hK] at f5 ⊢
  obtain ⟨H2, hH2⟩ : ∃ H2, am_push plM H1 (v_M_ifFailed (am_pull plM H1) a1).2 = H2 := ⟨_, rfl⟩
  obtain ⟨x1, x2, x3, x4⟩ := f5 H2 hH2.symm
  refine am_Ev_G [1663] 400 _ ?_
  show (am_in (nI i + 1) L ∧ am_Ev m_law WL (ROL L) LPq (1663, LSq i (.int K) (.retAddr 0), [.int (H1.1 1005 (am_ix (nI i + 1))), .ref 135], H1))
  refine ⟨hin 1 (by omega), ?_⟩
  rw [f3, e1]
  refine am_Ev_call true (i := 183) (cd := dPl plM 0 WM (d_M_ifFailed 16)) (g := gP plM (g_M_ifFailed WM (ROL L) [.ref 0, .int a1] (am_pull plM H1)) H1) rfl rfl rfl (gPl_M rfl) rfl (g0_le ?_) (gB_le f4 (by omega)) f2 rfl ?_
  · show (am_push plM H1 (v_M_ifFailed (am_pull plM H1) a1).2).1 2000 0 = _
    rw [hH2, x1, f4]
  show am_Ev m_law WL (ROL L) LPq (1666, LSq i (.int K) (.retAddr 0), [.int (v_M_ifFailed (am_pull plM H1) a1).1], am_push plM H1 (v_M_ifFailed (am_pull plM H1) a1).2)
  obtain ⟨b, hb⟩ : ∃ b, (v_M_ifFailed (am_pull plM H1) a1).1 = b := ⟨_, rfl⟩
  rw [hH2, hb]
  refine am_Ev_G [1669] 400 _ ?_
  show am_Ev m_law WL (ROL L) LPq (1669, LSq i (.int K) (.int b), [.ref 135], H2)
  refine am_Ev_call true (i := 99) (cd := dPl plM 0 WM (d_M_thrown 16)) (g := gP plM (g_M_thrown WM (ROL L) [.ref 0] (am_pull plM H2)) H2) rfl rfl rfl (gPl_M rfl) rfl (g0_le ?_) (gB_le x1 (by omega)) trivial rfl ?_
  · show (am_push plM H2 (am_pull plM H2)).1 2000 0 = _
    rw [pushM_pull]
  show am_Ev m_law WL (ROL L) LPq (1672, LSq i (.int K) (.int b), [.int ((am_pull plM H2).1 0 8)], am_push plM H2 (am_pull plM H2))
  rw [pushM_pull, x3]
  refine am_Ev_G [1754] 400 _ ?_
  have hE : am_Ev m_law WL (ROL L) LPq (1754, LSq i (.int K) (.int b), [], H2) := hn.at x2 x1 (Nat.le_refl _) _ _
  show (K = K → ((¬ K = 0 → am_Ev m_law WL (ROL L) LPq (1754, LSq i (.int K) (.int b), [], H2)) ∧ (K = 0 → (am_in 0 1 ∧ ((lg_cmp (H2.2 145 (am_ix 0)) b.toInt64 = 0 → am_Ev m_law WL (ROL L) LPq (1754, LSq i (.int K) (.int b), [], H2)) ∧ (¬ lg_cmp (H2.2 145 (am_ix 0)) b.toInt64 = 0 → (((0 : Int32) = 0 ∨ (0 : Int32) = 1) ∧ LPq (.inl (some (.int 0))) H2))))))) ∧ (¬ K = K → (((0 : Int32) = 0 ∨ (0 : Int32) = 1) ∧ LPq (.inl (some (.int 0))) H2))
  refine ⟨fun _ => ⟨fun _ => hE, fun h0 => ⟨in0, fun _ => hE, fun z => absurd ?_ z⟩⟩, fun z => absurd rfl z⟩
  rw [ix0, x4 h0, ← hb]
  exact lg_self _
