/-! THE LAW'S CASES without throws, and its loop. -/
theorem Bo.nl {h : HP} {a : Int32 × HP} {w : Int32 × HP} (hb : Bo [] h (.inr a) w) : (∃ n, RR n a.2 w.2) ∧ some (Value.int a.1) = some (.int w.1) := ⟨hb.2.2, by rw [hb.2.1]⟩
theorem law_sub {L : Nat} (hL : L ≤ 3072) : (Int32.ofNat L - 6).toInt = (L : Int) - 6 := by
  have e1 : (Int32.ofNat L).toInt = (L : Int) := nI_toInt (n := L) (by omega)
  have e2 : (6 : Int32).toInt = 6 := by decide +kernel
  rw [Int32.toInt_sub, e1, e2]
  exact Int.bmod_eq_of_le (by omega) (by omega)

set_option maxRecDepth 100000 in
theorem lc_blockAll {L i g : Nat} {h : HP} (hr : LR h) (hg : h.1 2000 0 = nI g) (hgb : g < 1000) (hn : Nx L i g) : am_Ev m_law WL (ROL L) LPq (656, LSq i (.retAddr 0) (.retAddr 0), [], h) := by
  obtain ⟨f1, f2, f3, f4, f5, f6⟩ := direct_facts hr (g0 := (g_B_blockAll WB (ROL L) [.ref 38] h)) (pM := fun m => p_M_blockAll m) (vM := fun m => v_M_blockAll m) (fun x : Int32 => Value.int x) (fun n m hr' => let q := blockAll_bo hr'; ⟨q.1, q.2.1, q.2.2.nl.1, q.2.2.nl.2⟩)
  refine am_Ev_G [657] 400 _ ?_
  show am_Ev m_law WL (ROL L) LPq (657, LSq i (.retAddr 0) (.retAddr 0), [.ref 38], h)
  refine am_Ev_call true (i := 122) (cd := dPl plB 38 WB (d_B_blockAll 15)) (g := gP plB (g_B_blockAll WB (ROL L) [.ref 38] h) h) rfl rfl rfl (gPl_B rfl) rfl (g0_le f4) (gB_le hg (by omega)) f1 rfl ?_
  show am_Ev m_law WL (ROL L) LPq (660, LSq i (.retAddr 0) (.retAddr 0), [.int (v_B_blockAll h).1], am_push plB h (g_hp (g_B_blockAll WB (ROL L) [.ref 38] h)))
  obtain ⟨a, ha⟩ : ∃ a, (v_B_blockAll h).1 = a := ⟨_, rfl⟩
  have f5 : some (Value.int (v_B_blockAll h).1) = _ := f5
  obtain ⟨H1, hH1⟩ : ∃ H1, am_push plB h (g_hp (g_B_blockAll WB (ROL L) [.ref 38] h)) = H1 := ⟨_, rfl⟩
  rw [hH1] at f2 f3 f4 f5 f6 ⊢
  rw [ha] at f5 ⊢
  obtain ⟨H2, hH2⟩ : ∃ H2, am_push plM H1 (v_M_blockAll (am_pull plM H1)).2 = H2 := ⟨_, rfl⟩
  obtain ⟨x1, x2⟩ := f6 H2 hH2.symm
  refine am_Ev_G [661] 400 _ ?_
  show am_Ev m_law WL (ROL L) LPq (661, LSq i (.retAddr 0) (.retAddr 0), [.ref 135, .int a], H1)
  refine am_Ev_call true (i := 125) (cd := dPl plM 0 WM (d_M_blockAll 16)) (g := gP plM (g_M_blockAll WM (ROL L) [.ref 0] (am_pull plM H1)) H1) rfl rfl rfl (gPl_M rfl) rfl (g0_le ?_) (gB_le (f4.trans hg) (by omega)) f2 rfl ?_
  · show (am_push plM H1 (v_M_blockAll (am_pull plM H1)).2).1 2000 0 = _
    rw [hH2, x1, f4]
  show am_Ev m_law WL (ROL L) LPq (664, LSq i (.retAddr 0) (.retAddr 0), [.int (v_M_blockAll (am_pull plM H1)).1, .int a], am_push plM H1 (v_M_blockAll (am_pull plM H1)).2)
  have e2 : (v_M_blockAll (am_pull plM H1)).1 = a := by
    have := Option.some.inj f5
    cases this; rfl
  rw [hH2, e2]
  refine am_Ev_G [1754] 400 _ ?_
  have hE : am_Ev m_law WL (ROL L) LPq (1754, LSq i (.retAddr 0) (.retAddr 0), [], H2) := hn.at x2 (x1.trans hg) (by omega) _ _
  show (a = a → am_Ev m_law WL (ROL L) LPq (1754, LSq i (.retAddr 0) (.retAddr 0), [], H2)) ∧ (¬ a = a → (((0 : Int32) = 0 ∨ (0 : Int32) = 1) ∧ LPq (.inl (some (.int 0))) H2))
  exact ⟨fun _ => hE, fun z => absurd rfl z⟩

set_option maxRecDepth 100000 in
theorem lc_firstError {L i g : Nat} {h : HP} (hr : LR h) (hg : h.1 2000 0 = nI g) (hgb : g < 1000) (hn : Nx L i g) : am_Ev m_law WL (ROL L) LPq (794, LSq i (.retAddr 0) (.retAddr 0), [], h) := by
  obtain ⟨f1, f2, f3, f4, f5, f6⟩ := direct_facts hr (g0 := (g_B_firstError WB (ROL L) [.ref 38] h)) (pM := fun m => p_M_firstError m) (vM := fun m => v_M_firstError m) (fun x : Int32 => Value.int x) (fun n m hr' => let q := firstError_both hr'; ⟨q.1, q.2.1, q.2.2.nl.1, q.2.2.nl.2⟩)
  refine am_Ev_G [795] 400 _ ?_
  show am_Ev m_law WL (ROL L) LPq (795, LSq i (.retAddr 0) (.retAddr 0), [.ref 38], h)
  refine am_Ev_call true (i := 136) (cd := dPl plB 38 WB (d_B_firstError 15)) (g := gP plB (g_B_firstError WB (ROL L) [.ref 38] h) h) rfl rfl rfl (gPl_B rfl) rfl (g0_le f4) (gB_le hg (by omega)) f1 rfl ?_
  show am_Ev m_law WL (ROL L) LPq (798, LSq i (.retAddr 0) (.retAddr 0), [.int (v_B_firstError h).1], am_push plB h (g_hp (g_B_firstError WB (ROL L) [.ref 38] h)))
  obtain ⟨a, ha⟩ : ∃ a, (v_B_firstError h).1 = a := ⟨_, rfl⟩
  have f5 : some (Value.int (v_B_firstError h).1) = _ := f5
  obtain ⟨H1, hH1⟩ : ∃ H1, am_push plB h (g_hp (g_B_firstError WB (ROL L) [.ref 38] h)) = H1 := ⟨_, rfl⟩
  rw [hH1] at f2 f3 f4 f5 f6 ⊢
  rw [ha] at f5 ⊢
  obtain ⟨H2, hH2⟩ : ∃ H2, am_push plM H1 (v_M_firstError (am_pull plM H1)).2 = H2 := ⟨_, rfl⟩
  obtain ⟨x1, x2⟩ := f6 H2 hH2.symm
  refine am_Ev_G [799] 400 _ ?_
  show am_Ev m_law WL (ROL L) LPq (799, LSq i (.retAddr 0) (.retAddr 0), [.ref 135, .int a], H1)
  refine am_Ev_call true (i := 139) (cd := dPl plM 0 WM (d_M_firstError 16)) (g := gP plM (g_M_firstError WM (ROL L) [.ref 0] (am_pull plM H1)) H1) rfl rfl rfl (gPl_M rfl) rfl (g0_le ?_) (gB_le (f4.trans hg) (by omega)) f2 rfl ?_
  · show (am_push plM H1 (v_M_firstError (am_pull plM H1)).2).1 2000 0 = _
    rw [hH2, x1, f4]
  show am_Ev m_law WL (ROL L) LPq (802, LSq i (.retAddr 0) (.retAddr 0), [.int (v_M_firstError (am_pull plM H1)).1, .int a], am_push plM H1 (v_M_firstError (am_pull plM H1)).2)
  have e2 : (v_M_firstError (am_pull plM H1)).1 = a := by
    have := Option.some.inj f5
    cases this; rfl
  rw [hH2, e2]
  refine am_Ev_G [1754] 400 _ ?_
  have hE : am_Ev m_law WL (ROL L) LPq (1754, LSq i (.retAddr 0) (.retAddr 0), [], H2) := hn.at x2 (x1.trans hg) (by omega) _ _
  show (a = a → am_Ev m_law WL (ROL L) LPq (1754, LSq i (.retAddr 0) (.retAddr 0), [], H2)) ∧ (¬ a = a → (((0 : Int32) = 0 ∨ (0 : Int32) = 1) ∧ LPq (.inl (some (.int 0))) H2))
  exact ⟨fun _ => hE, fun z => absurd rfl z⟩

set_option maxRecDepth 100000 in
theorem lc_clearBuffer {L i g : Nat} {h : HP} (hr : LR h) (hg : h.1 2000 0 = nI g) (hgb : g < 1000) (hn : Nx L i g) : am_Ev m_law WL (ROL L) LPq (781, LSq i (.retAddr 0) (.retAddr 0), [], h) := by
  obtain ⟨f1, f2, f3, f4, f5, f6⟩ := direct_facts hr (g0 := (g_B_clearBuffer WB (ROL L) [.ref 38] h)) (pM := fun _ => True) (vM := fun m => v_M_clearBuffer m) (fun x : Int32 => Value.int x) (fun n m hr' => let q := clearBuffer_both hr'; ⟨trivial, trivial, q.nl.1, q.nl.2⟩)
  refine am_Ev_G [782] 400 _ ?_
  show am_Ev m_law WL (ROL L) LPq (782, LSq i (.retAddr 0) (.retAddr 0), [.ref 38], h)
  refine am_Ev_call true (i := 132) (cd := dPl plB 38 WB (d_B_clearBuffer 15)) (g := gP plB (g_B_clearBuffer WB (ROL L) [.ref 38] h) h) rfl rfl rfl (gPl_B rfl) rfl (g0_le f4) (gB_le hg (by omega)) trivial rfl ?_
  show am_Ev m_law WL (ROL L) LPq (785, LSq i (.retAddr 0) (.retAddr 0), [.int (v_B_clearBuffer h).1], am_push plB h (g_hp (g_B_clearBuffer WB (ROL L) [.ref 38] h)))
  obtain ⟨a, ha⟩ : ∃ a, (v_B_clearBuffer h).1 = a := ⟨_, rfl⟩
  have f5 : some (Value.int (v_B_clearBuffer h).1) = _ := f5
  obtain ⟨H1, hH1⟩ : ∃ H1, am_push plB h (g_hp (g_B_clearBuffer WB (ROL L) [.ref 38] h)) = H1 := ⟨_, rfl⟩
  rw [hH1] at f3 f4 f5 f6 ⊢
  rw [ha] at f5 ⊢
  obtain ⟨H2, hH2⟩ : ∃ H2, am_push plM H1 (v_M_clearBuffer (am_pull plM H1)).2 = H2 := ⟨_, rfl⟩
  obtain ⟨x1, x2⟩ := f6 H2 hH2.symm
  refine am_Ev_G [786] 400 _ ?_
  show am_Ev m_law WL (ROL L) LPq (786, LSq i (.retAddr 0) (.retAddr 0), [.ref 135, .int a], H1)
  refine am_Ev_call true (i := 135) (cd := dPl plM 0 WM (d_M_clearBuffer 16)) (g := gP plM (g_M_clearBuffer WM (ROL L) [.ref 0] (am_pull plM H1)) H1) rfl rfl rfl (gPl_M rfl) rfl (g0_le ?_) (gB_le (f4.trans hg) (by omega)) trivial rfl ?_
  · show (am_push plM H1 (v_M_clearBuffer (am_pull plM H1)).2).1 2000 0 = _
    rw [hH2, x1, f4]
  show am_Ev m_law WL (ROL L) LPq (789, LSq i (.retAddr 0) (.retAddr 0), [.int (v_M_clearBuffer (am_pull plM H1)).1, .int a], am_push plM H1 (v_M_clearBuffer (am_pull plM H1)).2)
  have e2 : (v_M_clearBuffer (am_pull plM H1)).1 = a := by
    have := Option.some.inj f5
    cases this; rfl
  rw [hH2, e2]
  refine am_Ev_G [1754] 400 _ ?_
  have hE : am_Ev m_law WL (ROL L) LPq (1754, LSq i (.retAddr 0) (.retAddr 0), [], H2) := hn.at x2 (x1.trans hg) (by omega) _ _
  show (a = a → am_Ev m_law WL (ROL L) LPq (1754, LSq i (.retAddr 0) (.retAddr 0), [], H2)) ∧ (¬ a = a → (((0 : Int32) = 0 ∨ (0 : Int32) = 1) ∧ LPq (.inl (some (.int 0))) H2))
  exact ⟨fun _ => hE, fun z => absurd rfl z⟩

set_option maxRecDepth 100000 in
theorem lc_digest {L i g : Nat} {h : HP} (hr : LR h) (hg : h.1 2000 0 = nI g) (hgb : g < 1000) (hn : Nx L i g) : am_Ev m_law WL (ROL L) LPq (1740, LSq i (.retAddr 0) (.retAddr 0), [], h) := by
  obtain ⟨f1, f2, f3, f4, f5, f6⟩ := direct_facts hr (g0 := (g_B_digest WB (ROL L) [.ref 38] h)) (pM := fun m => p_M_digest m) (vM := fun m => v_M_digest m) (fun x : Int64 => Value.long x) (fun n m hr' => let q := digest_both quoOK bitsOK hr'; ⟨q.1, q.2.1, ⟨n, q.2.2.2.1⟩, congrArg (fun x => some (Value.long x)) q.2.2.1⟩)
  refine am_Ev_G [1741] 400 _ ?_
  show am_Ev m_law WL (ROL L) LPq (1741, LSq i (.retAddr 0) (.retAddr 0), [.ref 38], h)
  refine am_Ev_call true (i := 189) (cd := dPl plB 38 WB (d_B_digest 15)) (g := gP plB (g_B_digest WB (ROL L) [.ref 38] h) h) rfl rfl rfl (gPl_B rfl) rfl (g0_le f4) (gB_le hg (by omega)) f1 rfl ?_
  show am_Ev m_law WL (ROL L) LPq (1744, LSq i (.retAddr 0) (.retAddr 0), [.long (v_B_digest h).1], am_push plB h (g_hp (g_B_digest WB (ROL L) [.ref 38] h)))
  obtain ⟨a, ha⟩ : ∃ a, (v_B_digest h).1 = a := ⟨_, rfl⟩
  have f5 : some (Value.long (v_B_digest h).1) = _ := f5
  obtain ⟨H1, hH1⟩ : ∃ H1, am_push plB h (g_hp (g_B_digest WB (ROL L) [.ref 38] h)) = H1 := ⟨_, rfl⟩
  rw [hH1] at f2 f3 f4 f5 f6 ⊢
  rw [ha] at f5 ⊢
  obtain ⟨H2, hH2⟩ : ∃ H2, am_push plM H1 (v_M_digest (am_pull plM H1)).2 = H2 := ⟨_, rfl⟩
  obtain ⟨x1, x2⟩ := f6 H2 hH2.symm
  refine am_Ev_G [1745] 400 _ ?_
  show am_Ev m_law WL (ROL L) LPq (1745, LSq i (.retAddr 0) (.retAddr 0), [.ref 135, .long a], H1)
  refine am_Ev_call true (i := 193) (cd := dPl plM 0 WM (d_M_digest 16)) (g := gP plM (g_M_digest WM (ROL L) [.ref 0] (am_pull plM H1)) H1) rfl rfl rfl (gPl_M rfl) rfl (g0_le ?_) (gB_le (f4.trans hg) (by omega)) f2 rfl ?_
  · show (am_push plM H1 (v_M_digest (am_pull plM H1)).2).1 2000 0 = _
    rw [hH2, x1, f4]
  show am_Ev m_law WL (ROL L) LPq (1748, LSq i (.retAddr 0) (.retAddr 0), [.long (v_M_digest (am_pull plM H1)).1, .long a], am_push plM H1 (v_M_digest (am_pull plM H1)).2)
  have e2 : (v_M_digest (am_pull plM H1)).1 = a := by
    have := Option.some.inj f5
    cases this; rfl
  rw [hH2, e2]
  refine am_Ev_G [1754] 400 _ ?_
  have hE : am_Ev m_law WL (ROL L) LPq (1754, LSq i (.retAddr 0) (.retAddr 0), [], H2) := hn.at x2 (x1.trans hg) (by omega) _ _
  show (lg_cmp a a = 0 → am_Ev m_law WL (ROL L) LPq (1754, LSq i (.retAddr 0) (.retAddr 0), [], H2)) ∧ (¬ lg_cmp a a = 0 → (((0 : Int32) = 0 ∨ (0 : Int32) = 1) ∧ LPq (.inl (some (.int 0))) H2))
  exact ⟨fun _ => hE, fun z => absurd (lg_self a) z⟩

set_option maxRecDepth 100000 in
theorem lc_drivenShare {L i g : Nat} {h : HP} (hr : LR h) (hg : h.1 2000 0 = nI g) (hgb : g < 1000) (hn : Nx L i g) : am_Ev m_law WL (ROL L) LPq (1699, LSq i (.retAddr 0) (.retAddr 0), [], h) := by
  obtain ⟨f1, f2, f3, f4, f5, f6⟩ := direct_facts hr (g0 := (g_B_drivenShare WB (ROL L) [.ref 38] h)) (pM := fun m => p_M_drivenShare m) (vM := fun m => v_M_drivenShare m) (fun x : UInt64 => Value.double x) (fun n m hr' => let q := drivenShare_both quoOK hr'; ⟨q.1, q.2.1, ⟨n, q.2.2.2.1⟩, congrArg (fun x => some (Value.double x)) q.2.2.1⟩)
  refine am_Ev_G [1700] 400 _ ?_
  show am_Ev m_law WL (ROL L) LPq (1700, LSq i (.retAddr 0) (.retAddr 0), [.ref 38], h)
  refine am_Ev_call true (i := 184) (cd := dPl plB 38 WB (d_B_drivenShare 15)) (g := gP plB (g_B_drivenShare WB (ROL L) [.ref 38] h) h) rfl rfl rfl (gPl_B rfl) rfl (g0_le f4) (gB_le hg (by omega)) f1 rfl ?_
  show am_Ev m_law WL (ROL L) LPq (1703, LSq i (.retAddr 0) (.retAddr 0), [.double (v_B_drivenShare h)], am_push plB h (g_hp (g_B_drivenShare WB (ROL L) [.ref 38] h)))
  obtain ⟨a, ha⟩ : ∃ a, (v_B_drivenShare h) = a := ⟨_, rfl⟩
  have f5 : some (Value.double (v_B_drivenShare h)) = _ := f5
  obtain ⟨H1, hH1⟩ : ∃ H1, am_push plB h (g_hp (g_B_drivenShare WB (ROL L) [.ref 38] h)) = H1 := ⟨_, rfl⟩
  rw [hH1] at f2 f3 f4 f5 f6 ⊢
  rw [ha] at f5 ⊢
  obtain ⟨H2, hH2⟩ : ∃ H2, am_push plM H1 (v_M_drivenShare (am_pull plM H1)).2 = H2 := ⟨_, rfl⟩
  obtain ⟨x1, x2⟩ := f6 H2 hH2.symm
  refine am_Ev_G [1706] 400 _ ?_
  show am_Ev m_law WL (ROL L) LPq (1706, LSq i (.double a) (.retAddr 0), [.ref 135], H1)
  refine am_Ev_call true (i := 188) (cd := dPl plM 0 WM (d_M_drivenShare 16)) (g := gP plM (g_M_drivenShare WM (ROL L) [.ref 0] (am_pull plM H1)) H1) rfl rfl rfl (gPl_M rfl) rfl (g0_le ?_) (gB_le (f4.trans hg) (by omega)) f2 rfl ?_
  · show (am_push plM H1 (v_M_drivenShare (am_pull plM H1)).2).1 2000 0 = _
    rw [hH2, x1, f4]
  show am_Ev m_law WL (ROL L) LPq (1709, LSq i (.double a) (.retAddr 0), [.double (v_M_drivenShare (am_pull plM H1)).1], am_push plM H1 (v_M_drivenShare (am_pull plM H1)).2)
  have e2 : (v_M_drivenShare (am_pull plM H1)).1 = a := by
    have := Option.some.inj f5
    cases this; rfl
  rw [hH2, e2]
  refine am_Ev_G [1754] 400 _ ?_
  have hE : am_Ev m_law WL (ROL L) LPq (1754, [.ref 1005, .ref 38, .ref 135, .ref 145, .int (nI i), .double a, .retAddr 0, .double a, .retAddr 0], [], H2) := am_fg 5 (am_fg 7 (hn H2 g x2 (x1.trans hg) (by omega)))
  obtain ⟨D, hD⟩ : ∃ D, Op.cmpValue (FP.dcmp a a) .l = D := ⟨_, rfl⟩
  show (Op.cmpValue (FP.dcmp a a) .l = 0 → am_Ev m_law WL (ROL L) LPq (1754, [.ref 1005, .ref 38, .ref 135, .ref 145, .int (nI i), .double a, .retAddr 0, .double a, .retAddr 0], [], H2)) ∧ (¬ Op.cmpValue (FP.dcmp a a) .l = 0 → ((Op.cmpValue (FP.dcmp a a) .l = 0 → (((0 : Int32) = 0 ∨ (0 : Int32) = 1) ∧ LPq (.inl (some (.int 0))) H2)) ∧ (¬ Op.cmpValue (FP.dcmp a a) .l = 0 → ((¬ Op.cmpValue (FP.dcmp a a) .l = 0 → am_Ev m_law WL (ROL L) LPq (1754, [.ref 1005, .ref 38, .ref 135, .ref 145, .int (nI i), .double a, .retAddr 0, .double a, .retAddr 0], [], H2)) ∧ (Op.cmpValue (FP.dcmp a a) .l = 0 → (((0 : Int32) = 0 ∨ (0 : Int32) = 1) ∧ LPq (.inl (some (.int 0))) H2))))))
  exact ⟨fun _ => hE, fun z => ⟨fun z2 => absurd z2 z, fun _ => ⟨fun _ => hE, fun z2 => absurd z2 z⟩⟩⟩

set_option maxRecDepth 100000 in
theorem law_loop {L : Nat} (hL : L ≤ 3072) : ∀ (f i g : Nat) (h : HP), L < i + 6 * f → i ≤ L + 6 → LR h → h.1 2000 0 = nI g → g + f < 1000 → am_Ev m_law WL (ROL L) LPq (23, LSq i (.retAddr 0) (.retAddr 0), [], h) := by
  intro f
  induction f with
  | zero =>
    intro i g h hf hi hr hg hb
    have hge : ¬ nI i ≤ Int32.ofNat L - 6 := by
      intro z
      have h1 := Int32.le_iff_toInt_le.mp z
      rw [nI_toInt (by omega), law_sub hL] at h1
      omega
    refine am_Ev_G [33] 400 _ ?_
    show ((¬ nI i ≤ Int32.ofNat L - 6 → (((1 : Int32) = 0 ∨ (1 : Int32) = 1) ∧ LPq (.inl (some (.int 1))) h)) ∧ (nI i ≤ Int32.ofNat L - 6 → am_Ev m_law WL (ROL L) LPq (33, LSq i (.retAddr 0) (.retAddr 0), [], h)))
    exact ⟨fun _ => ⟨.inr rfl, rfl, by rw [hg, nI_clamp (by omega)]; omega⟩, fun z => absurd z hge⟩
  | succ f ih =>
    intro i g h hf hi hr hg hb
    refine am_Ev_G [33] 400 _ ?_
    show ((¬ nI i ≤ Int32.ofNat L - 6 → (((1 : Int32) = 0 ∨ (1 : Int32) = 1) ∧ LPq (.inl (some (.int 1))) h)) ∧ (nI i ≤ Int32.ofNat L - 6 → am_Ev m_law WL (ROL L) LPq (33, LSq i (.retAddr 0) (.retAddr 0), [], h)))
    refine ⟨fun _ => ⟨.inr rfl, rfl, by rw [hg, nI_clamp (by omega)]; omega⟩, fun z => ?_⟩
    have h6 : i + 6 ≤ L := by
      have h1 := Int32.le_iff_toInt_le.mp z
      rw [nI_toInt (by omega), law_sub hL] at h1
      omega
    have hn : Nx L i g := fun h' g' a b c => by
      refine am_Ev_G [23] 400 _ ?_
      show am_Ev m_law WL (ROL L) LPq (23, [.ref 1005, .ref 38, .ref 135, .ref 145, .int (nI i + 6), .retAddr 0, .retAddr 0, .retAddr 0, .retAddr 0], [], h')
      rw [show nI i + 6 = nI (i + 6) from nI_add i 6]
      exact ih (i + 6) g' h' (by omega) (by omega) a b (by omega)
    have hd : am_Ev m_law WL (ROL L) LPq (1754, LSq i (.retAddr 0) (.retAddr 0), [], h) := hn h g hr hg (by omega)
    refine am_Ev_G [168, 236, 292, 396, 464, 532, 600, 656, 669, 725, 781, 794, 807, 851, 907, 963, 1007, 1075, 1143, 1211, 1291, 1347, 1403, 1471, 1575, 1643, 1699, 1740, 1754] 400 _ ?_
    show am_in (nI i) L ∧ (((h.1 1005 (am_ix (nI i)) &&& 31) = 0 → am_Ev m_law WL (ROL L) LPq (168, LSq i (.retAddr 0) (.retAddr 0), [], h)) ∧ (¬ (h.1 1005 (am_ix (nI i)) &&& 31) = 0 → (((h.1 1005 (am_ix (nI i)) &&& 31) = 1 → am_Ev m_law WL (ROL L) LPq (236, LSq i (.retAddr 0) (.retAddr 0), [], h)) ∧ (¬ (h.1 1005 (am_ix (nI i)) &&& 31) = 1 → (((h.1 1005 (am_ix (nI i)) &&& 31) = 2 → am_Ev m_law WL (ROL L) LPq (292, LSq i (.retAddr 0) (.retAddr 0), [], h)) ∧ (¬ (h.1 1005 (am_ix (nI i)) &&& 31) = 2 → (((h.1 1005 (am_ix (nI i)) &&& 31) = 3 → am_Ev m_law WL (ROL L) LPq (396, LSq i (.retAddr 0) (.retAddr 0), [], h)) ∧ (¬ (h.1 1005 (am_ix (nI i)) &&& 31) = 3 → (((h.1 1005 (am_ix (nI i)) &&& 31) = 4 → am_Ev m_law WL (ROL L) LPq (464, LSq i (.retAddr 0) (.retAddr 0), [], h)) ∧ (¬ (h.1 1005 (am_ix (nI i)) &&& 31) = 4 → (((h.1 1005 (am_ix (nI i)) &&& 31) = 5 → am_Ev m_law WL (ROL L) LPq (532, LSq i (.retAddr 0) (.retAddr 0), [], h)) ∧ (¬ (h.1 1005 (am_ix (nI i)) &&& 31) = 5 → (((h.1 1005 (am_ix (nI i)) &&& 31) = 6 → am_Ev m_law WL (ROL L) LPq (600, LSq i (.retAddr 0) (.retAddr 0), [], h)) ∧ (¬ (h.1 1005 (am_ix (nI i)) &&& 31) = 6 → (((h.1 1005 (am_ix (nI i)) &&& 31) = 7 → am_Ev m_law WL (ROL L) LPq (656, LSq i (.retAddr 0) (.retAddr 0), [], h)) ∧ (¬ (h.1 1005 (am_ix (nI i)) &&& 31) = 7 → (((h.1 1005 (am_ix (nI i)) &&& 31) = 8 → am_Ev m_law WL (ROL L) LPq (669, LSq i (.retAddr 0) (.retAddr 0), [], h)) ∧ (¬ (h.1 1005 (am_ix (nI i)) &&& 31) = 8 → (((h.1 1005 (am_ix (nI i)) &&& 31) = 9 → am_Ev m_law WL (ROL L) LPq (725, LSq i (.retAddr 0) (.retAddr 0), [], h)) ∧ (¬ (h.1 1005 (am_ix (nI i)) &&& 31) = 9 → (((h.1 1005 (am_ix (nI i)) &&& 31) = 10 → am_Ev m_law WL (ROL L) LPq (781, LSq i (.retAddr 0) (.retAddr 0), [], h)) ∧ (¬ (h.1 1005 (am_ix (nI i)) &&& 31) = 10 → (((h.1 1005 (am_ix (nI i)) &&& 31) = 11 → am_Ev m_law WL (ROL L) LPq (794, LSq i (.retAddr 0) (.retAddr 0), [], h)) ∧ (¬ (h.1 1005 (am_ix (nI i)) &&& 31) = 11 → (((h.1 1005 (am_ix (nI i)) &&& 31) = 12 → am_Ev m_law WL (ROL L) LPq (807, LSq i (.retAddr 0) (.retAddr 0), [], h)) ∧ (¬ (h.1 1005 (am_ix (nI i)) &&& 31) = 12 → (((h.1 1005 (am_ix (nI i)) &&& 31) = 13 → am_Ev m_law WL (ROL L) LPq (851, LSq i (.retAddr 0) (.retAddr 0), [], h)) ∧ (¬ (h.1 1005 (am_ix (nI i)) &&& 31) = 13 → (((h.1 1005 (am_ix (nI i)) &&& 31) = 14 → am_Ev m_law WL (ROL L) LPq (907, LSq i (.retAddr 0) (.retAddr 0), [], h)) ∧ (¬ (h.1 1005 (am_ix (nI i)) &&& 31) = 14 → (((h.1 1005 (am_ix (nI i)) &&& 31) = 15 → am_Ev m_law WL (ROL L) LPq (963, LSq i (.retAddr 0) (.retAddr 0), [], h)) ∧ (¬ (h.1 1005 (am_ix (nI i)) &&& 31) = 15 → (((h.1 1005 (am_ix (nI i)) &&& 31) = 16 → am_Ev m_law WL (ROL L) LPq (1007, LSq i (.retAddr 0) (.retAddr 0), [], h)) ∧ (¬ (h.1 1005 (am_ix (nI i)) &&& 31) = 16 → (((h.1 1005 (am_ix (nI i)) &&& 31) = 17 → am_Ev m_law WL (ROL L) LPq (1075, LSq i (.retAddr 0) (.retAddr 0), [], h)) ∧ (¬ (h.1 1005 (am_ix (nI i)) &&& 31) = 17 → (((h.1 1005 (am_ix (nI i)) &&& 31) = 18 → am_Ev m_law WL (ROL L) LPq (1143, LSq i (.retAddr 0) (.retAddr 0), [], h)) ∧ (¬ (h.1 1005 (am_ix (nI i)) &&& 31) = 18 → (((h.1 1005 (am_ix (nI i)) &&& 31) = 19 → am_Ev m_law WL (ROL L) LPq (1211, LSq i (.retAddr 0) (.retAddr 0), [], h)) ∧ (¬ (h.1 1005 (am_ix (nI i)) &&& 31) = 19 → (((h.1 1005 (am_ix (nI i)) &&& 31) = 20 → am_Ev m_law WL (ROL L) LPq (1291, LSq i (.retAddr 0) (.retAddr 0), [], h)) ∧ (¬ (h.1 1005 (am_ix (nI i)) &&& 31) = 20 → (((h.1 1005 (am_ix (nI i)) &&& 31) = 21 → am_Ev m_law WL (ROL L) LPq (1347, LSq i (.retAddr 0) (.retAddr 0), [], h)) ∧ (¬ (h.1 1005 (am_ix (nI i)) &&& 31) = 21 → (((h.1 1005 (am_ix (nI i)) &&& 31) = 22 → am_Ev m_law WL (ROL L) LPq (1403, LSq i (.retAddr 0) (.retAddr 0), [], h)) ∧ (¬ (h.1 1005 (am_ix (nI i)) &&& 31) = 22 → (((h.1 1005 (am_ix (nI i)) &&& 31) = 23 → am_Ev m_law WL (ROL L) LPq (1471, LSq i (.retAddr 0) (.retAddr 0), [], h)) ∧ (¬ (h.1 1005 (am_ix (nI i)) &&& 31) = 23 → (((h.1 1005 (am_ix (nI i)) &&& 31) = 24 → am_Ev m_law WL (ROL L) LPq (1575, LSq i (.retAddr 0) (.retAddr 0), [], h)) ∧ (¬ (h.1 1005 (am_ix (nI i)) &&& 31) = 24 → (((h.1 1005 (am_ix (nI i)) &&& 31) = 25 → am_Ev m_law WL (ROL L) LPq (1643, LSq i (.retAddr 0) (.retAddr 0), [], h)) ∧ (¬ (h.1 1005 (am_ix (nI i)) &&& 31) = 25 → (((h.1 1005 (am_ix (nI i)) &&& 31) = 26 → am_Ev m_law WL (ROL L) LPq (1699, LSq i (.retAddr 0) (.retAddr 0), [], h)) ∧ (¬ (h.1 1005 (am_ix (nI i)) &&& 31) = 26 → (((h.1 1005 (am_ix (nI i)) &&& 31) = 27 → am_Ev m_law WL (ROL L) LPq (1740, LSq i (.retAddr 0) (.retAddr 0), [], h)) ∧ (¬ (h.1 1005 (am_ix (nI i)) &&& 31) = 27 → am_Ev m_law WL (ROL L) LPq (1754, LSq i (.retAddr 0) (.retAddr 0), [], h)))))))))))))))))))))))))))))))))))))))))))))))))))))))))
    exact ⟨nI_am (by omega) (by omega), ⟨fun _ => lc_layover hL h6 hr hg (by omega) hn, fun _ => ⟨fun _ => lc_relief hL h6 hr hg (by omega) hn, fun _ => ⟨fun _ => lc_trip hL h6 hr hg (by omega) hn, fun _ => ⟨fun _ => lc_shift hL h6 hr hg (by omega) hn, fun _ => ⟨fun _ => lc_set hL h6 hr hg (by omega) hn, fun _ => ⟨fun _ => lc_follow hL h6 hr hg (by omega) hn, fun _ => ⟨fun _ => lc_part hL h6 hr hg (by omega) hn, fun _ => ⟨fun _ => lc_blockAll hr hg (by omega) hn, fun _ => ⟨fun _ => lc_fail hL h6 hr hg (by omega) hn, fun _ => ⟨fun _ => lc_append hL h6 hr hg (by omega) hn, fun _ => ⟨fun _ => lc_clearBuffer hr hg (by omega) hn, fun _ => ⟨fun _ => lc_firstError hr hg (by omega) hn, fun _ => ⟨fun _ => lc_load hL h6 hr hg (by omega) hn, fun _ => ⟨fun _ => lc_keep hL h6 hr hg (by omega) hn, fun _ => ⟨fun _ => lc_goBack hL h6 hr hg (by omega) hn, fun _ => ⟨fun _ => lc_undo hL h6 hr hg (by omega) hn, fun _ => ⟨fun _ => lc_terminalOf hL h6 hr hg (by omega) hn, fun _ => ⟨fun _ => lc_tripOf hL h6 hr hg (by omega) hn, fun _ => ⟨fun _ => lc_blockOf hL h6 hr hg (by omega) hn, fun _ => ⟨fun _ => lc_duty hL h6 hr hg (by omega) hn, fun _ => ⟨fun _ => lc_count hL h6 hr hg (by omega) hn, fun _ => ⟨fun _ => lc_setting hL h6 hr hg (by omega) hn, fun _ => ⟨fun _ => lc_whyNot hL h6 hr hg (by omega) hn, fun _ => ⟨fun _ => lc_ifTrip hL h6 hr hg (by omega) hn, fun _ => ⟨fun _ => lc_bestTime hL h6 hr hg (by omega) hn, fun _ => ⟨fun _ => lc_ifFailed hL h6 hr hg (by omega) hn, fun _ => ⟨fun _ => lc_drivenShare hr hg (by omega) hn, fun _ => ⟨fun _ => lc_digest hr hg (by omega) hn, fun _ => hd⟩⟩⟩⟩⟩⟩⟩⟩⟩⟩⟩⟩⟩⟩⟩⟩⟩⟩⟩⟩⟩⟩⟩⟩⟩⟩⟩⟩⟩
