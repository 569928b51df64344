/-! PURE: the methods of the face, class and model side by side: snapshots, the buffer. -/
theorem RrZ.fr {h h' : HP} (hz : RrZ h) (a : h'.1 1002 = h.1 1002) (b : h'.1 1003 = h.1 1003) : RrZ h' := by unfold RrZ; rw [a, b]; exact hz
theorem undo_both {n : Nat} {h m : HP} (hr : RR n h m) : p_B_undo h ∧ p_M_undo m ∧ Bo [(xS, 1)] h (v_B_undo h) (v_M_undo m) := by
  obtain ⟨hR, hI, ⟨s, o, k1, k2, k3, k4, k5, k6⟩, hK, ⟨l, x1, x2, x3, x4⟩, hZ⟩ := hr
  cases s with
  | zero =>
    have hc : h.1 38 9 ≤ 0 := by rw [k3]; decide +kernel
    have hm : m.1 0 3 = 0 := k5
    refine ⟨⟨fun _ => trivial, fun z => absurd hc z⟩, ⟨fun _ => trivial, fun z => absurd hm z⟩, ?_⟩
    rw [v_B_undo, if_pos hc, v_M_undo, if_pos hm]
    exact Bo.thr (n := n) ⟨hR, hI, ⟨0, o, k1, k2, k3, k4, k5, k6⟩, hK, ⟨l, x1, x2, x3, x4⟩, hZ⟩ (.head _)
  | succ s =>
    have hc : ¬ h.1 38 9 ≤ 0 := by
      rw [k3]; intro z
      have := Int32.le_iff_toInt_le.mp z
      rw [nI_toInt (by omega)] at this
      have e2 : (0 : Int32).toInt = 0 := by decide +kernel
      omega
    have hm : ¬ m.1 0 3 = 0 := by rw [k5]; intro z; have := (nI_z (a := s + 1) (by omega)).mp z; omega
    have e1 : h.1 38 9 - 1 = nI s := by rw [k3, nI_pred]
    have e2 : h.1 38 8 + (h.1 38 9 - 1) - (h.1 38 8 + (h.1 38 9 - 1)) / 6 * 6 = nI ((o + s) % 6) := by rw [e1, k4, nI_add, mod6 (by omega)]
    have hp : (o + s) % 6 < 6 := Nat.mod_lt _ (by omega)
    have e3 : m.1 0 3 - 1 = nI s := by rw [k5, nI_pred]
    have e4 : (163 : Int32) * nI s = nI (163 * s) := by rw [show (163 : Int32) = nI 163 from rfl, nI_mul]
    obtain ⟨f1, f2⟩ := fe33 hp (am_si h 38 9 (nI s))
    have hq := (cq39 hp).2
    refine ⟨⟨fun _ => trivial, fun _ => by rw [e2, e1]; exact f2⟩, ⟨fun _ => trivial, fun _ => by rw [e3, e4]; exact p_lay (p2 := 0) (by omega) (by omega) (by omega) (by omega)⟩, ?_⟩
    let H := v_copyFrom (am_si h 38 9 (nI s)) 0 (39 + 12 * ((o + s) % 6))
    let M := v_lays (am_si (am_si m 0 8 0) 0 3 (nI s)) 3 (nI (163 * s)) 1 (nI 0)
    have hH : ∀ c, 12 ≤ c → c ≠ 38 → H.1 c = h.1 c := fun c h1 h2 => by
      show (v_copyFrom _ _ _).1 c = _
      rw [copy_rest hq _ (by omega)]; exact am_si_ne h2
    have hH9 : H.1 38 9 = nI s := by
      show (v_copyFrom _ _ _).1 38 9 = _
      rw [copy_rest hq _ (by omega), am_si1, if_pos ⟨rfl, rfl⟩]
    have hH8 : H.1 38 8 = nI o := by
      show (v_copyFrom _ _ _).1 38 8 = _
      rw [copy_rest hq _ (by omega), am_si1, if_neg (by omega)]; exact k4
    have hM : ∀ c, c ≠ 0 → c ≠ 1 → M.1 c = m.1 c := fun c h1 h2 => by
      show (v_lays _ _ _ _ _).1 c = _
      rw [lay_ne h2, am_si_ne h1, am_si_ne h1]
    have hM0 : ∀ k, M.1 0 k = if k = 3 then nI s else if k = 8 then 0 else m.1 0 k := fun k => by
      show (v_lays _ _ _ _ _).1 0 k = _
      rw [lay_ne (by omega), am_si1]
      by_cases h1 : k = 3
      · rw [if_pos ⟨rfl, h1⟩, if_pos h1]
      · rw [if_neg (fun z => h1 z.2), if_neg h1, am_si1]
        by_cases h2 : k = 8
        · rw [if_pos ⟨rfl, h2⟩, if_pos h2]
        · rw [if_neg (fun z => h2 z.2), if_neg h2]
    have hM1 : ∀ i, i < 163 → M.1 1 i = row m 3 (163 * s) i := fun i hi => by
      show (v_lays _ _ _ _ (nI 0)).1 1 i = _
      rw [lay_at (by omega) (by omega), if_pos (by omega), am_si_ne (by omega), am_si_ne (by omega)]
      exact congrArg (m.1 3) (by omega)
    obtain ⟨n', r1, r2⟩ := k6 s (by omega)
    have hn' := r2.n20
    have hcv : v_B_undo h = .inr (nI s, H) := by
      rw [v_B_undo, if_neg hc, e2, e1, f1]
      show Sum.inr (H.1 38 9, H) = _
      rw [hH9]
    have hmv : v_M_undo m = (nI s, M) := by
      rw [v_M_undo, if_neg hm, e3, e4]
      show (M.1 0 3, M) = _
      rw [hM0, if_pos rfl]
    rw [hcv, hmv]
    refine ⟨?_, rfl, n', ?_, ?_, ⟨s, o, by omega, k2, hH9, hH8, ?_, fun j hj => ?_⟩, fun j hj => ?_, ⟨l, x1, ?_, ?_, fun i hi => ?_⟩, hZ.fr (hH 1002 (by omega) (by omega)) (hH 1003 (by omega) (by omega))⟩
    · show M.1 0 8 = 0
      rw [hM0, if_neg (by omega), if_pos rfl]
    · exact (copy_RT hq (r1.congr (fun j hj => am_si_ne (by omega))) hn').agree (fun i hi => hM1 i (by omega))
    · exact r2.agree (fun i hi => hM1 i (by omega))
    · show M.1 0 3 = _
      rw [hM0, if_pos rfl]
    · exact (k6 j (by omega)).keep (fun i _ => hH _ (by omega) (by omega)) (fun i _ => by rw [hM 3 (by omega) (by omega)])
    · rw [hH 37 (by omega) (by omega), hM 5 (by omega) (by omega)]
      exact ⟨(hK j hj).1, (hK j hj).2.imp id (fun z => ⟨z.1, z.2.keep (fun i _ => hH _ (by omega) (by omega)) (fun i _ => by rw [hM 4 (by omega) (by omega)])⟩)⟩
    · rw [hH 18 (by omega) (by omega)]; exact x2
    · show M.1 0 7 = _
      rw [hM0, if_neg (by omega), if_neg (by omega)]; exact x3
    · rw [hH 19 (by omega) (by omega), hM 6 (by omega) (by omega)]; exact x4 i hi
theorem append_both {n : Nat} {h m : HP} (hr : RR n h m) (a : Int32) : p_M_append m a ∧ Bo [(xA, 1), (xS, 2)] h (v_B_append h a) (v_M_append m a) := by
  have hr0 := hr
  obtain ⟨hR, hI, hS, hK, ⟨l, x1, x2, x3, x4⟩, hZ⟩ := hr
  have hx : m.1 0 7 = 60 ↔ l = 60 := by rw [x3]; exact nI_eq (b := 60) (by omega) (by omega)
  refine ⟨⟨fun _ => trivial, fun _ => ⟨fun _ => trivial, fun z => ?_⟩⟩, ?_⟩
  · rw [x3]; exact nI_am (by have : l ≠ 60 := fun e => z (hx.mpr e); omega) (by omega)
  rcases rng_cases (lo := 33) (hi := 126) (by omega) (by omega) h a with ⟨v, hv1, hv2, ea, f1, f2⟩ | ⟨f1, f2⟩
  · have f1' : v_B_checkRange h a 33 126 = none := f1
    have f2' : v_M_in (am_si m 0 8 0) a 33 126 = 1 := f2 _
    by_cases e : l = 60
    · have hlt : ¬ h.1 18 2 < 60 := by rw [x2]; exact nI_nlt (b := 60) (by omega) (by omega)
      rw [v_B_append, f1', v_M_append, f2', if_neg one0, if_pos (hx.mpr e)]
      show Bo _ h (if h.1 18 2 < 60 then _ else _) _
      rw [if_neg hlt]
      exact Bo.thr hr0 (.tail _ (.head _))
    · have hl : l < 60 := by omega
      have hlt : h.1 18 2 < 60 := by rw [x2]; exact nI_lt (b := 60) hl (by omega)
      let H := am_si (am_si h 19 l a) 18 2 (nI (l + 1))
      let M := am_si (am_si (am_si m 0 8 0) 6 l a) 0 7 (nI (l + 1))
      have hcv : v_B_append h a = .inr (nI (l + 1), H) := by
        rw [v_B_append, f1']
        show (if h.1 18 2 < 60 then Sum.inr (v_X_addSign h a) else _) = _
        rw [if_pos hlt, v_X_addSign, x2, put_nI (by omega) _ _ hl, am_si_ne (by omega), x2, nI_1]
      have hmv : v_M_append m a = (nI (l + 1), M) := by
        rw [v_M_append, f2', if_neg one0, if_neg (fun z => e (hx.mp z)), x3, nI_1, nI_ix (by omega)]
      have hH : ∀ c, c ≠ 18 → c ≠ 19 → H.1 c = h.1 c := fun c h1 h2 => by
        show (am_si _ _ _ _).1 c = _
        rw [am_si_ne h1, am_si_ne h2]
      have hM : ∀ c, c ≠ 0 → c ≠ 6 → M.1 c = m.1 c := fun c h1 h2 => by
        show (am_si _ _ _ _).1 c = _
        rw [am_si_ne h1, am_si_ne h2, am_si_ne h1]
      have hM0 : ∀ k, M.1 0 k = if k = 7 then nI (l + 1) else if k = 8 then 0 else m.1 0 k := fun k => by
        show (am_si _ 0 7 _).1 0 k = _
        rw [am_si1]
        by_cases h1 : k = 7
        · rw [if_pos ⟨rfl, h1⟩, if_pos h1]
        · rw [if_neg (fun z => h1 z.2), if_neg h1, am_si_ne (by omega), am_si1]
          by_cases h2 : k = 8
          · rw [if_pos ⟨rfl, h2⟩, if_pos h2]
          · rw [if_neg (fun z => h2 z.2), if_neg h2]
      rw [hcv, hmv]
      refine ⟨?_, rfl, n, ?_, ?_, ?_, fun j hj => ?_, ⟨l + 1, by omega, ?_, ?_, fun i hi => ?_⟩, hZ.fr (hH 1002 (by omega) (by omega)) (hH 1003 (by omega) (by omega))⟩
      · show M.1 0 8 = 0
        rw [hM0, if_neg (by omega), if_pos rfl]
      · show RT H.1 0 (M.1 1) n
        rw [hM 1 (by omega) (by omega)]; exact hR.congr (fun j hj => hH _ (by omega) (by omega))
      · show Inv (M.1 1) n
        rw [hM 1 (by omega) (by omega)]; exact hI
      · obtain ⟨s, o, k1, k2, k3, k4, k5, k6⟩ := hS
        exact ⟨s, o, k1, k2, by show H.1 38 9 = _; rw [hH 38 (by omega) (by omega)]; exact k3, by show H.1 38 8 = _; rw [hH 38 (by omega) (by omega)]; exact k4, by show M.1 0 3 = _; rw [hM0, if_neg (by omega), if_neg (by omega)]; exact k5, fun j hj => (k6 j hj).keep (fun i _ => hH _ (by omega) (by omega)) (fun i _ => by show M.1 3 _ = _; rw [hM 3 (by omega) (by omega)])⟩
      · show H.1 37 j = M.1 5 j ∧ (M.1 5 j = 0 ∨ M.1 5 j = 1 ∧ _)
        rw [hH 37 (by omega) (by omega), hM 5 (by omega) (by omega)]
        exact ⟨(hK j hj).1, (hK j hj).2.imp id (fun z => ⟨z.1, z.2.keep (fun i _ => hH _ (by omega) (by omega)) (fun i _ => by show M.1 4 _ = _; rw [hM 4 (by omega) (by omega)])⟩)⟩
      · show (am_si _ 18 2 _).1 18 2 = _
        rw [am_si1, if_pos ⟨rfl, rfl⟩]
      · show M.1 0 7 = _
        rw [hM0, if_pos rfl]
      · have hc19 : H.1 19 i = if i = l then a else h.1 19 i := by
          show (am_si (am_si h 19 l a) 18 2 _).1 19 i = _
          rw [am_si_ne (by omega), am_si1]
          exact ite_iff' ⟨fun z => z.2, fun z => ⟨rfl, z⟩⟩ rfl
        have hm6 : M.1 6 i = if i = l then a else m.1 6 i := by
          show (am_si (am_si (am_si m 0 8 0) 6 l a) 0 7 _).1 6 i = _
          rw [am_si_ne (by omega), am_si1]
          exact ite_iff' ⟨fun z => z.2, fun z => ⟨rfl, z⟩⟩ (by rw [am_si_ne (by omega)])
        show ∃ c, 33 ≤ c ∧ c ≤ 126 ∧ H.1 19 i = nI c ∧ M.1 6 i = nI c
        rw [hc19, hm6]
        by_cases e1 : i = l
        · rw [if_pos e1, if_pos e1]; exact ⟨v, hv1, hv2, ea, ea⟩
        · rw [if_neg e1, if_neg e1]; exact x4 i (by omega)
  · have f1' : v_B_checkRange h a 33 126 = some xA := f1
    have f2' : v_M_in (am_si m 0 8 0) a 33 126 = 0 := f2 _
    rw [v_B_append, f1', v_M_append, f2', if_pos rfl]
    exact Bo.thr hr0 (.head _)
theorem clearBuffer_both {n : Nat} {h m : HP} (hr : RR n h m) : Bo [] h (.inr (v_B_clearBuffer h)) (v_M_clearBuffer m) := by
  obtain ⟨hR, hI, hS, hK, ⟨l, x1, x2, x3, x4⟩, hZ⟩ := hr
  let H := am_si h 18 2 0
  let M := am_si (am_si m 0 8 0) 0 7 0
  have hH : ∀ c, c ≠ 18 → H.1 c = h.1 c := fun c h1 => am_si_ne h1
  have hM : ∀ c, c ≠ 0 → M.1 c = m.1 c := fun c h1 => by
    show (am_si _ _ _ _).1 c = _
    rw [am_si_ne h1, am_si_ne h1]
  have hM0 : ∀ k, M.1 0 k = if k = 7 then 0 else if k = 8 then 0 else m.1 0 k := fun k => by
    show (am_si _ 0 7 _).1 0 k = _
    rw [am_si1]
    by_cases h1 : k = 7
    · rw [if_pos ⟨rfl, h1⟩, if_pos h1]
    · rw [if_neg (fun z => h1 z.2), if_neg h1, am_si1]
      by_cases h2 : k = 8
      · rw [if_pos ⟨rfl, h2⟩, if_pos h2]
      · rw [if_neg (fun z => h2 z.2), if_neg h2]
  refine ⟨?_, ?_, n, ?_, ?_, ?_, fun j hj => ?_, ⟨0, by omega, ?_, ?_, fun i hi => absurd hi (by omega)⟩, hZ.fr (hH 1002 (by omega)) (hH 1003 (by omega))⟩
  · show M.1 0 8 = 0
    rw [hM0, if_neg (by omega), if_pos rfl]
  · show m.1 0 7 = h.1 18 2
    rw [x3, x2]
  · show RT H.1 0 (M.1 1) n
    rw [hM 1 (by omega)]; exact hR.congr (fun j hj => hH _ (by omega))
  · show Inv (M.1 1) n
    rw [hM 1 (by omega)]; exact hI
  · obtain ⟨s, o, k1, k2, k3, k4, k5, k6⟩ := hS
    exact ⟨s, o, k1, k2, by show H.1 38 9 = _; rw [hH 38 (by omega)]; exact k3, by show H.1 38 8 = _; rw [hH 38 (by omega)]; exact k4, by show M.1 0 3 = _; rw [hM0, if_neg (by omega), if_neg (by omega)]; exact k5, fun j hj => (k6 j hj).keep (fun i _ => hH _ (by omega)) (fun i _ => by show M.1 3 _ = _; rw [hM 3 (by omega)])⟩
  · show H.1 37 j = M.1 5 j ∧ (M.1 5 j = 0 ∨ M.1 5 j = 1 ∧ _)
    rw [hH 37 (by omega), hM 5 (by omega)]
    exact ⟨(hK j hj).1, (hK j hj).2.imp id (fun z => ⟨z.1, z.2.keep (fun i _ => hH _ (by omega)) (fun i _ => by show M.1 4 _ = _; rw [hM 4 (by omega)])⟩)⟩
  · show H.1 18 2 = _
    show (am_si _ 18 2 _).1 18 2 = _
    rw [am_si1, if_pos ⟨rfl, rfl⟩]; rfl
  · show M.1 0 7 = _
    rw [hM0, if_pos rfl]; rfl
theorem keep_both {n : Nat} {h m : HP} (hr : RR n h m) (a : Int32) : p_B_keep h a ∧ p_M_keep m a ∧ Bo [(xA, 1)] h (v_B_keep h a) (v_M_keep m a) := by
  have hr0 := hr
  obtain ⟨hR, hI, hS, hK, ⟨l, x1, x2, x3, x4⟩, hZ⟩ := hr
  have h20 := hI.n20
  rcases rng_cases (lo := 0) (hi := 1) (by omega) (by omega) h a with ⟨p, _, hp1, ea, f1, f2⟩ | ⟨f1, f2⟩
  · have f1' : v_B_checkRange h a 0 1 = none := f1
    have f2' : v_M_in (am_si m 0 8 0) a 0 1 = 1 := f2 _
    have hp : p < 2 := by omega
    obtain ⟨g1, g2⟩ := st35 hp h
    have hq := (cq111 hp).1
    have e4 : (163 : Int32) * nI p = nI (163 * p) := by rw [show (163 : Int32) = nI 163 from rfl, nI_mul]
    refine ⟨fun _ => by rw [ea]; exact g2, ⟨fun _ => trivial, fun _ => ⟨by rw [ea, e4]; exact p_lay (p1 := 0) (by omega) (by omega) (by omega) (by omega), by rw [ea]; exact nI_am hp (by omega)⟩⟩, ?_⟩
    let H := am_si (v_copyFrom h (111 + 12 * p) 0) 37 p 1
    let M := am_si (v_lays (am_si m 0 8 0) 1 (nI 0) 4 (nI (163 * p))) 5 p 1
    have hH : ∀ c, c ≠ 37 → ¬ (111 + 12 * p ≤ c ∧ c < 111 + 12 * p + 12) → H.1 c = h.1 c := fun c h1 h2 => by
      show (am_si _ _ _ _).1 c = _
      rw [am_si_ne h1, copy_rest hq _ h2]
    have hH37 : ∀ j, H.1 37 j = if j = p then 1 else h.1 37 j := fun j => by
      show (am_si _ 37 p 1).1 37 j = _
      rw [am_si1, copy_rest hq _ (by omega)]
      exact ite_iff' ⟨fun z => z.2, fun z => ⟨rfl, z⟩⟩ rfl
    have hM : ∀ c, c ≠ 0 → c ≠ 4 → c ≠ 5 → M.1 c = m.1 c := fun c h1 h2 h3 => by
      show (am_si _ _ _ _).1 c = _
      rw [am_si_ne h3, lay_ne h2, am_si_ne h1]
    have hM0 : ∀ k, M.1 0 k = if k = 8 then 0 else m.1 0 k := fun k => by
      show (am_si _ 5 _ _).1 0 k = _
      rw [am_si_ne (by omega), lay_ne (by omega), am_si1]
      exact ite_iff' ⟨fun z => z.2, fun z => ⟨rfl, z⟩⟩ rfl
    have hM5 : ∀ j, M.1 5 j = if j = p then 1 else m.1 5 j := fun j => by
      show (am_si _ 5 p 1).1 5 j = _
      rw [am_si1, lay_ne (by omega), am_si_ne (by omega)]
      exact ite_iff' ⟨fun z => z.2, fun z => ⟨rfl, z⟩⟩ rfl
    have hM4 : ∀ i, M.1 4 i = if 163 * p ≤ i ∧ i < 163 * p + 163 then m.1 1 (0 + (i - 163 * p)) else m.1 4 i := fun i => by
      show (am_si _ 5 p 1).1 4 i = _
      rw [am_si_ne (by omega), lay_at (by omega) (by omega), am_si_ne (by omega), am_si_ne (by omega)]
    have hcv : v_B_keep h a = .inr (nI n, H) := by
      rw [v_B_keep, f1', ea]
      show Sum.inr ((v_put 2 (v_S_store_0_35 h (nI p)) 37 (nI p) 1).1 0 11, v_put 2 (v_S_store_0_35 h (nI p)) 37 (nI p) 1) = _
      rw [g1, put_nI (by omega) _ _ hp]
      show Sum.inr (H.1 0 11, H) = _
      rw [hH 0 (by omega) (by omega)]; exact congrArg (fun x => Sum.inr (x, H)) hR.nn
    have hmv : v_M_keep m a = (nI n, M) := by
      rw [v_M_keep, f2', if_neg one0, ea, e4, nI_ix (by omega), ix15]
      show (M.1 1 15, M) = _
      rw [hM 1 (by omega) (by omega) (by omega), hI.t15]
    rw [hcv, hmv]
    refine ⟨?_, rfl, n, ?_, ?_, ?_, fun j hj => ?_, ⟨l, x1, ?_, ?_, fun i hi => ?_⟩, hZ.fr (hH 1002 (by omega) (by omega)) (hH 1003 (by omega) (by omega))⟩
    · show M.1 0 8 = 0
      rw [hM0, if_pos rfl]
    · show RT H.1 0 (M.1 1) n
      rw [hM 1 (by omega) (by omega) (by omega)]; exact hR.congr (fun j hj => hH _ (by omega) (by omega))
    · show Inv (M.1 1) n
      rw [hM 1 (by omega) (by omega) (by omega)]; exact hI
    · obtain ⟨s, o, k1, k2, k3, k4, k5, k6⟩ := hS
      exact ⟨s, o, k1, k2, by show H.1 38 9 = _; rw [hH 38 (by omega) (by omega)]; exact k3, by show H.1 38 8 = _; rw [hH 38 (by omega) (by omega)]; exact k4, by show M.1 0 3 = _; rw [hM0, if_neg (by omega)]; exact k5, fun j hj => (k6 j hj).keep (fun i _ => hH _ (by omega) (by omega)) (fun i _ => by show M.1 3 _ = _; rw [hM 3 (by omega) (by omega) (by omega)])⟩
    · show H.1 37 j = M.1 5 j ∧ (M.1 5 j = 0 ∨ M.1 5 j = 1 ∧ Sn H M (111 + 12 * j) 4 (163 * j))
      rw [hH37, hM5]
      by_cases ej : j = p
      · rw [if_pos ej, if_pos ej]
        refine ⟨rfl, .inr ⟨rfl, n, ?_, ?_⟩⟩
        · rw [ej]
          refine ((copy_RT hq hR h20).congr (fun i hi => ?_)).agree (fun i hi => ?_)
          · show (am_si _ 37 p 1).1 _ = _
            rw [am_si_ne (by omega)]
          · show M.1 4 (163 * p + i) = _
            rw [hM4, if_pos (by omega)]
            exact congrArg (m.1 1) (by omega)
        · rw [ej]
          refine hI.agree (fun i hi => ?_)
          show M.1 4 (163 * p + i) = _
          rw [hM4, if_pos (by omega)]
          exact congrArg (m.1 1) (by omega)
      · rw [if_neg ej, if_neg ej]
        exact ⟨(hK j hj).1, (hK j hj).2.imp id (fun z => ⟨z.1, z.2.keep (fun i hi => hH _ (by omega) (by omega)) (fun i hi => by rw [hM4, if_neg (by omega)])⟩)⟩
    · show H.1 18 2 = _
      rw [hH 18 (by omega) (by omega)]; exact x2
    · show M.1 0 7 = _
      rw [hM0, if_neg (by omega)]; exact x3
    · show ∃ c, 33 ≤ c ∧ c ≤ 126 ∧ H.1 19 i = nI c ∧ M.1 6 i = nI c
      rw [hH 19 (by omega) (by omega), hM 6 (by omega) (by omega) (by omega)]; exact x4 i hi
  · have f1' : v_B_checkRange h a 0 1 = some xA := f1
    have f2' : v_M_in (am_si m 0 8 0) a 0 1 = 0 := f2 _
    refine ⟨fun z => (nomatch (f1'.symm.trans z)), ⟨fun _ => trivial, fun z => absurd f2' z⟩, ?_⟩
    rw [v_B_keep, f1', v_M_keep, f2', if_pos rfl]
    exact Bo.thr hr0 (.head _)
theorem goBack_both {n : Nat} {h m : HP} (hr : RR n h m) (a : Int32) : p_B_goBack h a ∧ p_M_goBack m a ∧ Bo [(xA, 1), (xS, 2)] h (v_B_goBack h a) (v_M_goBack m a) := by
  obtain ⟨s1, s2, s3, s4, s5, s6, s7⟩ := RR_save (hr.th 0)
  rcases rng_cases (lo := 0) (hi := 1) (by omega) (by omega) h a with ⟨p, _, hp1, ea, f1, f2⟩ | ⟨f1, f2⟩
  · have f1' : v_B_checkRange h a 0 1 = none := f1
    have f2' : v_M_in (am_si m 0 8 0) a 0 1 = 1 := f2 _
    have hp : p < 2 := by omega
    obtain ⟨k1, k2⟩ := hr.2.2.2.1 p hp
    have e4 : (163 : Int32) * nI p = nI (163 * p) := by rw [show (163 : Int32) = nI 163 from rfl, nI_mul]
    have e5 : (am_si m 0 8 0).1 5 (am_ix a) = m.1 5 p := by rw [am_si_ne (by omega), ea, nI_ix (by omega)]
    have e37 : v_at 2 (h.1 37) a = m.1 5 p := by rw [ea, at_nI (by omega) _ hp]; exact k1
    obtain ⟨g1, g2⟩ := fe35 hp (v_B_save h)
    have hq := (cq111 hp).2
    refine ⟨fun _ => ⟨fun _ => ⟨s1, fun y hy => by subst hy; rw [ea]; exact g2⟩, fun _ => trivial⟩, ⟨fun _ => trivial, fun _ => ⟨by rw [ea]; exact nI_am hp (by omega), fun _ => trivial, fun _ => ⟨s2, fun y _ => by rw [ea, e4]; exact p_lay (p2 := 0) (by omega) (by omega) (by omega) (by omega)⟩⟩⟩, ?_⟩
    rcases k2 with k2 | ⟨k2, -⟩
    · have n1 : ¬ m.1 5 p = 1 := by rw [k2]; decide
      rw [v_B_goBack, f1', v_M_goBack, f2', if_neg one0, e5, if_pos k2]
      show Bo _ h (if v_at 2 (h.1 37) a = 1 then _ else _) _
      rw [e37, if_neg n1]
      exact Bo.thr hr (.tail _ (.head _))
    · have n0 : ¬ m.1 5 p = 0 := by rw [k2]; decide
      have c5 : (v_M_saves (am_si m 0 8 0)).1 5 = m.1 5 := by
        obtain ⟨-, -, ⟨s, o, q1, q2, q3, q4, q5, q6⟩, -⟩ := hr.th 0
        obtain ⟨-, -, c3, -⟩ := mm_saves q1 q5
        rw [c3 5 (by omega) (by omega), am_si_ne (by omega)]
      obtain ⟨j1, j2⟩ := s3.2.2.2.1 p hp
      rw [c5] at j2
      obtain ⟨-, n', r1, r2⟩ := j2.resolve_left n0
      have hn' := r2.n20
      let H := v_copyFrom (v_B_save h) 0 (111 + 12 * p)
      let M := v_lays (v_M_saves (am_si m 0 8 0)) 4 (nI (163 * p)) 1 (nI 0)
      have hH : ∀ c, 12 ≤ c → H.1 c = (v_B_save h).1 c := fun c h1 => copy_rest hq _ (by omega)
      have hM : ∀ c, c ≠ 1 → M.1 c = (v_M_saves (am_si m 0 8 0)).1 c := fun c h1 => lay_ne h1
      have hM1 : ∀ i, i < 163 → M.1 1 i = row (v_M_saves (am_si m 0 8 0)) 4 (163 * p) i := fun i hi => by
        show (v_lays _ _ _ _ (nI 0)).1 1 i = _
        rw [lay_at (by omega) (by omega), if_pos (by omega)]
        exact congrArg ((v_M_saves (am_si m 0 8 0)).1 4) (by omega)
      have hRn : RT H.1 0 (M.1 1) n' := (copy_RT hq r1 hn').agree (fun i hi => hM1 i (by omega))
      have hIn : Inv (M.1 1) n' := r2.agree (fun i hi => hM1 i (by omega))
      have hcv : v_B_goBack h a = .inr (nI n', H) := by
        rw [v_B_goBack, f1']
        show (if v_at 2 (h.1 37) a = 1 then Sum.inr ((v_S_fetch_0_35 (v_B_save h) a).1 0 11, v_S_fetch_0_35 (v_B_save h) a) else _) = _
        rw [e37, if_pos k2, ea, g1]
        exact congrArg (fun x => Sum.inr (x, H)) hRn.nn
      have hmv : v_M_goBack m a = (nI n', M) := by
        rw [v_M_goBack, f2', if_neg one0, e5, if_neg n0, ea, e4, ix15]
        show (M.1 1 15, M) = _
        rw [hIn.t15]
      rw [hcv, hmv]
      refine ⟨?_, rfl, n', s3.put ⟨fun c hc => hH c (by omega), by rw [hH 18 (by omega)]⟩ ⟨hM 3 (by omega), hM 4 (by omega), hM 5 (by omega), hM 6 (by omega), by rw [hM 0 (by omega)], by rw [hM 0 (by omega)]⟩ hRn hIn⟩
      show M.1 0 8 = 0
      rw [hM 0 (by omega), s6, th8]
  · have f1' : v_B_checkRange h a 0 1 = some xA := f1
    have f2' : v_M_in (am_si m 0 8 0) a 0 1 = 0 := f2 _
    refine ⟨fun z => (nomatch (f1'.symm.trans z)), ⟨fun _ => trivial, fun z => absurd f2' z⟩, ?_⟩
    rw [v_B_goBack, f1', v_M_goBack, f2', if_pos rfl]
    exact Bo.thr hr (.head _)
