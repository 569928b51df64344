/-! PURE: the methods of the face, class and model side by side: a new trip, a trip moved. -/
theorem told_cases (h : HP) (a b c d e : Int32) : (∃ r f t p l, r ≤ 3 ∧ f ≤ 3 ∧ t ≤ 3 ∧ p ≤ 1439 ∧ 1 ≤ l ∧ l ≤ 240 ∧ a = nI r ∧ b = nI f ∧ c = nI t ∧ d = nI p ∧ e = nI l ∧ v_B_checkJourney h a b c d e = none ∧ ∀ m, v_M_isTold m a b c d e = 1) ∨ (v_B_checkJourney h a b c d e = some xA ∧ ∀ m, v_M_isTold m a b c d e = 0) := by
  have key : ∀ (lo hi : Nat) (x : Int32), hi < 1000000 → lo ≤ hi → (∃ t, lo ≤ t ∧ t ≤ hi ∧ x = nI t ∧ v_B_checkRange h x (nI lo) (nI hi) = none ∧ ∀ m, v_M_in m x (nI lo) (nI hi) = 1) ∨ (v_B_checkRange h x (nI lo) (nI hi) = some xA ∧ ∀ m, v_M_in m x (nI lo) (nI hi) = 0) := fun lo hi x h1 h2 => rng_cases h1 h2 h x
  unfold v_B_checkJourney v_M_isTold v_M_isTerminal
  rcases key 0 3 a (by omega) (by omega) with ⟨r, _, r2, r3, r4, r5⟩ | ⟨r4, r5⟩
  · rw [show v_B_checkRange h a 0 3 = none from r4]
    have r5' : ∀ m, v_M_in m a 0 3 = 1 := r5
    rcases key 0 3 b (by omega) (by omega) with ⟨f, _, f2, f3, f4, f5⟩ | ⟨f4, f5⟩
    · rw [show v_B_checkRange h b 0 3 = none from f4]
      have f5' : ∀ m, v_M_in m b 0 3 = 1 := f5
      rcases key 0 3 c (by omega) (by omega) with ⟨t, _, t2, t3, t4, t5⟩ | ⟨t4, t5⟩
      · rw [show v_B_checkRange h c 0 3 = none from t4]
        have t5' : ∀ m, v_M_in m c 0 3 = 1 := t5
        rcases key 0 1439 d (by omega) (by omega) with ⟨p, _, p2, p3, p4, p5⟩ | ⟨p4, p5⟩
        · rw [show v_B_checkRange h d 0 1439 = none from p4]
          have p5' : ∀ m, v_M_in m d 0 1439 = 1 := p5
          rcases key 1 240 e (by omega) (by omega) with ⟨l, l1, l2, l3, l4, l5⟩ | ⟨l4, l5⟩
          · rw [show v_B_checkRange h e 1 240 = none from l4]
            have l5' : ∀ m, v_M_in m e 1 240 = 1 := l5
            exact .inl ⟨r, f, t, p, l, r2, f2, t2, p2, l1, l2, r3, f3, t3, p3, l3, rfl, fun m => by rw [r5', if_neg one0, f5', if_neg one0, t5', if_neg one0, p5', if_neg one0, l5', if_neg one0]⟩
          · rw [show v_B_checkRange h e 1 240 = some xA from l4]
            have l5' : ∀ m, v_M_in m e 1 240 = 0 := l5
            exact .inr ⟨rfl, fun m => by rw [r5', if_neg one0, f5', if_neg one0, t5', if_neg one0, p5', if_neg one0, l5', if_pos rfl]⟩
        · rw [show v_B_checkRange h d 0 1439 = some xA from p4]
          have p5' : ∀ m, v_M_in m d 0 1439 = 0 := p5
          exact .inr ⟨rfl, fun m => by rw [r5', if_neg one0, f5', if_neg one0, t5', if_neg one0, p5', if_pos rfl]⟩
      · rw [show v_B_checkRange h c 0 3 = some xA from t4]
        have t5' : ∀ m, v_M_in m c 0 3 = 0 := t5
        exact .inr ⟨rfl, fun m => by rw [r5', if_neg one0, f5', if_neg one0, t5', if_pos rfl]⟩
    · rw [show v_B_checkRange h b 0 3 = some xA from f4]
      have f5' : ∀ m, v_M_in m b 0 3 = 0 := f5
      exact .inr ⟨rfl, fun m => by rw [r5', if_neg one0, f5', if_pos rfl]⟩
  · rw [show v_B_checkRange h a 0 3 = some xA from r4]
    have r5' : ∀ m, v_M_in m a 0 3 = 0 := r5
    exact .inr ⟨rfl, fun m => by rw [r5', if_pos rfl]⟩
theorem pm_told (m : HP) (a b c d e : Int32) : p_M_isTold m a b c d e := ⟨fun _ => trivial, fun _ => ⟨in01 _ _ _ _, fun _ => trivial, fun _ => in01 _ _ _ _⟩⟩
theorem trip_both {n : Nat} {h m : HP} (hr : RR n h m) (a b c d e : Int32) : p_B_trip h a b c d e ∧ p_M_trip m a b c d e ∧ Bo [(xA, 1), (xS, 2)] h (v_B_trip h a b c d e) (v_M_trip m a b c d e) := by
  obtain ⟨s1, s2, s3, s4, s5, s6, s7⟩ := RR_save (hr.th 0)
  have hm0 : (am_si m 0 8 0).1 1 = m.1 1 := am_si_ne (by omega)
  have h20 := hr.2.1.n20
  have h15 : (am_si m 0 8 0).1 1 (am_ix 15) = nI n := by rw [hm0, ix15, hr.2.1.t15]
  have hn20 : nI n = 20 ↔ n = 20 := nI_eq (b := 20) (by omega) (by omega)
  have e15 : (v_M_saves (am_si m 0 8 0)).1 1 15 = nI n := s3.2.1.t15
  refine ⟨fun _ => ⟨fun _ => s1, fun _ => trivial⟩, ⟨pm_told _ _ _ _ _ _, fun _ => trivial, fun _ => ⟨fun _ => trivial, fun _ => ⟨s2, fun y hy => ?_⟩⟩⟩, ?_⟩
  · subst hy
    rw [ix15, e15]
    exact (mm_puts _ (by omega) _ _ _ _ _).1
  · rcases told_cases h a b c d e with ⟨r, f, t, p, l, b1, b2, b3, b4, b5, b6, ea, eb, ec, ed, ee, t1, t2⟩ | ⟨t1, t2⟩
    · by_cases e0 : n = 20
      · have hlt : ¬ h.1 0 11 < 20 := by rw [show h.1 0 11 = nI n from hr.1.nn]; exact nI_nlt (b := 20) (by omega) (by omega)
        rw [v_B_trip, t1, v_M_trip, t2, if_neg one0, h15, if_pos (hn20.mpr e0)]
        show Bo _ h (if h.1 0 11 < 20 then _ else _) _
        rw [if_neg hlt]
        exact Bo.thr hr (.tail _ (.head _))
      · have hn : n < 20 := by omega
        have hlt : h.1 0 11 < 20 := by rw [show h.1 0 11 = nI n from hr.1.nn]; exact nI_lt (b := 20) hn (by omega)
        obtain ⟨c1, c2, c3⟩ := cc_add s3.1 s3.2.1 hn a b c d e
        obtain ⟨q1, q2, q3, q4⟩ := mm_puts (v_M_saves (am_si m 0 8 0)) (k := n) (by omega) a b c d e
        have hcv : v_B_trip h a b c d e = .inr (v_T_addTrip (v_B_save h) a b c d e) := by
          rw [v_B_trip, t1]
          show (if h.1 0 11 < 20 then Sum.inr (v_T_addTrip (v_B_save h) a b c d e) else _) = _
          rw [if_pos hlt]
        have p15 : (v_M_puts (v_M_saves (am_si m 0 8 0)) (nI n) a b c d e).1 1 15 = nI n := by
          rw [q2, newT_ne (by omega)]; exact e15
        have hmv : v_M_trip m a b c d e = (nI n, am_si (v_M_puts (v_M_saves (am_si m 0 8 0)) (nI n) a b c d e) 1 15 (nI (n + 1))) := by
          rw [v_M_trip, t2, if_neg one0, h15, if_neg (fun z => e0 (hn20.mp z))]
          show ((am_si (v_M_puts (v_M_saves (am_si m 0 8 0)) ((v_M_saves (am_si m 0 8 0)).1 1 (am_ix 15)) a b c d e) 1 (am_ix 15) ((v_M_puts (v_M_saves (am_si m 0 8 0)) ((v_M_saves (am_si m 0 8 0)).1 1 (am_ix 15)) a b c d e).1 1 (am_ix 15) + 1)).1 1 (am_ix 15) - 1, am_si (v_M_puts (v_M_saves (am_si m 0 8 0)) ((v_M_saves (am_si m 0 8 0)).1 1 (am_ix 15)) a b c d e) 1 (am_ix 15) ((v_M_puts (v_M_saves (am_si m 0 8 0)) ((v_M_saves (am_si m 0 8 0)).1 1 (am_ix 15)) a b c d e).1 1 (am_ix 15) + 1)) = _
          rw [ix15, e15, p15, nI_1, am_si1, if_pos ⟨rfl, rfl⟩, nI_pred]
        rw [hcv, hmv]
        have hrow : (am_si (v_M_puts (v_M_saves (am_si m 0 8 0)) (nI n) a b c d e) 1 15 (nI (n + 1))).1 1 = addT ((v_M_saves (am_si m 0 8 0)).1 1) n a b c d e := by
          rw [si1, q2]; rfl
        have hf : ∀ c', c' ≠ 1 → (am_si (v_M_puts (v_M_saves (am_si m 0 8 0)) (nI n) a b c d e) 1 15 (nI (n + 1))).1 c' = (v_M_saves (am_si m 0 8 0)).1 c' := fun c' hc' => by rw [am_si_ne hc', q3 c' hc']
        refine ⟨?_, c2.symm, n + 1, s3.put ⟨fun c' hc' => c3 c' (by omega), by rw [c3 18 (by omega)]⟩ ⟨hf 3 (by omega), hf 4 (by omega), hf 5 (by omega), hf 6 (by omega), by rw [hf 0 (by omega)], by rw [hf 0 (by omega)]⟩ (by rw [hrow]; exact c1) (by rw [hrow, ea, eb, ec, ed, ee]; exact s3.2.1.add hn b1 b2 b3 b4 b6 b5)⟩
        show (am_si _ 1 15 _).1 0 8 = 0
        rw [hf 0 (by omega), s6, th8]
    · rw [v_B_trip, t1, v_M_trip, t2, if_pos rfl]
      exact Bo.thr hr (.head _)
