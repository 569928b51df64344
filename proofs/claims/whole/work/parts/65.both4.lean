/-! PURE: the methods of the face, class and model side by side: a new trip, a trip moved. -/
theorem told_cases (h : HP) (a b c d e : Int32) : (∃ r f t p l, r ≤ 3 ∧ f ≤ 3 ∧ t ≤ 3 ∧ p ≤ 1439 ∧ 1 ≤ l ∧ l ≤ 240 ∧ a = nI r ∧ b = nI f ∧ c = nI t ∧ d = nI p ∧ e = nI l ∧ v_B_checkJourney h a b c d e = none ∧ ∀ m, v_M_isTold m a b c d e = 1) ∨ (v_B_checkJourney h a b c d e = some xA ∧ ∀ m, v_M_isTold m a b c d e = 0) := by
  have key : ∀ (lo hi : Nat) (x : Int32), hi < 1000000 → lo ≤ hi → (∃ t, lo ≤ t ∧ t ≤ hi ∧ x = nI t ∧ v_B_checkRange h x (nI lo) (nI hi) = none ∧ ∀ m, v_M_in m x (nI lo) (nI hi) = 1) ∨ (v_B_checkRange h x (nI lo) (nI hi) = some xA ∧ ∀ m, v_M_in m x (nI lo) (nI hi) = 0) := fun lo hi x h1 h2 => rng_cases h1 h2 h x
  unfold v_B_checkJourney v_M_isTold v_M_isTerminal
  rcases key 0 3 a (by omega) (by omega) with ⟨r, _, r2, r3, r4, r5⟩ | ⟨r4, r5⟩
  · rw [show v_B_checkRange h a 0 3 = none from r4]
    have r5' : ∀ m, v_M_in m a 0 3 = 1 := r5
    rcases key 0 3 b (by omega) (by omega) with ⟨f, _, f2, f3, f4, f5⟩ | ⟨f4, f5⟩
    · rw [show v_B_checkRange h b 0 3 = none from f4]
      have f5' : ∀ m, v_M_in m b 0 3 = 1 := f5
      rcases key 0 3 c (by omega) (by omega) with ⟨t, _, t2, t3, t4, t5⟩ | ⟨t4, t5⟩
      · rw [show v_B_checkRange h c 0 3 = none from t4]
        have t5' : ∀ m, v_M_in m c 0 3 = 1 := t5
        rcases key 0 1439 d (by omega) (by omega) with ⟨p, _, p2, p3, p4, p5⟩ | ⟨p4, p5⟩
        · rw [show v_B_checkRange h d 0 1439 = none from p4]
          have p5' : ∀ m, v_M_in m d 0 1439 = 1 := p5
          rcases key 1 240 e (by omega) (by omega) with ⟨l, l1, l2, l3, l4, l5⟩ | ⟨l4, l5⟩
          · rw [show v_B_checkRange h e 1 240 = none from l4]
            have l5' : ∀ m, v_M_in m e 1 240 = 1 := l5
            exact .inl ⟨r, f, t, p, l, r2, f2, t2, p2, l1, l2, r3, f3, t3, p3, l3, rfl, fun m => by rw [r5', if_neg one0, f5', if_neg one0, t5', if_neg one0, p5', if_neg one0, l5', if_neg one0]⟩
          · rw [show v_B_checkRange h e 1 240 = some xA from l4]
            have l5' : ∀ m, v_M_in m e 1 240 = 0 := l5
            exact .inr ⟨rfl, fun m => by rw [r5', if_neg one0, f5', if_neg one0, t5', if_neg one0, p5', if_neg one0, l5', if_pos rfl]⟩
        · rw [show v_B_checkRange h d 0 1439 = some xA from p4]
          have p5' : ∀ m, v_M_in m d 0 1439 = 0 := p5
          exact .inr ⟨rfl, fun m => by rw [r5', if_neg one0, f5', if_neg one0, t5', if_neg one0, p5', if_pos rfl]⟩
      · rw [show v_B_checkRange h c 0 3 = some xA from t4]
        have t5' : ∀ m, v_M_in m c 0 3 = 0 := t5
        exact .inr ⟨rfl, fun m => by rw [r5', if_neg one0, f5', if_neg one0, t5', if_pos rfl]⟩
    · rw [show v_B_checkRange h b 0 3 = some xA from f4]
      have f5' : ∀ m, v_M_in m b 0 3 = 0 := f5
      exact .inr ⟨rfl, fun m => by rw [r5', if_neg one0, f5', if_pos rfl]⟩
  · rw [show v_B_checkRange h a 0 3 = some xA from r4]
    have r5' : ∀ m, v_M_in m a 0 3 = 0 := r5
    exact .inr ⟨rfl, fun m => by rw [r5', if_pos rfl]⟩
theorem pm_told (m : HP) (a b c d e : Int32) : p_M_isTold m a b c d e := ⟨fun _ => trivial, fun _ => ⟨in01 _ _ _ _, fun _ => trivial, fun _ => in01 _ _ _ _⟩⟩
theorem trip_both {n : Nat} {h m : HP} (hr : RR n h m) (a b c d e : Int32) : p_B_trip h a b c d e ∧ p_M_trip m a b c d e ∧ Bo [(xA, 1), (xS, 2)] h (v_B_trip h a b c d e) (v_M_trip m a b c d e) := by
  obtain ⟨s1, s2, s3, s4, s5, s6, s7⟩ := RR_save (hr.th 0)
  have hm0 : (am_si m 0 8 0).1 1 = m.1 1 := am_si_ne (by omega)
  have h20 := hr.2.1.n20
  have h15 : (am_si m 0 8 0).1 1 (am_ix 15) = nI n := by rw [hm0, ix15, hr.2.1.t15]
  have hn20 : nI n = 20 ↔ n = 20 := nI_eq (b := 20) (by omega) (by omega)
  have e15 : (v_M_saves (am_si m 0 8 0)).1 1 15 = nI n := s3.2.1.t15
  refine ⟨fun _ => ⟨fun _ => s1, fun _ => trivial⟩, ⟨pm_told _ _ _ _ _ _, fun _ => trivial, fun _ => ⟨fun _ => trivial, fun _ => ⟨s2, fun y hy => ?_⟩⟩⟩, ?_⟩
  · subst hy
    rw [ix15, e15]
    exact (mm_puts _ (by omega) _ _ _ _ _).1
  · rcases told_cases h a b c d e with ⟨r, f, t, p, l, b1, b2, b3, b4, b5, b6, ea, eb, ec, ed, ee, t1, t2⟩ | ⟨t1, t2⟩
    · by_cases e0 : n = 20
      · have hlt : ¬ h.1 0 11 < 20 := by rw [show h.1 0 11 = nI n from hr.1.nn]; exact nI_nlt (b := 20) (by omega) (by omega)
        rw [v_B_trip, t1, v_M_trip, t2, if_neg one0, h15, if_pos (hn20.mpr e0)]
        show Bo _ h (if h.1 0 11 < 20 then _ else _) _
        rw [if_neg hlt]
        exact Bo.thr hr (.tail _ (.head _))
      · have hn : n < 20 := by omega
        have hlt : h.1 0 11 < 20 := by rw [show h.1 0 11 = nI n from hr.1.nn]; exact nI_lt (b := 20) hn (by omega)
        obtain ⟨c1, c2, c3⟩ := cc_add s3.1 s3.2.1 hn a b c d e
        obtain ⟨q1, q2, q3, q4⟩ := mm_puts (v_M_saves (am_si m 0 8 0)) (k := n) (by omega) a b c d e
        have hcv : v_B_trip h a b c d e = .inr (v_T_addTrip (v_B_save h) a b c d e) := by
          rw [v_B_trip, t1]
          show (if h.1 0 11 < 20 then Sum.inr (v_T_addTrip (v_B_save h) a b c d e) else _) = _
          rw [if_pos hlt]
        have p15 : (v_M_puts (v_M_saves (am_si m 0 8 0)) (nI n) a b c d e).1 1 15 = nI n := by
          rw [q2, newT_ne (by omega)]; exact e15
        have hmv : v_M_trip m a b c d e = (nI n, am_si (v_M_puts (v_M_saves (am_si m 0 8 0)) (nI n) a b c d e) 1 15 (nI (n + 1))) := by
          rw [v_M_trip, t2, if_neg one0, h15, if_neg (fun z => e0 (hn20.mp z))]
          show ((am_si (v_M_puts (v_M_saves (am_si m 0 8 0)) ((v_M_saves (am_si m 0 8 0)).1 1 (am_ix 15)) a b c d e) 1 (am_ix 15) ((v_M_puts (v_M_saves (am_si m 0 8 0)) ((v_M_saves (am_si m 0 8 0)).1 1 (am_ix 15)) a b c d e).1 1 (am_ix 15) + 1)).1 1 (am_ix 15) - 1, am_si (v_M_puts (v_M_saves (am_si m 0 8 0)) ((v_M_saves (am_si m 0 8 0)).1 1 (am_ix 15)) a b c d e) 1 (am_ix 15) ((v_M_puts (v_M_saves (am_si m 0 8 0)) ((v_M_saves (am_si m 0 8 0)).1 1 (am_ix 15)) a b c d e).1 1 (am_ix 15) + 1)) = _
          rw [ix15, e15, p15, nI_1, am_si1, if_pos ⟨rfl, rfl⟩, nI_pred]
        rw [hcv, hmv]
        have hrow : (am_si (v_M_puts (v_M_saves (am_si m 0 8 0)) (nI n) a b c d e) 1 15 (nI (n + 1))).1 1 = addT ((v_M_saves (am_si m 0 8 0)).1 1) n a b c d e := by
          rw [si1, q2]; rfl
        have hf : ∀ c', c' ≠ 1 → (am_si (v_M_puts (v_M_saves (am_si m 0 8 0)) (nI n) a b c d e) 1 15 (nI (n + 1))).1 c' = (v_M_saves (am_si m 0 8 0)).1 c' := fun c' hc' => by rw [am_si_ne hc', q3 c' hc']
        refine ⟨?_, c2.symm, n + 1, s3.put ⟨fun c' hc' => c3 c' (by omega), by rw [c3 18 (by omega)]⟩ ⟨hf 3 (by omega), hf 4 (by omega), hf 5 (by omega), hf 6 (by omega), by rw [hf 0 (by omega)], by rw [hf 0 (by omega)]⟩ (by rw [hrow]; exact c1) (by rw [hrow, ea, eb, ec, ed, ee]; exact s3.2.1.add hn b1 b2 b3 b4 b6 b5)⟩
        show (am_si _ 1 15 _).1 0 8 = 0
        rw [hf 0 (by omega), s6, th8]
    · rw [v_B_trip, t1, v_M_trip, t2, if_pos rfl]
      exact Bo.thr hr (.head _)
theorem Inv.dep {T : Nat → Int32} {n k v : Nat} (hI : Inv T n) (hk : k < n) (hv : v ≤ 1439) (hn : nx T k = none) (hb : bfo T k n = none) : Inv (upd T (16 + 7 * k + 3) (nI v)) n := by
  have h20 := hI.n20
  have hnx : ∀ q, nx (upd T (16 + 7 * k + 3) (nI v)) q = nx T q := fun q => nx_ne (by omega)
  refine ⟨InvA_ag hI (fun i hi => upd_ne (by omega)), fun q hq => ⟨bd_ne (by omega) (hI.rt hq), bd_ne (by omega) (hI.fr hq), bd_ne (by omega) (hI.go hq), ?_, ⟨bd_ne (by omega) (hI.ln hq), ?_⟩, bd_ne (by omega) (hI.lo hq)⟩, fun q hq => ?_, fun q j hq ej => ?_, fun q q' j hq hq' ej ej' => ?_⟩
  · by_cases e : q = k
    · subst e; exact bd_nI (upd_self ..) hv (by omega)
    · exact bd_ne (by omega) (hI.dp hq)
  · show 1 ≤ nT (upd _ _ _) (16 + 7 * q + 4)
    rw [nT_ne (by omega)]; exact hI.ln1 hq
  · rw [hnx, upd_ne (by omega)]; exact hI.nxe hq
  · rw [hnx] at ej
    have e1 : q ≠ k := fun e => by rw [e, hn] at ej; cases ej
    have e2 : j ≠ k := fun e => bfo_none hb q hq (by rw [ej, e])
    show j < n ∧ nT (upd _ _ _) (16 + 7 * q + 5) = 0 ∧ nT (upd _ _ _) (16 + 7 * j + 5) = 0 ∧ nT (upd _ _ _) (16 + 7 * q + 3) + nT (upd _ _ _) (16 + 7 * q + 4) ≤ nT (upd _ _ _) (16 + 7 * j + 3)
    rw [nT_ne (by omega), nT_ne (by omega), nT_ne (by omega), nT_ne (by omega), nT_ne (by omega)]
    exact hI.nxs hq ej
  · rw [hnx] at ej ej'
    exact hI.inj hq hq' ej ej'
/-- a trip by itself -/
def aloneT (T : Nat → Int32) (n k : Nat) : Nat → Int32 := setN (cutAT T n k) k none
theorem alone_inv {T : Nat → Int32} {n k : Nat} (hI : Inv T n) (hk : k < n) : Inv (aloneT T n k) n := (cutAT_inv hI hk).cut hk
theorem alone_nx {T : Nat → Int32} {n k : Nat} (hI : Inv T n) (hk : k < n) : nx (aloneT T n k) k = none := by
  unfold aloneT; rw [setN_nx (o := none) (fun _ z => nomatch z), if_pos rfl]
theorem alone_bf {T : Nat → Int32} {n k : Nat} (hI : Inv T n) (hk : k < n) : bfo (aloneT T n k) k n = none := by
  cases e : bfo (aloneT T n k) k n with
  | none => rfl
  | some j =>
    have h1 := (bfo_some e).1
    have h2 := (bfo_some e).2
    unfold aloneT at h2
    rw [setN_nx (o := none) (fun _ z => nomatch z)] at h2
    split at h2
    · cases h2
    · exact absurd h2 (bfo_none (cutAT_bf hI hk) j h1)
theorem mm_parts {m : HP} {T : Nat → Int32} {n k : Nat} (hT : m.1 1 = T) (hI : Inv T n) (hk : k < n) : p_M_parts m (nI k) ∧ (v_M_parts m (nI k)).1 1 = aloneT T n k ∧ (∀ c, c ≠ 1 → (v_M_parts m (nI k)).1 c = m.1 c) := by
  have h20 := hI.n20
  have hbf := mm_before hT hI (k := k) (by omega)
  have hb : ∀ (m : HP) (q : Nat), q < 21 → v_M_becomes m (nI q) 6 (-1) = am_si m 1 (16 + 7 * q + 6) (-1) := fun m q hq => vm_becomes m (w := 6) hq (by omega) (-1)
  have hp : ∀ (m : HP) (q : Nat), q < 21 → p_M_becomes m (nI q) 6 (-1) := fun m q hq => pm_becomes m (w := 6) hq (by omega) (-1)
  cases e : bfo T k n with
  | none =>
    have hb1 : v_M_before m (nI k) = -1 := by rw [hbf.2, e]; rfl
    have hv : v_M_parts m (nI k) = am_si m 1 (16 + 7 * k + 6) (-1) := by
      rw [v_M_parts, hb1, if_pos rfl]
      exact hb m k (by omega)
    refine ⟨⟨hbf.1, fun _ => hp _ _ (by omega), fun z => absurd hb1 z⟩, ?_, fun c hc => by rw [hv]; exact am_si_ne hc⟩
    rw [hv, si1, hT]
    unfold aloneT cutAT
    rw [e]; rfl
  | some j =>
    have hj := (bfo_some e).1
    have hb1 : v_M_before m (nI k) = nI j := by rw [hbf.2, e]; rfl
    have hne : ¬ nI j = (-1 : Int32) := nI_m1 (by omega)
    have hv : v_M_parts m (nI k) = am_si (am_si m 1 (16 + 7 * j + 6) (-1)) 1 (16 + 7 * k + 6) (-1) := by
      rw [v_M_parts, hb1, if_neg hne, hb m j (by omega)]
      exact hb _ k (by omega)
    refine ⟨⟨hbf.1, fun _ => hp _ _ (by omega), fun _ => ⟨by rw [hb1]; exact hp _ _ (by omega), fun y _ => hp _ _ (by omega)⟩⟩, ?_, fun c hc => by rw [hv, am_si_ne hc, am_si_ne hc]⟩
    rw [hv, si1, si1, hT]
    unfold aloneT cutAT
    rw [e]; rfl
theorem shift_both {n : Nat} {h m : HP} (hr : RR n h m) (a b : Int32) : p_B_shift h a b ∧ p_M_shift m a b ∧ Bo [(xI, 1), (xA, 2), (xS, 3)] h (v_B_shift h a b) (v_M_shift m a b) := by
  obtain ⟨s1, s2, s3, s4, s5, s6, s7⟩ := RR_save (hr.th 0)
  refine ⟨fun _ _ _ => s1, ?_⟩
  have hm0 : (am_si m 0 8 0).1 1 = m.1 1 := am_si_ne (by omega)
  have h20 := hr.2.1.n20
  rcases trip_cases hr.1 hr.2.1 a with ⟨t, ht, ea, e1, e2⟩ | ⟨e1, e2⟩
  · have hn := mm_isRun hm0 hr.2.1 ht
    have hc := cc_isRun hr.1 hr.2.1 ht
    obtain ⟨u1, u2, u3⟩ := mm_parts (m := v_M_saves (am_si m 0 8 0)) rfl s3.2.1 ht
    refine ⟨⟨pm_trip _ _, fun _ => trivial, fun _ => ⟨fun _ => trivial, fun _ => ⟨by rw [ea]; exact hn.1, fun _ => trivial, fun _ => ⟨s2, fun y hy => ?_⟩⟩⟩⟩, ?_⟩
    · subst hy
      rw [ea]
      exact ⟨pm_of _ (w := 3) (by omega) (by omega), u1, fun y2 _ => pm_becomes _ (w := 3) (by omega) (by omega) _⟩
    · rcases rng_cases (lo := 0) (hi := 1439) (by omega) (by omega) h b with ⟨v, _, hv, eb, f1, f2⟩ | ⟨f1, f2⟩
      · have f1' : v_B_checkRange h b 0 1439 = none := f1
        have f2' : v_M_in (am_si m 0 8 0) b 0 1439 = 1 := f2 _
        cases en : isr (m.1 1) t with
        | false =>
          have z : v_B_checkRun h (nI t) = some xS := by rw [v_B_checkRun, hc, en, if_pos (show b01 false = 0 from rfl)]; rfl
          rw [v_B_shift, e1, f1', v_M_shift, e2 _ hm0, if_neg one0, f2', if_neg one0, ea, hn.2, en, if_pos (show b01 false = 0 from rfl)]
          show Bo _ h (match v_B_checkRun h (nI t) with | some E => _ | none => _) _
          rw [z]
          exact Bo.thr hr (.tail _ (.tail _ (.head _)))
        | true =>
          have hne : ¬ b01 true = 0 := one0
          obtain ⟨a1, a2⟩ := cc_cutA s3.1 s3.2.1 ht
          have a1' : RT (v_T_cutAhead (v_B_save h) (nI t)).1 0 (cutAT ((v_M_saves (am_si m 0 8 0)).1 1) n t) n := a1
          obtain ⟨a3, a4⟩ := cc_cutB a1' (cutAT_inv s3.2.1 ht) ht
          have a3' : RT (v_T_cutBehind (v_T_cutAhead (v_B_save h) (nI t)) (nI t)).1 0 (aloneT ((v_M_saves (am_si m 0 8 0)).1 1) n t) n := a3
          have hcv : v_B_shift h a b = .inr ((v_B_save h).1 4 t, am_si (v_T_cutBehind (v_T_cutAhead (v_B_save h) (nI t)) (nI t)) 4 t (nI v)) := by
            have z : v_B_checkRun h (nI t) = none := by rw [v_B_checkRun, hc, en, if_neg hne]
            rw [v_B_shift, e1, f1', ea, eb]
            show (match v_B_checkRun h (nI t) with | some E => _ | none => Sum.inr (v_at 20 ((v_B_save h).1 4) (nI t), v_put 20 (v_T_cutBehind (v_T_cutAhead (v_B_save h) (nI t)) (nI t)) 4 (nI t) (nI v))) = _
            rw [z, at20 _ (by omega), put20 _ _ (by omega)]
          have hmv : v_M_shift m a b = ((v_M_saves (am_si m 0 8 0)).1 1 (16 + 7 * t + 3), am_si (v_M_parts (v_M_saves (am_si m 0 8 0)) (nI t)) 1 (16 + 7 * t + 3) (nI v)) := by
            rw [v_M_shift, e2 _ hm0, if_neg one0, f2', if_neg one0, ea, hn.2, en, if_neg hne, eb]
            show (v_M_of (v_M_saves (am_si m 0 8 0)) (nI t) (nI 3), v_M_becomes (v_M_parts (v_M_saves (am_si m 0 8 0)) (nI t)) (nI t) (nI 3) (nI v)) = _
            rw [vm_of _ (by omega) (by omega), vm_becomes _ (by omega) (by omega)]
          have hS : RR n (v_T_cutBehind (v_T_cutAhead (v_B_save h) (nI t)) (nI t)) (v_M_parts (v_M_saves (am_si m 0 8 0)) (nI t)) :=
            s3.put ⟨fun c hc => by rw [a4 c (by omega) (by omega), a2 c (by omega) (by omega)], by rw [a4 18 (by omega) (by omega), a2 18 (by omega) (by omega)]⟩ ⟨u3 3 (by omega), u3 4 (by omega), u3 5 (by omega), u3 6 (by omega), by rw [u3 0 (by omega)], by rw [u3 0 (by omega)]⟩ (by rw [u2]; exact a3') (by rw [u2]; exact alone_inv s3.2.1 ht)
          rw [hcv, hmv]
          refine ⟨?_, (s3.1.dp ht).symm, n, hS.up (by omega) (by omega) (fun k _ => ⟨by omega, by omega, by omega, by omega, by omega, by omega, by omega, by omega, by omega⟩) (fun k _ => ⟨by omega, by omega, by omega⟩) (by rw [u2]; exact (alone_inv s3.2.1 ht).dep ht hv (alone_nx s3.2.1 ht) (alone_bf s3.2.1 ht))⟩
          show (am_si _ 1 _ _).1 0 8 = 0
          rw [am_si_ne (by omega), u3 0 (by omega), s6, th8]
      · have f1' : v_B_checkRange h b 0 1439 = some xA := f1
        have f2' : v_M_in (am_si m 0 8 0) b 0 1439 = 0 := f2 _
        rw [v_B_shift, e1, f1', v_M_shift, e2 _ hm0, if_neg one0, f2', if_pos rfl]
        exact Bo.thr hr (.tail _ (.head _))
  · refine ⟨⟨pm_trip _ _, fun _ => trivial, fun z => absurd (e2 _ hm0) z⟩, ?_⟩
    rw [v_B_shift, e1, v_M_shift, e2 _ hm0, if_pos rfl]
    exact Bo.thr hr (.head _)
