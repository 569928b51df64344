/-! PURE: a trip that isn't yet, class and model side by side. -/
theorem lv_ag {T T' : Nat → Int32} (h8 : nT T' 8 = nT T 8) (r t d : Nat) : lvN T' r t d = lvN T r t d := by unfold lvN keyN; rw [h8]
theorem rd_ag {T T' : Nat → Int32} (h8 : nT T' 8 = nT T 8) {t : Nat} (ht : nT T' t = nT T t) (r a : Nat) : rdN T' r t a = rdN T r t a := by unfold rdN keyN; rw [h8, ht]
/-- what a trip adds to the events -/
def ev1 (T : Nat → Int32) (q : Nat → Bool) (r f t d l : Nat) : Nat := (if q (lvN T r f d) = true then 1 else 0) + (if q (rdN T r t (d + l)) = true then 1 else 0)
section NEW
variable {T : Nat → Int32} {n r f t d l : Nat}
theorem new_nT {a b c e g : Int32} {i : Nat} (h : i < 16 + 7 * n) : nT (newT T n a b c e g) i = nT T i := nT_ag (newT_ne (Or.inl h))
theorem new_fld (hr : r ≤ 3) (hf : f ≤ 3) (ht : t ≤ 3) (hd : d ≤ 1439) (hl : l ≤ 240) : Rt (newT T n (nI r) (nI f) (nI t) (nI d) (nI l)) n = r ∧ Fr (newT T n (nI r) (nI f) (nI t) (nI d) (nI l)) n = f ∧ Go (newT T n (nI r) (nI f) (nI t) (nI d) (nI l)) n = t ∧ Dp (newT T n (nI r) (nI f) (nI t) (nI d) (nI l)) n = d ∧ Ln (newT T n (nI r) (nI f) (nI t) (nI d) (nI l)) n = l ∧ Lo (newT T n (nI r) (nI f) (nI t) (nI d) (nI l)) n = 0 := by
  obtain ⟨h0, h1, h2, h3, h4, h5, -⟩ := newT_0 (T := T) (k := n) (a := nI r) (b := nI f) (c := nI t) (d := nI d) (e := nI l)
  exact ⟨nT_of h0 (by omega), nT_of h1 (by omega), nT_of h2 (by omega), nT_of h3 (by omega), nT_of h4 (by omega), nT_of (x := 0) h5 (by omega)⟩
theorem new_IB (hI : Inv T n) (hr : r ≤ 3) (hf : f ≤ 3) (ht : t ≤ 3) (hd : d ≤ 1439) (hl : l ≤ 240) (hl1 : 1 ≤ l) : IB (newT T n (nI r) (nI f) (nI t) (nI d) (nI l)) (n + 1) := by
  have h20 := hI.n20
  obtain ⟨h0, h1, h2, h3, h4, h5, -⟩ := newT_0 (T := T) (k := n) (a := nI r) (b := nI f) (c := nI t) (d := nI d) (e := nI l)
  have lo : ∀ i, i < 16 + 7 * n → newT T n (nI r) (nI f) (nI t) (nI d) (nI l) i = T i := fun i hi => newT_ne (Or.inl hi)
  refine ⟨by omega, fun k hk => ?_, fun i hi => bd_ag (lo _ (by omega)) (hI.lay hi), bd_ag (lo _ (by omega)) hI.s0⟩
  by_cases e : k = n
  · subst e
    refine ⟨bd_nI h0 hr (by omega), bd_nI h1 hf (by omega), bd_nI h2 ht (by omega), bd_nI h3 hd (by omega), ⟨bd_nI h4 hl (by omega), ?_⟩, bd_nI (x := 0) h5 (by omega) (by omega)⟩
    show 1 ≤ nT _ (16 + 7 * k + 4)
    rw [nT_of h4 (by omega)]; exact hl1
  · have hk' : k < n := by omega
    refine ⟨bd_ag (lo _ (by omega)) (hI.rt hk'), bd_ag (lo _ (by omega)) (hI.fr hk'), bd_ag (lo _ (by omega)) (hI.go hk'), bd_ag (lo _ (by omega)) (hI.dp hk'), ⟨bd_ag (lo _ (by omega)) (hI.ln hk'), ?_⟩, bd_ag (lo _ (by omega)) (hI.lo hk')⟩
    show 1 ≤ nT (newT _ _ _ _ _ _ _) (16 + 7 * k + 4)
    rw [nT_ag (lo _ (by omega))]; exact hI.ln1 hk'
theorem new_ev (hI : Inv T n) (hr : r ≤ 3) (hf : f ≤ 3) (ht : t ≤ 3) (hd : d ≤ 1439) (hl : l ≤ 240) (q : Nat → Bool) : evM (newT T n (nI r) (nI f) (nI t) (nI d) (nI l)) (n + 1) q = evM T n q + ev1 T q r f t d l := by
  obtain ⟨h0, h1, h2, h3, h4, h5⟩ := new_fld (T := T) (n := n) hr hf ht hd hl
  have h8 : nT (newT T n (nI r) (nI f) (nI t) (nI d) (nI l)) 8 = nT T 8 := new_nT (by omega)
  have lo : ∀ i, i < 16 + 7 * n → nT (newT T n (nI r) (nI f) (nI t) (nI d) (nI l)) i = nT T i := fun i hi => new_nT hi
  unfold evM
  rw [sn]
  congr 1
  · refine sn_congr (fun k hk => ?_)
    have e0 : Rt (newT T n (nI r) (nI f) (nI t) (nI d) (nI l)) k = Rt T k := lo _ (by omega)
    have e1 : Fr (newT T n (nI r) (nI f) (nI t) (nI d) (nI l)) k = Fr T k := lo _ (by omega)
    have e2 : Go (newT T n (nI r) (nI f) (nI t) (nI d) (nI l)) k = Go T k := lo _ (by omega)
    have e3 : Dp (newT T n (nI r) (nI f) (nI t) (nI d) (nI l)) k = Dp T k := lo _ (by omega)
    have e4 : Ln (newT T n (nI r) (nI f) (nI t) (nI d) (nI l)) k = Ln T k := lo _ (by omega)
    have e5 : isr (newT T n (nI r) (nI f) (nI t) (nI d) (nI l)) k = isr T k := by unfold isr; rw [show Lo (newT T n (nI r) (nI f) (nI t) (nI d) (nI l)) k = Lo T k from lo _ (by omega)]
    have e6 : Ar (newT T n (nI r) (nI f) (nI t) (nI d) (nI l)) k = Ar T k := by show Dp _ k + Ln _ k = _; rw [e3, e4]
    have hg : Go T k ≤ 3 := (hI.go hk).2
    rw [e5, e0, e1, e2, e3, e6, lv_ag h8, rd_ag h8 (lo _ (by omega))]
  · have e5 : isr (newT T n (nI r) (nI f) (nI t) (nI d) (nI l)) n = true := by unfold isr; rw [h5]; rfl
    have e6 : Ar (newT T n (nI r) (nI f) (nI t) (nI d) (nI l)) n = d + l := by show Dp _ n + Ln _ n = _; rw [h3, h4]
    rw [if_pos e5, h0, h1, h2, h3, e6, lv_ag h8, rd_ag h8 (lo _ (by omega))]
    rfl
end NEW
theorem ifTrip_both {n : Nat} {h m : HP} (hr : RR n h m) (a b c d e : Int32) : p_B_ifTrip h a b c d e ∧ p_M_ifTrip m a b c d e ∧ Bo [(xA, 1)] h (v_B_ifTrip h a b c d e) (v_M_ifTrip m a b c d e) := by
  have hm0 : (am_si m 0 8 0).1 1 = m.1 1 := am_si_ne (by omega)
  have h20 := hr.2.1.n20
  have hR := hr.1
  have hI := hr.2.1
  rcases told_cases h a b c d e with ⟨r, f, t, p, l, b1, b2, b3, b4, b5, b6, ea, eb, ec, ed, ee, t1, t2⟩ | ⟨t1, t2⟩
  · obtain ⟨g1, A, s, hE, h2n, hq, hf, -⟩ := cc_gather hR hI none okO_none
    have hE' : EvS (v_D_gather h (-1)) A s := hE
    have hRg : RT (v_D_gather h (-1)).1 0 (m.1 1) n := hR.congr (fun j hj => hf _ (by omega) (by omega))
    obtain ⟨w1, w2, w3, w4⟩ := cc_fewestWith hRg hI hE' (r := r) (f := f) (t := t) (d := p) (l := l) (by omega) (by omega) (by omega) b4 b6 b5
    have hlr : lvN (m.1 1) r f p ≤ rdN (m.1 1) r t (p + l) := by
      have k1 := keyN_lt (T := m.1 1) (r := r) (t := f) (by omega) (by omega)
      unfold lvN rdN
      have : p + 1 ≤ p + l + nT (m.1 1) t := by omega
      omega
    obtain ⟨s1, s2⟩ := mrg_srt hE'.2.2.1 hlr
    have hIB := new_IB hI b1 b2 b3 b4 b6 b5
    have hq' : ∀ q : Nat → Bool, cn (fun i => q (mrg A s (lvN (m.1 1) r f p) (rdN (m.1 1) r t (p + l)) i)) (s + 1 + 1) = evM (newT (m.1 1) n (nI r) (nI f) (nI t) (nI p) (nI l)) (n + 1) q := fun q => by
      rw [s2 q, new_ev hI b1 b2 b3 b4 b6 q, hq q, evn_evM]; rfl
    have hsum := sw_sum hIB s1 hq'
    obtain ⟨q1, q2, q3, q4⟩ := mm_puts (am_si m 0 8 0) (k := n) (by omega) a b c d e
    have hrow : (v_M_puts (am_si m 0 8 0) (nI n) a b c d e).1 1 = newT (m.1 1) n (nI r) (nI f) (nI t) (nI p) (nI l) := by rw [q2, hm0, ea, eb, ec, ed, ee]
    obtain ⟨y1, hy⟩ : ∃ y1, v_M_puts (am_si m 0 8 0) (nI n) a b c d e = y1 := ⟨_, rfl⟩
    rw [hy] at q2 q3 q4 hrow
    have e15 : (am_si m 0 8 0).1 1 (am_ix 15) = nI n := mm_tr hm0 hI
    have y15 : y1.1 1 (am_ix 15) = nI n := by rw [hrow, ix15, newT_ne (by omega), hI.t15]
    obtain ⟨z1, z2⟩ := mi_by hrow hIB
    obtain ⟨u1, u2, u3, u4⟩ := mm_puts y1 (k := n) (by omega) 0 0 0 0 0
    have hvw : v_M_withTrip (am_si m 0 8 0) a b c d e = (nI (sn (dfc (newT (m.1 1) n (nI r) (nI f) (nI t) (nI p) (nI l)) (n + 1)) 4), v_M_puts y1 (nI n) 0 0 0 0 0) := by
      rw [v_M_withTrip, e15, hy]
      show (v_M_byDeficits y1 (y1.1 1 (am_ix 15) + 1), v_M_puts y1 (y1.1 1 (am_ix 15)) 0 0 0 0 0) = _
      rw [y15, nI_1, z2]
    refine ⟨fun _ => ⟨g1, fun y hy => by subst hy; rw [ea, eb, ec, ed, ee]; exact w1⟩, ⟨pm_told _ _ _ _ _ _, fun _ => trivial, fun _ => ⟨by rw [e15]; exact q1, fun y hy2 => ?_⟩⟩, ?_⟩
    · rw [e15, hy] at hy2
      subst hy2
      exact ⟨by rw [y15, nI_1]; exact z1, by rw [y15]; exact u1⟩
    · rw [v_B_ifTrip, t1, v_M_ifTrip, t2, if_neg one0]
      show Bo _ h (.inr ((v_D_fewestWith (v_D_gather h (-1)) a b c d e).1, (v_D_fewestWith (v_D_gather h (-1)) a b c d e).2)) ((v_M_withTrip (am_si m 0 8 0) a b c d e).1, (v_M_withTrip (am_si m 0 8 0) a b c d e).2)
      rw [hvw, ea, eb, ec, ed, ee]
      refine ⟨?_, ?_, n, (hr.th 0).look ⟨fun c' hc' => by rw [w3 c' (by omega) (by omega) (by omega)]; exact hf c' (by omega) (by omega), by rw [w3 18 (by omega) (by omega) (by omega)]; exact congrFun (hf 18 (by omega) (by omega)) 2⟩ (mk_of (fun c' _ _ _ h1 => by rw [u3 c' h1, q3 c' h1])) (fun i hi => ?_)⟩
      · show (v_M_puts y1 (nI n) 0 0 0 0 0).1 0 8 = 0
        rw [u3 0 (by omega), q3 0 (by omega), th8]
      · show nI _ = (v_D_fewestWith _ _ _ _ _ _).1
        rw [w2, hsum]
      · rw [u2, newT_ne (Or.inl hi), hrow, newT_ne (Or.inl hi), hm0]
  · refine ⟨fun z => (nomatch (t1.symm.trans z)), ⟨pm_told _ _ _ _ _ _, fun _ => trivial, fun z => absurd (t2 _) z⟩, ?_⟩
    rw [v_B_ifTrip, t1, v_M_ifTrip, t2, if_pos rfl]
    exact Bo.thr hr (.head _)
