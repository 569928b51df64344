/-! PURE: a trip that isn't yet, class and model side by side. -/
theorem lv_ag {T T' : Nat → Int32} (h8 : nT T' 8 = nT T 8) (r t d : Nat) : lvN T' r t d = lvN T r t d := by unfold lvN keyN; rw [h8]
theorem rd_ag {T T' : Nat → Int32} (h8 : nT T' 8 = nT T 8) {t : Nat} (ht : nT T' t = nT T t) (r a : Nat) : rdN T' r t a = rdN T r t a := by unfold rdN keyN; rw [h8, ht]
/-- what a trip adds to the events -/
def ev1 (T : Nat → Int32) (q : Nat → Bool) (r f t d l : Nat) : Nat := (if q (lvN T r f d) = true then 1 else 0) + (if q (rdN T r t (d + l)) = true then 1 else 0)
section NEW
variable {T : Nat → Int32} {n r f t d l : Nat}
theorem new_nT {a b c e g : Int32} {i : Nat} (h : i < 16 + 7 * n) : nT (newT T n a b c e g) i = nT T i := nT_ag (newT_ne (Or.inl h))
theorem new_fld (hr : r ≤ 3) (hf : f ≤ 3) (ht : t ≤ 3) (hd : d ≤ 1439) (hl : l ≤ 240) : Rt (newT T n (nI r) (nI f) (nI t) (nI d) (nI l)) n = r ∧ Fr (newT T n (nI r) (nI f) (nI t) (nI d) (nI l)) n = f ∧ Go (newT T n (nI r) (nI f) (nI t) (nI d) (nI l)) n = t ∧ Dp (newT T n (nI r) (nI f) (nI t) (nI d) (nI l)) n = d ∧ Ln (newT T n (nI r) (nI f) (nI t) (nI d) (nI l)) n = l ∧ Lo (newT T n (nI r) (nI f) (nI t) (nI d) (nI l)) n = 0 := by
  obtain ⟨h0, h1, h2, h3, h4, h5, -⟩ := newT_0 (T := T) (k := n) (a := nI r) (b := nI f) (c := nI t) (d := nI d) (e := nI l)
  exact ⟨nT_of h0 (by omega), nT_of h1 (by omega), nT_of h2 (by omega), nT_of h3 (by omega), nT_of h4 (by omega), nT_of (x := 0) h5 (by omega)⟩
theorem new_IB (hI : Inv T n) (hr : r ≤ 3) (hf : f ≤ 3) (ht : t ≤ 3) (hd : d ≤ 1439) (hl : l ≤ 240) (hl1 : 1 ≤ l) : IB (newT T n (nI r) (nI f) (nI t) (nI d) (nI l)) (n + 1) := by
  have h20 := hI.n20
  obtain ⟨h0, h1, h2, h3, h4, h5, -⟩ := newT_0 (T := T) (k := n) (a := nI r) (b := nI f) (c := nI t) (d := nI d) (e := nI l)
  have lo : ∀ i, i < 16 + 7 * n → newT T n (nI r) (nI f) (nI t) (nI d) (nI l) i = T i := fun i hi => newT_ne (Or.inl hi)
  refine ⟨by omega, fun k hk => ?_, fun i hi => bd_ag (lo _ (by omega)) (hI.lay hi), bd_ag (lo _ (by omega)) hI.s0⟩
  by_cases e : k = n
  · subst e
    refine ⟨bd_nI h0 hr (by omega), bd_nI h1 hf (by omega), bd_nI h2 ht (by omega), bd_nI h3 hd (by omega), ⟨bd_nI h4 hl (by omega), ?_⟩, bd_nI (x := 0) h5 (by omega) (by omega)⟩
    show 1 ≤ nT _ (16 + 7 * k + 4)
    rw [nT_of h4 (by omega)]; exact hl1
  · have hk' : k < n := by omega
    refine ⟨bd_ag (lo _ (by omega)) (hI.rt hk'), bd_ag (lo _ (by omega)) (hI.fr hk'), bd_ag (lo _ (by omega)) (hI.go hk'), bd_ag (lo _ (by omega)) (hI.dp hk'), ⟨bd_ag (lo _ (by omega)) (hI.ln hk'), ?_⟩, bd_ag (lo _ (by omega)) (hI.lo hk')⟩
    show 1 ≤ nT (newT _ _ _ _ _ _ _) (16 + 7 * k + 4)
    rw [nT_ag (lo _ (by omega))]; exact hI.ln1 hk'
theorem new_ev (hI : Inv T n) (hr : r ≤ 3) (hf : f ≤ 3) (ht : t ≤ 3) (hd : d ≤ 1439) (hl : l ≤ 240) (q : Nat → Bool) : evM (newT T n (nI r) (nI f) (nI t) (nI d) (nI l)) (n + 1) q = evM T n q + ev1 T q r f t d l := by
  obtain ⟨h0, h1, h2, h3, h4, h5⟩ := new_fld (T := T) (n := n) hr hf ht hd hl
  have h8 : nT (newT T n (nI r) (nI f) (nI t) (nI d) (nI l)) 8 = nT T 8 := new_nT (by omega)
  have lo : ∀ i, i < 16 + 7 * n → nT (newT T n (nI r) (nI f) (nI t) (nI d) (nI l)) i = nT T i := fun i hi => new_nT hi
  unfold evM
  rw [sn]
  congr 1
  · refine sn_congr (fun k hk => ?_)
    have e0 : Rt (newT T n (nI r) (nI f) (nI t) (nI d) (nI l)) k = Rt T k := lo _ (by omega)
    have e1 : Fr (newT T n (nI r) (nI f) (nI t) (nI d) (nI l)) k = Fr T k := lo _ (by omega)
    have e2 : Go (newT T n (nI r) (nI f) (nI t) (nI d) (nI l)) k = Go T k := lo _ (by omega)
    have e3 : Dp (newT T n (nI r) (nI f) (nI t) (nI d) (nI l)) k = Dp T k := lo _ (by omega)
    have e4 : Ln (newT T n (nI r) (nI f) (nI t) (nI d) (nI l)) k = Ln T k := lo _ (by omega)
    have e5 : isr (newT T n (nI r) (nI f) (nI t) (nI d) (nI l)) k = isr T k := by unfold isr; rw [show Lo (newT T n (nI r) (nI f) (nI t) (nI d) (nI l)) k = Lo T k from lo _ (by omega)]
    have e6 : Ar (newT T n (nI r) (nI f) (nI t) (nI d) (nI l)) k = Ar T k := by show Dp _ k + Ln _ k = _; rw [e3, e4]
    have hg : Go T k ≤ 3 := (hI.go hk).2
    rw [e5, e0, e1, e2, e3, e6, lv_ag h8, rd_ag h8 (lo _ (by omega))]
  · have e5 : isr (newT T n (nI r) (nI f) (nI t) (nI d) (nI l)) n = true := by unfold isr; rw [h5]; rfl
    have e6 : Ar (newT T n (nI r) (nI f) (nI t) (nI d) (nI l)) n = d + l := by show Dp _ n + Ln _ n = _; rw [h3, h4]
    rw [if_pos e5, h0, h1, h2, h3, e6, lv_ag h8, rd_ag h8 (lo _ (by omega))]
    rfl
end NEW