/-! PURE: the best time, class and model side by side. -/
theorem nI_lei {a b : Nat} (ha : a < 2 ^ 31) (hb : b < 2 ^ 31) : nI a ≤ nI b ↔ a ≤ b := by
  rw [Int32.le_iff_toInt_le, nI_toInt ha, nI_toInt hb]; omega
theorem min_lt (a b : Int32) : v_min a b = if b < a then b else a := by
  unfold v_min
  by_cases h1 : a ≤ b
  · rw [if_pos h1, if_neg]
    intro h2
    have e1 := Int32.le_iff_toInt_le.mp h1
    have e2 := Int32.lt_iff_toInt_lt.mp h2
    omega
  · rw [if_neg h1, if_pos]
    refine Int32.lt_iff_toInt_lt.mpr ?_
    have e1 : ¬ a.toInt ≤ b.toInt := fun z => h1 (Int32.le_iff_toInt_le.mpr z)
    omega
theorem lt_irr (a : Int32) : ¬ a < a := fun h => by
  have e2 := Int32.lt_iff_toInt_lt.mp h
  omega
theorem sn_split {F G : Nat → Nat} {k : Nat} : ∀ {n : Nat}, k < n → (∀ j, j < n → j ≠ k → F j = G j) → G k = 0 → sn F n = sn G n + F k
  | 0, h, _, _ => absurd h (Nat.not_lt_zero _)
  | n + 1, h, hj, h0 => by
    rw [sn, sn]
    by_cases e : k = n
    · subst e
      rw [sn_congr (fun j hj' => hj j (by omega) (by omega)), h0]; omega
    · rw [sn_split (n := n) (by omega) (fun j hj' hne => hj j (by omega) hne) h0, hj n (by omega) (by omega)]; omega
/-- the row with another time for k -/
def atT (T : Nat → Int32) (k d : Nat) : Nat → Int32 := upd T (16 + 7 * k + 3) (nI d)
section ATT
variable {T : Nat → Int32} {n k d : Nat}
theorem at_ne {i : Nat} (h : i ≠ 16 + 7 * k + 3) : nT (atT T k d) i = nT T i := nT_ne h
theorem at_IB (hI : Inv T n) (hd : d ≤ 1439) : IB (atT T k d) n := by
  have h20 := hI.n20
  refine ⟨by omega, fun j hj => ⟨bd_ne (by omega) (hI.rt hj), bd_ne (by omega) (hI.fr hj), bd_ne (by omega) (hI.go hj), ?_, ⟨bd_ne (by omega) (hI.ln hj), ?_⟩, bd_ne (by omega) (hI.lo hj)⟩, fun i hi => bd_ne (by omega) (hI.lay hi), bd_ne (by omega) hI.s0⟩
  · by_cases e : j = k
    · subst e; exact bd_nI (upd_self ..) hd (by omega)
    · exact bd_ne (by omega) (hI.dp hj)
  · show 1 ≤ nT (atT T k d) (16 + 7 * j + 4)
    rw [at_ne (by omega)]; exact hI.ln1 hj
theorem at_ev (hI : Inv T n) (hk : k < n) (hr : isr T k = true) (hd : d ≤ 1439) (q : Nat → Bool) : evM (atT T k d) n q = evn T (some k) q n + ev1 T q (Rt T k) (Fr T k) (Go T k) d (Ln T k) := by
  have h8 : nT (atT T k d) 8 = nT T 8 := at_ne (by omega)
  have hf : ∀ j, Rt (atT T k d) j = Rt T j ∧ Fr (atT T k d) j = Fr T j ∧ Go (atT T k d) j = Go T j ∧ Ln (atT T k d) j = Ln T j ∧ isr (atT T k d) j = isr T j := fun j => ⟨at_ne (by omega), at_ne (by omega), at_ne (by omega), at_ne (by omega), by unfold isr; rw [show Lo (atT T k d) j = Lo T j from at_ne (by omega)]⟩
  have hgo : ∀ j, j < n → nT (atT T k d) (Go T j) = nT T (Go T j) := fun j hj => at_ne (by have : Go T j ≤ 3 := (hI.go hj).2; omega)
  unfold evM evn
  refine (sn_split (k := k) (G := fun j => if isr T j = true ∧ ¬ (some k : Option Nat) = some j then (if q (lvN T (Rt T j) (Fr T j) (Dp T j)) = true then 1 else 0) + (if q (rdN T (Rt T j) (Go T j) (Ar T j)) = true then 1 else 0) else 0) hk (fun j hj hne => ?_) (if_neg (fun z => z.2 rfl))).trans ?_
  · obtain ⟨f0, f1, f2, f3, f4⟩ := hf j
    have e3 : Dp (atT T k d) j = Dp T j := at_ne (by omega)
    have e6 : Ar (atT T k d) j = Ar T j := by show Dp _ j + Ln _ j = _; rw [e3, f3]
    show (if isr (atT T k d) j = true then _ else 0) = if isr T j = true ∧ ¬ (some k : Option Nat) = some j then _ else 0
    rw [f4, f0, f1, f2, e3, e6, lv_ag h8, rd_ag h8 (hgo j hj)]
    by_cases e : isr T j = true
    · rw [if_pos e, if_pos (show isr T j = true ∧ ¬ (some k : Option Nat) = some j from ⟨e, fun z => hne (Option.some.inj z).symm⟩)]
    · rw [if_neg e, if_neg (show ¬ (isr T j = true ∧ ¬ (some k : Option Nat) = some j) from fun z => e z.1)]
  · congr 1
    obtain ⟨f0, f1, f2, f3, f4⟩ := hf k
    have e3 : Dp (atT T k d) k = d := nT_self (by omega)
    have e6 : Ar (atT T k d) k = d + Ln T k := by show Dp _ k + Ln _ k = _; rw [e3, f3]
    show (if isr (atT T k d) k = true then _ else 0) = _
    rw [f4, if_pos hr, f0, f1, f2, e3, e6, lv_ag h8, rd_ag h8 (hgo k hk)]
    rfl
theorem at_id (hI : Inv T n) (hk : k < n) : atT T k (Dp T k) = T := upd_id (hI.dp hk).1
end ATT
/-- the deficits with another time for k -/
def dfA (T : Nat → Int32) (n k d : Nat) : Nat := sn (dfc (atT T k d) n) 4
theorem cc_at {h H : HP} {T : Nat → Int32} {n k d : Nat} (hI : Inv T n) (hk : k < n) (hr : isr T k = true) (hd : d ≤ 1439) (hR : RT H.1 0 T n) {A : Nat → Nat} {s : Nat} (hE : EvS H A s) (hq : ∀ q : Nat → Bool, cn (fun i => q (A i)) s = evn T (some k) q n) :
    p_D_fewestWith H (nI (Rt T k)) (nI (Fr T k)) (nI (Go T k)) (nI d) (nI (Ln T k)) ∧ (v_D_fewestWith H (nI (Rt T k)) (nI (Fr T k)) (nI (Go T k)) (nI d) (nI (Ln T k))).1 = nI (dfA T n k d) ∧ dF H (v_D_fewestWith H (nI (Rt T k)) (nI (Fr T k)) (nI (Go T k)) (nI d) (nI (Ln T k))).2 := by
  have b1 : Rt T k ≤ 3 := (hI.rt hk).2
  have b2 : Fr T k ≤ 3 := (hI.fr hk).2
  have b3 : Go T k ≤ 3 := (hI.go hk).2
  have b4 : Ln T k ≤ 240 := hI.lnL hk
  have b5 : 1 ≤ Ln T k := hI.ln1 hk
  obtain ⟨w1, w2, w3⟩ := cc_fewestWith hR hI hE (r := Rt T k) (f := Fr T k) (t := Go T k) (d := d) (l := Ln T k) (by omega) (by omega) (by omega) hd b4 b5
  have hlr : lvN T (Rt T k) (Fr T k) d ≤ rdN T (Rt T k) (Go T k) (d + Ln T k) := by
    have k1 := keyN_lt (T := T) (r := Rt T k) (t := Fr T k) (by omega) (by omega)
    unfold lvN rdN
    have : d + 1 ≤ d + Ln T k + nT T (Go T k) := by omega
    omega
  obtain ⟨s1, s2⟩ := mrg_srt hE.2.2.1 hlr
  have hq' : ∀ q : Nat → Bool, cn (fun i => q (mrg A s (lvN T (Rt T k) (Fr T k) d) (rdN T (Rt T k) (Go T k) (d + Ln T k)) i)) (s + 1 + 1) = evM (atT T k d) n q := fun q => by
    rw [s2 q, at_ev hI hk hr hd q, hq q]; rfl
  exact ⟨w1, by rw [w2, sw_sum (at_IB hI hd) s1 hq']; rfl, w3⟩
