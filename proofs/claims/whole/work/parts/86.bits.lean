/-! PURE: what was left open of doubles, over the whole library. -/
theorem quoOK : QuoOK := fun a b hb => fl_quo a b hb
theorem fl_lg : ∀ j, j < 24 → ¬ lg_cmp (Int64.ofNat (1023 - j)) 1 ≤ 0 := by decide +kernel
theorem fl_dec : ∀ j, j < 24 → Int64.ofNat (1023 - j) - 1 = Int64.ofNat (1023 - (j + 1)) := by decide +kernel
def ysd (E t j : Nat) : UInt64 := UInt64.ofNat ((E + j) * 2 ^ 52 + t)
theorem ysd_nat {E t j : Nat} (hE : E + j < 1500) (ht : t < 2 ^ 52) : (ysd E t j).toNat = (E + j) * 2 ^ 52 + t := UInt64.toNat_ofNat_of_lt' (by show _ < 2 ^ 64; omega)
theorem bits_ok (h : HP) (x : UInt64) (h1 : 1000 * 2 ^ 52 ≤ x.toNat) (h2 : x.toNat ≤ 1023 * 2 ^ 52) : p_B_bitsOf h x ∧ v_B_bitsOf h x = v_dbits x := by
  obtain ⟨E, hE⟩ : ∃ E, E = x.toNat / 2 ^ 52 := ⟨_, rfl⟩
  obtain ⟨t, ht⟩ : ∃ t, t = x.toNat % 2 ^ 52 := ⟨_, rfl⟩
  have hx : x.toNat = E * 2 ^ 52 + t := by rw [hE, ht]; omega
  have ht2 : t < 2 ^ 52 := by rw [ht]; exact Nat.mod_lt _ (by decide)
  have hE1 : 1000 ≤ E := by omega
  have hE2 : E ≤ 1023 := by omega
  have hx0 : x = ysd E t 0 := UInt64.toNat_inj.mp (by rw [ysd_nat (by omega) ht2, hx]; rfl)
  have dbl : ∀ j, E + j < 1400 → FP.Core.dmul (ysd E t j) 4611686018427387904 = ysd E t (j + 1) := fun j hj => UInt64.toNat_inj.mp (by
    rw [fl_dbl (by omega) (by omega) ht2 (ysd_nat (j := j) (by omega) ht2), ysd_nat (by omega) ht2]; rfl)
  have nn : ∀ j, E + j < 1400 → FP.Core.val64 (ysd E t j) ≠ .nan := fun j hj => by rw [fl_val (by omega) (by omega) ht2 (ysd_nat (j := j) (by omega) ht2)]; exact fl_nn
  obtain ⟨a, b⟩ := itr_for (step := s_B_bitsOf_7 h x) (pst := ps_B_bitsOf_7 h x) (fun j => (ysd E t j, Int64.ofNat (1023 - j))) (1023 - E) (ysd E t (1023 - E), Int64.ofNat (1023 - (1023 - E))) (by omega)
    (fun j hj => by
      have c1 := (fl_cmp (by omega) (by omega) ht2 (ysd_nat (E := E) (j := j) (by omega) ht2)).mpr (by omega)
      show (if cmpValue (FP.Core.dcmp (ysd E t j) 4607182418800017408) .g < 0 then (if lg_cmp (Int64.ofNat (1023 - j)) 1 ≤ 0 then Sum.inr (ysd E t j, Int64.ofNat (1023 - j)) else Sum.inl (FP.Core.dmul (ysd E t j) 4611686018427387904, Int64.ofNat (1023 - j) - 1)) else Sum.inr (ysd E t j, Int64.ofNat (1023 - j))) = _
      rw [if_pos c1, if_neg (fl_lg j (by omega)), dbl j (by omega), fl_dec j (by omega)])
    (by
      have c1 : ¬ cmpValue (FP.Core.dcmp (ysd E t (1023 - E)) 4607182418800017408) .g < 0 := fun z => absurd ((fl_cmp (by omega) (by omega) ht2 (ysd_nat (E := E) (j := 1023 - E) (by omega) ht2)).mp z) (by omega)
      show (if cmpValue (FP.Core.dcmp (ysd E t (1023 - E)) 4607182418800017408) .g < 0 then _ else Sum.inr (ysd E t (1023 - E), Int64.ofNat (1023 - (1023 - E)))) = _
      rw [if_neg c1])
    (fun j hj => ⟨fun _ => ⟨fun _ => trivial, fun _ => by
      show vf_n64 (FP.Core.dmul (ysd E t j) 4611686018427387904)
      rw [dbl j (by omega)]
      exact fl_n64 (nn (j + 1) (by omega))⟩, fun _ => trivial⟩)
  have e0 : ((ysd E t 0, Int64.ofNat (1023 - 0)) : UInt64 × Int64) = (x, 1023) := by rw [← hx0]; rfl
  have hx1 : x.toNat = E * 2 ^ 52 + t := hx
  rw [e0] at a b
  obtain ⟨t1, t2, t3⟩ := fl_tail ht2 (a := ysd E t (1023 - E)) (by rw [ysd_nat (by omega) ht2]; omega)
  refine ⟨⟨a, fun r hr => ?_⟩, ?_⟩
  · rw [b] at hr; cases hr
    exact ⟨t1, t2⟩
  · rw [v_B_bitsOf, b]
    show Int64.ofNat (1023 - (1023 - E)) * 4503599627370496 + FP.Core.d2l (FP.Core.dmul (FP.Core.dsub (ysd E t (1023 - E)) 4607182418800017408) 4841369599423283200) = _
    rw [t3]
    have en : v_nan x = 0 := by
      unfold v_nan
      rw [show FP.dcmp x x = some .eq from FP.Core.dcmp_self (by rw [hx0]; exact nn 0 (by omega))]
      rfl
    unfold v_dbits
    rw [if_pos en, show x = UInt64.ofNat (E * 2 ^ 52 + t) from hx0, show 1023 - (1023 - E) = E by omega]
    show _ = Int64.ofNat (E * 2 ^ 52 + t)
    rw [Int64.ofNat_add, Int64.ofNat_mul]
    rfl
theorem sn_leP {f g : Nat → Nat} : ∀ {n : Nat}, (∀ j, j < n → f j ≤ g j) → sn f n ≤ sn g n
  | 0, _ => Nat.le_refl _
  | n + 1, h => by
    have := sn_leP (n := n) (fun j hj => h j (by omega))
    have := h n (by omega)
    rw [sn, sn]; omega
theorem sn_geP {f : Nat → Nat} {k : Nat} : ∀ {n : Nat}, k < n → f k ≤ sn f n
  | 0, h => absurd h (Nat.not_lt_zero _)
  | n + 1, h => by
    rw [sn]
    by_cases e : k = n
    · rw [e]; omega
    · have := sn_geP (f := f) (n := n) (k := k) (by omega); omega
section BTS
variable {T : Nat → Int32} {n : Nat}
theorem drv_span (hI : Inv T n) : ∀ (b k : Nat), k < n → rk T n k ≤ b → Dp T k + drv T (some k) ≤ Ar T (lastc (nx T) k)
  | b, k, hk, hb => by
    rw [drv_step hI hk]
    cases e : nx T k with
    | none => rw [lastc_none e]; show Dp T k + (Ln T k + 0) ≤ Dp T k + Ln T k; omega
    | some j =>
      rw [lastc_some hI.fw hk e]
      obtain ⟨h1, h2⟩ := hI.fw.1 k j hk e
      obtain ⟨-, -, -, h3⟩ := hI.nxs hk e
      match b, hb with
      | 0, hb => omega
      | b + 1, hb =>
        have h3' : Dp T k + Ln T k ≤ Dp T j := h3
        have := drv_span hI b j h1 (by omega)
        omega
theorem spD_le (hI : Inv T n) : spD T n ≤ spW T n := by
  unfold spD spW
  rw [← drv_sum hI]
  refine sn_leP (fun k hk => ?_)
  unfold spn
  split
  · have := drv_span hI _ k hk (Nat.le_refl _); omega
  · exact Nat.le_refl _
theorem spD_pos (hI : Inv T n) (hW : ¬ spW T n = 0) : 0 < spD T n := by
  obtain ⟨k, hk, h1⟩ := sn_pos (f := spn T n) (s := n) (by unfold spW at hW; omega)
  have h2 : isr T k = true := by
    unfold spn at h1
    split at h1
    · rename_i h3
      unfold hd at h3
      exact (Bool.and_eq_true_iff.mp h3).1
    · omega
  have h4 := sn_geP (f := fun k => if isr T k = true then Ln T k else 0) hk
  have h5 := hI.ln1 hk
  unfold spD
  rw [if_pos h2] at h4
  omega
theorem shr_bits (hI : Inv T n) : 1000 * 2 ^ 52 ≤ (shr T n).toNat ∧ (shr T n).toNat ≤ 1023 * 2 ^ 52 := by
  have hW := spW_le hI
  have h20 := hI.n20
  unfold shr
  split
  · decide +kernel
  · rename_i h0
    have h1 := spD_le hI
    exact fl_share (nI_toInt (by omega)) (nI_toInt (by omega)) (spD_pos hI h0) h1 (by omega)
end BTS
theorem bitsOK : BitsOK := fun _ _ h hI => bits_ok h _ (shr_bits hI).1 (shr_bits hI).2
