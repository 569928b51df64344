/-! Doubles: a quotient of whole numbers, its bits. (Over the whole library: JvmDerived.FloatLaws2 and 3.) -/
theorem fl_n64 {r : UInt64} (h : FP.Core.val64 r ≠ .nan) : vf_n64 r := by
  have h1 := (FP.Core.ne_nan r).mp h
  unfold vf_n64
  rw [UInt64.le_iff_toNat_le, UInt64.toNat_and, show (0x7fffffffffffffff : UInt64).toNat = 2 ^ 63 - 1 from by decide +kernel, Nat.and_two_pow_sub_one_eq_mod]
  exact h1
theorem fl_val {E t : Nat} (hE : 1 ≤ E) (hE2 : E < 2047) (ht : t < 2 ^ 52) {a : UInt64} (h : a.toNat = E * 2 ^ 52 + t) : FP.Core.val64 a = .fin false (2 ^ 52 + t) ((E : Int) - 1075) := by
  have e1 : a.toNat = FP.Core.assemble FP.Core.b64 false E t := by
    rw [h]
    show _ = (0 * FP.Core.b64.exps + E) * FP.Core.b64.tails + t
    rw [Nat.zero_mul, Nat.zero_add, FP.Core.tails_b64]
  have e2 : FP.Core.b64.exps = 2048 := by decide +kernel
  unfold FP.Core.val64
  rw [e1, FP.Core.decode_assemble FP.Core.b64 false E t (by omega) (by rw [FP.Core.tails_b64]; exact ht), FP.Core.exps_b64, if_neg (by omega), if_neg (by omega), FP.Core.tails_b64, FP.Core.qmin_b64]
  congr 1
  omega
theorem fl_one : FP.Core.val64 (4607182418800017408 : UInt64) = .fin false (2 ^ 52) (-52) := fl_val (E := 1023) (t := 0) (by decide) (by decide) (by decide) (by decide +kernel)
theorem fl_two : FP.Core.val64 (4611686018427387904 : UInt64) = .fin false (2 ^ 52) (-51) := fl_val (E := 1024) (t := 0) (by decide) (by decide) (by decide) (by decide +kernel)
theorem fl_big : FP.Core.val64 (4841369599423283200 : UInt64) = .fin false (2 ^ 52) 0 := fl_val (E := 1075) (t := 0) (by decide) (by decide) (by decide) (by decide +kernel)
theorem fl_nn {s : Bool} {c : Nat} {q : Int} : (FP.Core.Datum.fin s c q) ≠ .nan := fun z => nomatch z
theorem fl_fits {c : Nat} {q : Int} (h1 : 2 ^ 52 ≤ c) (h2 : c < 2 ^ 53) (h3 : -1074 ≤ q) (h4 : q ≤ 900) : FP.Core.fits FP.Core.b64 (.fin false c q) := by
  have e1 : FP.Core.b64.qmax = 971 := by decide +kernel
  refine ⟨h2, by rw [FP.Core.qmin_b64]; exact h3, by rw [e1]; omega, .inr (by rw [FP.Core.tails_b64]; exact h1)⟩
/-- rounding a number that fits, however it is written -/
theorem fl_round {A c : Nat} {e q : Int} (h1 : 2 ^ 52 ≤ c) (h2 : c < 2 ^ 53) (h3 : -1074 ≤ q) (h4 : q ≤ 900) (h : A * 2 ^ (e - q).toNat = c * 2 ^ (q - e).toNat) : FP.Core.roundRatio FP.Core.b64 false A 1 e = .fin false c q :=
  FP.Core.roundRatio_exact FP.Core.good_b64 (by decide) (fl_fits h1 h2 h3 h4) (by rw [Nat.mul_one]; exact h)
/-- doubling -/
theorem fl_dbl {E t : Nat} (hE : 1 ≤ E) (hE2 : E < 1500) (ht : t < 2 ^ 52) {a : UInt64} (h : a.toNat = E * 2 ^ 52 + t) : (FP.Core.dmul a 4611686018427387904).toNat = (E + 1) * 2 ^ 52 + t := by
  have hb : (UInt64.ofNat ((E + 1) * 2 ^ 52 + t)).toNat = (E + 1) * 2 ^ 52 + t := UInt64.toNat_ofNat_of_lt' (by show _ < 2 ^ 64; omega)
  have e1 : FP.Core.val64 (FP.Core.dmul a 4611686018427387904) = FP.Core.val64 (UInt64.ofNat ((E + 1) * 2 ^ 52 + t)) := by
    rw [FP.Core.val64_dmul, fl_val hE (by omega) ht h, fl_two, fl_val (by omega) (by omega) ht hb]
    show FP.Core.roundRatio FP.Core.b64 false ((2 ^ 52 + t) * 2 ^ 52) 1 ((E : Int) - 1075 + -51) = _
    refine fl_round (by omega) (by omega) (by omega) (by omega) ?_
    rw [show ((E : Int) - 1075 + -51 - (((E + 1 : Nat) : Int) - 1075)).toNat = 0 by omega, show (((E + 1 : Nat) : Int) - 1075 - ((E : Int) - 1075 + -51)).toNat = 52 by omega, Nat.pow_zero, Nat.mul_one]
  have e2 : FP.Core.dmul a 4611686018427387904 = UInt64.ofNat ((E + 1) * 2 ^ 52 + t) := FP.Core.val64_inj (by rw [e1, fl_val (by omega) (by omega) ht hb]; exact fl_nn) e1
  rw [e2, hb]
/-- is it less than one? -/
theorem fl_cmp {E t : Nat} (hE : 1 ≤ E) (hE2 : E < 2047) (ht : t < 2 ^ 52) {a : UInt64} (h : a.toNat = E * 2 ^ 52 + t) : cmpValue (FP.Core.dcmp a 4607182418800017408) .g < 0 ↔ E < 1023 := by
  rw [FP.Core.dcmp_key (by rw [fl_val hE hE2 ht h]; exact fl_nn) (by rw [fl_one]; exact fl_nn)]
  have k1 : FP.Core.dkey a = ((E * 2 ^ 52 + t : Nat) : Int) := by
    unfold FP.Core.dkey
    rw [h, if_neg (by omega)]
  have k2 : FP.Core.dkey (4607182418800017408 : UInt64) = ((1023 * 2 ^ 52 : Nat) : Int) := by decide +kernel
  rw [k1, k2]
  have lt0 : ((-1 : Int32) < 0) = True := by decide
  by_cases c1 : E < 1023
  · rw [show compare ((E * 2 ^ 52 + t : Nat) : Int) ((1023 * 2 ^ 52 : Nat) : Int) = .lt from by rw [Int.compare_eq_lt]; omega]
    exact ⟨fun _ => c1, fun _ => by decide⟩
  · by_cases c2 : ((E * 2 ^ 52 + t : Nat) : Int) = ((1023 * 2 ^ 52 : Nat) : Int)
    · rw [show compare ((E * 2 ^ 52 + t : Nat) : Int) ((1023 * 2 ^ 52 : Nat) : Int) = .eq from by rw [Int.compare_eq_eq]; exact c2]
      exact ⟨fun z => absurd z (by decide), fun z => absurd z c1⟩
    · rw [show compare ((E * 2 ^ 52 + t : Nat) : Int) ((1023 * 2 ^ 52 : Nat) : Int) = .gt from by rw [Int.compare_eq_gt]; omega]
      exact ⟨fun z => absurd z (by decide), fun z => absurd z c1⟩
/-- a whole number with its leading digit at the 53rd place -/
theorem fl_norm {t : Nat} (h0 : 0 < t) (ht : t < 2 ^ 53) : ∃ k, k ≤ 52 ∧ 2 ^ 52 ≤ t * 2 ^ k ∧ t * 2 ^ k < 2 ^ 53 := by
  have h1 : t.log2 ≤ 52 := Nat.le_of_lt_succ ((Nat.log2_lt (by omega)).mpr ht)
  have h2 := Nat.log2_self_le (n := t) (by omega)
  have h3 := Nat.lt_log2_self (n := t)
  refine ⟨52 - t.log2, by omega, ?_, ?_⟩
  · calc 2 ^ 52 = 2 ^ t.log2 * 2 ^ (52 - t.log2) := by rw [← Nat.pow_add]; congr 1; omega
      _ ≤ _ := Nat.mul_le_mul_right _ h2
  · calc t * 2 ^ (52 - t.log2) < 2 ^ (t.log2 + 1) * 2 ^ (52 - t.log2) := Nat.mul_lt_mul_of_pos_right h3 (Nat.two_pow_pos _)
      _ = 2 ^ 53 := by rw [← Nat.pow_add]; congr 1; omega
/-- what lies behind the point -/
theorem fl_tail {t : Nat} (ht : t < 2 ^ 52) {a : UInt64} (h : a.toNat = 1023 * 2 ^ 52 + t) : vf_n64 (FP.Core.dsub a 4607182418800017408) ∧ vf_n64 (FP.Core.dmul (FP.Core.dsub a 4607182418800017408) 4841369599423283200) ∧ FP.Core.d2l (FP.Core.dmul (FP.Core.dsub a 4607182418800017408) 4841369599423283200) = Int64.ofNat t := by
  by_cases h0 : t = 0
  · have ea : a = 4607182418800017408 := by
      refine UInt64.toNat_inj.mp ?_
      rw [h, h0]; decide +kernel
    rw [ea, h0]
    unfold vf_n64
    decide +kernel
  · obtain ⟨k, hk, k1, k2⟩ := fl_norm (t := t) (by omega) (by omega)
    have e1 : FP.Core.val64 (FP.Core.dsub a 4607182418800017408) = .fin false (t * 2 ^ k) (-52 - (k : Int)) := by
      rw [FP.Core.val64_dsub, fl_val (E := 1023) (by omega) (by omega) ht h, fl_one]
      have eu : FP.Core.sumUnits false (2 ^ 52 + t) (-52) true (2 ^ 52) (-52) (-52) = (t : Int) := by
        unfold FP.Core.sumUnits FP.Core.signed FP.Core.inUnits
        rw [show ((-52 : Int) - -52).toNat = 0 by decide, Nat.pow_zero, Nat.mul_one, Nat.mul_one, if_neg (by decide), if_pos rfl]
        omega
      show FP.Core.round FP.Core.b64 (.fin (FP.Core.sumSign false true (FP.Core.sumUnits false (2 ^ 52 + t) (((1023 : Nat) : Int) - 1075) true (2 ^ 52) (-52) (min (((1023 : Nat) : Int) - 1075) (-52)))) (FP.Core.sumUnits false (2 ^ 52 + t) (((1023 : Nat) : Int) - 1075) true (2 ^ 52) (-52) (min (((1023 : Nat) : Int) - 1075) (-52))).natAbs (min (((1023 : Nat) : Int) - 1075) (-52))) = _
      rw [show (((1023 : Nat) : Int) - 1075) = -52 by decide, show min (-52 : Int) (-52) = -52 by decide, eu]
      have es : FP.Core.sumSign false true (t : Int) = false := by
        unfold FP.Core.sumSign
        rw [if_neg (by omega)]
        exact decide_eq_false (by omega)
      rw [es, Int.natAbs_natCast]
      show FP.Core.roundRatio FP.Core.b64 false t 1 (-52) = _
      refine fl_round k1 k2 (by omega) (by omega) ?_
      rw [show (-52 - (-52 - (k : Int))).toNat = k by omega, show (-52 - (k : Int) - -52).toNat = 0 by omega, Nat.pow_zero, Nat.mul_one]
    have e2 : FP.Core.val64 (FP.Core.dmul (FP.Core.dsub a 4607182418800017408) 4841369599423283200) = .fin false (t * 2 ^ k) (-(k : Int)) := by
      rw [FP.Core.val64_dmul, e1, fl_big]
      show FP.Core.roundRatio FP.Core.b64 false (t * 2 ^ k * 2 ^ 52) 1 (-52 - (k : Int) + 0) = _
      refine fl_round k1 k2 (by omega) (by omega) ?_
      rw [show (-52 - (k : Int) + 0 - -(k : Int)).toNat = 0 by omega, show (-(k : Int) - (-52 - (k : Int) + 0)).toNat = 52 by omega, Nat.pow_zero, Nat.mul_one]
    refine ⟨fl_n64 (by rw [e1]; exact fl_nn), fl_n64 (by rw [e2]; exact fl_nn), ?_⟩
    show FP.Core.toL (FP.Core.val64 _) = _
    rw [e2]
    have e3 : FP.Core.truncate false (t * 2 ^ k) (-(k : Int)) = (t : Int) := by
      unfold FP.Core.truncate FP.Core.signed
      rw [if_neg (by decide), show (-(k : Int)).toNat = 0 by omega, show (- -(k : Int)).toNat = k by omega, Nat.pow_zero, Nat.mul_one, Nat.mul_div_cancel _ (Nat.two_pow_pos k)]
    show Int64.ofInt (max (-2 ^ 63) (min (2 ^ 63 - 1) (FP.Core.truncate false (t * 2 ^ k) (-(k : Int))))) = _
    rw [e3, show max (-2 ^ 63 : Int) (min (2 ^ 63 - 1) (t : Int)) = (t : Int) by omega]
    rfl
/-- a whole number as a double -/
theorem fl_i2d {x : Int32} {d : Nat} (hx : x.toInt = (d : Int)) (h0 : 0 < d) (hd : d < 2 ^ 31) : ∃ k : Nat, k ≤ 52 ∧ FP.Core.val64 (FP.Core.i2d x) = .fin false (d * 2 ^ k) (-(k : Int)) := by
  obtain ⟨k, hk, k1, k2⟩ := fl_norm (t := d) h0 (by omega)
  refine ⟨k, hk, ?_⟩
  rw [FP.Core.val64_i2d, hx]
  have e1 : FP.Core.ofInt (d : Int) = .fin false d 0 := by
    unfold FP.Core.ofInt
    rw [Int.natAbs_natCast, decide_eq_false (by omega)]
  rw [e1]
  show FP.Core.roundRatio FP.Core.b64 false d 1 0 = _
  refine fl_round k1 k2 (by omega) (by omega) ?_
  rw [show ((0 : Int) - -(k : Int)).toNat = k by omega, show (-(k : Int) - 0).toNat = 0 by omega, Nat.pow_zero, Nat.mul_one]
/-- a quotient of whole numbers is a number -/
theorem fl_quo (a b : Int32) (hb : ¬ b = 0) : vf_n64 (FP.Core.ddiv (FP.Core.i2d a) (FP.Core.i2d b)) := by
  refine fl_n64 ((FP.Core.notNaN_iff _).mp (FP.Core.ddiv_out (FP.Core.i2d_fin a).notNaN (FP.Core.i2d_fin b) ?_))
  rw [FP.Core.zero_bits2]
  exact FP.Core.i2d_ne_zero hb
/-- the bits of a share -/
theorem fl_share {x y : Int32} {d w : Nat} (hx : x.toInt = (d : Int)) (hy : y.toInt = (w : Int)) (h0 : 0 < d) (hd : d ≤ w) (hw : w < 2 ^ 20) : 1000 * 2 ^ 52 ≤ (FP.Core.ddiv (FP.Core.i2d x) (FP.Core.i2d y)).toNat ∧ (FP.Core.ddiv (FP.Core.i2d x) (FP.Core.i2d y)).toNat ≤ 1023 * 2 ^ 52 := by
  obtain ⟨k, hk, e1⟩ := fl_i2d hx h0 (by omega)
  obtain ⟨j, hj, e2⟩ := fl_i2d hy (by omega) (by omega)
  have pj := Nat.two_pow_pos j
  have hq : FP.Core.val64 (FP.Core.ddiv (FP.Core.i2d x) (FP.Core.i2d y)) = FP.Core.roundRatio FP.Core.b64 false (d * 2 ^ k) (w * 2 ^ j) (-(k : Int) - -(j : Int)) := by
    rw [FP.Core.val64_ddiv, e1, e2]
    show (if w * 2 ^ j = 0 then _ else _) = _
    rw [if_neg (by have : 0 < w * 2 ^ j := Nat.mul_pos (by omega) pj; omega)]
    rfl
  have hwj : 0 < w * 2 ^ j := Nat.mul_pos (by omega) pj
  have hn : FP.Core.val64 (FP.Core.ddiv (FP.Core.i2d x) (FP.Core.i2d y)) ≠ .nan := by rw [hq]; exact FP.Core.roundRatio_ne_nan _ _ _ _ _
  have eA : FP.Core.inUnits (d * 2 ^ k) (-(k : Int) - -(j : Int)) (-1074) = d * 2 ^ j * 2 ^ 1074 := by
    unfold FP.Core.inUnits
    rw [Nat.mul_assoc, ← Nat.pow_add, Nat.mul_assoc, ← Nat.pow_add]
    congr 2
    omega
  have hm1 := FP.Core.mag_le FP.Core.good_b64 (m := 1023 * FP.Core.b64.tails) (e0 := -1074) (n := (FP.Core.ddiv (FP.Core.i2d x) (FP.Core.i2d y)).toNat) hq hwj (by rw [FP.Core.qmin_b64]; decide) (by omega) (by
    rw [eA, FP.Core.unitsOf_start (by decide), FP.Core.tails_b64, FP.Core.qmin_b64, show ((-1074 : Int) - -1074).toNat = 0 by decide, Nat.pow_zero, Nat.mul_one, ← Nat.pow_add, Nat.mul_comm]
    exact Nat.mul_le_mul_left _ (Nat.mul_le_mul_right _ hd))
  have hm2 := FP.Core.mag_ge FP.Core.good_b64 (m := 1000 * FP.Core.b64.tails) (e0 := -1074) (n := (FP.Core.ddiv (FP.Core.i2d x) (FP.Core.i2d y)).toNat) hq hwj (by rw [FP.Core.qmin_b64]; decide) (by omega) (by rw [FP.Core.tails_b64, FP.Core.infBits_b64]; decide) (by
    rw [eA, FP.Core.unitsOf_start (by decide), FP.Core.tails_b64, FP.Core.qmin_b64, show ((-1074 : Int) - -1074).toNat = 0 by decide, Nat.pow_zero, Nat.mul_one, ← Nat.pow_add]
    have q1 : w ≤ d * 2 ^ 23 := by omega
    calc 2 ^ (52 + (1000 - 1)) * (w * 2 ^ j) ≤ 2 ^ (52 + (1000 - 1)) * (d * 2 ^ 23 * 2 ^ j) := Nat.mul_le_mul_left _ (Nat.mul_le_mul_right _ q1)
      _ = d * 2 ^ j * (2 ^ (52 + (1000 - 1)) * 2 ^ 23) := by
        generalize 2 ^ (52 + (1000 - 1)) = p
        generalize 2 ^ 23 = q
        generalize 2 ^ j = r
        rw [Nat.mul_comm p, Nat.mul_assoc, Nat.mul_assoc d r, Nat.mul_assoc d q, Nat.mul_comm p q, ← Nat.mul_assoc r q p, ← Nat.mul_assoc q r p, Nat.mul_comm q r]
      _ = d * 2 ^ j * 2 ^ 1074 := by rw [← Nat.pow_add])
  rw [FP.Core.mag_toNat64, FP.Core.tails_b64] at hm1 hm2
  have hs := FP.Core.sgn_bits hn
  rw [hq, FP.Core.sgn_roundRatio] at hs
  have hs2 := of_decide_eq_false hs.symm
  omega
