/-! PURE: the driven share (what is asked of doubles is left as a hypothesis: the laws of doubles lie in the rest of the library). -/
/-- a quotient of whole numbers is a number -/
def QuoOK : Prop := ∀ a b : Int32, ¬ b = 0 → vf_n64 (FP.ddiv (FP.i2d a) (FP.i2d b))
/-- the share of class and model -/
def shr (T : Nat → Int32) (n : Nat) : UInt64 := if spW T n = 0 then FP.dconst1 else FP.ddiv (FP.i2d (nI (spD T n))) (FP.i2d (nI (spW T n)))
theorem le0_iff {a : Nat} (h : a < 2 ^ 31) : nI a ≤ 0 ↔ a = 0 := by
  rw [Int32.le_iff_toInt_le, nI_toInt h]
  have e2 : (0 : Int32).toInt = 0 := by decide +kernel
  omega
theorem cc_shr (hQ : QuoOK) {h : HP} {T : Nat → Int32} {n : Nat} (hR : RT h.1 0 T n) (hI : Inv T n) : p_B_drivenShare h ∧ v_B_drivenShare h = shr T n := by
  obtain ⟨a, b⟩ := cc_share hR hI
  have hW := spW_le hI
  have h20 := hI.n20
  refine ⟨⟨a, fun r1 hr1 => ?_⟩, ?_⟩
  · rw [b] at hr1; cases hr1
    exact ⟨fun _ => trivial, fun z => hQ _ _ (fun e => z (by show nI (spW T n) ≤ 0; rw [show nI (spW T n) = 0 from e]; decide))⟩
  · rw [v_B_drivenShare, b]
    show (if nI (spW T n) ≤ 0 then _ else _) = _
    unfold shr
    by_cases e : spW T n = 0
    · rw [if_pos ((le0_iff (by omega)).mpr e), if_pos e]
    · rw [if_neg (fun z => e ((le0_iff (by omega)).mp z)), if_neg e]