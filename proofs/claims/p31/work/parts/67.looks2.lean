/-! PURE: looks, class and model side by side: blocks, duties. -/
theorem noHead (h : HP) : v_B_checkHead h (-1) = some xI := if_pos rfl
theorem hd_bf {T : Nat → Int32} {n k : Nat} (h : hd T n k = true) (hk : k < n) : bf T n k = none := by
  unfold hd at h
  rw [Bool.and_eq_true] at h
  unfold bf
  cases e : bfo T k n with
  | none => rfl
  | some j => rw [e] at h; exact absurd (show false = true from h.2) (by decide)
theorem inr4 {c d e : Prop} [Decidable c] [Decidable d] [Decidable e] {x y z u : Int32} : (if c then (Sum.inr x : String ⊕ Int32) else if d then .inr y else if e then .inr z else .inr u) = .inr (if c then x else if d then y else if e then z else u) := by
  by_cases h1 : c
  · rw [if_pos h1, if_pos h1]
  · rw [if_neg h1, if_neg h1]
    by_cases h2 : d
    · rw [if_pos h2, if_pos h2]
    · rw [if_neg h2, if_neg h2]
      by_cases h3 : e
      · rw [if_pos h3, if_pos h3]
      · rw [if_neg h3, if_neg h3]
theorem nneg (a : Int32) : (∃ r, r < 2 ^ 31 ∧ a = nI r ∧ ¬ a < 0) ∨ a < 0 := by
  by_cases h1 : a < 0
  · exact .inr h1
  · have h1' : ¬ a.toInt < 0 := fun z => h1 (Int32.lt_iff_toInt_lt.mpr z)
    have h2 := Int32.toInt_lt a
    have h3 : a.toInt.toNat < 2 ^ 31 := by omega
    refine .inl ⟨a.toInt.toNat, h3, Int32.toInt_inj.mp ?_, h1⟩
    rw [nI_toInt h3]; omega