/-! PURE: looks, class and model side by side: counts. -/
theorem RT.shift {f f' : Nat → Nat → Int32} {b b' n : Nat} {T : Nat → Int32} (h : RT f b T n) (e : ∀ j, j < 12 → f' (b' + j) = f (b + j)) : RT f' b' T n := by
  have e0 : f' b' = f b := e 0 (by omega)
  refine ⟨?_, fun k hk => ?_, fun i hi => ?_⟩
  · rw [e0]; exact h.1
  · rw [e 1 (by omega), e 2 (by omega), e 3 (by omega), e 4 (by omega), e 5 (by omega), e 6 (by omega), e 7 (by omega), e 8 (by omega)]; exact h.2.1 k hk
  · rw [e 9 (by omega), e 10 (by omega), e 11 (by omega)]; exact h.2.2 i hi
theorem pi21 : ∀ j, j < 12 → am_pi pl21 j = 21 + j := by decide +kernel
theorem ip21 : ∀ j, j < 12 → am_ip pl21 (21 + j) = some j := by decide +kernel
theorem ip21n {c : Nat} (h : c < 21 ∨ 33 ≤ c) : am_ip pl21 c = none := am_ip_out (by unfold pl21; simp only [List.mem_cons, List.not_mem_nil, or_false]; omega)