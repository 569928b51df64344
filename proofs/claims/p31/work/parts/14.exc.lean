/-! THE WORDS of the exceptions that are thrown. -/
def exw (ik ic : Nat) (E : String) : List Cond := Cond.classLink "BusBlocks" ik E :: Cond.initialized E :: vx_atS "BusBlocks" ic E ["java/lang/RuntimeException", "java/lang/Exception"]
def exq (l : List Cond) : Bool := l.all (fun w => decide (w ∈ lw_tbl) && am_okw w && vx_ot w)
theorem exq_at {l : List Cond} (h : exq l = true) : ∀ w ∈ l, w ∈ am_U ∧ vx_ot w = true := fun w hw => by
  have h1 := List.all_eq_true.mp h w hw
  simp only [Bool.and_eq_true, decide_eq_true_eq] at h1
  exact ⟨am_in_U h1.1.1 h1.1.2, h1.2⟩
theorem exw_IAE : exq (exw 176 180 "java/lang/IllegalArgumentException") = true := by decide +kernel
theorem exw_IOE : exq (exw 359 363 "java/lang/IndexOutOfBoundsException") = true := by decide +kernel
theorem exw_ISE : exq (exw 96 100 "java/lang/IllegalStateException") = true := by decide +kernel
theorem ex_fn : ∀ n ∈ (["java/lang/RuntimeException", "java/lang/Exception"] : List String), Bundle.fit n = true := am_c (by decide +kernel) (am_c (by decide +kernel) am_n)
theorem ex_fA : Bundle.fit "java/lang/IllegalArgumentException" = true := by decide +kernel
theorem ex_fO : Bundle.fit "java/lang/IndexOutOfBoundsException" = true := by decide +kernel
theorem ex_fS : Bundle.fit "java/lang/IllegalStateException" = true := by decide +kernel
/-- a throw in the class -/
theorem ex_th {cc : ByteArray} {M : MI} {pc ik ic is : Nat} {E text : String} (hE : Bundle.fit E = true) (hw : exq (exw ik ic E) = true) (hs : (is, text) ∈ am_strs) (hf : 5 < m_fr M) (hlo : 90 ≤ m_lo M) (d0 : decode cc pc = .ok (.new ik, 3)) (d3 : decode cc (pc + 3) = .ok (.dup, 1))
    (hd : (decode cc (pc + 4) = .ok (.ldc is, 2) ∧ decode cc (pc + 6) = .ok (.invokespecial ic, 3) ∧ decode cc (pc + 9) = .ok (.athrow, 1)) ∨ (decode cc (pc + 4) = .ok (.ldc_w is, 3) ∧ decode cc (pc + 7) = .ok (.invokespecial ic, 3) ∧ decode cc (pc + 10) = .ok (.athrow, 1))) : am_thok "BusBlocks" cc M pc E :=
  ⟨ik, is, ic, ["java/lang/RuntimeException", "java/lang/Exception"], text, ⟨rfl, hs⟩, hE, ex_fn, exq_at hw, hf, hlo, d0, d3, hd⟩
