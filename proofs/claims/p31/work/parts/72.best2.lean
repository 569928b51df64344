/-! PURE: the search for the best time, class and model side by side. -/
theorem EvS.fr {h h' : HP} {A : Nat → Nat} {s : Nat} (hE : EvS h A s) (d : dF h h') : EvS h' A s :=
  ⟨(d.2 4 (by omega)).trans hE.1, fun i hi => by rw [d.1 13 (by omega) (by omega) (by omega)]; exact hE.2.1 i hi, hE.2.2⟩