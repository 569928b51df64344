/-! PURE: what was left open of doubles, over the whole library. -/
theorem quoOK : QuoOK := fun a b hb => fl_quo a b hb
section BTS
variable {T : Nat → Int32} {n : Nat}
end BTS