/-! PURE: sums over blocks. -/
theorem sn_add {f g : Nat → Nat} : ∀ n, sn (fun i => f i + g i) n = sn f n + sn g n
  | 0 => rfl
  | n + 1 => by rw [sn, sn, sn, sn_add n]; omega
theorem sn_nul {f : Nat → Nat} : ∀ {n : Nat}, (∀ j, j < n → f j = 0) → sn f n = 0
  | 0, _ => rfl
  | n + 1, h => by rw [sn, sn_nul (fun j hj => h j (by omega)), h n (by omega)]
theorem sn_at {f : Nat → Nat} {a : Nat} : ∀ {n : Nat}, a < n → (∀ j, j < n → j ≠ a → f j = 0) → sn f n = f a
  | 0, h, _ => absurd h (Nat.not_lt_zero _)
  | n + 1, h, h0 => by
    rw [sn]
    by_cases e : a = n
    · rw [sn_nul (fun j hj => h0 j (by omega) (by omega)), e]; omega
    · rw [sn_at (n := n) (by omega) (fun j hj hne => h0 j (by omega) hne), h0 n (by omega) (by omega)]; omega
theorem sn_swap (f : Nat → Nat → Nat) (b : Nat) : ∀ a, sn (fun i => sn (fun j => f i j) b) a = sn (fun j => sn (fun i => f i j) a) b
  | 0 => (sn_nul (fun _ _ => rfl)).symm
  | a + 1 => by rw [sn, sn_swap f b a, ← sn_add]; rfl
section SHA
variable {T : Nat → Int32} {n : Nat}
theorem drv_step (hI : Inv T n) {k : Nat} (hk : k < n) : drv T (some k) = Ln T k + drv T (nx T k) := by
  unfold drv
  show (ch (nx T) k).foldl _ 0 = _
  rw [ch_step hI.fw hk, List.foldl_cons, foldl_plus, foldl_plus]; omega
/-- what comes next, all trips over -/
theorem sn_nx (hI : Inv T n) (F : Nat → Nat) : sn (fun j => match nx T j with | none => 0 | some q => F q) n = sn (fun q => if (bfo T q n).isSome = true then F q else 0) n := by
  have h1 : sn (fun j => match nx T j with | none => 0 | some q => F q) n = sn (fun j => sn (fun q => if nx T j = some q then F q else 0) n) n := by
    refine sn_congr (fun j hj => ?_)
    cases e : nx T j with
    | none => exact (sn_nul (fun q _ => if_neg (fun z => nomatch z))).symm
    | some a =>
      have ha := (hI.nxs hj e).1
      have := sn_at (f := fun q => if (some a : Option Nat) = some q then F q else 0) (a := a) ha (fun q _ hne => if_neg (fun z => hne (Option.some.inj z).symm))
      rw [this]
      exact (if_pos rfl).symm
  have h2 : sn (fun q => if (bfo T q n).isSome = true then F q else 0) n = sn (fun q => sn (fun j => if nx T j = some q then F q else 0) n) n := by
    refine sn_congr (fun q hq => ?_)
    cases e : bfo T q n with
    | none => exact ((sn_nul (fun j hj => if_neg (bfo_none e j hj))).trans (if_neg (fun z => nomatch z)).symm).symm
    | some p =>
      obtain ⟨hp, hp2⟩ := bfo_some e
      have := sn_at (f := fun j => if nx T j = some q then F q else 0) (a := p) hp (fun j hj hne => if_neg (fun z => hne (hI.inj hj hp z hp2)))
      rw [this, if_pos hp2]; rfl
  rw [h1, h2]
  exact sn_swap _ _ _
/-- all that is driven, told by blocks and told by trips -/
theorem drv_sum (hI : Inv T n) : sn (fun k => if hd T n k = true then drv T (some k) else 0) n = sn (fun k => if isr T k = true then Ln T k else 0) n := by
  have hrun : ∀ {k q : Nat}, k < n → nx T k = some q → isr T k = true ∧ isr T q = true := fun hk e => by
    obtain ⟨_, h1, h2, _⟩ := hI.nxs hk e
    exact ⟨beq_iff.mpr h1, beq_iff.mpr h2⟩
  have e1 : sn (fun k => if isr T k = true then drv T (some k) else 0) n = sn (fun k => if hd T n k = true then drv T (some k) else 0) n + sn (fun q => if (bfo T q n).isSome = true then drv T (some q) else 0) n := by
    rw [← sn_add]
    refine sn_congr (fun k hk => ?_)
    unfold hd
    cases e : bfo T k n with
    | none =>
      show _ = (if (isr T k && true) = true then _ else 0) + (if false = true then _ else 0)
      rw [Bool.and_true, if_neg ff]; omega
    | some p =>
      obtain ⟨hp, hp2⟩ := bfo_some e
      show _ = (if (isr T k && false) = true then _ else 0) + (if true = true then _ else 0)
      rw [Bool.and_false, if_neg ff, if_pos rfl, if_pos (hrun hp hp2).2]; omega
  have e2 : sn (fun k => if isr T k = true then drv T (some k) else 0) n = sn (fun k => if isr T k = true then Ln T k else 0) n + sn (fun j => match nx T j with | none => 0 | some q => drv T (some q)) n := by
    rw [← sn_add]
    refine sn_congr (fun k hk => ?_)
    rw [drv_step hI hk]
    cases e : nx T k with
    | none =>
      show (if isr T k = true then Ln T k + 0 else 0) = (if isr T k = true then Ln T k else 0) + 0
      rfl
    | some q =>
      show (if isr T k = true then Ln T k + drv T (some q) else 0) = (if isr T k = true then Ln T k else 0) + drv T (some q)
      rw [if_pos (hrun hk e).1, if_pos (hrun hk e).1]
  rw [sn_nx hI (fun q => drv T (some q))] at e2
  omega
end SHA
