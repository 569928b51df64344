/-! PURE: the driven share, class and model side by side. -/
theorem sn_leB {f : Nat → Nat} {B : Nat} : ∀ {n : Nat}, (∀ j, j < n → f j ≤ B) → sn f n ≤ n * B
  | 0, _ => Nat.zero_le _
  | n + 1, h => by
    have := sn_leB (n := n) (fun j hj => h j (by omega))
    have := h n (by omega)
    rw [sn, Nat.succ_mul]; omega
section SHB
variable {T : Nat → Int32} {n : Nat}
theorem lastc_dp (hI : Inv T n) : ∀ (b k : Nat), k < n → rk T n k ≤ b → Dp T k ≤ Dp T (lastc (nx T) k)
  | b, k, hk, hb => by
    cases e : nx T k with
    | none => rw [lastc_none e]; exact Nat.le_refl _
    | some j =>
      rw [lastc_some hI.fw hk e]
      obtain ⟨h1, h2⟩ := hI.fw.1 k j hk e
      obtain ⟨-, -, -, h3⟩ := hI.nxs hk e
      match b, hb with
      | 0, hb => omega
      | b + 1, hb =>
        have h3' : Dp T k + Ln T k ≤ Dp T j := h3
        have := lastc_dp hI b j h1 (by omega)
        omega
end SHB
/-- the span of a block -/
def spn (T : Nat → Int32) (n k : Nat) : Nat := if hd T n k = true then Ar T (lastc (nx T) k) - Dp T k else 0
def spW (T : Nat → Int32) (n : Nat) : Nat := sn (spn T n) n
def spD (T : Nat → Int32) (n : Nat) : Nat := sn (fun k => if isr T k = true then Ln T k else 0) n
theorem spn_i {T : Nat → Int32} {n k : Nat} (hI : Inv T n) (hk : k < n) : nI (Ar T (lastc (nx T) k)) - nI (Dp T k) = nI (Ar T (lastc (nx T) k) - Dp T k) := by
  have h1 := lastc_dp hI _ k hk (Nat.le_refl _)
  exact nI_sub (by show Dp T k ≤ Dp T _ + Ln T _; omega)
theorem spW_le {T : Nat → Int32} {n : Nat} (hI : Inv T n) : spW T n ≤ n * 2000 := by
  refine sn_leB (fun k hk => ?_)
  unfold spn
  have hl := (lastc_lt hI.fw hk).1
  have h1 : Dp T (lastc (nx T) k) ≤ 1439 := (hI.dp hl).2
  have h2 : Ln T (lastc (nx T) k) ≤ 240 := hI.lnL hl
  split
  · show Dp T _ + Ln T _ - Dp T k ≤ 2000; omega
  · omega
theorem b01_if' {b : Bool} {x y : Int32} : (if b01 b = 0 then x else y) = if b = true then y else x := by
  cases b with
  | true => rfl
  | false => rfl
theorem add_if {b : Bool} {x y : Nat} : (if b = true then nI x + nI y else nI x) = nI (x + if b = true then y else 0) := by
  cases b with
  | true => rw [if_pos rfl, if_pos rfl, nI_add]
  | false => rw [if_neg ff, if_neg ff]; rfl
theorem cc_share {h : HP} {T : Nat → Int32} {n : Nat} (hR : RT h.1 0 T n) (hI : Inv T n) : itrp (s_B_drivenShare_6 h) (ps_B_drivenShare_6 h) NF (0, 0, 0) ∧ itr (s_B_drivenShare_6 h) NF (0, 0, 0) = some (nI (spD T n), nI (spW T n), nI n) := by
  have h20 := hI.n20
  rw [show spD T n = _ from (drv_sum hI).symm]
  exact itr_for (step := s_B_drivenShare_6 h) (pst := ps_B_drivenShare_6 h) (fun j => (nI (sn (fun k => if hd T n k = true then drv T (some k) else 0) j), nI (sn (spn T n) j), nI j)) n _ (by omega)
    (fun j hj => by
      show (if nI j < h.1 0 11 then Sum.inl ((if v_T_isHead h (nI j) = 0 then nI (sn _ j) else nI (sn _ j) + v_T_drivenFrom h (nI j)), (if v_T_isHead h (nI j) = 0 then nI (sn _ j) else nI (sn _ j) + v_T_spanFrom h (nI j)), nI j + 1) else _) = _
      rw [if_pos (cc_lt hR hI hj), cc_isHead hR hI hj, b01_if', b01_if', (cc_driven hR hI hj).2, (cc_span hR hI hj).2, spn_i hI hj, add_if, add_if, nI_1]
      rfl)
    (by
      show (if nI n < h.1 0 11 then _ else _) = _
      rw [if_neg (cc_nlt hR hI)]
      rfl)
    (fun j hj => ⟨fun z => by
      have hj' : j < n := by
        rcases Nat.lt_or_ge j n with h1 | h1
        · exact h1
        · have e : j = n := by omega
          subst e; exact absurd z (cc_nlt hR hI)
      exact ⟨fun _ => trivial, fun _ => ⟨(cc_driven hR hI hj').1, (cc_span hR hI hj').1⟩⟩, fun _ => trivial⟩)