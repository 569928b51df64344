/-! PURE: trips are parted; a bus fails. -/
theorem cut2 {T : Nat → Int32} {n : Nat} (hI : Inv T n) {k : Nat} (hk : k < n) : Inv (match bfo T k n with | none => T | some j => setN T j none) n := by
  cases e : bfo T k n with
  | none => exact hI
  | some j => exact hI.cut (bfo_some e).1
/-- the row with what is ahead of k cut -/
def cutAT (T : Nat → Int32) (n k : Nat) : Nat → Int32 := match bfo T k n with | none => T | some j => setN T j none
section CAT
variable {T : Nat → Int32} {n k : Nat}
theorem cutAT_inv (hI : Inv T n) (hk : k < n) : Inv (cutAT T n k) n := cut2 hI hk
theorem cutAT_ne (hI : Inv T n) (hk : k < n) {i : Nat} (h : ∀ q, q < n → i ≠ 16 + 7 * q + 6) : cutAT T n k i = T i := by
  unfold cutAT
  cases e : bfo T k n with
  | none => rfl
  | some j => exact upd_ne (h j (bfo_some e).1)
theorem cutAT_nx (hI : Inv T n) (hk : k < n) {q : Nat} (hq : q < n) : nx (cutAT T n k) q = if nx T q = some k then none else nx T q := by
  have h20 := hI.n20
  unfold cutAT
  cases e : bfo T k n with
  | none => rw [if_neg (bfo_none e q hq)]
  | some j =>
    obtain ⟨hj, hjk⟩ := bfo_some e
    show nx (setN T j none) q = _
    rw [setN_nx (o := none) (fun _ z => nomatch z)]
    by_cases h1 : q = j
    · subst h1; rw [if_pos rfl, if_pos hjk]
    · rw [if_neg h1, if_neg]
      intro z
      exact h1 (hI.inj hq hj z hjk)
theorem cutAT_bf (hI : Inv T n) (hk : k < n) : bfo (cutAT T n k) k n = none := by
  refine bfo_nil (fun j hj => ?_)
  rw [cutAT_nx hI hk hj]
  by_cases e : nx T j = some k
  · rw [if_pos e]; exact fun z => nomatch z
  · rw [if_neg e]; exact e
end CAT
/-- a trip that none precedes is lost -/
def lose (T : Nat → Int32) (k : Nat) : Nat → Int32 := upd (setN T k none) (16 + 7 * k + 5) 1
theorem lose_ne {T : Nat → Int32} {k i : Nat} (h1 : i ≠ 16 + 7 * k + 5) (h2 : i ≠ 16 + 7 * k + 6) : lose T k i = T i := by unfold lose setN; rw [upd_ne h1, upd_ne h2]
theorem lose_nx {T : Nat → Int32} {k : Nat} (q : Nat) : nx (lose T k) q = if q = k then none else nx T q := by
  unfold lose
  rw [nx_ne (by omega), setN_nx (o := none) (fun _ z => nomatch z)]
theorem Inv.los {T : Nat → Int32} {n k : Nat} (hI : Inv T n) (hk : k < n) (hb : bfo T k n = none) : Inv (lose T k) n := by
  have hn : ∀ q w, w < 6 → w ≠ 5 ∨ q ≠ k → nT (lose T k) (16 + 7 * q + w) = nT T (16 + 7 * q + w) := fun q w hw h => nT_ag (lose_ne (by omega) (by omega))
  refine ⟨InvA_ag hI (fun i hi => lose_ne (by omega) (by omega)), fun q hq => ?_, fun q hq => ?_, fun q j hq ej => ?_, fun q q' j hq hq' ej ej' => ?_⟩
  · refine ⟨bd_ag (lose_ne (by omega) (by omega)) (hI.rt hq), bd_ag (lose_ne (by omega) (by omega)) (hI.fr hq), bd_ag (lose_ne (by omega) (by omega)) (hI.go hq), bd_ag (lose_ne (by omega) (by omega)) (hI.dp hq), ⟨bd_ag (lose_ne (by omega) (by omega)) (hI.ln hq), by show 1 ≤ nT (lose T k) (16 + 7 * q + 4); rw [hn q 4 (by omega) (by omega)]; exact hI.ln1 hq⟩, ?_⟩
    by_cases e : q = k
    · subst e
      have : lose T q (16 + 7 * q + 5) = nI 1 := by unfold lose; exact upd_self ..
      exact bd_nI this (by omega) (by omega)
    · exact bd_ag (lose_ne (by omega) (by omega)) (hI.lo hq)
  · rw [lose_nx q]
    by_cases e : q = k
    · subst e
      rw [if_pos rfl]
      unfold lose setN
      rw [upd_ne (by omega), upd_self]
    · rw [if_neg e, lose_ne (by omega) (by omega)]; exact hI.nxe hq
  · rw [lose_nx q] at ej
    by_cases e : q = k
    · rw [if_pos e] at ej; cases ej
    · rw [if_neg e] at ej
      have h1 := hI.nxs hq ej
      have hjk : j ≠ k := fun z => bfo_none hb q hq (by rw [ej, z])
      show j < n ∧ nT (lose T k) (16 + 7 * q + 5) = 0 ∧ nT (lose T k) (16 + 7 * j + 5) = 0 ∧ nT (lose T k) (16 + 7 * q + 3) + nT (lose T k) (16 + 7 * q + 4) ≤ nT (lose T k) (16 + 7 * j + 3)
      rw [hn q 5 (by omega) (Or.inr e), hn j 5 (by omega) (Or.inr hjk), hn q 3 (by omega) (by omega), hn q 4 (by omega) (by omega), hn j 3 (by omega) (by omega)]
      exact h1
  · rw [lose_nx q] at ej
    rw [lose_nx q'] at ej'
    by_cases e : q = k
    · rw [if_pos e] at ej; cases ej
    · rw [if_neg e] at ej
      by_cases e' : q' = k
      · rw [if_pos e'] at ej'; cases ej'
      · rw [if_neg e'] at ej'
        exact hI.inj hq hq' ej ej'
theorem cc_lose {h : HP} {T : Nat → Int32} {n k : Nat} (hR : RT h.1 0 T n) (hI : Inv T n) (hk : k < n) : RT (v_put 20 (v_T_cutBehind h (nI k)) 8 (nI k) 1).1 0 (lose T k) n ∧ (∀ c, 9 ≤ c → (v_put 20 (v_T_cutBehind h (nI k)) 8 (nI k) 1).1 c = h.1 c) := by
  have hkl := hI.lt hk
  obtain ⟨a, b⟩ := cc_cutB hR hI hk
  rw [put20 _ _ hkl]
  exact ⟨a.up ⟨by omega, by omega, by omega, by omega⟩ (fun q hq => ⟨by omega, by omega, by omega, by omega, by omega, by omega, by omega, by omega, by omega⟩) (fun t ht => ⟨by omega, by omega, by omega⟩), fun c hc => by rw [am_si_ne (by omega)]; exact b c (by omega) (by omega)⟩
/-- lost one after another -/
def loseL (T : Nat → Int32) (l : List Nat) : Nat → Int32 := l.foldl lose T
theorem loseL_nx (T : Nat → Int32) : ∀ (l : List Nat) (q : Nat), q ∉ l → nx (loseL T l) q = nx T q := by
  intro l
  induction l generalizing T with
  | nil => intro q _; rfl
  | cons k l ih =>
    intro q hq
    show nx (loseL (lose T k) l) q = _
    rw [ih _ q (fun z => hq (List.mem_cons_of_mem _ z)), lose_nx, if_neg (fun z => hq (by rw [z]; exact List.mem_cons_self))]
theorem loseL_mem (T : Nat → Int32) : ∀ (l : List Nat) (q : Nat), q ∈ l → nx (loseL T l) q = none := by
  intro l
  induction l generalizing T with
  | nil => intro q h; cases h
  | cons k l ih =>
    intro q hq
    show nx (loseL (lose T k) l) q = none
    by_cases e : q ∈ l
    · exact ih _ q e
    · rw [loseL_nx _ l q e, lose_nx]
      rcases List.mem_cons.mp hq with z | z
      · rw [if_pos z]
      · exact absurd z e
theorem loseL_ne (T : Nat → Int32) : ∀ (l : List Nat) {i : Nat}, (∀ k ∈ l, i ≠ 16 + 7 * k + 5 ∧ i ≠ 16 + 7 * k + 6) → loseL T l i = T i := by
  intro l
  induction l generalizing T with
  | nil => intro i _; rfl
  | cons k l ih =>
    intro i h
    show loseL (lose T k) l i = _
    rw [ih _ (fun q hq => h q (List.mem_cons_of_mem _ hq)), lose_ne (h k List.mem_cons_self).1 (h k List.mem_cons_self).2]
theorem loseL_snoc (T : Nat → Int32) (l : List Nat) (k : Nat) : loseL T (l ++ [k]) = lose (loseL T l) k := by
  unfold loseL; rw [List.foldl_append]; rfl
/-- the row behind the first i trips of the failing bus -/
def fT0 (T : Nat → Int32) (n k : Nat) (i : Nat) : Nat → Int32 := loseL (cutAT T n k) ((ch (nx T) k).take i)
section FCH
variable {T : Nat → Int32} {n k : Nat}
/-- places in a chain -/
theorem ch_at0 (hI : Inv T n) (hk : k < n) : (ch (nx T) k)[0]? = some k := by rw [ch_step hI.fw hk]; rfl
theorem ch_atS (hI : Inv T n) (hk : k < n) : ∀ i q, (ch (nx T) k)[i]? = some q → q < n ∧ nx T q = (ch (nx T) k)[i + 1]? ∧ Dp T k ≤ Dp T q := by
  have h : ∀ o, okO n o → ∀ k, o = some k → ∀ i q, (cho (nx T) o)[i]? = some q → q < n ∧ nx T q = (cho (nx T) o)[i + 1]? ∧ Dp T k ≤ Dp T q :=
    ch_ind hI.fw (fun _ e => nomatch e) (fun j hj ih k e i q hq => by
      cases e
      rw [cho_some hI.fw hj] at hq ⊢
      match i, hq with
      | 0, hq =>
        cases hq
        refine ⟨hj, ?_, Nat.le_refl _⟩
        cases e : nx T j with
        | none => rfl
        | some j' =>
          show some j' = (cho (nx T) (some j'))[0]?
          rw [cho_some hI.fw (hI.nxs hj e).1]; rfl
      | i + 1, hq =>
        have hq' : (cho (nx T) (nx T j))[i]? = some q := hq
        cases e : nx T j with
        | none => rw [e] at hq'; cases hq'
        | some j' =>
          rw [e] at ih hq'
          obtain ⟨a, b, c⟩ := ih j' rfl i q hq'
          have h1 := (hI.nxs hj e).2.2.2
          exact ⟨a, b, by omega⟩)
  exact h (some k) (okO_some hk) k rfl
/-- no trip twice -/
theorem ch_nodup (hI : Inv T n) (hk : k < n) : ∀ (i j q : Nat), i < j → (ch (nx T) k)[i]? = some q → (ch (nx T) k)[j]? ≠ some q := by
  have key : ∀ (i d p q : Nat), (ch (nx T) k)[i]? = some p → (ch (nx T) k)[i + 1 + d]? = some q → Dp T p < Dp T q := by
    intro i d
    induction d with
    | zero =>
      intro p q hp hq
      obtain ⟨a, b, -⟩ := ch_atS hI hk i p hp
      rw [Nat.add_zero] at hq
      rw [hq] at b
      have h1 := hI.nxs a b
      have h2 := hI.ln1 a
      omega
    | succ d ih =>
      intro p q hp hq
      have hlen : i + 1 + d < (ch (nx T) k).length := by
        have := (List.getElem?_eq_some_iff.mp hq).1
        omega
      have e1 : (ch (nx T) k)[i + 1 + d]? = some ((ch (nx T) k)[i + 1 + d]) := List.getElem?_eq_getElem hlen
      have h0 := ih p _ hp e1
      obtain ⟨a, b, -⟩ := ch_atS hI hk _ _ e1
      rw [show i + 1 + d + 1 = i + 1 + (d + 1) by omega, hq] at b
      have h1 := hI.nxs a b
      have h2 := hI.ln1 a
      omega
  intro i j q hij hi hj
  have := key i (j - (i + 1)) q q hi (by rw [show i + 1 + (j - (i + 1)) = j by omega]; exact hj)
  omega
theorem ch_take (hI : Inv T n) (hk : k < n) {i q : Nat} (h : (ch (nx T) k)[i]? = some q) : q ∉ (ch (nx T) k).take i := by
  intro z
  obtain ⟨j, hj⟩ := List.mem_iff_getElem?.mp z
  have hji : j < i := by
    have := (List.getElem?_eq_some_iff.mp hj).1
    rw [List.length_take] at this
    omega
  rw [List.getElem?_take_of_lt hji] at hj
  exact ch_nodup hI hk j i q hji hj h
end FCH
section FIN
variable {T : Nat → Int32} {n k : Nat}
theorem fT_nx (hI : Inv T n) (hk : k < n) {i q : Nat} (hq : (ch (nx T) k)[i]? = some q) : nx (fT0 T n k i) q = nx T q := by
  obtain ⟨a, -, -⟩ := ch_atS hI hk i q hq
  unfold fT0
  rw [loseL_nx _ _ q (ch_take hI hk hq), cutAT_nx hI hk a, if_neg]
  intro z
  obtain ⟨-, -, c⟩ := ch_atS hI hk i q hq
  have h1 := hI.nxs a z
  have h2 := hI.ln1 a
  omega
theorem fT_ne (hI : Inv T n) (hk : k < n) {i j : Nat} (h : ∀ q, q < n → j ≠ 16 + 7 * q + 5 ∧ j ≠ 16 + 7 * q + 6) : fT0 T n k i j = T j := by
  unfold fT0
  rw [loseL_ne _ ((ch (nx T) k).take i) (fun q hq => h q (cho_lt hI.fw (some k) (okO_some hk) q (List.mem_of_mem_take hq))), cutAT_ne hI hk (fun q hq => (h q hq).2)]
theorem fT_s (hI : Inv T n) (hk : k < n) {i q : Nat} (hq : (ch (nx T) k)[i]? = some q) : fT0 T n k (i + 1) = lose (fT0 T n k i) q := by
  unfold fT0
  rw [List.take_add_one, hq]
  exact loseL_snoc _ _ _
/-- a trip whose turn it is follows none -/
theorem fT_bf (hI : Inv T n) (hk : k < n) {i q : Nat} (hq : (ch (nx T) k)[i]? = some q) : bfo (fT0 T n k i) q n = none := by
  refine bfo_nil (fun j hj z => ?_)
  unfold fT0 at z
  by_cases hm : j ∈ (ch (nx T) k).take i
  · rw [loseL_mem _ _ j hm] at z; cases z
  · rw [loseL_nx _ _ j hm, cutAT_nx hI hk hj] at z
    by_cases e : nx T j = some k
    · rw [if_pos e] at z; cases z
    · rw [if_neg e] at z
      -- j goes ahead of q: it is the one before in the chain
      match i, hq with
      | 0, hq => rw [ch_at0 hI hk] at hq; cases hq; exact e z
      | i + 1, hq =>
        have hlen := (List.getElem?_eq_some_iff.mp hq).1
        have e1 : (ch (nx T) k)[i]? = some ((ch (nx T) k)[i]'(by omega)) := List.getElem?_eq_getElem (by omega)
        obtain ⟨a, b, -⟩ := ch_atS hI hk i _ e1
        rw [hq] at b
        have := hI.inj hj a z b
        apply hm
        rw [this]
        refine List.mem_iff_getElem?.mpr ⟨i, ?_⟩
        rw [List.getElem?_take_of_lt (by omega)]; exact e1
theorem fT_inv (hI : Inv T n) (hk : k < n) : ∀ i, Inv (fT0 T n k i) n
  | 0 => cutAT_inv hI hk
  | i + 1 => by
    have ih := fT_inv hI hk i
    cases e : (ch (nx T) k)[i]? with
    | none =>
      have : fT0 T n k (i + 1) = fT0 T n k i := by
        unfold fT0
        rw [List.take_add_one, e]
        simp
      rw [this]; exact ih
    | some q =>
      rw [fT_s hI hk e]
      exact ih.los (ch_atS hI hk i q e).1 (fT_bf hI hk e)
end FIN
