/-! THE WORLDS, and what the small helpers answer. -/
def WT : List Sh := [(4, 4, [3, 4, 5, 6, 7, 8, 9, 10, 11, 12, 13, 0, 0, 0, 0]), (0, 20, []), (0, 20, []), (0, 20, []), (0, 20, []), (0, 20, []), (0, 20, []), (0, 20, []), (0, 20, []), (0, 4, []), (0, 4, []), (0, 4, [])]
def W21b : List Sh := [(4, 0, [2, 15, 16, 17, 0, 0]), (0, 40, []), (0, 16, []), (0, 16, []), (4, 1, [2, 19]), (0, 20, []), (4, 3, [21, 22, 0, 0]), (0, 60, []), (0, 6, [])]
def WW : List Sh := WT ++ W21b
def WBb : List Sh := [(4, 4, [24, 25, 26, 27, 28, 29, 30, 31, 32, 33, 34, 0, 0, 0, 0]), (0, 20, []), (0, 20, []), (0, 20, []), (0, 20, []), (0, 20, []), (0, 20, []), (0, 20, []), (0, 20, []), (0, 4, []), (0, 4, []), (0, 4, []), (4, 2, [36]), (3, 6, [39, 51, 63, 75, 87, 99]), (4, 2, [38]), (3, 2, [111, 123]), (0, 2, []), (4, 5, [2, 23, 14, 18, 20, 35, 37, 39, 0, 0]), (4, 4, [42, 43, 44, 45, 46, 47, 48, 49, 50, 51, 52, 0, 0, 0, 0]), (0, 20, []), (0, 20, []), (0, 20, []), (0, 20, []), (0, 20, []), (0, 20, []), (0, 20, []), (0, 20, []), (0, 4, []), (0, 4, []), (0, 4, []), (4, 4, [54, 55, 56, 57, 58, 59, 60, 61, 62, 63, 64, 0, 0, 0, 0]), (0, 20, []), (0, 20, []), (0, 20, []), (0, 20, []), (0, 20, []), (0, 20, []), (0, 20, []), (0, 20, []), (0, 4, []), (0, 4, []), (0, 4, []), (4, 4, [66, 67, 68, 69, 70, 71, 72, 73, 74, 75, 76, 0, 0, 0, 0]), (0, 20, []), (0, 20, []), (0, 20, []), (0, 20, []), (0, 20, []), (0, 20, []), (0, 20, []), (0, 20, []), (0, 4, []), (0, 4, []), (0, 4, []), (4, 4, [78, 79, 80, 81, 82, 83, 84, 85, 86, 87, 88, 0, 0, 0, 0]), (0, 20, []), (0, 20, []), (0, 20, []), (0, 20, []), (0, 20, []), (0, 20, []), (0, 20, []), (0, 20, []), (0, 4, []), (0, 4, []), (0, 4, []), (4, 4, [90, 91, 92, 93, 94, 95, 96, 97, 98, 99, 100, 0, 0, 0, 0]), (0, 20, []), (0, 20, []), (0, 20, []), (0, 20, []), (0, 20, []), (0, 20, []), (0, 20, []), (0, 20, []), (0, 4, []), (0, 4, []), (0, 4, []), (4, 4, [102, 103, 104, 105, 106, 107, 108, 109, 110, 111, 112, 0, 0, 0, 0]), (0, 20, []), (0, 20, []), (0, 20, []), (0, 20, []), (0, 20, []), (0, 20, []), (0, 20, []), (0, 20, []), (0, 4, []), (0, 4, []), (0, 4, []), (4, 4, [114, 115, 116, 117, 118, 119, 120, 121, 122, 123, 124, 0, 0, 0, 0]), (0, 20, []), (0, 20, []), (0, 20, []), (0, 20, []), (0, 20, []), (0, 20, []), (0, 20, []), (0, 20, []), (0, 4, []), (0, 4, []), (0, 4, []), (4, 4, [126, 127, 128, 129, 130, 131, 132, 133, 134, 135, 136, 0, 0, 0, 0]), (0, 20, []), (0, 20, []), (0, 20, []), (0, 20, []), (0, 20, []), (0, 20, []), (0, 20, []), (0, 20, []), (0, 4, []), (0, 4, []), (0, 4, [])]
def WB : List Sh := WW ++ WBb
def WM : List Sh := [(4, 6, [3, 4, 5, 0, 6, 7, 8, 0, 0, 0, 9, 10, 0, 11, 0, 1]), (0, 163, []), (0, 163, []), (0, 978, []), (0, 326, []), (1, 2, []), (0, 60, []), (0, 20, []), (0, 20, []), (0, 40, [])]
def W24 : List Sh := [(4, 4, [3, 4, 5, 6, 7, 8, 9, 10, 11, 12, 13, 0, 0, 0, 0]), (0, 20, []), (0, 20, []), (0, 20, []), (0, 20, []), (0, 20, []), (0, 20, []), (0, 20, []), (0, 20, []), (0, 4, []), (0, 4, []), (0, 4, []), (4, 4, [15, 16, 17, 18, 19, 20, 21, 22, 23, 24, 25, 0, 0, 0, 0]), (0, 20, []), (0, 20, []), (0, 20, []), (0, 20, []), (0, 20, []), (0, 20, []), (0, 20, []), (0, 20, []), (0, 4, []), (0, 4, []), (0, 4, [])]
def am_nop : Ent := (.nop, 0, 0, [])
theorem am_tb {w : Cond} (n : Nat) (h : tables_1[n]? = some w) (hk : am_okw w = true) : w ∈ am_U := am_in_U (List.mem_append_right _ (List.mem_of_getElem? h)) hk
theorem am_tp {w : Cond} (n : Nat) (h : (k2_sels lw_privs)[n]? = some w) (hk : am_okw w = true) : w ∈ am_U := am_in_U (List.mem_append_left _ (List.mem_of_getElem? h)) hk
theorem am_c {α : Type} {P : α → Prop} {a : α} {l : List α} (h : P a) (t : ∀ q ∈ l, P q) : ∀ q ∈ a :: l, P q := List.forall_mem_cons.mpr ⟨h, t⟩
theorem am_n {α : Type} {P : α → Prop} : ∀ q ∈ ([] : List α), P q := fun _ h => nomatch h
theorem am_chkall {cc : ByteArray} {k : Nat → Ent} (N : Nat) (h1 : (List.range N).all (am_chk cc k) = true) (h2 : ∀ pc, N ≤ pc → k pc = am_nop) (pc : Nat) : am_chk cc k pc = true := by
  rcases Nat.lt_or_ge pc N with z | z
  · exact List.all_eq_true.mp h1 pc (List.mem_range.mpr z)
  · unfold am_chk
    rw [h2 pc z]
    rfl
abbrev bad (h : HP) : GR := (false, True, none, none, h)
-- answers, as the ends of a method take them
abbrev RI (P : AR → HP → Prop) (h : HP) (q : Int32) : Prop := P (.inl (some (.int q))) h
abbrev RJ (P : AR → HP → Prop) (h : HP) (q : Int64) : Prop := P (.inl (some (.long q))) h
abbrev RD (P : AR → HP → Prop) (h : HP) (q : UInt64) : Prop := P (.inl (some (.double q))) h
abbrev RV (P : AR → HP → Prop) (h : HP) (_ : Unit) : Prop := P (.inl none) h
abbrev RVW (P : AR → HP → Prop) (_ : HP) (q : HP) : Prop := P (.inl none) q
abbrev RIW (P : AR → HP → Prop) (_ : HP) (q : Int32 × HP) : Prop := P (.inl (some (.int q.1))) q.2
abbrev RJW (P : AR → HP → Prop) (_ : HP) (q : Int64 × HP) : Prop := P (.inl (some (.long q.1))) q.2
abbrev RDW (P : AR → HP → Prop) (_ : HP) (q : UInt64 × HP) : Prop := P (.inl (some (.double q.1))) q.2
def RVT (P : AR → HP → Prop) (h : HP) : Option String → Prop
  | some E => P (.inr E) h
  | none => P (.inl none) h
def RIT (P : AR → HP → Prop) (h : HP) : String ⊕ Int32 → Prop
  | .inl E => P (.inr E) h
  | .inr q => P (.inl (some (.int q))) h
def RJT (P : AR → HP → Prop) (h : HP) : String ⊕ Int64 → Prop
  | .inl E => P (.inr E) h
  | .inr q => P (.inl (some (.long q))) h
def RIWT (P : AR → HP → Prop) (h : HP) : String ⊕ (Int32 × HP) → Prop
  | .inl E => P (.inr E) h
  | .inr q => P (.inl (some (.int q.1))) q.2
def RJWT (P : AR → HP → Prop) (h : HP) : String ⊕ (Int64 × HP) → Prop
  | .inl E => P (.inr E) h
  | .inr q => P (.inl (some (.long q.1))) q.2
def rthr {α : Type} : String ⊕ α → Option String
  | .inl E => some E
  | .inr _ => none
def rvI : String ⊕ Int32 → Option Value
  | .inl _ => none
  | .inr q => some (.int q)
def rvJ : String ⊕ Int64 → Option Value
  | .inl _ => none
  | .inr q => some (.long q)
def rvIW : String ⊕ (Int32 × HP) → Option Value
  | .inl _ => none
  | .inr q => some (.int q.1)
def rvJW : String ⊕ (Int64 × HP) → Option Value
  | .inl _ => none
  | .inr q => some (.long q.1)
def rhpI (h : HP) : String ⊕ (Int32 × HP) → HP
  | .inl _ => h
  | .inr q => q.2
def rhpJ (h : HP) : String ⊕ (Int64 × HP) → HP
  | .inl _ => h
  | .inr q => q.2
-- the helpers
def v_at (n : Nat) (f : Nat → Int32) (i : Int32) : Int32 := if 0 ≤ i.toInt ∧ i.toInt < n then f (am_ix i) else -1
def v_put (n : Nat) (h : HP) (r : Nat) (i x : Int32) : HP := if 0 ≤ i.toInt ∧ i.toInt < n then am_si h r (am_ix i) x else h
def v_copy (n : Nat) (h : HP) (r1 r2 : Nat) : HP := (fun c => if c = r2 then (fun i => if i < n then h.1 r1 i else h.1 r2 i) else h.1 c, h.2)
def v_fill (n : Nat) (h : HP) (r : Nat) (x : Int32) : HP := (fun c => if c = r then (fun i => if i < n then x else h.1 r i) else h.1 c, h.2)
def v_max (a b : Int32) : Int32 := if a < b then b else a
def v_min (a b : Int32) : Int32 := if a ≤ b then a else b
def pl21 : List Nat := [21, 22, 23, 24, 25, 26, 27, 28, 29, 30, 31, 32]
