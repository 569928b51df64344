/-! THE ONE THEOREM: what the abstract machine says is so of the machine. -/
def am_Qc (D : va_G) (G ad : Nat → Nat) (sh ro : List Sh) (g : GR) : Array Value → State → Outcome → State → Prop := fun _ st o t => g_thr g = none ∧ o = .returned ((g_val g).map (am_cv ad 0)) ∧ am_W D G ad (g_hp g) sh ro t.heap ∧ (∀ v, g_val g = some v → am_ra v = false) ∧ va_F (am_A G) st t
def am_XC (D : va_G) (G ad : Nat → Nat) (sh ro : List Sh) (g : GR) : String → State → State → Prop := fun E st t => g_thr g = some E ∧ am_W D G ad (g_hp g) sh ro t.heap ∧ va_F (am_A G) st t
abbrev am_rm (cd : CD) : Room := { frames := c_fr cd, cells := c_mc cd + 1, slots := 6 * c_mc cd + 6, locals := c_lo cd }
/-- a callee's contract, in a world of the shapes sh, ro -/
def am_Ok (l : Launch) (sh ro : List Sh) (cd : CD) : Prop := ∃ w : Cond, (w = .code (c_y cd) (c_b cd) (c_mL cd) (c_rt cd) ∨ c_k cd = 4 ∧ ∃ hh, w = .codeWith (c_y cd) (c_b cd) (c_mL cd) (c_rt cd) hh) ∧ w ∈ am_U ∧
  ∀ (D : va_G) (G ad : Nat → Nat) (xq : Nat) (as : List Value) (h : HP), g_ok (c_g cd sh ro as h) = true → (c_part cd = false → g_pre (c_g cd sh ro as h)) ∧ (g_pre (c_g cd sh ro as h) → (c_thr cd = false → g_thr (c_g cd sh ro as h) = none) ∧
    am_Met l (c_y cd) (w :: am_U) (am_rm cd) (va_Pc (as.map (am_cv ad xq)) (am_S D G ad h sh ro)) (am_Qc D G ad sh ro (c_g cd sh ro as h)) (am_XC D G ad sh ro (c_g cd sh ro as h)) (c_mc cd) (6 * c_mc cd) (am_A G))
/-- what the tables say of a call -/
def am_lnk (own : String) (i : Nat) (cd : CD) : Prop :=
  ((c_y cd).cls ≠ "java/lang/invoke/MethodHandle" ∧ (c_y cd).cls ≠ "java/lang/invoke/VarHandle") ∧ Cond.initialized (c_y cd).cls ∈ am_U ∧
  ((c_k cd < 10 ∧ (parseMethodDescriptor (c_y cd).desc).map (fun d => d.parameters.length) = some (c_n cd) ∧ Cond.static (c_y cd) ∈ am_U ∧ ((¬ c_k cd = 1 ∧ Cond.methodLink own i (c_y cd) ∈ am_U) ∨ (c_k cd = 1 ∧ ∃ host, Cond.methodLinkNest own i (c_y cd) host ∈ am_U))) ∨
   (10 ≤ c_k cd ∧ (parseMethodDescriptor (c_y cd).desc).map (fun d => d.parameters.length + 1) = some (c_n cd) ∧ Cond.instanceMethod (c_y cd) ∈ am_U ∧ Cond.selects (c_y cd).cls (c_y cd) (c_y cd) ∈ am_U ∧ (∃ T N, vwCl[c_k cd % 10]? = some ((c_y cd).cls, T, N)) ∧
    (Cond.methodLink own i (c_y cd) ∈ am_U ∨ ∃ host, Cond.methodLinkNest own i (c_y cd) host ∈ am_U)))
/-- what the tables say of a field -/
def am_fok (own : String) (i : Nat) (q : Nat × Nat) : Prop := ∃ (C : String) (T : u_T) (N : Nat), vwCl[q.1]? = some (C, T, N) ∧ q.2 < N ∧ (T q.2).1 = C ∧ (Cond.fieldLink own i C (T q.2).2.1 (T q.2).2.2.1 ∈ am_U ∨ ∃ host, Cond.fieldLinkNest own i C (T q.2).2.1 (T q.2).2.2.1 host ∈ am_U)
def am_cok (own : String) (i : Nat) : Value → Prop
  | .int x => Cond.constant own i x ∈ am_U
  | .long x => Cond.constantLong own i x ∈ am_U
  | .double x => Cond.constantDouble own i x ∈ am_U
  | _ => False
def am_sok (own : String) (i c : Nat) : Prop := ∃ n, (n, c) ∈ am_stl ∧ (Cond.fieldLink own i "BusBlocks" n "[I" ∈ am_U ∨ ∃ host, Cond.fieldLinkNest own i "BusBlocks" n "[I" host ∈ am_U)
/-- a type's fields in the tables -/
theorem am_cls {ci : Nat} {C : String} {T : u_T} {N : Nat} (h : vwCl[ci]? = some (C, T, N)) : (∀ w ∈ u_ws C T N, w ∈ lw_tbl) ∧ (∃ ty : Nat → FieldType, ∀ k, k < N → parseFieldDescriptor (T k).2.2.1 = some (ty k)) ∧ (∀ a, a < N → ∀ b, b < N → a ≠ b → (T a).2.1 ≠ (T b).2.1) := by
  match ci, h with
  | 0, h => cases h; exact ⟨by decide +kernel, ⟨tyX0, tyX0_ok⟩, nmX0⟩
  | 1, h => cases h; exact ⟨by decide +kernel, ⟨tyX1, tyX1_ok⟩, nmX1⟩
  | 2, h => cases h; exact ⟨by decide +kernel, ⟨tyX2, tyX2_ok⟩, nmX2⟩
  | 3, h => cases h; exact ⟨by decide +kernel, ⟨tyX3, tyX3_ok⟩, nmX3⟩
  | 4, h => cases h; exact ⟨by decide +kernel, ⟨tyX4, tyX4_ok⟩, nmX4⟩
  | 5, h => cases h; exact ⟨by decide +kernel, ⟨tyX5, tyX5_ok⟩, nmX5⟩
  | k + 6, h => simp [vwCl] at h
theorem am_clsU {ci : Nat} {C : String} {T : u_T} {N : Nat} (h : vwCl[ci]? = some (C, T, N)) : ∀ w ∈ u_ws C T N, w ∈ am_U := fun w hw => am_in_U ((am_cls h).1 w hw) (by
  obtain ⟨k, -, rfl⟩ := List.mem_map.mp hw
  unfold u_lay
  split <;> rfl)
theorem am_dec {cc : ByteArray} {code : Nat → Ent} {pc : Nat} {i : Instr} (h : am_chk cc code pc = true) (hi : (code pc).1 = i) (hn : i ≠ .nop) : (am_len i ≠ 0 → decode cc pc = .ok (i, am_len i)) ∧ (∃ len, decode cc pc = .ok (i, len)) ∧ am_chv pc (code pc) = true := by
  unfold am_chk at h
  rw [hi] at h
  split at h
  · exact absurd rfl hn
  · rename_i i' j len _ hd
    simp only [Bool.and_eq_true, decide_eq_true_eq, Bool.or_eq_true, beq_iff_eq] at h
    obtain ⟨⟨rfl, h2⟩, h3⟩ := h
    refine ⟨fun h0 => ?_, ⟨len, hd⟩, h3⟩
    rcases h2 with h2 | h2
    · exact absurd h2 h0
    · rw [h2]; exact hd
  · cases h
theorem am_in_vp {i : Int32} {n : Nat} (h : am_in i n) : vp_in i n := vp_in_iff.mpr h
theorem am_len_set {ls : List Value} {t n : Nat} {v : Value} (h : ls.length = n) : (ls.set t v).length = n := by rw [List.length_set]; exact h
theorem am_csum_eq (ad : Nat → Nat) (xq : Nat) : ∀ l : List Value, ((l.map (am_cv ad xq)).map fun v => v.category).sum = am_csum l
  | [] => rfl
  | v :: r => by
    simp only [List.map_cons, List.sum_cons, am_csum, am_csum_eq ad xq r, am_cv_cat]
