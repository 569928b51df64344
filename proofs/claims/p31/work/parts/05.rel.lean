/-! THE RELATION between names of cells and the heap. -/
def am_ra : Value → Bool
  | .retAddr _ => true
  | _ => false
def am_cv (ad : Nat → Nat) (xq : Nat) : Value → Value
  | .ref c => .ref (ad c)
  | .retAddr _ => .ref xq
  | v => v
def am_tys (G : Nat → Nat) : List (ClassId × FieldType) := [(G 0, .int), (G 1, .int), (G 2, .long), (G 3, .object "BusBlocks$Timetable")]
def am_ce (G ad : Nat → Nat) (h : HP) (o : Nat) (s : Sh) : va_E :=
  bif Nat.beq s.1 0 || Nat.beq s.1 5 then .inl (G 0, s.2.1, .inl (h.1 o)) else
  bif Nat.beq s.1 1 then .inl (G 1, s.2.1, .inl (h.1 o)) else
  bif Nat.beq s.1 2 then .inl (G 2, s.2.1, .inr (.inl (h.2 o))) else
  bif Nat.beq s.1 3 then .inl (G 3, s.2.1, .inr (.inr (.inr (.inr (fun j => s.2.2[j]?.map ad))))) else
  .inr (s.2.1, s.2.2.mapIdx (fun j f => am_cv ad 0 (am_fv h o j f)))
def am_wl (G ad : Nat → Nat) (h : HP) (sh : List Sh) : va_W := sh.mapIdx (fun k s => (ad k, am_ce G ad h k s))
/-- the cells that may be changed -/
def am_A (G : Nat → Nat) : Nat → Prop := fun q => G (10 + q) = 1
/-- a field of a type that is an int (a long), not final -/
def am_tyI (ty : FieldType) (ci j : Nat) : Prop := ∃ (C : String) (T : u_T) (N : Nat), vwCl[ci]? = some (C, T, N) ∧ j < N ∧ (T j).2.2.2 = false ∧ parseFieldDescriptor (T j).2.2.1 = some ty
def am_oks (s : Sh) : Prop := s.1 = 4 → ∀ j f : Nat, s.2.2[j]? = some f → (f = 0 → am_tyI .int s.2.1 j) ∧ (f = 1 → am_tyI .long s.2.1 j)
/-- an int row that is only read: its class is known by a number that no class of the tables has -/
def am_rc (D : va_G) (H : Heap) (a j n : Nat) (f : Nat → Int32) : Prop := ∃ cell : Cell, H[a]? = some cell ∧ cell.cls = D.1 (10 + j) ∧ cell.vm ≠ .unknown ∧ (∀ k, cell.vm ≠ .statics k) ∧ cell.slots.size = n ∧ ∀ i : Nat, i < n → cell.slots[i]? = some (.int (f i))
theorem am_rc.kept {D : va_G} {H H1 : Heap} {a j n : Nat} {f : Nat → Int32} (h : am_rc D H a j n f) (e : H1[a]? = H[a]?) : am_rc D H1 a j n f := by
  obtain ⟨cell, h1, h2⟩ := h
  exact ⟨cell, by rw [e]; exact h1, h2⟩
theorem am_rc.lt {D : va_G} {H : Heap} {a j n : Nat} {f : Nat → Int32} (h : am_rc D H a j n f) : a < H.size := by
  obtain ⟨cell, h1, -⟩ := h
  exact (Array.getElem?_eq_some_iff.mp h1).1
def am_g (D : va_G) (G : Nat → Nat) (U : State) : Prop := G 4 ≤ U.heap.size ∧ ∀ j, ArrOfT U (D.1 (10 + j)) .int
theorem am_g.of {D : va_G} {G : Nat → Nat} {U : State} (h : am_g D G U) {cell : Cell} {j : Nat} (e : cell.cls = D.1 (10 + j)) (hv : ∀ k, cell.vm ≠ .statics k) : U.isArrayOf cell .int := by
  obtain ⟨-, k, h1, h2⟩ := h.2 j 0 (fun _ => .null)
  refine ⟨hv, k, ?_, h2⟩
  rw [e]; exact h1
def am_W (D : va_G) (G ad : Nat → Nat) (h : HP) (sh ro : List Sh) (H : Heap) : Prop :=
  va_P D vwCl (am_wl G ad h sh) H ∧ va_D (am_A G) (am_wl G ad h sh) ∧ (∀ (j : Nat) (s : Sh), ro[j]? = some s → am_rc D H (ad (1000 + j)) j s.2.1 (h.1 (1000 + j)) ∧ (ad (1000 + j) < G 4 ∧ ¬ am_A G (ad (1000 + j))) ∧ s.1 = 5) ∧ ∀ s ∈ sh, am_oks s
abbrev am_stl : List (String × Nat) := [("FIRST_LAYOVERS", 1000), ("FIRST_RELIEFS", 1001), ("LEAST_VALUES", 1002), ("MOST_VALUES", 1003), ("FIRST_VALUES", 1004)]
abbrev am_strs : List (Nat × String) := [(372, "an argument is out of range"), (361, "no such terminal"), (366, "no such trip"), (370, "the trip is lost"), (368, "no such block"), (258, "the rank is below 0"), (98, "there are 20 trips"), (364, "no such setting"), (148, "no trip follows it"), (164, "the buffer has 60 characters"), (178, "the buffer does not tell a timetable"), (184, "there would be more than 20 trips"), (193, "no snapshot is in the slot"), (198, "no state is saved")]
/-- pairs of classes of which the first is no second -/
abbrev am_ncs : List (String × String) := [("java/lang/IllegalArgumentException", "java/lang/IndexOutOfBoundsException"), ("java/lang/IllegalStateException", "java/lang/IndexOutOfBoundsException"), ("java/lang/IllegalStateException", "java/lang/IllegalArgumentException")]
/-- what the statics and the written texts hold -/
def am_Z (ad G : Nat → Nat) (U : State) (H : Heap) : Prop :=
  vx_Zq Bundle.tN "UNASSIGNED_STACK" Bundle.steD (am_A G) U H ∧ vx_Zq Bundle.tN "SUPPRESSED_SENTINEL" Bundle.listD (am_A G) U H ∧ (∀ q ∈ am_stl, va_Z "BusBlocks" q.1 "[I" (.ref (ad q.2)) (am_A G) U H) ∧
  (∀ q ∈ am_strs, ∃ a, vk_R "BusBlocks" q.1 q.2 a U) ∧ ∀ q ∈ am_ncs, va_Nc q.1 q.2 U
def am_S (D : va_G) (G ad : Nat → Nat) (h : HP) (sh ro : List Sh) (U : State) : Prop := am_W D G ad h sh ro U.heap ∧ va_K D vwCl (am_tys G) U ∧ am_Z ad G U U.heap ∧ am_g D G U
theorem am_Z.moved {ad G : Nat → Nat} {u U : State} {H : Heap} (hvm : u.vm.Alike U.vm) (hW : u.WarmedH U.vm) (h : am_Z ad G u H) : am_Z ad G U H :=
  ⟨vx_Zq.moved hvm h.1, vx_Zq.moved hvm h.2.1, fun q hq => va_Z.moved hvm (h.2.2.1 q hq), fun q hq => by obtain ⟨a, ha⟩ := h.2.2.2.1 q hq; exact ⟨a, vk_R.warm hW ha⟩, fun q hq => va_Nc.moved hvm (h.2.2.2.2 q hq)⟩
theorem am_Z.kept {ad G : Nat → Nat} {U : State} {H H1 : Heap} (h : am_Z ad G U H) (hq : ∀ a : Nat, a < H.size → ¬ am_A G a → H1[a]? = H[a]?) : am_Z ad G U H1 :=
  ⟨vx_Zq.kept h.1 hq, vx_Zq.kept h.2.1 hq, fun q hm => va_Z.kept (h.2.2.1 q hm) hq, h.2.2.2⟩
theorem am_wl_at {G ad : Nat → Nat} {h : HP} {sh : List Sh} {k : Nat} {s : Sh} (hk : sh[k]? = some s) : (am_wl G ad h sh)[k]? = some (ad k, am_ce G ad h k s) := by
  unfold am_wl
  rw [List.getElem?_mapIdx, hk]
  rfl
theorem am_blt {a b : Nat} (h : Nat.blt a b = true) : a < b := Nat.le_of_ble_eq_true h
theorem am_gs_or {D : va_G} {G ad : Nat → Nat} {h : HP} {sh ro : List Sh} {H : Heap} (hW : am_W D G ad h sh ro H) {o : Nat} {s : Sh} (hg : am_gs sh ro o = some s) : va_at D vwCl (ad o, am_ce G ad h o s) H ∨ (s.1 = 5 ∧ am_rc D H (ad o) (o - 1000) s.2.1 (h.1 o)) := by
  unfold am_gs at hg
  by_cases ho : o < 1000
  · rw [show Nat.blt o 1000 = true from by simp [Nat.blt, Nat.ble_eq, Nat.succ_le_of_lt ho]] at hg
    exact Or.inl (hW.1 o _ (am_wl_at hg))
  · have e : Nat.blt o 1000 = false := by
      cases hb : Nat.blt o 1000 with
      | false => rfl
      | true => exact absurd (am_blt hb) ho
    rw [e] at hg
    have h1 := (hW.2.2.1 (o - 1000) s hg).1
    rw [show 1000 + (o - 1000) = o by omega] at h1
    exact Or.inr ⟨(hW.2.2.1 (o - 1000) s hg).2.2, h1⟩
theorem am_gs_at {D : va_G} {G ad : Nat → Nat} {h : HP} {sh ro : List Sh} {H : Heap} (hW : am_W D G ad h sh ro H) {o : Nat} {s : Sh} (hg : am_gs sh ro o = some s) (h5 : s.1 ≠ 5) : va_at D vwCl (ad o, am_ce G ad h o s) H :=
  (am_gs_or hW hg).resolve_right (fun z => h5 z.1)
theorem am_beq {a b : Nat} (h : Nat.beq a b = true) : a = b := Nat.eq_of_beq_eq_true h
theorem am_gs_rw {sh ro : List Sh} {o : Nat} {s : Sh} (hg : am_gs sh ro o = some s) (ho : Nat.blt o 1000 = true) : sh[o]? = some s := by
  unfold am_gs at hg
  rw [ho] at hg
  exact hg
/-- a cell that is changed: all others stay -/
theorem am_W.put {D : va_G} {G ad : Nat → Nat} {h h' : HP} {sh ro : List Sh} {H H1 : Heap} {o : Nat} {s : Sh} (hW : am_W D G ad h sh ro H) (ho : sh[o]? = some s) (ho3 : o < 1000) (he : va_at D vwCl (ad o, am_ce G ad h' o s) H1) (oq : ∀ q : Nat, q ≠ ad o → H1[q]? = H[q]?)
    (h1 : ∀ k, k ≠ o → h'.1 k = h.1 k ∧ h'.2 k = h.2 k) : am_W D G ad h' sh ro H1 := by
  have hce : ∀ k s', k ≠ o → am_ce G ad h' k s' = am_ce G ad h k s' := by
    intro k s' hk
    obtain ⟨e1, e2⟩ := h1 k hk
    have e3 : ∀ j f, am_fv h' k j f = am_fv h k j f := fun j f => by unfold am_fv; rw [e1, e2]
    unfold am_ce
    rw [e1, e2]
    simp only [e3]
  have hset : am_wl G ad h' sh = (am_wl G ad h sh).set o (ad o, am_ce G ad h' o s) := by
    apply List.ext_getElem?
    intro k
    by_cases hk : k = o
    · subst hk
      have hl : k < (am_wl G ad h sh).length := by
        unfold am_wl; rw [List.length_mapIdx]; exact (List.getElem?_eq_some_iff.mp ho).1
      rw [List.getElem?_set_self hl, am_wl_at ho]
    · rw [List.getElem?_set_ne (Ne.symm hk)]
      unfold am_wl
      rw [List.getElem?_mapIdx, List.getElem?_mapIdx]
      cases sh[k]? with
      | none => rfl
      | some s' => simp only [Option.map_some]; rw [hce k s' hk]
  have hp := am_wl_at (G := G) (ad := ad) (h := h) ho
  refine ⟨?_, ?_, fun j s' hj => ?_, hW.2.2.2⟩
  · rw [hset]; exact hW.1.set hW.2.1 hp he oq
  · rw [hset]; exact hW.2.1.set hp
  · obtain ⟨a1, a2, a3⟩ := hW.2.2.1 j s' hj
    refine ⟨?_, a2, a3⟩
    rw [(h1 (1000 + j) (by omega)).1]
    refine a1.kept (oq _ fun e => ?_)
    have h5 : am_A G (ad o) := hW.2.1.2 o _ hp
    have h6 : ad (1000 + j) = ad o := e
    exact a2.2 (by rw [h6]; exact h5)
/-- the same, of a whole world that was written by its list -/
theorem am_W.put2 {D : va_G} {G ad : Nat → Nat} {h h' : HP} {sh ro : List Sh} {H H1 : Heap} {o : Nat} {s : Sh} (hW : am_W D G ad h sh ro H) (ho : sh[o]? = some s) (ho3 : o < 1000) (hP : va_P D vwCl ((am_wl G ad h sh).set o (ad o, am_ce G ad h' o s)) H1)
    (hro : ∀ q : Nat, q < G 4 → ¬ am_A G q → H1[q]? = H[q]?) (h1 : ∀ k, k ≠ o → h'.1 k = h.1 k ∧ h'.2 k = h.2 k) : am_W D G ad h' sh ro H1 := by
  have hce : ∀ k s', k ≠ o → am_ce G ad h' k s' = am_ce G ad h k s' := by
    intro k s' hk
    obtain ⟨e1, e2⟩ := h1 k hk
    have e3 : ∀ j f, am_fv h' k j f = am_fv h k j f := fun j f => by unfold am_fv; rw [e1, e2]
    unfold am_ce
    rw [e1, e2]
    simp only [e3]
  have hset : am_wl G ad h' sh = (am_wl G ad h sh).set o (ad o, am_ce G ad h' o s) := by
    apply List.ext_getElem?
    intro k
    by_cases hk : k = o
    · subst hk
      have hl : k < (am_wl G ad h sh).length := by
        unfold am_wl; rw [List.length_mapIdx]; exact (List.getElem?_eq_some_iff.mp ho).1
      rw [List.getElem?_set_self hl, am_wl_at ho]
    · rw [List.getElem?_set_ne (Ne.symm hk)]
      unfold am_wl
      rw [List.getElem?_mapIdx, List.getElem?_mapIdx]
      cases sh[k]? with
      | none => rfl
      | some s' => simp only [Option.map_some]; rw [hce k s' hk]
  have hp := am_wl_at (G := G) (ad := ad) (h := h) ho
  refine ⟨?_, ?_, fun j s' hj => ?_, hW.2.2.2⟩
  · rw [hset]; exact hP
  · rw [hset]; exact hW.2.1.set hp
  · obtain ⟨a1, a2, a3⟩ := hW.2.2.1 j s' hj
    refine ⟨?_, a2, a3⟩
    rw [(h1 (1000 + j) (by omega)).1]
    exact a1.kept (hro _ a2.1 a2.2)
theorem am_bt {b : Bool} {A : Prop} (q : bif b then A else False) : b = true ∧ A := by cases b with | true => exact ⟨rfl, q⟩ | false => exact q.elim
theorem am_bf {b : Bool} {A : Prop} (q : bif b then False else A) : b = false ∧ A := by cases b with | true => exact q.elim | false => exact ⟨rfl, q⟩
theorem am_ce_i {G ad : Nat → Nat} {h : HP} {o k n : Nat} {fs : List Nat} (hk : (Nat.beq k 0 || Nat.beq k 5) = true) : am_ce G ad h o (k, n, fs) = .inl (G 0, n, .inl (h.1 o)) := by
  show (bif (Nat.beq k 0 || Nat.beq k 5) then _ else _) = _
  rw [hk]; rfl
theorem am_ce_z {G ad : Nat → Nat} {h : HP} {o k n : Nat} {fs : List Nat} (hk : Nat.beq k 1 = true) : am_ce G ad h o (k, n, fs) = .inl (G 1, n, .inl (h.1 o)) := by
  have e := am_beq hk; subst e; rfl
theorem am_ce_l {G ad : Nat → Nat} {h : HP} {o k n : Nat} {fs : List Nat} (hk : Nat.beq k 2 = true) : am_ce G ad h o (k, n, fs) = .inl (G 2, n, .inr (.inl (h.2 o))) := by
  have e := am_beq hk; subst e; rfl
theorem am_ce_q {G ad : Nat → Nat} {h : HP} {o k n : Nat} {fs : List Nat} (hk : Nat.beq k 3 = true) : am_ce G ad h o (k, n, fs) = .inl (G 3, n, .inr (.inr (.inr (.inr (fun j => fs[j]?.map ad))))) := by
  have e := am_beq hk; subst e; rfl
theorem am_ce_o {G ad : Nat → Nat} {h : HP} {o k n : Nat} {fs : List Nat} (hk : Nat.beq k 4 = true) : am_ce G ad h o (k, n, fs) = .inr (n, fs.mapIdx (fun j f => am_cv ad 0 (am_fv h o j f))) := by
  have e := am_beq hk; subst e; rfl
theorem am_up_self {f : Nat → Nat → Int32} {o k : Nat} {x : Int32} : am_up f o k x o = upd (f o) k x := if_pos rfl
theorem am_up_ne {f : Nat → Nat → Int32} {o k a : Nat} {x : Int32} (h : a ≠ o) : am_up f o k x a = f a := if_neg h
theorem am_upL_self {f : Nat → Nat → Int64} {o k : Nat} {x : Int64} : am_upL f o k x o = vp_updL (f o) k x := if_pos rfl
theorem am_upL_ne {f : Nat → Nat → Int64} {o k a : Nat} {x : Int64} (h : a ≠ o) : am_upL f o k x a = f a := if_neg h
theorem am_P1 {D : va_G} {cl : List vw_C} {q : Nat × va_E} {H : Heap} (h : va_at D cl q H) : va_P D cl [q] H := fun k q' hk => by
  match k, hk with
  | 0, hk => cases hk; exact h
  | k + 1, hk => simp at hk
theorem am_roW {G : Nat → Nat} {H0 H H1 : Heap} {locs locs1 : List Loc} (hG : G 4 ≤ H0.size) (h0 : va_S (am_A G) H0 H locs) (h1 : va_S (am_A G) H0 H1 locs1) : ∀ q : Nat, q < G 4 → ¬ am_A G q → H1[q]? = H[q]? := fun q hq hn => by
  rw [h1.2.1 q (Nat.lt_of_lt_of_le hq hG) hn, h0.2.1 q (Nat.lt_of_lt_of_le hq hG) hn]
theorem am_fv_ra (h : HP) (o k f : Nat) : am_ra (am_fv h o k f) = false := by
  unfold am_fv
  cases Nat.beq f 0 <;> cases Nat.beq f 1 <;> rfl
/-- the locals, as the kit lists them -/
def am_lv (ad : Nat → Nat) (ls : List Value) : List (Nat × Value) := (List.range ls.length).filterMap (fun i => match ls[i]? with | some v => bif am_ra v then none else some (i, am_cv ad 0 v) | none => none)
theorem am_lv_mem {ad : Nat → Nat} {ls : List Value} {q : Nat × Value} : q ∈ am_lv ad ls ↔ ∃ v, ls[q.1]? = some v ∧ am_ra v = false ∧ q.2 = am_cv ad 0 v := by
  unfold am_lv
  rw [List.mem_filterMap]
  constructor
  · rintro ⟨i, hi, h⟩
    cases hv : ls[i]? with
    | none => rw [hv] at h; cases h
    | some v =>
      rw [hv] at h
      cases hr : am_ra v with
      | true => simp [hr] at h
      | false =>
        simp [hr] at h
        subst h
        exact ⟨v, hv, hr, rfl⟩
  · rintro ⟨v, hv, hr, e⟩
    refine ⟨q.1, List.mem_range.mpr (List.getElem?_eq_some_iff.mp hv).1, ?_⟩
    rw [hv]
    simp only [hr, cond_false, ← e]
def am_has (ad : Nat → Nat) (ls : List Value) (A : Array Slot) : Prop := lv_has A ls.length (am_lv ad ls)
theorem am_has.get {ad : Nat → Nat} {ls : List Value} {A : Array Slot} (h : am_has ad ls A) {t : Nat} {v : Value} (ht : ls[t]? = some v) (hr : am_ra v = false) : A[t]? = some (.val (am_cv ad 0 v)) :=
  h.2.2 (t, am_cv ad 0 v) (am_lv_mem.mpr ⟨v, ht, hr, rfl⟩)
theorem am_has.mono {ad : Nat → Nat} {ls : List Value} {A : Array Slot} {n : Nat} {l : List (Nat × Value)} (h : lv_has A n l) (hn : n = ls.length) (hs : ∀ q ∈ am_lv ad ls, q ∈ l) : am_has ad ls A := by
  subst hn
  exact ⟨h.1, h.2.1, fun q hq => h.2.2 q (hs q hq)⟩
theorem am_cv_cat (ad : Nat → Nat) (xq : Nat) (v : Value) : (am_cv ad xq v).category = bif am_cat2 v then 2 else 1 := by cases v <;> rfl
theorem am_cv_xq {ad : Nat → Nat} {xq yq : Nat} {v : Value} (h : am_ra v = false) : am_cv ad xq v = am_cv ad yq v := by cases v <;> first | rfl | cases h
theorem am_ok1_lt {ls : List Value} {t : Nat} (h : am_ok1 ls t = true) : t < ls.length := by
  simp only [am_ok1, Bool.and_eq_true] at h
  exact am_blt h.1
theorem am_ok2_lt {ls : List Value} {t : Nat} (h : am_ok2 ls t = true) : t + 1 < ls.length := by
  simp only [am_ok2, Bool.and_eq_true] at h
  exact am_blt h.1
theorem am_ok_prev {ls : List Value} {t i : Nat} {v : Value} (h : (Nat.beq t 0 || match ls[t - 1]? with | some v => !(am_cat2 v) | none => false) = true) (hi : i + 1 = t) (hv : ls[i]? = some v) : am_cat2 v = false := by
  subst hi
  simp only [Nat.add_sub_cancel, hv, Bool.or_eq_true] at h
  rcases h with h | h
  · exact absurd (am_beq h) (Nat.succ_ne_zero i)
  · simpa using h
/-- a store of one slot -/
theorem am_has.set1 {ad : Nat → Nat} {ls : List Value} {A : Array Slot} {n t : Nat} {v w : Value} (hn : n = ls.length) (hok : am_ok1 ls t = true) (hw : am_ra v = true ∨ w = am_cv ad 0 v)
    (h : lv_has A n ((t, w) :: (am_lv ad ls).filter (fun q => !(q.1 == t) && !(q.1 + 1 == t && q.2.category == 2)))) : am_has ad (ls.set t v) A := by
  refine am_has.mono h (by rw [List.length_set]; exact hn) fun q hq => ?_
  obtain ⟨u, hu, hr, e⟩ := am_lv_mem.mp hq
  have hlt := am_ok1_lt hok
  by_cases ht : q.1 = t
  · rw [ht, List.getElem?_set_self hlt] at hu
    cases hu
    rcases hw with hw | hw
    · rw [hw] at hr; cases hr
    · exact List.mem_cons.mpr (Or.inl (Prod.ext ht (e.trans hw.symm)))
  · rw [List.getElem?_set_ne (Ne.symm ht)] at hu
    refine List.mem_cons.mpr (Or.inr (List.mem_filter.mpr ⟨am_lv_mem.mpr ⟨u, hu, hr, e⟩, ?_⟩))
    simp only [Bool.and_eq_true, Bool.not_eq_true', beq_eq_false_iff_ne, ne_eq, Bool.and_eq_false_iff]
    refine ⟨ht, ?_⟩
    by_cases h1 : q.1 + 1 = t
    · right
      have hc := am_ok_prev (by simp only [am_ok1, Bool.and_eq_true] at hok; exact hok.2) h1 hu
      rw [e, am_cv_cat, hc]
      decide
    · left; exact h1
/-- a store of two slots -/
theorem am_has.set2 {ad : Nat → Nat} {ls : List Value} {A : Array Slot} {n t : Nat} {v : Value} (hn : n = ls.length) (hok : am_ok2 ls t = true)
    (h : lv_has A n ((t, am_cv ad 0 v) :: (am_lv ad ls).filter (fun q => !(q.1 == t) && (!(q.1 == t + 1) && !(q.1 + 1 == t && q.2.category == 2))))) : am_has ad ((ls.set t v).set (t + 1) (.retAddr 0)) A := by
  refine am_has.mono h (by rw [List.length_set, List.length_set]; exact hn) fun q hq => ?_
  obtain ⟨u, hu, hr, e⟩ := am_lv_mem.mp hq
  have hlt := am_ok2_lt hok
  by_cases ht1 : q.1 = t + 1
  · rw [ht1, List.getElem?_set_self (by rw [List.length_set]; exact hlt)] at hu
    cases hu
    cases hr
  · rw [List.getElem?_set_ne (Ne.symm ht1)] at hu
    by_cases ht : q.1 = t
    · rw [ht, List.getElem?_set_self (by omega)] at hu
      cases hu
      exact List.mem_cons.mpr (Or.inl (Prod.ext ht e))
    · rw [List.getElem?_set_ne (Ne.symm ht)] at hu
      refine List.mem_cons.mpr (Or.inr (List.mem_filter.mpr ⟨am_lv_mem.mpr ⟨u, hu, hr, e⟩, ?_⟩))
      simp only [Bool.and_eq_true, Bool.not_eq_true', beq_eq_false_iff_ne, ne_eq, Bool.and_eq_false_iff]
      refine ⟨ht, ht1, ?_⟩
      by_cases h1 : q.1 + 1 = t
      · right
        have hc := am_ok_prev (by simp only [am_ok2, Bool.and_eq_true] at hok; exact hok.2) h1 hu
        rw [e, am_cv_cat, hc]
        decide
      · left; exact h1
/-- the locals at the entry -/
def am_loc : List Value → List Value
  | [] => []
  | v :: r => bif am_cat2 v then v :: .retAddr 0 :: am_loc r else v :: am_loc r
def am_ent (args : List Value) (nL : Nat) : List Value := am_loc args ++ List.replicate (nL - (am_loc args).length) (.retAddr 0)
theorem am_loc_len (ad : Nat → Nat) (xq : Nat) : ∀ args : List Value, (lg_sl (args.map (am_cv ad xq))).length = (am_loc args).length
  | [] => rfl
  | v :: r => by
    have ih := am_loc_len ad xq r
    have e : lg_sl ((v :: r).map (am_cv ad xq)) = (if (am_cv ad xq v).category = 2 then [.val (am_cv ad xq v), .second] else [.val (am_cv ad xq v)]) ++ lg_sl (r.map (am_cv ad xq)) := rfl
    rw [e, am_cv_cat]
    cases hc : am_cat2 v with
    | true => simp [am_loc, hc, ih]
    | false => simp [am_loc, hc, ih]
theorem am_loc_args (ad : Nat → Nat) (xq : Nat) : ∀ (args : List Value) (i j : Nat) (v : Value), (am_loc args)[j]? = some v → am_ra v = false → (i + j, am_cv ad 0 v) ∈ lv_args i (args.map (am_cv ad xq))
  | [], i, j, v, h, _ => by simp [am_loc] at h
  | u :: r, i, j, v, h, hr => by
    have e : lv_args i ((u :: r).map (am_cv ad xq)) = (i, am_cv ad xq u) :: lv_args (if (am_cv ad xq u).category = 2 then i + 2 else i + 1) (r.map (am_cv ad xq)) := rfl
    rw [e, am_cv_cat]
    cases hc : am_cat2 u with
    | true =>
      simp only [am_loc, hc, cond_true] at h
      match j, h with
      | 0, h => cases h; exact List.mem_cons.mpr (Or.inl (Prod.ext (Nat.add_zero i) (am_cv_xq hr)))
      | 1, h => cases h; cases hr
      | j + 2, h =>
        refine List.mem_cons.mpr (Or.inr ?_)
        have h2 := am_loc_args ad xq r (i + 2) j v (by simpa using h) hr
        rw [show i + (j + 2) = i + 2 + j by omega]
        simpa using h2
    | false =>
      simp only [am_loc, hc, cond_false] at h
      match j, h with
      | 0, h => cases h; exact List.mem_cons.mpr (Or.inl (Prod.ext (Nat.add_zero i) (am_cv_xq hr)))
      | j + 1, h =>
        refine List.mem_cons.mpr (Or.inr ?_)
        have h2 := am_loc_args ad xq r (i + 1) j v (by simpa using h) hr
        rw [show i + (j + 1) = i + 1 + j by omega]
        simpa using h2
theorem am_ent_has (ad : Nat → Nat) (xq : Nat) (args : List Value) (nL : Nat) (hl : (am_loc args).length ≤ nL) :
    am_has ad (am_ent args nL) ((lg_sl (args.map (am_cv ad xq)) ++ List.replicate (nL - (lg_sl (args.map (am_cv ad xq))).length) Slot.unset).toArray) := by
  have h := lv_entry (args.map (am_cv ad xq)) (n := nL) (by rw [am_loc_len]; exact hl)
  refine am_has.mono h (by simp [am_ent]; omega) fun q hq => ?_
  obtain ⟨v, hv, hr, e⟩ := am_lv_mem.mp hq
  unfold am_ent at hv
  by_cases hi : q.1 < (am_loc args).length
  · rw [List.getElem?_append_left hi] at hv
    have h2 := am_loc_args ad xq args 0 q.1 v hv hr
    rw [Nat.zero_add, ← e] at h2
    exact h2
  · rw [List.getElem?_append_right (by omega)] at hv
    have := List.eq_of_mem_replicate (List.mem_of_getElem? hv)
    rw [this] at hr
    cases hr
