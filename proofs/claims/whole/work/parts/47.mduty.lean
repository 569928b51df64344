/-! PURE: duties in the model, and both ways side by side. -/
theorem itr_rel2 {σ₁ σ₂ ρ₁ ρ₂ : Type} {s₁ : σ₁ → σ₁ ⊕ ρ₁} {s₂ : σ₂ → σ₂ ⊕ ρ₂} {p₁ : σ₁ → Prop} {p₂ : σ₂ → Prop} (R : σ₁ → σ₂ → Prop) (m : σ₁ → σ₂ → Nat) (Q : ρ₁ → ρ₂ → Prop)
    (h : ∀ v w, R v w → p₁ v ∧ p₂ w ∧ ((∃ v' w', s₁ v = .inl v' ∧ s₂ w = .inl w' ∧ R v' w' ∧ m v' w' < m v w) ∨ ∃ r q, s₁ v = .inr r ∧ s₂ w = .inr q ∧ Q r q)) : ∀ (N M : Nat) (v : σ₁) (w : σ₂), m v w < N → m v w < M → R v w → itrp s₁ p₁ N v ∧ itrp s₂ p₂ M w ∧ ∃ r q, itr s₁ N v = some r ∧ itr s₂ M w = some q ∧ Q r q
  | 0, _, _, _, hm, _, _ => absurd hm (Nat.not_lt_zero _)
  | _ + 1, 0, _, _, _, hm, _ => absurd hm (Nat.not_lt_zero _)
  | N + 1, M + 1, v, w, hm, hm2, hR => by
    obtain ⟨h1, h2, h3⟩ := h v w hR
    rcases h3 with ⟨v', w', e1, e2, hR', hm'⟩ | ⟨r, q, e1, e2, hQ⟩
    · obtain ⟨a, b, c⟩ := itr_rel2 (s₁ := s₁) (s₂ := s₂) (p₁ := p₁) (p₂ := p₂) R m Q h N M v' w' (by omega) (by omega) hR'
      refine ⟨⟨h1, fun x hx => by rw [e1] at hx; cases hx; exact a⟩, ⟨h2, fun x hx => by rw [e2] at hx; cases hx; exact b⟩, ?_⟩
      rw [itr, itr, e1, e2]
      exact c
    · exact ⟨⟨h1, fun x hx => by rw [e1] at hx; cases hx⟩, ⟨h2, fun x hx => by rw [e2] at hx; cases hx⟩, r, q, by rw [itr, e1], by rw [itr, e2], hQ⟩
/-- nothing that later calls look at has changed (the model) -/
def mK (m m' : HP) : Prop := m'.1 3 = m.1 3 ∧ m'.1 4 = m.1 4 ∧ m'.1 5 = m.1 5 ∧ m'.1 6 = m.1 6 ∧ m'.1 0 3 = m.1 0 3 ∧ m'.1 0 7 = m.1 0 7 ∧ m'.1 0 8 = m.1 0 8 ∧ m'.2 = m.2
theorem mK.rf {m : HP} : mK m m := ⟨rfl, rfl, rfl, rfl, rfl, rfl, rfl, rfl⟩
theorem mK.tr {m m' m'' : HP} (h : mK m m') (h' : mK m' m'') : mK m m'' :=
  ⟨h'.1.trans h.1, h'.2.1.trans h.2.1, h'.2.2.1.trans h.2.2.1, h'.2.2.2.1.trans h.2.2.2.1, h'.2.2.2.2.1.trans h.2.2.2.2.1, h'.2.2.2.2.2.1.trans h.2.2.2.2.2.1, h'.2.2.2.2.2.2.1.trans h.2.2.2.2.2.2.1, h'.2.2.2.2.2.2.2.trans h.2.2.2.2.2.2.2⟩
theorem mK_of {m m' : HP} (h : ∀ c, c = 0 ∨ c = 3 ∨ c = 4 ∨ c = 5 ∨ c = 6 → m'.1 c = m.1 c) (h2 : m'.2 = m.2) : mK m m' :=
  ⟨h 3 (by omega), h 4 (by omega), h 5 (by omega), h 6 (by omega), by rw [h 0 (by omega)], by rw [h 0 (by omega)], by rw [h 0 (by omega)], h2⟩
/-- the same of the class -/
def hK (h h' : HP) : Prop := (∀ c, c < 12 ∨ 33 ≤ c ∨ c = 19 → h'.1 c = h.1 c) ∧ h'.1 18 2 = h.1 18 2
theorem hK.rf {h : HP} : hK h h := ⟨fun _ _ => rfl, rfl⟩
theorem hK.tr {h h' h'' : HP} (a : hK h h') (b : hK h' h'') : hK h h'' := ⟨fun c hc => (b.1 c hc).trans (a.1 c hc), b.2.trans a.2⟩
theorem hK.RT {h h' : HP} (a : hK h h') {T : Nat → Int32} {n : Nat} (hR : RT h.1 0 T n) : RT h'.1 0 T n := hR.congr (fun j hj => a.1 _ (Or.inl (by omega)))
theorem am_si_si (h : HP) (c k : Nat) (x y : Int32) : am_si (am_si h c k x) c k y = am_si h c k y := by
  refine Prod.ext (funext fun c' => funext fun k' => ?_) rfl
  show (am_si (am_si h c k x) c k y).1 c' k' = (am_si h c k y).1 c' k'
  rw [am_si1, am_si1, am_si1]
  by_cases e : c' = c ∧ k' = k
  · rw [if_pos e, if_pos e]
  · rw [if_neg e, if_neg e, if_neg e]
theorem foldl_cg {α : Type} {f g : α → Nat → α} : ∀ (l : List Nat) (a : α), (∀ a, ∀ k ∈ l, f a k = g a k) → l.foldl f a = l.foldl g a
  | [], _, _ => rfl
  | k :: l, a, h => by rw [List.foldl_cons, List.foldl_cons, h a k List.mem_cons_self, foldl_cg l _ (fun a j hj => h a j (List.mem_cons_of_mem _ hj))]
theorem mem_tw {q : Nat → Bool} {k : Nat} : ∀ (l : List Nat), k ∈ l.takeWhile q → k ∈ l
  | [], h => nomatch h
  | a :: l, h => by
    rw [List.takeWhile_cons] at h
    split at h
    · rcases List.mem_cons.mp h with rfl | h
      · exact List.mem_cons_self
      · exact List.mem_cons_of_mem _ (mem_tw l h)
    · cases h
theorem foldl_id {α : Type} {f : α → Nat → α} : ∀ (l : List Nat) (a : α), (∀ a, ∀ k ∈ l, f a k = a) → l.foldl f a = a
  | [], _, _ => rfl
  | k :: l, a, h => by rw [List.foldl_cons, h a k List.mem_cons_self, foldl_id l _ (fun a j hj => h a j (List.mem_cons_of_mem _ hj))]
section DS2
variable {T : Nat → Int32} {n : Nat}
/-- what lies behind s in its chain -/
theorem ch_next (hI : Inv T n) {s : Nat} (hs : s < n) : ∀ k ∈ ch (nx T) s, ∀ j, nx T k = some j → j ∈ cho (nx T) (nx T s) := by
  have h : ∀ o, okO n o → ∀ s, o = some s → ∀ k ∈ cho (nx T) o, ∀ j, nx T k = some j → j ∈ cho (nx T) (nx T s) :=
    ch_ind hI.fw (fun _ e => nomatch e) (fun i hi ih s e k hk j hj => by
      cases e
      rw [cho_some hI.fw hi] at hk
      rcases List.mem_cons.mp hk with rfl | hk
      · rw [hj, cho_some hI.fw (hI.nxs hi hj).1]; exact List.mem_cons_self
      · cases e : nx T i with
        | none => rw [e] at hk; cases hk
        | some i' =>
          rw [e] at hk ih
          have h1 := ih i' rfl k hk j hj
          rw [cho_some hI.fw (hI.nxs hi e).1]
          exact List.mem_cons_of_mem _ h1)
  exact h (some s) (okO_some hs) s rfl
/-- what lies behind s goes later -/
theorem ch_later (hI : Inv T n) {s : Nat} (hs : s < n) : ∀ k ∈ cho (nx T) (nx T s), k < n ∧ Dp T s < Dp T k := by
  intro k hk
  cases e : nx T s with
  | none => rw [e] at hk; cases hk
  | some j =>
    rw [e] at hk
    obtain ⟨hj, -, -, h1⟩ := hI.nxs hs e
    have h2 := hI.ln1 hs
    obtain ⟨a, b, -, -⟩ := ch_up hI hj k hk
    exact ⟨a, by omega⟩
theorem fs_congr (hI : Inv T n) {s : Nat} (hs : s < n) {A B : Nat → Int32} (h : ∀ j ∈ cho (nx T) (nx T s), A j = B j) : fs T A s = fs T B s := by
  unfold fs
  refine foldl_cg _ _ (fun a k hk => ?_)
  have hk' := mem_tw _ hk
  have e2 : rst A (nx T k) = rst B (nx T k) := by
    cases e : nx T k with
    | none => rfl
    | some j => exact h j (ch_next hI hs k hk' j e)
  unfold fe
  rw [e2]
/-- the loop of the model goes on behind the last hour, but nothing changes there -/
theorem fs_all (hI : Inv T n) (A : Nat → Int32) {s : Nat} (hs : s < n) : (ch (nx T) s).foldl (fun a k => if qD T s k = true then fe T A a k else a) (-1) = fs T A s := by
  have key : ∀ o, okO n o → ∀ a, (cho (nx T) o).foldl (fun a k => if qD T s k = true then fe T A a k else a) a = ((cho (nx T) o).takeWhile (qD T s)).foldl (fe T A) a :=
    ch_ind hI.fw (fun _ => rfl) (fun k hk ih a => by
      rw [cho_some hI.fw hk, List.foldl_cons, List.takeWhile_cons]
      cases e : qD T s k with
      | true => rw [if_pos tr, if_pos tr, List.foldl_cons]; exact ih _
      | false =>
        rw [if_neg ff, if_neg ff]
        refine foldl_id _ _ (fun a j hj => if_neg ?_)
        have h1 : j ∈ ch (nx T) k := by rw [ch_step hI.fw hk]; exact List.mem_cons_of_mem _ hj
        have h2 := (ch_up hI hk j h1).2.2.1
        unfold qD at e ⊢
        rw [ble_false] at e
        rw [ble_iff]
        omega)
  exact key (some s) (okO_some hs) (-1)
theorem lastc_bf (hI : Inv T n) {s : Nat} (hs : s < n) : lastc (bf T n) (lastc (nx T) s) = lastc (bf T n) s := by
  have h : ∀ o, okO n o → ∀ s, o = some s → lastc (bf T n) (lastc (nx T) s) = lastc (bf T n) s :=
    ch_ind hI.fw (fun _ e => nomatch e) (fun k hk ih s e => by
      cases e
      cases e : nx T k with
      | none => rw [lastc_none e]
      | some j =>
        have hj := (hI.nxs hk e).1
        rw [lastc_some hI.fw hk e, ih j e]
        exact lastc_some hI.bw hj ((hI.bfi hk).mpr e))
  exact h (some s) (okO_some hs) s rfl
end DS2
section MDU
variable {m : HP} {T : Nat → Int32} {n : Nat}
theorem mm_mE (hT : m.1 1 = T) (hI : Inv T n) {k : Nat} (hk : k < n) {α : Type} (x y : α) : (if v_M_next m (nI k) = -1 then x else (if m.1 1 (am_ix (4 + v_M_of m (nI k) 2)) = 1 then x else y)) = if mE T k = true then x else y := by
  have hg := hI.goL hk
  have h1 := (hI.rel (i := Go T k) (by omega)).2
  rw [(mm_next hT hI hk).2, (mm_go hT hI hk).2, show (4 : Int32) = nI 4 from rfl, nI_add, nI_ix (by omega), hT, (hI.rel (i := Go T k) (by omega)).1, mE]
  cases e : nx T k with
  | none => rw [if_pos (show eo none = -1 from rfl)]; exact (if_pos rfl).symm
  | some j =>
    have := (hI.nxs hk e).1; have := hI.n20
    rw [if_neg (show ¬ eo (some j) = -1 from nI_m1 (by omega))]
    by_cases e2 : nT T (4 + Go T k) = 1
    · rw [if_pos ((nI_one (by omega)).mpr e2)]; exact (if_pos (by rw [beq_iff.mpr e2]; rfl)).symm
    · rw [if_neg (fun z => e2 ((nI_one (by omega)).mp z))]; exact (if_neg (by rw [beq_false.mpr e2]; simp)).symm
theorem mm_mEp (hT : m.1 1 = T) (hI : Inv T n) {k : Nat} (hk : k < n) : p_M_of m (nI k) 2 ∧ am_in (4 + v_M_of m (nI k) 2) 163 := by
  have hg := hI.goL hk
  refine ⟨(mm_go hT hI hk).1, ?_⟩
  rw [(mm_go hT hI hk).2, show (4 : Int32) = nI 4 from rfl, nI_add]
  exact nI_am (by omega) (by omega)
theorem mm_within (hT : m.1 1 = T) (hI : Inv T n) {s k : Nat} (hs : s < n) (hk : k < n) (hle : Dp T s ≤ Dp T k) {α : Type} (x y : α) : (if v_M_arrival m (nI k) - v_M_of m (nI s) 3 ≤ m.1 1 (am_ix 9) then x else y) = if qD T s k = true then x else y := by
  have h1 := hI.dpL hs
  have h2 := hI.dpL hk
  have h3 := hI.lnL hk
  have h4 := hI.s1.2
  have hA : Ar T k = Dp T k + Ln T k := rfl
  rw [(mm_arr hT hI hk).2, (mm_dp hT hI hs).2, mm_s1 hT hI, nI_sub (by omega), qD]
  by_cases e : Ar T k ≤ Dp T s + nT T 9
  · rw [if_pos ((nI_leI (by omega) (by omega)).mpr (by omega)), if_pos (ble_iff.mpr e)]
  · rw [if_neg (fun z => e (by have := (nI_leI (by omega) (by omega)).mp z; omega)), if_neg (by rw [ble_iff]; exact e)]
theorem mm_endOf (hT : m.1 1 = T) (hI : Inv T n) {s : Nat} (hs : s < n) : p_M_endOf m (nI s) ∧ v_M_endOf m (nI s) = eo (ld T s) := by
  have h20 := hI.n20
  have key : ∀ (a : Option Nat) j, j < n → Dp T s ≤ Dp T j → s_M_endOf_4 m (nI s) (eo a, nI j) = if qD T s j = true then .inl (eo (if mE T j = true then some j else a), eo (nx T j)) else .inr (eo a, nI j) := by
    intro a j hj hle
    show (if nI j = -1 then _ else (if v_M_arrival m (nI j) - v_M_of m (nI s) 3 ≤ m.1 1 (am_ix 9) then Sum.inl ((if v_M_next m (nI j) = -1 then nI j else (if m.1 1 (am_ix (4 + v_M_of m (nI j) 2)) = 1 then nI j else eo a)), v_M_next m (nI j)) else Sum.inr (eo a, nI j))) = _
    rw [if_neg (nI_m1 (by omega)), mm_within hT hI hs hj hle, mm_mE hT hI hj, (mm_next hT hI hj).2]
    cases mE T j with
    | true => rfl
    | false => rfl
  obtain ⟨a, b, -⟩ := chain_while hI.fw (step := s_M_endOf_4 m (nI s)) (pst := ps_M_endOf_4 m (nI s)) (fun (a : Option Nat) _ o => (eo a, eo o)) (fun _ o => ∀ k, o = some k → Dp T s ≤ Dp T k) (fun a k => if mE T k = true then some k else a) (qD T s) (fun a _ o => (eo a, eo o))
    (fun a c j hP hj hc hq => ⟨by
      show s_M_endOf_4 m (nI s) (eo a, nI j) = _
      rw [key a j hj (hP j rfl), if_pos hq], fun k e => by
      have h1 := hP j rfl
      have h2 := (hI.nxs hj e).2.2.2
      omega⟩)
    (fun a c j hP hj hc hq => by
      show s_M_endOf_4 m (nI s) (eo a, nI j) = _
      rw [key a j hj (hP j rfl), if_neg (by rw [hq]; decide)]; rfl)
    (fun a c hP hc => rfl)
    (fun a c o hP ho _ => ⟨fun _ => trivial, fun z => by
      cases o with
      | none => exact absurd rfl z
      | some j =>
        have hj := ho j rfl
        exact ⟨(mm_arr hT hI hj).1, (mm_dp hT hI hs).1, fun _ => ⟨(mm_next hT hI hj).1, ⟨fun _ => trivial, fun _ => mm_mEp hT hI hj⟩, (mm_next hT hI hj).1⟩, fun _ => trivial⟩⟩) (some s) none (fun k e => by cases e; exact Nat.le_refl _) (okO_some hs)
  have e0 : (((-1 : Int32), nI s) : Int32 × Int32) = (eo none, eo (some s)) := rfl
  exact ⟨by rw [p_M_endOf, e0]; exact a, by rw [v_M_endOf, e0, b]; rfl⟩
end MDU
section MCU
variable {m : HP} {T : Nat → Int32} {n : Nat}
theorem mm_cuts (hT : m.1 1 = T) (hI : Inv T n) {s : Nat} (hs : s < n) : p_M_cuts m (nI s) ∧ (v_M_cuts m (nI s)).1 = eo (ndu T s) ∧ ((∀ c, c ≠ 7 → (v_M_cuts m (nI s)).2.1 c = m.1 c) ∧ (v_M_cuts m (nI s)).2.2 = m.2) ∧
    (∀ d, ndu T s = some d → ∀ i x, (ch (nd T) s)[i]? = some x → (v_M_cuts m (nI s)).2.1 7 i = eo (ld T x)) := by
  have h20 := hI.n20
  have hlen := ch_n (nd_gd hI) hs
  let P : Nat × HP → Option Nat → Prop := fun a o => (∀ c, c ≠ 7 → a.2.1 c = m.1 c) ∧ a.2.2 = m.2 ∧ ∃ done : List Nat, done ++ cho (nd T) o = ch (nd T) s ∧ done.length = a.1 ∧ ∀ i x, done[i]? = some x → a.2.1 7 i = eo (ld T x)
  have hPT : ∀ {a o}, P a o → a.2.1 1 = T := fun h => (h.1 1 (by omega)).trans hT
  have hPl : ∀ {a : Nat × HP} {k : Nat}, k < n → P a (some k) → a.1 < 20 := fun {a k} hk h => by
    obtain ⟨done, e, e2, -⟩ := h.2.2
    have := congrArg List.length e
    rw [List.length_append, cho_some (nd_gd hI) hk, List.length_cons] at this
    omega
  obtain ⟨a, b, c⟩ := chain_while (nd_gd hI) (step := s_M_cuts_4 m (nI s)) (pst := ps_M_cuts_4 m (nI s)) (fun (a : Nat × HP) _ o => (nI a.1, eo o, a.2)) P (fun a k => (a.1 + 1, am_si a.2 7 a.1 (eo (ld T k)))) (fun k => (ld T k).isSome) (fun a _ o => match o with | none => .inl (nI a.1, eo none, a.2) | some _ => .inr (-1, a.2))
    (fun a c j hP hj hc hq => by
      have hl := hPl hj hP
      cases e : ld T j with
      | none => rw [e] at hq; cases hq
      | some l =>
        have h1 := ld_lt hI hj e
        have hT2 : (am_si a.2 7 a.1 (nI l)).1 1 = T := by rw [am_si_ne (by omega)]; exact hPT hP
        refine ⟨?_, ?_⟩
        · show (if nI j = -1 then _ else (if v_M_endOf a.2 (nI j) = -1 then _ else Sum.inl (nI a.1 + 1, v_M_next (am_si a.2 7 (am_ix (nI a.1)) (v_M_endOf a.2 (nI j))) (v_M_endOf a.2 (nI j)), am_si a.2 7 (am_ix (nI a.1)) (v_M_endOf a.2 (nI j))))) = _
          rw [if_neg (nI_m1 (by omega)), (mm_endOf (hPT hP) hI hj).2, e, if_neg (show ¬ eo (some l) = -1 from nI_m1 (by omega)), nI_ix (by omega), nI_1]
          show Sum.inl (nI (a.1 + 1), v_M_next (am_si a.2 7 a.1 (nI l)) (nI l), am_si a.2 7 a.1 (nI l)) = _
          rw [(mm_next hT2 hI h1).2, nd, e]
          rfl
        · refine ⟨fun c hc => ?_, hP.2.1, ?_⟩
          · show (am_si a.2 7 a.1 (eo (some l))).1 c = _
            rw [am_si_ne hc]; exact hP.1 c hc
          · obtain ⟨done, e1, e2, e3⟩ := hP.2.2
            refine ⟨done ++ [j], ?_, ?_, fun i x hx => ?_⟩
            · rw [cho_some (nd_gd hI) hj] at e1
              rw [List.append_assoc]; exact e1
            · rw [List.length_append]; show done.length + 1 = a.1 + 1; omega
            · show (am_si a.2 7 a.1 (eo (some l))).1 7 i = _
              rw [am_si1]
              by_cases e4 : i < done.length
              · rw [List.getElem?_append_left e4] at hx
                rw [if_neg (by omega)]; exact e3 i x hx
              · rw [List.getElem?_append_right (by omega)] at hx
                have : i - done.length = 0 := by
                  have := (List.getElem?_eq_some_iff.mp hx).1
                  simp at this; omega
                rw [this] at hx
                cases hx
                rw [if_pos (by omega), e])
    (fun a c j hP hj hc hq => by
      show (if nI j = -1 then _ else (if v_M_endOf a.2 (nI j) = -1 then _ else _)) = _
      rw [if_neg (nI_m1 (by omega)), (mm_endOf (hPT hP) hI hj).2]
      cases e : ld T j with
      | some l => rw [e] at hq; cases hq
      | none => rw [if_pos (show eo none = -1 from rfl)])
    (fun a c hP hc => rfl)
    (fun a c o hP ho _ => ⟨fun _ => trivial, fun z => by
      cases o with
      | none => exact absurd rfl z
      | some j =>
        have hj := ho j rfl
        have hl := hPl hj hP
        have hE := mm_endOf (hPT hP) hI hj
        refine ⟨hE.1, fun _ => trivial, fun z2 => ⟨nI_am hl (by omega), ?_⟩⟩
        have z2' : ¬ v_M_endOf a.2 (nI j) = -1 := z2
        show p_M_next (am_si a.2 7 (am_ix (nI a.1)) (v_M_endOf a.2 (nI j))) (v_M_endOf a.2 (nI j))
        rw [hE.2] at z2' ⊢
        cases e : ld T j with
        | none => rw [e] at z2'; exact absurd rfl z2'
        | some l =>
          exact (mm_next (m := am_si a.2 7 (am_ix (nI a.1)) (eo (some l))) (by rw [am_si_ne (by omega)]; exact hPT hP) hI (ld_lt hI hj e)).1⟩) (some s) (0, m) ⟨fun _ _ => rfl, rfl, [], rfl, rfl, fun i x h => nomatch h⟩ (okO_some hs)
  have e0 : (((0 : Int32), nI s, m) : Int32 × Int32 × HP) = (nI 0, eo (some s), m) := rfl
  rw [p_M_cuts, v_M_cuts, e0]
  refine ⟨a, ?_⟩
  rw [b]
  have hall : ndu T s = if (cho (nd T) (some s)).all (fun k => (ld T k).isSome) = true then some (cho (nd T) (some s)).length else none := rfl
  cases e : ((cho (nd T) (some s)).dropWhile (fun k => (ld T k).isSome)).head? with
  | none =>
    obtain ⟨h1, h2⟩ := dropWhile_nil e
    rw [e, h2] at c
    obtain ⟨c1, c2, done, c3, c4, c5⟩ := c
    rw [h1, if_pos tr] at hall
    have c3' : done = ch (nd T) s := by rw [← c3]; exact (List.append_nil done).symm
    subst c3'
    rw [h2]
    refine ⟨?_, ⟨c1, c2⟩, fun d hd i x hx => c5 i x hx⟩
    rw [hall]
    show nI _ = nI _
    rw [← c4]; rfl
  | some x =>
    rw [e] at c
    rw [dropWhile_cons' e, if_neg ff] at hall
    refine ⟨by rw [hall]; rfl, ⟨c.1, c.2.1⟩, fun d hd => by rw [hall] at hd; cases hd⟩
end MCU
