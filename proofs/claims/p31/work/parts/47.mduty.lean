/-! PURE: duties in the model, and both ways side by side. -/
theorem itr_rel2 {σ₁ σ₂ ρ₁ ρ₂ : Type} {s₁ : σ₁ → σ₁ ⊕ ρ₁} {s₂ : σ₂ → σ₂ ⊕ ρ₂} {p₁ : σ₁ → Prop} {p₂ : σ₂ → Prop} (R : σ₁ → σ₂ → Prop) (m : σ₁ → σ₂ → Nat) (Q : ρ₁ → ρ₂ → Prop)
    (h : ∀ v w, R v w → p₁ v ∧ p₂ w ∧ ((∃ v' w', s₁ v = .inl v' ∧ s₂ w = .inl w' ∧ R v' w' ∧ m v' w' < m v w) ∨ ∃ r q, s₁ v = .inr r ∧ s₂ w = .inr q ∧ Q r q)) : ∀ (N M : Nat) (v : σ₁) (w : σ₂), m v w < N → m v w < M → R v w → itrp s₁ p₁ N v ∧ itrp s₂ p₂ M w ∧ ∃ r q, itr s₁ N v = some r ∧ itr s₂ M w = some q ∧ Q r q
  | 0, _, _, _, hm, _, _ => absurd hm (Nat.not_lt_zero _)
  | _ + 1, 0, _, _, _, hm, _ => absurd hm (Nat.not_lt_zero _)
  | N + 1, M + 1, v, w, hm, hm2, hR => by
    obtain ⟨h1, h2, h3⟩ := h v w hR
    rcases h3 with ⟨v', w', e1, e2, hR', hm'⟩ | ⟨r, q, e1, e2, hQ⟩
    · obtain ⟨a, b, c⟩ := itr_rel2 (s₁ := s₁) (s₂ := s₂) (p₁ := p₁) (p₂ := p₂) R m Q h N M v' w' (by omega) (by omega) hR'
      refine ⟨⟨h1, fun x hx => by rw [e1] at hx; cases hx; exact a⟩, ⟨h2, fun x hx => by rw [e2] at hx; cases hx; exact b⟩, ?_⟩
      rw [itr, itr, e1, e2]
      exact c
    · exact ⟨⟨h1, fun x hx => by rw [e1] at hx; cases hx⟩, ⟨h2, fun x hx => by rw [e2] at hx; cases hx⟩, r, q, by rw [itr, e1], by rw [itr, e2], hQ⟩
/-- nothing that later calls look at has changed (the model) -/
def mK (m m' : HP) : Prop := m'.1 3 = m.1 3 ∧ m'.1 4 = m.1 4 ∧ m'.1 5 = m.1 5 ∧ m'.1 6 = m.1 6 ∧ m'.1 0 3 = m.1 0 3 ∧ m'.1 0 7 = m.1 0 7 ∧ m'.1 0 8 = m.1 0 8 ∧ m'.2 = m.2
theorem mK.rf {m : HP} : mK m m := ⟨rfl, rfl, rfl, rfl, rfl, rfl, rfl, rfl⟩
theorem mK.tr {m m' m'' : HP} (h : mK m m') (h' : mK m' m'') : mK m m'' :=
  ⟨h'.1.trans h.1, h'.2.1.trans h.2.1, h'.2.2.1.trans h.2.2.1, h'.2.2.2.1.trans h.2.2.2.1, h'.2.2.2.2.1.trans h.2.2.2.2.1, h'.2.2.2.2.2.1.trans h.2.2.2.2.2.1, h'.2.2.2.2.2.2.1.trans h.2.2.2.2.2.2.1, h'.2.2.2.2.2.2.2.trans h.2.2.2.2.2.2.2⟩
theorem mK_of {m m' : HP} (h : ∀ c, c = 0 ∨ c = 3 ∨ c = 4 ∨ c = 5 ∨ c = 6 → m'.1 c = m.1 c) (h2 : m'.2 = m.2) : mK m m' :=
  ⟨h 3 (by omega), h 4 (by omega), h 5 (by omega), h 6 (by omega), by rw [h 0 (by omega)], by rw [h 0 (by omega)], by rw [h 0 (by omega)], h2⟩
/-- the same of the class -/
def hK (h h' : HP) : Prop := (∀ c, c < 12 ∨ 33 ≤ c ∨ c = 19 → h'.1 c = h.1 c) ∧ h'.1 18 2 = h.1 18 2
theorem hK.rf {h : HP} : hK h h := ⟨fun _ _ => rfl, rfl⟩
theorem hK.tr {h h' h'' : HP} (a : hK h h') (b : hK h' h'') : hK h h'' := ⟨fun c hc => (b.1 c hc).trans (a.1 c hc), b.2.trans a.2⟩
theorem hK.RT {h h' : HP} (a : hK h h') {T : Nat → Int32} {n : Nat} (hR : RT h.1 0 T n) : RT h'.1 0 T n := hR.congr (fun j hj => a.1 _ (Or.inl (by omega)))
theorem am_si_si (h : HP) (c k : Nat) (x y : Int32) : am_si (am_si h c k x) c k y = am_si h c k y := by
  refine Prod.ext (funext fun c' => funext fun k' => ?_) rfl
  show (am_si (am_si h c k x) c k y).1 c' k' = (am_si h c k y).1 c' k'
  rw [am_si1, am_si1, am_si1]
  by_cases e : c' = c ∧ k' = k
  · rw [if_pos e, if_pos e]
  · rw [if_neg e, if_neg e, if_neg e]
theorem foldl_cg {α : Type} {f g : α → Nat → α} : ∀ (l : List Nat) (a : α), (∀ a, ∀ k ∈ l, f a k = g a k) → l.foldl f a = l.foldl g a
  | [], _, _ => rfl
  | k :: l, a, h => by rw [List.foldl_cons, List.foldl_cons, h a k List.mem_cons_self, foldl_cg l _ (fun a j hj => h a j (List.mem_cons_of_mem _ hj))]
theorem mem_tw {q : Nat → Bool} {k : Nat} : ∀ (l : List Nat), k ∈ l.takeWhile q → k ∈ l
  | [], h => nomatch h
  | a :: l, h => by
    rw [List.takeWhile_cons] at h
    split at h
    · rcases List.mem_cons.mp h with rfl | h
      · exact List.mem_cons_self
      · exact List.mem_cons_of_mem _ (mem_tw l h)
    · cases h
theorem foldl_id {α : Type} {f : α → Nat → α} : ∀ (l : List Nat) (a : α), (∀ a, ∀ k ∈ l, f a k = a) → l.foldl f a = a
  | [], _, _ => rfl
  | k :: l, a, h => by rw [List.foldl_cons, h a k List.mem_cons_self, foldl_id l _ (fun a j hj => h a j (List.mem_cons_of_mem _ hj))]
section DS2
variable {T : Nat → Int32} {n : Nat}
/-- what lies behind s in its chain -/
theorem ch_next (hI : Inv T n) {s : Nat} (hs : s < n) : ∀ k ∈ ch (nx T) s, ∀ j, nx T k = some j → j ∈ cho (nx T) (nx T s) := by
  have h : ∀ o, okO n o → ∀ s, o = some s → ∀ k ∈ cho (nx T) o, ∀ j, nx T k = some j → j ∈ cho (nx T) (nx T s) :=
    ch_ind hI.fw (fun _ e => nomatch e) (fun i hi ih s e k hk j hj => by
      cases e
      rw [cho_some hI.fw hi] at hk
      rcases List.mem_cons.mp hk with rfl | hk
      · rw [hj, cho_some hI.fw (hI.nxs hi hj).1]; exact List.mem_cons_self
      · cases e : nx T i with
        | none => rw [e] at hk; cases hk
        | some i' =>
          rw [e] at hk ih
          have h1 := ih i' rfl k hk j hj
          rw [cho_some hI.fw (hI.nxs hi e).1]
          exact List.mem_cons_of_mem _ h1)
  exact h (some s) (okO_some hs) s rfl
/-- what lies behind s goes later -/
theorem ch_later (hI : Inv T n) {s : Nat} (hs : s < n) : ∀ k ∈ cho (nx T) (nx T s), k < n ∧ Dp T s < Dp T k := by
  intro k hk
  cases e : nx T s with
  | none => rw [e] at hk; cases hk
  | some j =>
    rw [e] at hk
    obtain ⟨hj, -, -, h1⟩ := hI.nxs hs e
    have h2 := hI.ln1 hs
    obtain ⟨a, b, -, -⟩ := ch_up hI hj k hk
    exact ⟨a, by omega⟩
theorem fs_congr (hI : Inv T n) {s : Nat} (hs : s < n) {A B : Nat → Int32} (h : ∀ j ∈ cho (nx T) (nx T s), A j = B j) : fs T A s = fs T B s := by
  unfold fs
  refine foldl_cg _ _ (fun a k hk => ?_)
  have hk' := mem_tw _ hk
  have e2 : rst A (nx T k) = rst B (nx T k) := by
    cases e : nx T k with
    | none => rfl
    | some j => exact h j (ch_next hI hs k hk' j e)
  unfold fe
  rw [e2]
/-- the loop of the model goes on behind the last hour, but nothing changes there -/
theorem fs_all (hI : Inv T n) (A : Nat → Int32) {s : Nat} (hs : s < n) : (ch (nx T) s).foldl (fun a k => if qD T s k = true then fe T A a k else a) (-1) = fs T A s := by
  have key : ∀ o, okO n o → ∀ a, (cho (nx T) o).foldl (fun a k => if qD T s k = true then fe T A a k else a) a = ((cho (nx T) o).takeWhile (qD T s)).foldl (fe T A) a :=
    ch_ind hI.fw (fun _ => rfl) (fun k hk ih a => by
      rw [cho_some hI.fw hk, List.foldl_cons, List.takeWhile_cons]
      cases e : qD T s k with
      | true => rw [if_pos tr, if_pos tr, List.foldl_cons]; exact ih _
      | false =>
        rw [if_neg ff, if_neg ff]
        refine foldl_id _ _ (fun a j hj => if_neg ?_)
        have h1 : j ∈ ch (nx T) k := by rw [ch_step hI.fw hk]; exact List.mem_cons_of_mem _ hj
        have h2 := (ch_up hI hk j h1).2.2.1
        unfold qD at e ⊢
        rw [ble_false] at e
        rw [ble_iff]
        omega)
  exact key (some s) (okO_some hs) (-1)
theorem lastc_bf (hI : Inv T n) {s : Nat} (hs : s < n) : lastc (bf T n) (lastc (nx T) s) = lastc (bf T n) s := by
  have h : ∀ o, okO n o → ∀ s, o = some s → lastc (bf T n) (lastc (nx T) s) = lastc (bf T n) s :=
    ch_ind hI.fw (fun _ e => nomatch e) (fun k hk ih s e => by
      cases e
      cases e : nx T k with
      | none => rw [lastc_none e]
      | some j =>
        have hj := (hI.nxs hk e).1
        rw [lastc_some hI.fw hk e, ih j e]
        exact lastc_some hI.bw hj ((hI.bfi hk).mpr e))
  exact h (some s) (okO_some hs) s rfl
end DS2
section MDU
variable {m : HP} {T : Nat → Int32} {n : Nat}
end MDU
section MCU
variable {m : HP} {T : Nat → Int32} {n : Nat}
end MCU
