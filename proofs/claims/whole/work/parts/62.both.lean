/-! PURE: the methods of the face, class and model side by side: the plain ones. -/
def xI : String := "java/lang/IndexOutOfBoundsException"
def xA : String := "java/lang/IllegalArgumentException"
def xS : String := "java/lang/IllegalStateException"
/-- the class's answer and the model's, with the codes that are told of what is thrown -/
def Bo (l : List (String × Int32)) (h : HP) (c : String ⊕ (Int32 × HP)) (w : Int32 × HP) : Prop :=
  match c with
  | .inl E => (E, w.2.1 0 8) ∈ l ∧ ∃ n, RR n h w.2
  | .inr r => w.2.1 0 8 = 0 ∧ w.1 = r.1 ∧ ∃ n, RR n r.2 w.2
theorem ix_ran {N : Nat} (hN : N < 2 ^ 31) (a : Int32) : (∃ t, t < N ∧ a = nI t ∧ ¬ a < 0 ∧ a < nI N) ∨ (a < 0 ∨ ¬ a < nI N) := by
  by_cases h1 : a < 0
  · exact .inr (.inl h1)
  · by_cases h2 : a < nI N
    · have h1' : ¬ a.toInt < 0 := fun z => h1 (Int32.lt_iff_toInt_lt.mpr z)
      have h2' := Int32.lt_iff_toInt_lt.mp h2
      rw [nI_toInt hN] at h2'
      refine .inl ⟨a.toInt.toNat, by omega, Int32.toInt_inj.mp ?_, h1, h2⟩
      rw [nI_toInt (by omega)]; omega
    · exact .inr (.inr h2)
theorem ran_cases {lo hi : Nat} (hN : hi < 1000000) (hl : lo ≤ hi) (a : Int32) : (∃ t, lo ≤ t ∧ t ≤ hi ∧ a = nI t ∧ ¬ a < nI lo ∧ a ≤ nI hi) ∨ (a < nI lo ∨ ¬ a ≤ nI hi) := by
  by_cases h1 : a < nI lo
  · exact .inr (.inl h1)
  · by_cases h2 : a ≤ nI hi
    · have h1' : ¬ a.toInt < (nI lo).toInt := fun z => h1 (Int32.lt_iff_toInt_lt.mpr z)
      have h2' := Int32.le_iff_toInt_le.mp h2
      rw [nI_toInt (by omega)] at h2' h1'
      refine .inl ⟨a.toInt.toNat, by omega, by omega, Int32.toInt_inj.mp ?_, h1, h2⟩
      rw [nI_toInt (by omega)]; omega
    · exact .inr (.inr h2)
/-- in the range or not, in class and model -/
theorem rng_cases {lo hi : Nat} (hN : hi < 1000000) (hl : lo ≤ hi) (h : HP) (a : Int32) : (∃ t, lo ≤ t ∧ t ≤ hi ∧ a = nI t ∧ v_B_checkRange h a (nI lo) (nI hi) = none ∧ ∀ m, v_M_in m a (nI lo) (nI hi) = 1) ∨ (v_B_checkRange h a (nI lo) (nI hi) = some xA ∧ ∀ m, v_M_in m a (nI lo) (nI hi) = 0) := by
  rcases ran_cases hN hl a with ⟨t, h1, h2, h3, h4, h5⟩ | h1
  · exact .inl ⟨t, h1, h2, h3, by rw [v_B_checkRange, if_neg h4, if_pos h5], fun m => by rw [v_M_in, if_neg h4, if_pos h5]⟩
  · by_cases h4 : a < nI lo
    · exact .inr ⟨by rw [v_B_checkRange, if_pos h4]; rfl, fun m => by rw [v_M_in, if_pos h4]⟩
    · have h5 : ¬ a ≤ nI hi := h1.resolve_left h4
      exact .inr ⟨by rw [v_B_checkRange, if_neg h4, if_neg h5]; rfl, fun m => by rw [v_M_in, if_neg h4, if_neg h5]⟩
theorem in01 (m : HP) (a lo hi : Int32) : v_M_in m a lo hi = 0 ∨ v_M_in m a lo hi = 1 := by
  unfold v_M_in
  split
  · exact .inl rfl
  · split
    · exact .inr rfl
    · exact .inl rfl
theorem lt_le {a : Int32} {N : Nat} (hN : N < 1000000) : a < nI (N + 1) ↔ a ≤ nI N := by
  rw [Int32.lt_iff_toInt_lt, Int32.le_iff_toInt_le, nI_toInt (by omega), nI_toInt (by omega)]
  omega
/-- an index below N -/
theorem idx_cases {N : Nat} (hN : N < 1000000) (a : Int32) : (∃ t, t < N + 1 ∧ a = nI t ∧ (∀ {α : Type} (x y z : α), (if a < 0 then x else if a < nI (N + 1) then y else z) = y) ∧ ∀ m, v_M_in m a 0 (nI N) = 1) ∨ ((∀ {α : Type} (x y : α), (if a < 0 then x else if a < nI (N + 1) then y else x) = x) ∧ ∀ m, v_M_in m a 0 (nI N) = 0) := by
  rcases ix_ran (N := N + 1) (by omega) a with ⟨t, h1, h2, h3, h4⟩ | h1
  · exact .inl ⟨t, h1, h2, fun x y z => by rw [if_neg h3, if_pos h4], fun m => by rw [v_M_in, if_neg h3, if_pos ((lt_le hN).mp h4)]⟩
  · by_cases h4 : a < 0
    · exact .inr ⟨fun x y => by rw [if_pos h4], fun m => by rw [v_M_in, if_pos h4]⟩
    · have h5 := h1.resolve_left h4
      exact .inr ⟨fun x y => by rw [if_neg h4, if_neg h5], fun m => by rw [v_M_in, if_neg h4, if_neg (fun z => h5 ((lt_le hN).mpr z))]⟩
theorem term_cases (h : HP) (a : Int32) : (∃ t, t < 4 ∧ a = nI t ∧ v_B_checkTerminal h a = none ∧ ∀ m, v_M_isTerminal m a = 1) ∨ (v_B_checkTerminal h a = some xI ∧ ∀ m, v_M_isTerminal m a = 0) := by
  rcases idx_cases (N := 3) (by omega) a with ⟨t, h1, h2, h3, h4⟩ | ⟨h3, h4⟩
  · exact .inl ⟨t, h1, h2, h3 _ _ _, h4⟩
  · exact .inr ⟨h3 _ _, h4⟩
theorem sett_cases (h : HP) (a : Int32) : (∃ t, t < 4 ∧ a = nI t ∧ v_B_checkSetting h a = none ∧ ∀ m, v_M_in m a 0 3 = 1) ∨ (v_B_checkSetting h a = some xI ∧ ∀ m, v_M_in m a 0 3 = 0) := by
  rcases idx_cases (N := 3) (by omega) a with ⟨t, h1, h2, h3, h4⟩ | ⟨h3, h4⟩
  · exact .inl ⟨t, h1, h2, h3 _ _ _, h4⟩
  · exact .inr ⟨h3 _ _, h4⟩
/-- what the model tells of what is thrown -/
theorem mk_th (m : HP) (x : Int32) : mk m (am_si m 0 8 x) :=
  ⟨am_si_ne (by omega), am_si_ne (by omega), am_si_ne (by omega), am_si_ne (by omega), by rw [am_si1, if_neg (by omega)], by rw [am_si1, if_neg (by omega)]⟩
theorem RR.th {n : Nat} {h m : HP} (hr : RR n h m) (x : Int32) : RR n h (am_si m 0 8 x) := hr.look hK.rf (mk_th m x) (fun i _ => by rw [am_si_ne (by omega)])
theorem th8 (m : HP) (x : Int32) : (am_si m 0 8 x).1 0 8 = x := by rw [am_si1, if_pos ⟨rfl, rfl⟩]
theorem one0 : ¬ (1 : Int32) = 0 := by decide
theorem Bo.thr {l : List (String × Int32)} {n : Nat} {h m : HP} {E : String} {k x : Int32} (hr : RR n h m) (hl : (E, k) ∈ l) : Bo l h (.inl E) (x, am_si (am_si m 0 8 0) 0 8 k) :=
  ⟨by show (E, (am_si _ 0 8 k).1 0 8) ∈ l; rw [th8]; exact hl, n, (hr.th 0).th k⟩
/-- one number of class and row anew -/
theorem RR.up {n : Nat} {h m : HP} {c j i : Nat} {x : Int32} (hr : RR n h m) (hc : c < 12)
    (a : ¬ (0 = c ∧ 11 = j) ∧ ((0 = c ∧ 12 = j) ↔ 12 = i) ∧ ((0 = c ∧ 13 = j) ↔ 13 = i) ∧ ((0 = c ∧ 14 = j) ↔ 14 = i))
    (b : ∀ k, k < n → ((1 = c ∧ k = j) ↔ 16 + 7 * k + 0 = i) ∧ ((2 = c ∧ k = j) ↔ 16 + 7 * k + 1 = i) ∧ ((3 = c ∧ k = j) ↔ 16 + 7 * k + 2 = i) ∧ ((4 = c ∧ k = j) ↔ 16 + 7 * k + 3 = i) ∧ ((5 = c ∧ k = j) ↔ 16 + 7 * k + 4 = i) ∧ 6 ≠ c ∧ 7 ≠ c ∧ 16 + 7 * k + 6 ≠ i ∧ ((8 = c ∧ k = j) ↔ 16 + 7 * k + 5 = i))
    (d : ∀ t, t < 4 → ((9 = c ∧ t = j) ↔ t = i) ∧ ((10 = c ∧ t = j) ↔ 4 + t = i) ∧ ((11 = c ∧ t = j) ↔ 8 + t = i))
    (hI : Inv (upd (m.1 1) i x) n) : RR n (am_si h c j x) (am_si m 1 i x) :=
  hr.put ⟨fun c' hc' => am_si_ne (by omega), by rw [am_si_ne (by omega)]⟩
    ⟨am_si_ne (by omega), am_si_ne (by omega), am_si_ne (by omega), am_si_ne (by omega), by rw [am_si_ne (by omega)], by rw [am_si_ne (by omega)]⟩
    (by rw [si1]; exact RT.up hr.1 a b d) (by rw [si1]; exact hI)
theorem layover_both {n : Nat} {h m : HP} (hr : RR n h m) (a b : Int32) : p_B_layover h a b ∧ p_M_layover m a b ∧ Bo [(xI, 1), (xA, 2)] h (v_B_layover h a b) (v_M_layover m a b) := by
  obtain ⟨s1, s2, s3, s4, s5, s6, s7⟩ := RR_save (hr.th 0)
  refine ⟨fun _ _ => s1, ?_⟩
  rcases term_cases h a with ⟨t, ht, ea, e1, e2⟩ | ⟨e1, e2⟩
  · have hix : am_ix (0 + a) = t := by rw [ea, show (0 : Int32) + nI t = nI (0 + t) from nI_add 0 t, nI_ix (by omega)]; omega
    have ham : am_in (0 + a) 163 := by rw [ea, show (0 : Int32) + nI t = nI (0 + t) from nI_add 0 t]; exact nI_am (by omega) (by omega)
    refine ⟨⟨in01 _ _ _ _, fun _ => trivial, fun _ => ⟨fun _ => trivial, fun _ => ⟨s2, fun y _ => ⟨ham, ham⟩⟩⟩⟩, ?_⟩
    rcases rng_cases (lo := 0) (hi := 60) (by omega) (by omega) h b with ⟨v, _, hv, eb, f1, f2⟩ | ⟨f1, f2⟩
    · have hc : v_B_layover h a b = .inr (v_at 4 ((v_B_save h).1 9) a, v_put 4 (v_B_save h) 9 a b) := by
        rw [v_B_layover, e1]
        show (match v_B_checkRange h b (nI 0) (nI 60) with | some E => _ | none => _) = _
        rw [f1]; rfl
      have hm : v_M_layover m a b = ((v_M_saves (am_si m 0 8 0)).1 1 t, am_si (v_M_saves (am_si m 0 8 0)) 1 t b) := by
        have g2 : v_M_in (am_si m 0 8 0) b 0 60 = 1 := f2 _
        rw [v_M_layover, e2, if_neg one0, g2, if_neg one0, hix]; rfl
      rw [hc, hm, ea, put_nI (by omega) _ _ ht, at_nI (by omega) _ ht, eb]
      refine ⟨?_, ?_, n, ?_⟩
      · show (am_si _ 1 t _).1 0 8 = 0
        rw [am_si_ne (by omega), s6, th8]
      · exact ((s3.1.lay ht).symm.trans (by rfl))
      · exact s3.up (by omega) (by omega) (fun k _ => ⟨by omega, by omega, by omega, by omega, by omega, by omega, by omega, by omega, by omega⟩) (fun k _ => ⟨by omega, by omega, by omega⟩) (s3.2.1.low (by omega) (by omega) (by omega))
    · have hc : v_B_layover h a b = .inl xA := by
        rw [v_B_layover, e1]
        show (match v_B_checkRange h b (nI 0) (nI 60) with | some E => _ | none => _) = _
        rw [f1]
      have hm : v_M_layover m a b = (0, am_si (am_si m 0 8 0) 0 8 2) := by
        have g2 : v_M_in (am_si m 0 8 0) b 0 60 = 0 := f2 _
        rw [v_M_layover, e2, if_neg one0, g2, if_pos rfl]; rfl
      rw [hc, hm]
      exact Bo.thr hr (.tail _ (.head _))
  · refine ⟨⟨in01 _ _ _ _, fun _ => trivial, fun z => absurd (e2 _) z⟩, ?_⟩
    rw [v_B_layover, e1, v_M_layover, e2, if_pos rfl]
    exact Bo.thr hr (.head _)
theorem relief_both {n : Nat} {h m : HP} (hr : RR n h m) (a : Int32) : p_B_relief h a ∧ p_M_relief m a ∧ Bo [(xI, 1)] h (v_B_relief h a) (v_M_relief m a) := by
  obtain ⟨s1, s2, s3, s4, s5, s6, s7⟩ := RR_save (hr.th 0)
  refine ⟨fun _ => s1, ?_⟩
  rcases term_cases h a with ⟨t, ht, ea, e1, e2⟩ | ⟨e1, e2⟩
  · have hix : am_ix (4 + a) = 4 + t := by rw [ea, show (4 : Int32) + nI t = nI (4 + t) from nI_add 4 t, nI_ix (by omega)]
    have ham : am_in (4 + a) 163 := by rw [ea, show (4 : Int32) + nI t = nI (4 + t) from nI_add 4 t]; exact nI_am (by omega) (by omega)
    refine ⟨⟨in01 _ _ _ _, fun _ => trivial, fun _ => ⟨s2, fun y _ => ⟨ham, ham, ham⟩⟩⟩, ?_⟩
    have hc : v_B_relief h a = .inr (1 - (v_at 4 ((v_B_save h).1 10) a), v_put 4 (v_B_save h) 10 a (1 - (v_at 4 ((v_B_save h).1 10) a))) := by
      rw [v_B_relief, e1]; rfl
    have hm : v_M_relief m a = (1 - (v_M_saves (am_si m 0 8 0)).1 1 (4 + t), am_si (v_M_saves (am_si m 0 8 0)) 1 (4 + t) (1 - (v_M_saves (am_si m 0 8 0)).1 1 (4 + t))) := by
      rw [v_M_relief, e2, if_neg one0, hix]
      show ((am_si (v_M_saves (am_si m 0 8 0)) 1 (4 + t) _).1 1 (4 + t), _) = _
      rw [am_si1, if_pos ⟨rfl, rfl⟩]
    have hb := s3.2.1.rel ht
    obtain ⟨v, hv, ev⟩ : ∃ v, v ≤ 1 ∧ (v_M_saves (am_si m 0 8 0)).1 1 (4 + t) = nI v := ⟨_, hb.2, hb.1⟩
    have e3 : (v_B_save h).1 10 t = nI v := (s3.1.rel ht).trans ev
    have e4 : (1 : Int32) - nI v = nI (1 - v) := nI_sub (a := 1) hv
    rw [hc, hm, ea, at_nI (by omega) _ ht, e3, ev, e4, put_nI (by omega) _ _ ht]
    refine ⟨?_, rfl, n, ?_⟩
    · show (am_si _ 1 _ _).1 0 8 = 0
      rw [am_si_ne (by omega), s6, th8]
    · exact s3.up (by omega) (by omega) (fun k _ => ⟨by omega, by omega, by omega, by omega, by omega, by omega, by omega, by omega, by omega⟩) (fun k _ => ⟨by omega, by omega, by omega⟩) (s3.2.1.low (by omega) (by omega) (by omega))
  · refine ⟨⟨in01 _ _ _ _, fun _ => trivial, fun z => absurd (e2 _) z⟩, ?_⟩
    rw [v_B_relief, e1, v_M_relief, e2, if_pos rfl]
    exact Bo.thr hr (.head _)
theorem setting_both {n : Nat} {h m : HP} (hr : RR n h m) (a : Int32) : p_M_setting m a ∧ Bo [(xI, 1)] h ((v_B_setting h a).map id (fun q => (q, h))) (v_M_setting m a) := by
  rcases sett_cases h a with ⟨t, ht, ea, e1, e2⟩ | ⟨e1, e2⟩
  · have hix : am_ix (8 + a) = 8 + t := by rw [ea, show (8 : Int32) + nI t = nI (8 + t) from nI_add 8 t, nI_ix (by omega)]
    have ham : am_in (8 + a) 163 := by rw [ea, show (8 : Int32) + nI t = nI (8 + t) from nI_add 8 t]; exact nI_am (by omega) (by omega)
    refine ⟨⟨fun _ => trivial, fun _ => ham⟩, ?_⟩
    rw [v_B_setting, e1, v_M_setting, e2, if_neg one0, hix]
    refine ⟨th8 m 0, ?_, n, hr.th 0⟩
    show (am_si m 0 8 0).1 1 (8 + t) = v_at 4 (h.1 11) a
    rw [am_si_ne (by omega), ea, at_nI (by omega) _ ht]
    exact (hr.1.se ht).symm
  · refine ⟨⟨fun _ => trivial, fun z => absurd (e2 _) z⟩, ?_⟩
    rw [v_B_setting, e1, v_M_setting, e2, if_pos rfl]
    exact Bo.thr hr (.head _)
theorem set_both {n : Nat} {h m : HP} (hr : RR n h m) (a b : Int32) : p_B_set h a b ∧ p_M_set m a b ∧ Bo [(xI, 1), (xA, 2)] h (v_B_set h a b) (v_M_set m a b) := by
  obtain ⟨s1, s2, s3, s4, s5, s6, s7⟩ := RR_save (hr.th 0)
  refine ⟨fun _ _ => s1, ?_⟩
  rcases sett_cases h a with ⟨t, ht, ea, e1, e2⟩ | ⟨e1, e2⟩
  · have hix : am_ix (8 + a) = 8 + t := by rw [ea, show (8 : Int32) + nI t = nI (8 + t) from nI_add 8 t, nI_ix (by omega)]
    have ham : am_in (8 + a) 163 := by rw [ea, show (8 : Int32) + nI t = nI (8 + t) from nI_add 8 t]; exact nI_am (by omega) (by omega)
    refine ⟨⟨fun _ => trivial, fun _ => ⟨fun _ => trivial, fun _ => ⟨s2, fun y _ => ⟨ham, ham⟩⟩⟩⟩, ?_⟩
    obtain ⟨lo, hi, l1, l2, l3, l4, l5, l6⟩ : ∃ lo hi, lo ≤ hi ∧ hi ≤ 900 ∧ v_at 4 (h.1 1002) a = nI lo ∧ v_at 4 (h.1 1003) a = nI hi ∧ (∀ m, (if a = 1 then (60 : Int32) else 0) = nI lo ∧ v_M_mostOf m a = nI hi) ∧ ((t = 0 → hi ≤ 1) ∧ (t = 2 → hi ≤ 9) ∧ (t = 3 → hi ≤ 240)) := by
      obtain ⟨⟨z0, z1, z2, z3⟩, y0, y1, y2, y3⟩ := hr.2.2.2.2.2
      rw [ea, at_nI (by omega) _ ht, at_nI (by omega) _ ht]
      match t, ht with
      | 0, _ => exact ⟨0, 1, by omega, by omega, z0, y0, fun m => ⟨rfl, rfl⟩, by omega⟩
      | 1, _ => exact ⟨60, 900, by omega, by omega, z1, y1, fun m => ⟨rfl, rfl⟩, by omega⟩
      | 2, _ => exact ⟨0, 9, by omega, by omega, z2, y2, fun m => ⟨rfl, rfl⟩, by omega⟩
      | 3, _ => exact ⟨0, 240, by omega, by omega, z3, y3, fun m => ⟨rfl, rfl⟩, by omega⟩
      | t + 4, z => omega
    rcases rng_cases (lo := lo) (hi := hi) (by omega) l1 h b with ⟨v, _, hv, eb, f1, f2⟩ | ⟨f1, f2⟩
    · have hc : v_B_set h a b = .inr (v_at 4 ((v_B_save h).1 11) a, v_put 4 (v_B_save h) 11 a b) := by
        rw [v_B_set, e1]
        show (match v_B_checkRange h b (v_at 4 (h.1 1002) a) (v_at 4 (h.1 1003) a) with | some E => _ | none => _) = _
        rw [l3, l4, f1]; rfl
      have hm : v_M_set m a b = ((v_M_saves (am_si m 0 8 0)).1 1 (8 + t), am_si (v_M_saves (am_si m 0 8 0)) 1 (8 + t) b) := by
        rw [v_M_set, e2, if_neg one0, (l5 m).1, (l5 _).2, f2, if_neg one0, hix]; rfl
      rw [hc, hm, ea, put_nI (by omega) _ _ ht, at_nI (by omega) _ ht, eb]
      refine ⟨?_, ?_, n, ?_⟩
      · show (am_si _ 1 _ _).1 0 8 = 0
        rw [am_si_ne (by omega), s6, th8]
      · exact (s3.1.se ht).symm
      · exact s3.up (by omega) (by omega) (fun k _ => ⟨by omega, by omega, by omega, by omega, by omega, by omega, by omega, by omega, by omega⟩) (fun k _ => ⟨by omega, by omega, by omega⟩) (s3.2.1.low (by omega) (by omega) (by omega))
    · have hc : v_B_set h a b = .inl xA := by
        rw [v_B_set, e1]
        show (match v_B_checkRange h b (v_at 4 (h.1 1002) a) (v_at 4 (h.1 1003) a) with | some E => _ | none => _) = _
        rw [l3, l4, f1]
      have hm : v_M_set m a b = (0, am_si (am_si m 0 8 0) 0 8 2) := by
        rw [v_M_set, e2, if_neg one0, (l5 m).1, (l5 _).2, f2, if_pos rfl]; rfl
      rw [hc, hm]
      exact Bo.thr hr (.tail _ (.head _))
  · refine ⟨⟨fun _ => trivial, fun z => absurd (e2 _) z⟩, ?_⟩
    rw [v_B_set, e1, v_M_set, e2, if_pos rfl]
    exact Bo.thr hr (.head _)
