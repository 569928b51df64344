/-! PURE: the whole state of the class, by lists: the timetable that is now, what is saved, the slots, the text. -/
abbrev TN : Type := (Nat → Int32) × Nat
abbrev Sta : Type := TN × List TN × (Option TN × Option TN) × List Nat
def TH (h : HP) (b : Nat) (t : TN) : Prop := RT h.1 b t.1 t.2 ∧ Inv t.1 t.2
def SvH (h : HP) (l : List TN) : Prop := ∃ o, l.length ≤ 6 ∧ o < 6 ∧ h.1 38 9 = nI l.length ∧ h.1 38 8 = nI o ∧ ∀ j t, l[j]? = some t → TH h (39 + 12 * ((o + j) % 6)) t
def SlH (h : HP) (b j : Nat) : Option TN → Prop
  | none => h.1 37 j = 0
  | some t => h.1 37 j = 1 ∧ TH h b t
def TxH (h : HP) (s : List Nat) : Prop := s.length ≤ 60 ∧ (∀ c ∈ s, 33 ≤ c ∧ c ≤ 126) ∧ TX h s.length (fun i => s.getD i 0)
def RS (h : HP) (S : Sta) : Prop := TH h 0 S.1 ∧ SvH h S.2.1 ∧ (SlH h 111 0 S.2.2.1.1 ∧ SlH h 123 1 S.2.2.1.2) ∧ TxH h S.2.2.2 ∧ RrZ h
/-- a state is saved -/
def psh (l : List TN) (x : TN) : List TN := if l.length = 6 then l.tail ++ [x] else l ++ [x]
theorem psh_len {l : List TN} (x : TN) (h : l.length ≤ 6) : (psh l x).length = (if l.length = 6 then 6 else l.length + 1) := by
  unfold psh
  split
  · rw [List.length_append, List.length_tail]; simp; omega
  · rw [List.length_append]; rfl
theorem psh_last {l : List TN} {x : TN} (h : l.length ≤ 6) : (psh l x)[if l.length = 6 then 5 else l.length]? = some x := by
  unfold psh
  split
  · rename_i e
    rw [List.getElem?_append_right (by rw [List.length_tail]; omega), List.length_tail, e]; rfl
  · rw [List.getElem?_append_right (Nat.le_refl _), Nat.sub_self]; rfl
theorem psh_old {l : List TN} {x t : TN} {j : Nat} (h : l.length ≤ 6) (hj : j < (if l.length = 6 then 5 else l.length)) (e : (psh l x)[j]? = some t) : l[if l.length = 6 then j + 1 else j]? = some t := by
  unfold psh at e
  by_cases e6 : l.length = 6
  · rw [if_pos e6] at e hj ⊢
    rw [List.getElem?_append_left (by rw [List.length_tail]; omega), List.getElem?_tail] at e
    exact e
  · rw [if_neg e6] at e hj ⊢
    rw [List.getElem?_append_left hj] at e
    exact e
theorem TH.congr {h h' : HP} {b : Nat} {t : TN} (a : TH h b t) (e : ∀ j, j < 12 → h'.1 (b + j) = h.1 (b + j)) : TH h' b t := ⟨a.1.congr e, a.2⟩
theorem TH.n20 {h : HP} {b : Nat} {t : TN} (a : TH h b t) : t.2 ≤ 20 := a.2.n20
theorem TH.agree {h : HP} {b : Nat} {t t' : TN} (a : TH h b t) (e2 : t'.2 = t.2) (e : ∀ i, i < 16 + 7 * t.2 → t'.1 i = t.1 i) : TH h b t' := by
  obtain ⟨T', n'⟩ := t'
  obtain ⟨T, n⟩ := t
  cases e2
  exact ⟨a.1.agree e, a.2.agree e⟩
theorem SlH.congr {h h' : HP} {b j : Nat} {o : Option TN} (a : SlH h b j o) (e1 : h'.1 37 j = h.1 37 j) (e : ∀ j, j < 12 → h'.1 (b + j) = h.1 (b + j)) : SlH h' b j o := by
  cases o with
  | none => exact e1.trans a
  | some t => exact ⟨e1.trans a.1, a.2.congr e⟩
theorem SvH.congr {h h' : HP} {l : List TN} (a : SvH h l) (e : ∀ c, 38 ≤ c → c < 111 → h'.1 c = h.1 c) : SvH h' l := by
  obtain ⟨o, k1, k2, k3, k4, k5⟩ := a
  exact ⟨o, k1, k2, by rw [e 38 (by omega) (by omega)]; exact k3, by rw [e 38 (by omega) (by omega)]; exact k4, fun j t hj => (k5 j t hj).congr (fun i hi => e _ (by omega) (by have := Nat.mod_lt (o + j) (show 0 < 6 by omega); omega))⟩
theorem TxH.congr {h h' : HP} {s : List Nat} (a : TxH h s) (e1 : h'.1 18 2 = h.1 18 2) (e2 : h'.1 19 = h.1 19) : TxH h' s := ⟨a.1, a.2.1, e1.trans a.2.2.1, fun i hi => by rw [e2]; exact a.2.2.2 i hi⟩
theorem RrZ.fr {h h' : HP} (hz : RrZ h) (a : h'.1 1002 = h.1 1002) (b : h'.1 1003 = h.1 1003) : RrZ h' := by unfold RrZ; rw [a, b]; exact hz
/-- a new timetable -/
theorem RS.put {h h' : HP} {S : Sta} {t : TN} (hs : RS h S) (a : hk h h') (hT : TH h' 0 t) : RS h' (t, S.2) := by
  obtain ⟨-, k2, ⟨k3, k4⟩, k5, k6⟩ := hs
  exact ⟨hT, k2.congr (fun c h1 _ => a.1 c (by omega)), ⟨k3.congr (by rw [a.1 37 (by omega)]) (fun i _ => a.1 _ (by omega)), k4.congr (by rw [a.1 37 (by omega)]) (fun i _ => a.1 _ (by omega))⟩, k5.congr a.2 (a.1 19 (by omega)), k6.fr (a.1 1002 (by omega)) (a.1 1003 (by omega))⟩
theorem RS.look {h h' : HP} {S : Sta} (hs : RS h S) (a : hK h h') : RS h' S := hs.put a.k (hs.1.congr (fun j hj => a.1 _ (by omega)))
/-- only the class's cells matter -/
theorem RS.ext {h h' : HP} {S : Sta} (hs : RS h S) (a : ∀ c, c < 135 → h'.1 c = h.1 c) (z : RrZ h') : RS h' S := by
  obtain ⟨k1, k2, ⟨k3, k4⟩, k5, -⟩ := hs
  exact ⟨k1.congr (fun j hj => a _ (by omega)), k2.congr (fun c _ h1 => a c (by omega)), ⟨k3.congr (by rw [a 37 (by omega)]) (fun i _ => a _ (by omega)), k4.congr (by rw [a 37 (by omega)]) (fun i _ => a _ (by omega))⟩, k5.congr (by rw [a 18 (by omega)]) (a 19 (by omega)), z⟩
theorem RS.agree {h : HP} {S : Sta} {t : TN} (hs : RS h S) (e2 : t.2 = S.1.2) (e : ∀ i, i < 16 + 7 * S.1.2 → t.1 i = S.1.1 i) : RS h (t, S.2) := ⟨hs.1.agree e2 e, hs.2⟩
theorem RS.save {h : HP} {S : Sta} (hs : RS h S) : p_B_save h ∧ RS (v_B_save h) (S.1, psh S.2.1 S.1, S.2.2) ∧ (∀ c, c < 33 → (v_B_save h).1 c = h.1 c) := by
  obtain ⟨k1, ⟨o, q1, q2, q3, q4, q5⟩, ⟨k3, k4⟩, k5, k6⟩ := hs
  obtain ⟨a1, s', o', e1, e2, b1, b2, b3, b4⟩ := cc_save q1 q2 q3 q4
  have hlow : ∀ c, c < 33 → (v_B_save h).1 c = h.1 c := fun c hc => b3 c (by omega) (by omega)
  have hm := Nat.mod_lt (o' + s' - 1) (show 0 < 6 by omega)
  have hl := psh_len (l := S.2.1) S.1 q1
  have hs6 : s' ≤ 6 := by rw [e1]; split <;> omega
  have h1s : 1 ≤ s' := by rw [e1]; split <;> omega
  refine ⟨a1, ⟨k1.congr (fun j hj => hlow _ (by omega)), ⟨o', by show (psh _ _).length ≤ 6; rw [hl]; split <;> omega, ?_, by show _ = nI (psh _ _).length; rw [hl, ← e1]; exact b1, b2, fun j t hj => ?_⟩, ⟨k3.congr (by rw [b3 37 (by omega) (by omega)]) (fun i hi => b3 _ (by omega) (by omega)), k4.congr (by rw [b3 37 (by omega) (by omega)]) (fun i hi => b3 _ (by omega) (by omega))⟩, k5.congr (by rw [hlow 18 (by omega)]) (hlow 19 (by omega)), k6.fr (b3 1002 (by omega) (by omega)) (b3 1003 (by omega) (by omega))⟩, hlow⟩
  · rw [e2]; split
    · exact Nat.mod_lt _ (by omega)
    · exact q2
  · have hj' : (psh S.2.1 S.1)[j]? = some t := hj
    have hjl := (List.getElem?_eq_some_iff.mp hj').1
    rw [hl, ← e1] at hjl
    have hs5 : s' - 1 = (if S.2.1.length = 6 then 5 else S.2.1.length) := by rw [e1]; split <;> omega
    by_cases hlast : j = s' - 1
    · have hp : (o' + j) % 6 = (o' + s' - 1) % 6 := by congr 1; omega
      rw [hp]
      have ht : t = S.1 := by
        rw [hlast, hs5, psh_last q1] at hj'
        exact (Option.some.inj hj').symm
      rw [ht]
      exact ⟨b4 _ _ k1.1 k1.n20, k1.2⟩
    · have hne : (o' + j) % 6 ≠ (o' + s' - 1) % 6 := by omega
      have ho := psh_old q1 (by rw [← hs5]; omega) hj'
      have hx := q5 _ _ ho
      have hpl : (o + (if S.2.1.length = 6 then j + 1 else j)) % 6 = (o' + j) % 6 := by
        by_cases e : S.2.1.length = 6
        · rw [if_pos e] at e2 ⊢; rw [e2]; omega
        · rw [if_neg e] at e2 ⊢; rw [e2]
      rw [hpl] at hx
      exact hx.congr (fun i hi => b3 _ (by omega) (by omega))
/-! arguments in their ranges -/
def ixN (a : Int32) (N : Nat) : Option Nat := if 0 ≤ a.toInt ∧ a.toInt < N then some a.toNatClampNeg else none
def rnN (a : Int32) (lo hi : Nat) : Option Nat := if (lo : Int) ≤ a.toInt ∧ a.toInt ≤ hi then some a.toNatClampNeg else none
theorem ixN_nI {t N : Nat} (h : t < N) (hN : N < 1000000) : ixN (nI t) N = some t := by
  unfold ixN
  rw [nI_toInt (by omega), if_pos (by omega), nI_clamp (by omega)]
theorem rnN_nI {t lo hi : Nat} (h1 : lo ≤ t) (h2 : t ≤ hi) (hN : hi < 1000000) : rnN (nI t) lo hi = some t := by
  unfold rnN
  rw [nI_toInt (by omega), if_pos (by omega), nI_clamp (by omega)]
theorem ix_ran {N : Nat} (hN : N < 1000000) (a : Int32) : (∃ t, t < N ∧ a = nI t ∧ ¬ a < 0 ∧ a < nI N ∧ ixN a N = some t) ∨ ((a < 0 ∨ ¬ a < nI N) ∧ ixN a N = none) := by
  have e0 : (0 : Int32).toInt = 0 := by decide +kernel
  by_cases h1 : a < 0
  · have h1' := Int32.lt_iff_toInt_lt.mp h1
    exact .inr ⟨.inl h1, if_neg (by omega)⟩
  · have h1' : ¬ a.toInt < 0 := fun z => h1 (Int32.lt_iff_toInt_lt.mpr z)
    by_cases h2 : a < nI N
    · have h2' := Int32.lt_iff_toInt_lt.mp h2
      rw [nI_toInt (by omega)] at h2'
      have ea : a = nI a.toInt.toNat := Int32.toInt_inj.mp (by rw [nI_toInt (by omega)]; omega)
      refine .inl ⟨a.toInt.toNat, by omega, ea, h1, h2, ?_⟩
      have := ixN_nI (t := a.toInt.toNat) (N := N) (by omega) hN
      rw [← ea] at this
      exact this
    · have h2' : ¬ a.toInt < (nI N).toInt := fun z => h2 (Int32.lt_iff_toInt_lt.mpr z)
      rw [nI_toInt (by omega)] at h2'
      exact .inr ⟨.inr h2, if_neg (by omega)⟩
theorem rng_c {lo hi : Nat} (hN : hi < 1000000) (hl : lo ≤ hi) (h : HP) (a : Int32) : (∃ t, lo ≤ t ∧ t ≤ hi ∧ a = nI t ∧ v_B_checkRange h a (nI lo) (nI hi) = none ∧ rnN a lo hi = some t) ∨ (v_B_checkRange h a (nI lo) (nI hi) = some xA ∧ rnN a lo hi = none) := by
  by_cases h1 : a < nI lo
  · have h1' := Int32.lt_iff_toInt_lt.mp h1
    rw [nI_toInt (by omega)] at h1'
    exact .inr ⟨by rw [v_B_checkRange, if_pos h1]; rfl, if_neg (by omega)⟩
  · have h1' : ¬ a.toInt < (nI lo).toInt := fun z => h1 (Int32.lt_iff_toInt_lt.mpr z)
    rw [nI_toInt (by omega)] at h1'
    by_cases h2 : a ≤ nI hi
    · have h2' := Int32.le_iff_toInt_le.mp h2
      rw [nI_toInt (by omega)] at h2'
      have ea : a = nI a.toInt.toNat := Int32.toInt_inj.mp (by rw [nI_toInt (by omega)]; omega)
      refine .inl ⟨a.toInt.toNat, by omega, by omega, ea, by rw [v_B_checkRange, if_neg h1, if_pos h2], ?_⟩
      have := rnN_nI (t := a.toInt.toNat) (lo := lo) (hi := hi) (by omega) (by omega) hN
      rw [← ea] at this
      exact this
    · have h2' : ¬ a.toInt ≤ (nI hi).toInt := fun z => h2 (Int32.le_iff_toInt_le.mpr z)
      rw [nI_toInt (by omega)] at h2'
      exact .inr ⟨by rw [v_B_checkRange, if_neg h1, if_neg h2]; rfl, if_neg (by omega)⟩
theorem term_c (h : HP) (a : Int32) : (∃ t, t < 4 ∧ a = nI t ∧ v_B_checkTerminal h a = none ∧ ixN a 4 = some t) ∨ (v_B_checkTerminal h a = some xI ∧ ixN a 4 = none) := by
  rcases ix_ran (N := 4) (by omega) a with ⟨t, h1, h2, h3, h4, h5⟩ | ⟨h1, h5⟩
  · exact .inl ⟨t, h1, h2, by unfold v_B_checkTerminal; rw [if_neg h3]; exact if_pos h4, h5⟩
  · refine .inr ⟨?_, h5⟩
    unfold v_B_checkTerminal
    rcases h1 with h1 | h1
    · rw [if_pos h1]; rfl
    · by_cases h2 : a < 0
      · rw [if_pos h2]; rfl
      · rw [if_neg h2]; exact if_neg h1
theorem sett_c (h : HP) (a : Int32) : (∃ t, t < 4 ∧ a = nI t ∧ v_B_checkSetting h a = none ∧ ixN a 4 = some t) ∨ (v_B_checkSetting h a = some xI ∧ ixN a 4 = none) := by
  rcases ix_ran (N := 4) (by omega) a with ⟨t, h1, h2, h3, h4, h5⟩ | ⟨h1, h5⟩
  · exact .inl ⟨t, h1, h2, by unfold v_B_checkSetting; rw [if_neg h3]; exact if_pos h4, h5⟩
  · refine .inr ⟨?_, h5⟩
    unfold v_B_checkSetting
    rcases h1 with h1 | h1
    · rw [if_pos h1]; rfl
    · by_cases h2 : a < 0
      · rw [if_pos h2]; rfl
      · rw [if_neg h2]; exact if_neg h1
theorem trip_c {n : Nat} {h : HP} {T : Nat → Int32} (hR : RT h.1 0 T n) (hI : Inv T n) (a : Int32) : (∃ t, t < n ∧ a = nI t ∧ v_B_checkTrip h a = none ∧ ixN a n = some t) ∨ (v_B_checkTrip h a = some xI ∧ ixN a n = none) := by
  have h20 := hI.n20
  have h11 : h.1 0 11 = nI n := hR.nn
  rcases ix_ran (N := n) (by omega) a with ⟨t, h1, h2, h3, h4, h5⟩ | ⟨h1, h5⟩
  · exact .inl ⟨t, h1, h2, by unfold v_B_checkTrip; rw [if_neg h3, h11]; exact if_pos h4, h5⟩
  · refine .inr ⟨?_, h5⟩
    unfold v_B_checkTrip
    rw [h11]
    rcases h1 with h1 | h1
    · rw [if_pos h1]; rfl
    · by_cases h2 : a < 0
      · rw [if_pos h2]; rfl
      · rw [if_neg h2]; exact if_neg h1
/-- five arguments of a trip -/
def told (a b c d e : Int32) : Bool := (rnN a 0 3).isSome && ((rnN b 0 3).isSome && ((rnN c 0 3).isSome && ((rnN d 0 1439).isSome && (rnN e 1 240).isSome)))
theorem told_c (h : HP) (a b c d e : Int32) : (∃ r f t p l, r ≤ 3 ∧ f ≤ 3 ∧ t ≤ 3 ∧ p ≤ 1439 ∧ 1 ≤ l ∧ l ≤ 240 ∧ a = nI r ∧ b = nI f ∧ c = nI t ∧ d = nI p ∧ e = nI l ∧ v_B_checkJourney h a b c d e = none ∧ told a b c d e = true) ∨ (v_B_checkJourney h a b c d e = some xA ∧ told a b c d e = false) := by
  unfold v_B_checkJourney told
  rcases rng_c (lo := 0) (hi := 3) (by omega) (by omega) h a with ⟨r, _, r2, r3, r4, r5⟩ | ⟨r4, r5⟩
  · rw [show v_B_checkRange h a 0 3 = none from r4, r5]
    rcases rng_c (lo := 0) (hi := 3) (by omega) (by omega) h b with ⟨f, _, f2, f3, f4, f5⟩ | ⟨f4, f5⟩
    · rw [show v_B_checkRange h b 0 3 = none from f4, f5]
      rcases rng_c (lo := 0) (hi := 3) (by omega) (by omega) h c with ⟨t, _, t2, t3, t4, t5⟩ | ⟨t4, t5⟩
      · rw [show v_B_checkRange h c 0 3 = none from t4, t5]
        rcases rng_c (lo := 0) (hi := 1439) (by omega) (by omega) h d with ⟨p, _, p2, p3, p4, p5⟩ | ⟨p4, p5⟩
        · rw [show v_B_checkRange h d 0 1439 = none from p4, p5]
          rcases rng_c (lo := 1) (hi := 240) (by omega) (by omega) h e with ⟨l, l1, l2, l3, l4, l5⟩ | ⟨l4, l5⟩
          · rw [show v_B_checkRange h e 1 240 = none from l4, l5]
            exact .inl ⟨r, f, t, p, l, r2, f2, t2, p2, l1, l2, r3, f3, t3, p3, l3, rfl, rfl⟩
          · rw [show v_B_checkRange h e 1 240 = some xA from l4, l5]
            exact .inr ⟨rfl, rfl⟩
        · rw [show v_B_checkRange h d 0 1439 = some xA from p4, p5]
          exact .inr ⟨rfl, rfl⟩
      · rw [show v_B_checkRange h c 0 3 = some xA from t4, t5]
        exact .inr ⟨rfl, rfl⟩
    · rw [show v_B_checkRange h b 0 3 = some xA from f4, f5]
      exact .inr ⟨rfl, rfl⟩
  · rw [show v_B_checkRange h a 0 3 = some xA from r4, r5]
    exact .inr ⟨rfl, rfl⟩
/-- what a call comes to: the class's answer and the state's -/
abbrev Rsl : Type := String ⊕ (Int32 × Sta)
def Co (c : String ⊕ (Int32 × HP)) (r : Rsl) : Prop := match c, r with
  | .inl E, .inl E' => E = E'
  | .inr q, .inr w => q.1 = w.1 ∧ RS q.2 w.2
  | _, _ => False
def sav (S : Sta) (t : TN) : Sta := (t, psh S.2.1 S.1, S.2.2)
theorem RS.nn {h : HP} {S : Sta} (hs : RS h S) : h.1 0 11 = nI S.1.2 := hs.1.1.nn
/-- saved, then a new timetable -/
theorem RS.sav {h h' : HP} {S : Sta} {t : TN} (hs : RS h S) (a : ∀ c, 12 ≤ c → h'.1 c = (v_B_save h).1 c) (hT : TH h' 0 t) : RS h' (sav S t) :=
  hs.save.2.1.put ⟨fun c hc => a c (by omega), by rw [a 18 (by omega)]⟩ hT
theorem RS.savT {h : HP} {S : Sta} (hs : RS h S) : RT (v_B_save h).1 0 S.1.1 S.1.2 := hs.save.2.1.1.1
/-- one number of the class, one of the row -/
theorem TH.up {h : HP} {t : TN} {c j i : Nat} {x : Int32} (hT : TH h 0 t)
    (a : ¬ (0 = c ∧ 11 = j) ∧ ((0 = c ∧ 12 = j) ↔ 12 = i) ∧ ((0 = c ∧ 13 = j) ↔ 13 = i) ∧ ((0 = c ∧ 14 = j) ↔ 14 = i))
    (b : ∀ k, k < t.2 → ((1 = c ∧ k = j) ↔ 16 + 7 * k + 0 = i) ∧ ((2 = c ∧ k = j) ↔ 16 + 7 * k + 1 = i) ∧ ((3 = c ∧ k = j) ↔ 16 + 7 * k + 2 = i) ∧ ((4 = c ∧ k = j) ↔ 16 + 7 * k + 3 = i) ∧ ((5 = c ∧ k = j) ↔ 16 + 7 * k + 4 = i) ∧ 6 ≠ c ∧ 7 ≠ c ∧ 16 + 7 * k + 6 ≠ i ∧ ((8 = c ∧ k = j) ↔ 16 + 7 * k + 5 = i))
    (d : ∀ q, q < 4 → ((9 = c ∧ q = j) ↔ q = i) ∧ ((10 = c ∧ q = j) ↔ 4 + q = i) ∧ ((11 = c ∧ q = j) ↔ 8 + q = i))
    (hI : Inv (upd t.1 i x) t.2) : TH (am_si h c j x) 0 (upd t.1 i x, t.2) := ⟨RT.up hT.1 a b d, hI⟩
