/-! PURE: texts: the pure automaton, and the class's reading by it. -/
theorem si_si (h : HP) (c k : Nat) (x y : Int32) : am_si (am_si h c k x) c k y = am_si h c k y := by
  refine Prod.ext ?_ rfl
  funext c' k'
  rw [am_si1, am_si1, am_si1]
  split
  · rfl
  · rfl
theorem nI_lti {a b : Nat} (ha : a < 2 ^ 31) (hb : b < 2 ^ 31) : nI a < nI b ↔ a < b := by
  rw [Int32.lt_iff_toInt_lt, nI_toInt ha, nI_toInt hb]; omega
/-- an option at a place -/
def st (f : Nat → Option Nat) (p v : Nat) : Nat → Option Nat := fun j => if j = p then some v else f j
def f0 : Nat → Option Nat := fun _ => none
def mo (p : Nat) : Nat := if p = 5 then 240 else 1439
/-- reading a sign -/
def xt (p : Nat) (f : Nat → Option Nat) (c : Nat) : Option (Nat × (Nat → Option Nat)) :=
  if p < 3 then (if 48 ≤ c ∧ c ≤ 51 then some (p + 1, st f p (c - 48)) else none)
  else if p = 3 then (if c = 64 then some (4, f) else none)
  else if 48 ≤ c ∧ c ≤ 57 then (match f p with
    | none => if p = 5 ∧ c = 48 then none else some (p, st f p (c - 48))
    | some v => if v = 0 ∨ mo p < 10 * v + (c - 48) then none else some (p, st f p (10 * v + (c - 48))))
  else (match f p with
    | none => none
    | some _ => if p = 4 then (if c = 43 then some (5, f) else none) else (if c = 59 then some (0, f0) else none))
def XO (p : Nat) (f : Nat → Option Nat) : Prop := p ≤ 5 ∧ ∀ j v, f j = some v → v ≤ 1439
theorem XO.z : XO 0 f0 := ⟨by omega, fun _ _ z => nomatch z⟩
theorem XO.sto {p q : Nat} {f : Nat → Option Nat} (h : XO p f) {v : Nat} (hv : v ≤ 1439) (hq : q ≤ 5) : XO q (st f p v) := by
  refine ⟨hq, fun j w e => ?_⟩
  unfold st at e
  split at e
  · cases e; exact hv
  · exact h.2 j w e
/-- the class shows a reading -/
def CX (h : HP) (p : Nat) (f : Nat → Option Nat) : Prop := h.1 18 3 = nI p ∧ ∀ j, j < 6 → h.1 20 j = eo (f j)
theorem CX.put {h : HP} {p q v : Nat} {f : Nat → Option Nat} (hc : CX h p f) (hp : p < 6) : CX (am_si (am_si h 20 p (nI v)) 18 3 (nI q)) q (st f p v) := by
  refine ⟨by rw [am_si1, if_pos ⟨rfl, rfl⟩], fun j hj => ?_⟩
  rw [am_si_ne (by omega), am_si1]
  unfold st
  by_cases e : j = p
  · rw [if_pos ⟨rfl, e⟩, if_pos e]; rfl
  · rw [if_neg (fun z => e z.2), if_neg e]; exact hc.2 j hj
theorem CX.put' {h : HP} {p v : Nat} {f : Nat → Option Nat} (hc : CX h p f) (hp : p < 6) : CX (am_si h 20 p (nI v)) p (st f p v) := by
  refine ⟨by rw [am_si_ne (by omega)]; exact hc.1, fun j hj => ?_⟩
  rw [am_si1]
  unfold st
  by_cases e : j = p
  · rw [if_pos ⟨rfl, e⟩, if_pos e]; rfl
  · rw [if_neg (fun z => e z.2), if_neg e]; exact hc.2 j hj
theorem CX.pl {h : HP} {p q : Nat} {f : Nat → Option Nat} (hc : CX h p f) : CX (am_si h 18 3 (nI q)) q f :=
  ⟨by rw [am_si1, if_pos ⟨rfl, rfl⟩], fun j hj => by rw [am_si_ne (by omega)]; exact hc.2 j hj⟩
theorem hK_pl (h : HP) (x : Int32) : hK h (am_si h 18 3 x) := ⟨fun c hc => am_si_ne (by omega), by rw [am_si1, if_neg (by omega)]⟩
theorem hK_20 (h : HP) (k : Nat) (x : Int32) : hK h (am_si h 20 k x) := ⟨fun c hc => am_si_ne (by omega), by rw [am_si_ne (by omega)]⟩
theorem cx_begin (h : HP) : CX (v_X_beginJourney h) 0 f0 ∧ hK h (v_X_beginJourney h) := by
  unfold v_X_beginJourney
  refine ⟨⟨by rw [am_si1, if_pos ⟨rfl, rfl⟩]; rfl, fun j hj => by rw [am_si_ne (by omega), fill_at hj]; rfl⟩, ?_⟩
  exact hK.tr (h' := v_fill 6 h 20 (-1)) ⟨fun c hc => fill_ne (by omega), by rw [fill_ne (by omega)]⟩ (hK_pl _ _)
theorem sub48 {c : Nat} (h : 48 ≤ c) : nI c - 48 = nI (c - 48) := nI_sub (b := 48) h
/-- what reading does, in the class -/
def Tk (h : HP) (w : Int32 × HP) (o : Option (Nat × (Nat → Option Nat))) : Prop :=
  hK h w.2 ∧ match o with
    | some y => w.1 = 1 ∧ CX w.2 y.1 y.2 ∧ XO y.1 y.2
    | none => w.1 = 0
theorem cx_name {h : HP} {p c : Nat} {f : Nat → Option Nat} (hc : CX h p f) (hx : XO p f) (hp : p < 3) (h126 : c ≤ 126) : Tk h (v_X_takesName h (nI c)) (if 48 ≤ c ∧ c ≤ 51 then some (p + 1, st f p (c - 48)) else none) := by
  unfold v_X_takesName
  rw [hc.1]
  by_cases h1 : c < 48
  · rw [if_pos (show nI c < 48 from (nI_lti (b := 48) (by omega) (by omega)).mpr h1), if_neg (by omega)]
    exact ⟨hK.rf, rfl⟩
  · rw [if_neg (show ¬ nI c < 48 from fun z => h1 ((nI_lti (b := 48) (by omega) (by omega)).mp z))]
    by_cases h2 : c ≤ 51
    · rw [if_pos (show nI c ≤ 51 from (nI_lei (b := 51) (by omega) (by omega)).mpr h2), if_pos ⟨by omega, h2⟩, sub48 (by omega), put_nI (by omega) _ _ (by omega), am_si_ne (by omega), hc.1, nI_1]
      exact ⟨(hK_20 _ _ _).tr (hK_pl _ _), rfl, hc.put (by omega), hx.sto (by omega) (by omega)⟩
    · rw [if_neg (show ¬ nI c ≤ 51 from fun z => h2 ((nI_lei (b := 51) (by omega) (by omega)).mp z)), if_neg (fun z => h2 z.2)]
      exact ⟨hK.rf, rfl⟩
theorem cx_digit {h : HP} {p d : Nat} {f : Nat → Option Nat} (hc : CX h p f) (hx : XO p f) (hp : 4 ≤ p) (hd : d ≤ 9) : Tk h (v_X_takesDigit h (nI d)) (match f p with
    | none => if p = 5 ∧ d = 0 then none else some (p, st f p d)
    | some v => if v = 0 ∨ mo p < 10 * v + d then none else some (p, st f p (10 * v + d))) := by
  have hp5 := hx.1
  have hv : v_at 6 (h.1 20) (nI p) = eo (f p) := by rw [at_nI (by omega) _ (by omega)]; exact hc.2 p (by omega)
  have hp5' : nI p = 5 ↔ p = 5 := nI_eq (b := 5) (by omega) (by omega)
  have hle : ((if nI p = 5 then (1 : Int32) else 0)) = nI (if p = 5 then 1 else 0) := by
    by_cases e : p = 5
    · rw [if_pos (hp5'.mpr e), if_pos e]; rfl
    · rw [if_neg (fun z => e (hp5'.mp z)), if_neg e]; rfl
  have hmo : ((if nI p = 5 then (240 : Int32) else 1439)) = nI (mo p) := by
    unfold mo
    by_cases e : p = 5
    · rw [if_pos (hp5'.mpr e), if_pos e]; rfl
    · rw [if_neg (fun z => e (hp5'.mp z)), if_neg e]; rfl
  have hmo2 : mo p ≤ 1439 := by unfold mo; split <;> omega
  have hmo3 : 9 ≤ mo p := by unfold mo; split <;> omega
  unfold v_X_takesDigit
  rw [hc.1, hv, hle, hmo]
  cases e : f p with
  | none =>
    rw [eo_none, if_neg (show ¬ (-1 : Int32) = 0 by decide), if_pos rfl]
    show Tk h _ (if p = 5 ∧ d = 0 then none else some (p, st f p d))
    by_cases h1 : p = 5 ∧ d = 0
    · rw [if_pos h1, if_pos ((nI_lti (by omega) (by split <;> omega)).mpr (by rw [if_pos h1.1]; omega))]
      exact ⟨hK.rf, rfl⟩
    · rw [if_neg h1, if_neg (fun z => by have := (nI_lti (by omega) (by split <;> omega)).mp z; split at this <;> omega), if_pos ((nI_lei (by omega) (by omega)).mpr (by omega)), put_nI (by omega) _ _ (by omega)]
      exact ⟨hK_20 _ _ _, rfl, hc.put' (by omega), hx.sto (by omega) hp5⟩
  | some v =>
    have hv2 := hx.2 p v e
    rw [eo_some]
    show Tk h _ (if v = 0 ∨ mo p < 10 * v + d then none else some (p, st f p (10 * v + d)))
    by_cases h0 : v = 0
    · rw [if_pos ((nI_z (by omega)).mpr h0), if_pos (.inl h0)]
      exact ⟨hK.rf, rfl⟩
    · rw [if_neg (fun z => h0 ((nI_z (by omega)).mp z)), if_neg (nI_m1 (by omega))]
      rw [show (10 : Int32) * nI v + nI d = nI (10 * v + d) from by rw [show (10 : Int32) = nI 10 from rfl, nI_mul, nI_add]]
      rw [if_neg (fun z => by have := (nI_lti (by omega) (by split <;> omega)).mp z; split at this <;> omega)]
      by_cases h1 : mo p < 10 * v + d
      · rw [if_neg (fun z => by have := (nI_lei (by omega) (by omega)).mp z; omega), if_pos (.inr h1)]
        exact ⟨hK.rf, rfl⟩
      · rw [if_pos ((nI_lei (by omega) (by omega)).mpr (by omega)), if_neg (by omega), put_nI (by omega) _ _ (by omega)]
        exact ⟨hK_20 _ _ _, rfl, hc.put' (by omega), hx.sto (by omega) hp5⟩
theorem cx_end {h : HP} {p c : Nat} {f : Nat → Option Nat} (hc : CX h p f) (hx : XO p f) (hp : 4 ≤ p) (h126 : c ≤ 126) : Tk h (v_X_takesEnd h (nI c)) (match f p with
    | none => none
    | some _ => if p = 4 then (if c = 43 then some (5, f) else none) else (if c = 59 then some (0, f0) else none)) := by
  have hp5 := hx.1
  have hv : v_at 6 (h.1 20) (nI p) = eo (f p) := by rw [at_nI (by omega) _ (by omega)]; exact hc.2 p (by omega)
  have e43 : nI c = 43 ↔ c = 43 := nI_eq (b := 43) (by omega) (by omega)
  have e59 : nI c = 59 ↔ c = 59 := nI_eq (b := 59) (by omega) (by omega)
  obtain ⟨b1, b2⟩ := cx_begin h
  unfold v_X_takesEnd
  rw [hc.1, hv]
  cases e : f p with
  | none =>
    rw [eo_none, if_pos rfl]
    exact ⟨hK.rf, rfl⟩
  | some v =>
    have hv2 := hx.2 p v e
    rw [eo_some, if_neg (nI_m1 (by omega))]
    show Tk h _ (if p = 4 then (if c = 43 then some (5, f) else none) else (if c = 59 then some (0, f0) else none))
    by_cases h4 : p = 4
    · rw [if_pos h4, if_pos (show nI p = 4 by rw [h4]; rfl)]
      by_cases h1 : c = 43
      · rw [if_pos h1, if_pos (e43.mpr h1)]
        exact ⟨hK_pl _ _, rfl, hc.pl (q := 5), by omega, hx.2⟩
      · rw [if_neg h1, if_neg (fun z => h1 (e43.mp z)), if_neg (show ¬ nI p = 5 by rw [h4]; decide)]
        exact ⟨hK.rf, rfl⟩
    · have h5 : p = 5 := by omega
      rw [if_neg h4, if_neg (show ¬ nI p = 4 by rw [h5]; decide), if_pos (show nI p = 5 by rw [h5]; rfl)]
      by_cases h1 : c = 59
      · rw [if_pos h1, if_pos (e59.mpr h1)]
        exact ⟨b2, rfl, b1, XO.z⟩
      · rw [if_neg h1, if_neg (fun z => h1 (e59.mp z))]
        exact ⟨hK.rf, rfl⟩
theorem Tk.b {h : HP} {w : Int32 × HP} {o : Option (Nat × (Nat → Option Nat))} (t : Tk h w o) : w.1 = 0 ∨ w.1 = 1 := by
  cases o with
  | none => exact .inl t.2
  | some y => exact .inr t.2.1
theorem cx_takes {h : HP} {p c : Nat} {f : Nat → Option Nat} (hc : CX h p f) (hx : XO p f) (h126 : c ≤ 126) : p_X_takes h (nI c) ∧ Tk h (v_X_takes h (nI c)) (xt p f c) := by
  have hp5 := hx.1
  have l3 : nI p < 3 ↔ p < 3 := nI_lti (b := 3) (by omega) (by omega)
  have q3 : nI p = 3 ↔ p = 3 := nI_eq (b := 3) (by omega) (by omega)
  have l48 : nI c < 48 ↔ c < 48 := nI_lti (b := 48) (by omega) (by omega)
  have l57 : nI c ≤ 57 ↔ c ≤ 57 := nI_lei (b := 57) (by omega) (by omega)
  refine ⟨?_, ?_⟩
  · unfold p_X_takes
    rw [hc.1]
    refine ⟨fun z y hy => by subst hy; exact (cx_name hc hx (l3.mp z) h126).b, fun z => ⟨fun _ => trivial, fun z3 => ?_⟩⟩
    have h3 : ¬ p < 3 := fun w => z (l3.mpr w)
    have h4 : ¬ p = 3 := fun w => z3 (q3.mpr w)
    refine ⟨fun _ y hy => by subst hy; exact (cx_end hc hx (by omega) h126).b, fun z1 => ⟨fun z2 y hy => ?_, fun _ y hy => by subst hy; exact (cx_end hc hx (by omega) h126).b⟩⟩
    have h5 : ¬ c < 48 := fun w => z1 (l48.mpr w)
    have h6 := l57.mp z2
    subst hy
    rw [sub48 (by omega)]
    exact (cx_digit hc hx (by omega) (by omega)).b
  · unfold v_X_takes xt
    rw [hc.1]
    by_cases h3 : p < 3
    · rw [if_pos (l3.mpr h3), if_pos h3]; exact cx_name hc hx h3 h126
    · rw [if_neg (fun z => h3 (l3.mp z)), if_neg h3]
      by_cases h4 : p = 3
      · rw [if_pos (q3.mpr h4), if_pos h4]
        have e64 : nI c = 64 ↔ c = 64 := nI_eq (b := 64) (by omega) (by omega)
        by_cases h1 : c = 64
        · rw [if_pos (e64.mpr h1), if_pos (e64.mpr h1), if_pos h1]
          exact ⟨hK_pl _ _, rfl, hc.pl (q := 4), by omega, hx.2⟩
        · rw [if_neg (fun z => h1 (e64.mp z)), if_neg (fun z => h1 (e64.mp z)), if_neg h1]
          exact ⟨hK_pl _ _, rfl⟩
      · rw [if_neg (fun z => h4 (q3.mp z)), if_neg h4]
        by_cases h1 : c < 48
        · rw [if_pos (l48.mpr h1), if_neg (by omega)]; exact cx_end hc hx (by omega) h126
        · rw [if_neg (fun z => h1 (l48.mp z))]
          by_cases h2 : c ≤ 57
          · rw [if_pos (l57.mpr h2), if_pos ⟨by omega, h2⟩, sub48 (by omega)]
            have := cx_digit hc hx (by omega) (d := c - 48) (by omega)
            have e0 : (p = 5 ∧ c - 48 = 0) ↔ (p = 5 ∧ c = 48) := by omega
            cases e : f p with
            | none =>
              rw [e] at this
              show Tk h _ (if p = 5 ∧ c = 48 then none else some (p, st f p (c - 48)))
              by_cases h7 : p = 5 ∧ c = 48
              · rw [if_pos h7]; rw [show (match (none : Option Nat) with | none => if p = 5 ∧ c - 48 = 0 then none else some (p, st f p (c - 48)) | some v => if v = 0 ∨ mo p < 10 * v + (c - 48) then none else some (p, st f p (10 * v + (c - 48)))) = none from if_pos (e0.mpr h7)] at this; exact this
              · rw [if_neg h7]; rw [show (match (none : Option Nat) with | none => if p = 5 ∧ c - 48 = 0 then none else some (p, st f p (c - 48)) | some v => if v = 0 ∨ mo p < 10 * v + (c - 48) then none else some (p, st f p (10 * v + (c - 48)))) = some (p, st f p (c - 48)) from if_neg (fun z => h7 (e0.mp z))] at this; exact this
            | some v => rw [e] at this; exact this
          · rw [if_neg (fun z => h2 (l57.mp z)), if_neg (fun z => h2 z.2)]; exact cx_end hc hx (by omega) h126
