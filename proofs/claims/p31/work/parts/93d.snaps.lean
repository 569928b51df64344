/-! PURE: the class's methods by the state: snapshots, undo, the buffer. -/
def s_undo (S : Sta) : Rsl := match S.2.1.getLast? with
  | none => .inl xS
  | some t => .inr (nI (S.2.1.length - 1), (t, S.2.1.dropLast, S.2.2))
def s_append (S : Sta) (a : Int32) : Rsl := match rnN a 33 126 with
  | none => .inl xA
  | some c => if S.2.2.2.length < 60 then .inr (nI (S.2.2.2.length + 1), (S.1, S.2.1, S.2.2.1, S.2.2.2 ++ [c])) else .inl xS
def s_clear (S : Sta) : Int32 × Sta := (nI S.2.2.2.length, (S.1, S.2.1, S.2.2.1, []))
def slot (S : Sta) (p : Nat) : Option TN := if p = 0 then S.2.2.1.1 else S.2.2.1.2
def slotP (S : Sta) (p : Nat) : Option TN × Option TN := if p = 0 then (some S.1, S.2.2.1.2) else (S.2.2.1.1, some S.1)
def s_keep (S : Sta) (a : Int32) : Rsl := match rnN a 0 1 with
  | none => .inl xA
  | some p => .inr (nI S.1.2, (S.1, S.2.1, slotP S p, S.2.2.2))
def s_goBack (S : Sta) (a : Int32) : Rsl := match rnN a 0 1 with
  | none => .inl xA
  | some p => match slot S p with
    | none => .inl xS
    | some t => .inr (nI t.2, sav S t)
section SNP
variable {h : HP} {S : Sta}
theorem undo_s (hs : RS h S) : p_B_undo h ∧ Co (v_B_undo h) (s_undo S) := by
  obtain ⟨k1, ⟨o, q1, q2, q3, q4, q5⟩, ⟨k3, k4⟩, k5, k6⟩ := hs
  unfold s_undo
  cases el : S.2.1.getLast? with
  | none =>
    have e0 : S.2.1 = [] := List.getLast?_eq_none_iff.mp el
    have hc : h.1 38 9 ≤ 0 := by rw [q3, e0]; decide +kernel
    refine ⟨⟨fun _ => trivial, fun z => absurd hc z⟩, ?_⟩
    rw [v_B_undo, if_pos hc]
    rfl
  | some t =>
    obtain ⟨s, hs⟩ : ∃ s, S.2.1.length = s + 1 := by
      cases e : S.2.1 with
      | nil => rw [e] at el; cases el
      | cons a r => exact ⟨r.length, rfl⟩
    have et : S.2.1[s]? = some t := by rw [List.getLast?_eq_getElem?, hs] at el; exact el
    rw [hs] at q3 q1
    have hc : ¬ h.1 38 9 ≤ 0 := by
      rw [q3]; intro z
      have := Int32.le_iff_toInt_le.mp z
      rw [nI_toInt (by omega)] at this
      have e2 : (0 : Int32).toInt = 0 := by decide +kernel
      omega
    have e1 : h.1 38 9 - 1 = nI s := by rw [q3, nI_pred]
    have e2 : h.1 38 8 + (h.1 38 9 - 1) - (h.1 38 8 + (h.1 38 9 - 1)) / 6 * 6 = nI ((o + s) % 6) := by rw [e1, q4, nI_add, mod6 (by omega)]
    have hp : (o + s) % 6 < 6 := Nat.mod_lt _ (by omega)
    obtain ⟨f1, f2⟩ := fe33 hp (am_si h 38 9 (nI s))
    have hq := (cq39 hp).2
    refine ⟨⟨fun _ => trivial, fun _ => by rw [e2, e1]; exact f2⟩, ?_⟩
    let H := v_copyFrom (am_si h 38 9 (nI s)) 0 (39 + 12 * ((o + s) % 6))
    have hH : ∀ c, 12 ≤ c → c ≠ 38 → H.1 c = h.1 c := fun c h1 h2 => by
      show (v_copyFrom _ _ _).1 c = _
      rw [copy_rest hq _ (by omega)]; exact am_si_ne h2
    have hH9 : H.1 38 9 = nI s := by
      show (v_copyFrom _ _ _).1 38 9 = _
      rw [copy_rest hq _ (by omega), am_si1, if_pos ⟨rfl, rfl⟩]
    have hH8 : H.1 38 8 = nI o := by
      show (v_copyFrom _ _ _).1 38 8 = _
      rw [copy_rest hq _ (by omega), am_si1, if_neg (by omega)]; exact q4
    have r := q5 s t et
    have hn' := r.n20
    have hcv : v_B_undo h = .inr (nI s, H) := by
      rw [v_B_undo, if_neg hc, e2, e1, f1]
      show Sum.inr (H.1 38 9, H) = _
      rw [hH9]
    rw [hcv, hs]
    refine ⟨rfl, ⟨copy_RT hq (r.1.congr (fun j hj => am_si_ne (by omega))) hn', r.2⟩, ⟨o, ?_, q2, ?_, hH8, fun j t' hj => ?_⟩, ⟨k3.congr (by rw [hH 37 (by omega) (by omega)]) (fun i _ => hH _ (by omega) (by omega)), k4.congr (by rw [hH 37 (by omega) (by omega)]) (fun i _ => hH _ (by omega) (by omega))⟩, k5.congr (by rw [hH 18 (by omega) (by omega)]) (hH 19 (by omega) (by omega)), k6.fr (hH 1002 (by omega) (by omega)) (hH 1003 (by omega) (by omega))⟩
    · show S.2.1.dropLast.length ≤ 6
      rw [List.length_dropLast, hs]; omega
    · show H.1 38 9 = nI S.2.1.dropLast.length
      rw [List.length_dropLast, hs]; exact hH9
    · have hj' : S.2.1.dropLast[j]? = some t' := hj
      have hjl := (List.getElem?_eq_some_iff.mp hj').1
      have e3 : S.2.1[j]? = some t' := by
        rw [List.getElem?_dropLast] at hj'
        split at hj'
        · exact hj'
        · cases hj'
      have hm := Nat.mod_lt (o + j) (show 0 < 6 by omega)
      exact (q5 j t' e3).congr (fun i hi => hH _ (by omega) (by omega))
theorem append_s (hs : RS h S) (a : Int32) : Co (v_B_append h a) (s_append S a) := by
  obtain ⟨k1, k2, ⟨k3, k4⟩, ⟨x1, x2, x3, x4⟩, k6⟩ := hs
  have x3 : h.1 18 2 = nI S.2.2.2.length := x3
  have x4 : ∀ i, i < S.2.2.2.length → h.1 19 i = nI (S.2.2.2.getD i 0) := x4
  unfold s_append
  rcases rng_c (lo := 33) (hi := 126) (by omega) (by omega) h a with ⟨v, hv1, hv2, ea, f1, f2⟩ | ⟨f1, f2⟩
  · have f1' : v_B_checkRange h a 33 126 = none := f1
    rw [f2]
    show Co _ (if S.2.2.2.length < 60 then _ else _)
    by_cases e : S.2.2.2.length < 60
    · have hlt : h.1 18 2 < 60 := by rw [x3]; exact nI_lt (b := 60) e (by omega)
      let H := am_si (am_si h 19 S.2.2.2.length a) 18 2 (nI (S.2.2.2.length + 1))
      have hcv : v_B_append h a = .inr (nI (S.2.2.2.length + 1), H) := by
        rw [v_B_append, f1']
        show (if h.1 18 2 < 60 then Sum.inr (v_X_addSign h a) else _) = _
        rw [if_pos hlt, v_X_addSign, x3, put_nI (by omega) _ _ e, am_si_ne (by omega), x3, nI_1]
      have hH : ∀ c, c ≠ 18 → c ≠ 19 → H.1 c = h.1 c := fun c h1 h2 => by
        show (am_si _ _ _ _).1 c = _
        rw [am_si_ne h1, am_si_ne h2]
      rw [hcv, if_pos e]
      refine ⟨rfl, k1.congr (fun j hj => hH _ (by omega) (by omega)), k2.congr (fun c _ _ => hH _ (by omega) (by omega)), ⟨k3.congr (by rw [hH 37 (by omega) (by omega)]) (fun i _ => hH _ (by omega) (by omega)), k4.congr (by rw [hH 37 (by omega) (by omega)]) (fun i _ => hH _ (by omega) (by omega))⟩, ⟨?_, fun c hc => ?_, ?_, fun i hi => ?_⟩, k6.fr (hH 1002 (by omega) (by omega)) (hH 1003 (by omega) (by omega))⟩
      · show (S.2.2.2 ++ [v]).length ≤ 60
        rw [List.length_append]; exact e
      · rcases List.mem_append.mp hc with z | z
        · exact x2 c z
        · rw [List.mem_singleton] at z; subst z; exact ⟨hv1, hv2⟩
      · show H.1 18 2 = nI (S.2.2.2 ++ [v]).length
        rw [List.length_append]
        show (am_si _ 18 2 _).1 18 2 = _
        rw [am_si1, if_pos ⟨rfl, rfl⟩]; rfl
      · have hi' : i < (S.2.2.2 ++ [v]).length := hi
        rw [List.length_append] at hi'
        have hi2 : i < S.2.2.2.length + 1 := hi'
        show (am_si (am_si h 19 S.2.2.2.length a) 18 2 _).1 19 i = nI ((S.2.2.2 ++ [v]).getD i 0)
        rw [am_si_ne (by omega), am_si1]
        by_cases e1 : i = S.2.2.2.length
        · rw [if_pos ⟨rfl, e1⟩, ea, List.getD_eq_getElem?_getD, List.getElem?_append_right (by omega), e1, Nat.sub_self]; rfl
        · rw [if_neg (fun z => e1 z.2), x4 i (by omega), List.getD_eq_getElem?_getD, List.getD_eq_getElem?_getD, List.getElem?_append_left (by omega)]
    · have hlt : ¬ h.1 18 2 < 60 := by rw [x3]; exact nI_nlt (b := 60) (by omega) (by omega)
      rw [v_B_append, f1', if_neg e]
      show Co (if h.1 18 2 < 60 then _ else _) _
      rw [if_neg hlt]
      rfl
  · have f1' : v_B_checkRange h a 33 126 = some xA := f1
    rw [v_B_append, f1', f2]
    rfl
theorem clear_s (hs : RS h S) : (v_B_clearBuffer h).1 = (s_clear S).1 ∧ RS (v_B_clearBuffer h).2 (s_clear S).2 := by
  obtain ⟨k1, k2, ⟨k3, k4⟩, ⟨x1, x2, x3, x4⟩, k6⟩ := hs
  have hH : ∀ c, c ≠ 18 → (am_si h 18 2 0).1 c = h.1 c := fun c h1 => am_si_ne h1
  refine ⟨x3, k1.congr (fun j hj => hH _ (by omega)), k2.congr (fun c _ _ => hH _ (by omega)), ⟨k3.congr (by rw [show (v_B_clearBuffer h).2.1 37 = _ from hH 37 (by omega)]) (fun i _ => hH _ (by omega)), k4.congr (by rw [show (v_B_clearBuffer h).2.1 37 = _ from hH 37 (by omega)]) (fun i _ => hH _ (by omega))⟩, ⟨Nat.zero_le _, fun c hc => absurd hc List.not_mem_nil, ?_, fun i hi => absurd hi (Nat.not_lt_zero _)⟩, k6.fr (hH 1002 (by omega)) (hH 1003 (by omega))⟩
  show (am_si h 18 2 0).1 18 2 = nI 0
  rw [am_si1, if_pos ⟨rfl, rfl⟩]; rfl
theorem keep_s (hs : RS h S) (a : Int32) : p_B_keep h a ∧ Co (v_B_keep h a) (s_keep S a) := by
  obtain ⟨k1, k2, ⟨k3, k4⟩, k5, k6⟩ := hs
  have h20 := k1.n20
  unfold s_keep
  rcases rng_c (lo := 0) (hi := 1) (by omega) (by omega) h a with ⟨p, _, hp1, ea, f1, f2⟩ | ⟨f1, f2⟩
  · have f1' : v_B_checkRange h a 0 1 = none := f1
    have hp : p < 2 := by omega
    obtain ⟨g1, g2⟩ := st35 hp h
    have hq := (cq111 hp).1
    refine ⟨fun _ => by rw [ea]; exact g2, ?_⟩
    let H := am_si (v_copyFrom h (111 + 12 * p) 0) 37 p 1
    have hH : ∀ c, c ≠ 37 → ¬ (111 + 12 * p ≤ c ∧ c < 111 + 12 * p + 12) → H.1 c = h.1 c := fun c h1 h2 => by
      show (am_si _ _ _ _).1 c = _
      rw [am_si_ne h1, copy_rest hq _ h2]
    have hH37 : ∀ j, H.1 37 j = if j = p then 1 else h.1 37 j := fun j => by
      show (am_si _ 37 p 1).1 37 j = _
      rw [am_si1, copy_rest hq _ (by omega)]
      exact ite_iff' ⟨fun z => z.2, fun z => ⟨rfl, z⟩⟩ rfl
    have hcv : v_B_keep h a = .inr (nI S.1.2, H) := by
      rw [v_B_keep, f1', ea]
      show Sum.inr ((v_put 2 (v_S_store_0_35 h (nI p)) 37 (nI p) 1).1 0 11, v_put 2 (v_S_store_0_35 h (nI p)) 37 (nI p) 1) = _
      rw [g1, put_nI (by omega) _ _ hp]
      show Sum.inr (H.1 0 11, H) = _
      rw [hH 0 (by omega) (by omega)]; exact congrArg (fun x => Sum.inr (x, H)) k1.1.nn
    have hT : TH H (111 + 12 * p) S.1 := ⟨(copy_RT hq k1.1 h20).congr (fun i hi => by show (am_si _ 37 p 1).1 _ = _; rw [am_si_ne (by omega)]), k1.2⟩
    rw [hcv, f2]
    refine ⟨rfl, k1.congr (fun j hj => hH _ (by omega) (by omega)), k2.congr (fun c _ _ => hH _ (by omega) (by omega)), ?_, k5.congr (by rw [hH 18 (by omega) (by omega)]) (hH 19 (by omega) (by omega)), k6.fr (hH 1002 (by omega) (by omega)) (hH 1003 (by omega) (by omega))⟩
    show SlH H 111 0 (slotP S p).1 ∧ SlH H 123 1 (slotP S p).2
    match p, hp with
    | 0, _ => exact ⟨⟨by rw [hH37]; rfl, hT⟩, k4.congr (by rw [hH37]; rfl) (fun i _ => hH _ (by omega) (by omega))⟩
    | 1, _ => exact ⟨k3.congr (by rw [hH37]; rfl) (fun i _ => hH _ (by omega) (by omega)), ⟨by rw [hH37]; rfl, hT⟩⟩
    | p + 2, z => omega
  · have f1' : v_B_checkRange h a 0 1 = some xA := f1
    refine ⟨fun z => (nomatch (f1'.symm.trans z)), ?_⟩
    rw [v_B_keep, f1', f2]
    rfl
theorem slot_at {h : HP} {S : Sta} (hs : RS h S) {p : Nat} (hp : p < 2) : SlH h (111 + 12 * p) p (slot S p) := by
  match p, hp with
  | 0, _ => exact hs.2.2.1.1
  | 1, _ => exact hs.2.2.1.2
  | p + 2, z => omega
theorem goBack_s (hs : RS h S) (a : Int32) : p_B_goBack h a ∧ Co (v_B_goBack h a) (s_goBack S a) := by
  have s1 := hs.save.1
  unfold s_goBack
  rcases rng_c (lo := 0) (hi := 1) (by omega) (by omega) h a with ⟨p, _, hp1, ea, f1, f2⟩ | ⟨f1, f2⟩
  · have f1' : v_B_checkRange h a 0 1 = none := f1
    have hp : p < 2 := by omega
    have hk := slot_at hs hp
    have hk2 : SlH (v_B_save h) (111 + 12 * p) p (slot S p) := slot_at hs.save.2.1 hp
    have e37 : v_at 2 (h.1 37) a = h.1 37 p := by rw [ea, at_nI (by omega) _ hp]
    obtain ⟨g1, g2⟩ := fe35 hp (v_B_save h)
    have hq := (cq111 hp).2
    refine ⟨fun _ => ⟨fun _ => ⟨s1, fun y hy => by subst hy; rw [ea]; exact g2⟩, fun _ => trivial⟩, ?_⟩
    rw [f2]
    show Co _ (match slot S p with | none => _ | some t => _)
    cases es : slot S p with
    | none =>
      rw [es] at hk
      have n1 : ¬ v_at 2 (h.1 37) a = 1 := by rw [e37, show h.1 37 p = 0 from hk]; decide
      rw [v_B_goBack, f1']
      show Co (if v_at 2 (h.1 37) a = 1 then _ else _) _
      rw [if_neg n1]
      rfl
    | some t =>
      rw [es] at hk hk2
      obtain ⟨r1, r2⟩ := hk2.2
      have hn' := r2.n20
      let H := v_copyFrom (v_B_save h) 0 (111 + 12 * p)
      have hH : ∀ c, 12 ≤ c → H.1 c = (v_B_save h).1 c := fun c h1 => copy_rest hq _ (by omega)
      have hRn : RT H.1 0 t.1 t.2 := copy_RT hq r1 hn'
      have hcv : v_B_goBack h a = .inr (nI t.2, H) := by
        rw [v_B_goBack, f1']
        show (if v_at 2 (h.1 37) a = 1 then Sum.inr ((v_S_fetch_0_35 (v_B_save h) a).1 0 11, v_S_fetch_0_35 (v_B_save h) a) else _) = _
        rw [e37, if_pos hk.1, ea, g1]
        exact congrArg (fun x => Sum.inr (x, H)) hRn.nn
      rw [hcv]
      exact ⟨rfl, hs.sav hH ⟨hRn, r2⟩⟩
  · have f1' : v_B_checkRange h a 0 1 = some xA := f1
    refine ⟨fun z => (nomatch (f1'.symm.trans z)), ?_⟩
    rw [v_B_goBack, f1', f2]
    rfl
end SNP
