/-! A CONTRACT IN ANOTHER PLACE: a method that is proved in a small world serves wherever such cells lie. -/
def am_pi (pl : List Nat) (k : Nat) : Nat := bif Nat.blt k pl.length then pl.getD k 0 else k
abbrev am_pull (pl : List Nat) (h : HP) : HP := (fun k => h.1 (am_pi pl k), fun k => h.2 (am_pi pl k))
def am_ip : List Nat → Nat → Option Nat
  | [], _ => none
  | a :: r, c => bif Nat.beq a c then some 0 else (am_ip r c).map (· + 1)
abbrev am_push (pl : List Nat) (h h0 : HP) : HP := (fun c => match am_ip pl c with | some k => h0.1 k | none => h.1 c, fun c => match am_ip pl c with | some k => h0.2 k | none => h.2 c)
def am_ren (pl : List Nat) (s : Sh) : List Nat := bif Nat.beq s.1 3 then s.2.2.map (am_pi pl) else s.2.2.map (fun f => bif Nat.blt f 2 then f else am_pi pl (f - 2) + 2)
def am_plok (pl : List Nat) (shc sh : List Sh) : Bool := va_nd pl && Nat.beq shc.length pl.length && Nat.blt pl.length 1000 && (List.range pl.length).all (fun k => Nat.blt (pl.getD k 0) 1000 && match shc[k]?, sh[pl.getD k 0]? with | some s, some s' => Nat.beq s.1 s'.1 && Nat.beq s.2.1 s'.2.1 && !(Nat.beq s.1 5) && decide (s'.2.2 = am_ren pl s) | _, _ => false)
theorem am_ip_some : ∀ {pl : List Nat} {c k : Nat}, am_ip pl c = some k → pl[k]? = some c
  | [], _, _, h => by cases h
  | a :: r, c, k, h => by
    unfold am_ip at h
    cases hb : Nat.beq a c with
    | true => rw [hb] at h; cases h; rw [am_beq hb]; rfl
    | false =>
      rw [hb] at h
      simp only [cond_false, Option.map_eq_some_iff] at h
      obtain ⟨j, h1, rfl⟩ := h
      rw [List.getElem?_cons_succ]
      exact am_ip_some h1
theorem am_ip_none : ∀ {pl : List Nat} {c : Nat}, am_ip pl c = none → c ∉ pl
  | [], _, _ => by simp
  | a :: r, c, h => by
    unfold am_ip at h
    cases hb : Nat.beq a c with
    | true => rw [hb] at h; cases h
    | false =>
      rw [hb] at h
      simp only [cond_false, Option.map_eq_none_iff] at h
      intro hm
      rcases List.mem_cons.mp hm with e | hm
      · rw [e, Nat.beq_refl] at hb; cases hb
      · exact am_ip_none h hm
theorem am_ip_at {pl : List Nat} (hn : va_nd pl = true) {k c : Nat} (h : pl[k]? = some c) : am_ip pl c = some k := by
  cases hi : am_ip pl c with
  | none => exact absurd (List.mem_of_getElem? h) (am_ip_none hi)
  | some j => rw [va_nd_inj pl hn j k c (am_ip_some hi) h]
theorem am_pi_lt {pl : List Nat} {k : Nat} (h : k < pl.length) : pl[k]? = some (am_pi pl k) := by
  unfold am_pi
  rw [show Nat.blt k pl.length = true from Nat.ble_eq_true_of_le h]
  rw [List.getElem?_eq_getElem h, cond_true, List.getD_eq_getElem?_getD, List.getElem?_eq_getElem h]
  rfl
theorem am_pi_ge {pl : List Nat} {k : Nat} (h : pl.length ≤ k) : am_pi pl k = k := by
  unfold am_pi
  cases hb : Nat.blt k pl.length with
  | true => exact absurd (am_blt hb) (by omega)
  | false => rfl
section AMPL
variable {pl : List Nat} {shc sh : List Sh}
theorem am_plok_at (h : am_plok pl shc sh = true) : va_nd pl = true ∧ shc.length = pl.length ∧ pl.length < 1000 ∧ ∀ (k : Nat) (s : Sh), shc[k]? = some s → am_pi pl k < 1000 ∧ pl[k]? = some (am_pi pl k) ∧ ∃ s', sh[am_pi pl k]? = some s' ∧ s'.1 = s.1 ∧ s'.2.1 = s.2.1 ∧ s.1 ≠ 5 ∧ s'.2.2 = am_ren pl s := by
  simp only [am_plok, Bool.and_eq_true] at h
  obtain ⟨⟨⟨h1, h2⟩, h3⟩, h4⟩ := h
  have e2 := am_beq h2
  refine ⟨h1, e2, am_blt h3, fun k s hs => ?_⟩
  have hk : k < pl.length := by rw [← e2]; exact (List.getElem?_eq_some_iff.mp hs).1
  have h5 := List.all_eq_true.mp h4 k (List.mem_range.mpr hk)
  have e5 : pl.getD k 0 = am_pi pl k := by
    have := am_pi_lt hk
    rw [List.getD_eq_getElem?_getD, this]; rfl
  rw [e5, hs] at h5
  simp only [Bool.and_eq_true] at h5
  obtain ⟨h5, h6⟩ := h5
  refine ⟨am_blt h5, am_pi_lt hk, ?_⟩
  cases hs' : sh[am_pi pl k]? with
  | none => rw [hs'] at h6; cases h6
  | some s' =>
    rw [hs'] at h6
    simp only [Bool.and_eq_true, decide_eq_true_eq, Bool.not_eq_true'] at h6
    obtain ⟨⟨⟨g1, g2⟩, g3⟩, g4⟩ := h6
    refine ⟨s', rfl, (am_beq g1).symm, (am_beq g2).symm, fun e => ?_, g4⟩
    rw [e] at g3; cases g3
theorem am_ce_ren {G G' ad : Nat → Nat} {h : HP} (hG : ∀ i, i < 4 → G' i = G i) {k : Nat} {s s' : Sh} (e1 : s'.1 = s.1) (e2 : s'.2.1 = s.2.1) (e5 : s.1 ≠ 5) (e3 : s'.2.2 = am_ren pl s) (h0 : HP) (hh : h0.1 k = h.1 (am_pi pl k) ∧ h0.2 k = h.2 (am_pi pl k)) :
    am_ce G' (fun k => ad (am_pi pl k)) h0 k s = am_ce G ad h (am_pi pl k) s' := by
  obtain ⟨k0, n0, fs⟩ := s
  obtain ⟨k1, n1, fs'⟩ := s'
  dsimp only at e1 e2 e5
  subst e1; subst e2
  have e3' : fs' = am_ren pl (k1, n1, fs) := e3
  unfold am_ce
  dsimp only
  cases h05 : Nat.beq k1 0 || Nat.beq k1 5 with
  | true => simp only [cond_true, hG 0 (by omega), hh.1]
  | false =>
    cases h1 : Nat.beq k1 1 with
    | true => simp only [cond_true, cond_false, hG 1 (by omega), hh.1]
    | false =>
      cases h2 : Nat.beq k1 2 with
      | true => simp only [cond_true, cond_false, hG 2 (by omega), hh.2]
      | false =>
        cases h3 : Nat.beq k1 3 with
        | true =>
          simp only [cond_true, cond_false, hG 3 (by omega)]
          rw [e3']
          unfold am_ren
          dsimp only
          rw [h3, cond_true]
          congr 7
          funext j
          rw [List.getElem?_map]
          cases fs[j]? <;> rfl
        | false =>
          simp only [cond_false]
          rw [e3']
          unfold am_ren
          dsimp only
          rw [h3, cond_false]
          congr 2
          apply List.ext_getElem?
          intro j
          rw [List.getElem?_mapIdx, List.getElem?_mapIdx, List.getElem?_map]
          cases fs[j]? with
          | none => rfl
          | some f =>
            simp only [Option.map_some, am_fv]
            cases hf : Nat.blt f 2 with
            | true =>
              have h2 := am_blt hf
              simp only [cond_true]
              match f, h2 with
              | 0, _ => simp only [hh.1]; rfl
              | 1, _ => simp only [hh.2]; rfl
            | false =>
              have h2 : 2 ≤ f := by
                rcases Nat.lt_or_ge f 2 with z | z
                · have z2 : Nat.blt f 2 = true := Nat.ble_eq_true_of_le z
                  rw [hf] at z2; cases z2
                · exact z
              obtain ⟨g, rfl⟩ := Nat.exists_eq_add_of_le h2
              have b0 : ∀ z, Nat.beq (z + 2) 0 = false := fun z => rfl
              have b1 : ∀ z, Nat.beq (z + 2) 1 = false := fun z => rfl
              simp only [cond_false, Nat.add_comm 2 g, b0, b1, Nat.add_sub_cancel]
              rfl
/-- which cells the callee's world has -/
noncomputable def am_Gc (G ad : Nat → Nat) (pl : List Nat) : Nat → Nat := fun n => if n < 10 then G n else @ite _ (∃ k, k < pl.length ∧ ad (am_pi pl k) = n - 10) (Classical.propDecidable _) 1 0
theorem am_Gc_lt {G ad : Nat → Nat} {pl : List Nat} {i : Nat} (h : i < 10) : am_Gc G ad pl i = G i := if_pos h
theorem am_Gc_A {G ad : Nat → Nat} {pl : List Nat} {q : Nat} : am_A (am_Gc G ad pl) q ↔ ∃ k, k < pl.length ∧ ad (am_pi pl k) = q := by
  unfold am_A am_Gc
  rw [if_neg (by omega), Nat.add_sub_cancel_left]
  constructor
  · intro h
    by_cases hc : ∃ k, k < pl.length ∧ ad (am_pi pl k) = q
    · exact hc
    · rw [if_neg hc] at h; cases h
  · intro h
    rw [if_pos h]
variable {D : va_G} {G ad : Nat → Nat} {h : HP} {ro : List Sh} {H : Heap}
theorem am_sub_A (hpl : am_plok pl shc sh = true) (hW : am_W D G ad h sh ro H) {q : Nat} (hq : am_A (am_Gc G ad pl) q) : am_A G q := by
  obtain ⟨k, hk, rfl⟩ := am_Gc_A.mp hq
  obtain ⟨-, e2, -, h4⟩ := am_plok_at hpl
  obtain ⟨s, hs⟩ : ∃ s, shc[k]? = some s := ⟨shc[k]'(by omega), List.getElem?_eq_getElem (by omega)⟩
  obtain ⟨-, -, s', hs', -⟩ := h4 k s hs
  exact hW.2.1.2 _ _ (am_wl_at (G := G) (ad := ad) (h := h) hs')
theorem am_inj (hW : am_W D G ad h sh ro H) {i j : Nat} {s t : Sh} (hi : sh[i]? = some s) (hj : sh[j]? = some t) (e : ad i = ad j) : i = j := hW.2.1.1 i j _ _ (am_wl_at (G := G) (ad := ad) (h := h) hi) (am_wl_at (G := G) (ad := ad) (h := h) hj) e
theorem am_W_sub (hpl : am_plok pl shc sh = true) (hok : ∀ s ∈ shc, am_oks s) (hW : am_W D G ad h sh ro H) : am_W D (am_Gc G ad pl) (fun k => ad (am_pi pl k)) (am_pull pl h) shc ro H := by
  obtain ⟨h1, e2, h3, h4⟩ := am_plok_at hpl
  have key : ∀ (k : Nat) (q : Nat × va_E), (am_wl (am_Gc G ad pl) (fun k => ad (am_pi pl k)) (am_pull pl h) shc)[k]? = some q → ∃ s, shc[k]? = some s ∧ k < pl.length ∧ (am_wl G ad h sh)[am_pi pl k]? = some q := by
    intro k q hq
    unfold am_wl at hq
    rw [List.getElem?_mapIdx] at hq
    cases hs : shc[k]? with
    | none => rw [hs] at hq; cases hq
    | some s =>
      rw [hs] at hq
      cases hq
      obtain ⟨-, -, s', hs', g1, g2, g5, g3⟩ := h4 k s hs
      refine ⟨s, rfl, by rw [← e2]; exact (List.getElem?_eq_some_iff.mp hs).1, ?_⟩
      rw [am_wl_at hs', ← am_ce_ren (G' := am_Gc G ad pl) (fun i hi => am_Gc_lt (by omega)) g1 g2 g5 g3 (am_pull pl h) ⟨rfl, rfl⟩]
  refine ⟨fun k q hq => ?_, ⟨fun i j a b hi hj hab => ?_, fun k q hq => ?_⟩, fun j s hj => ?_, hok⟩
  · obtain ⟨-, -, -, h5⟩ := key k q hq
    exact hW.1 _ q h5
  · obtain ⟨si, -, hil, h5⟩ := key i a hi
    obtain ⟨sj, -, hjl, h6⟩ := key j b hj
    have := hW.2.1.1 _ _ a b h5 h6 hab
    exact va_nd_inj pl h1 i j _ (am_pi_lt hil) (by rw [this]; exact am_pi_lt hjl)
  · obtain ⟨s, hs, hkl, h5⟩ := key k q hq
    refine am_Gc_A.mpr ⟨k, hkl, ?_⟩
    unfold am_wl at hq
    rw [List.getElem?_mapIdx, hs] at hq
    cases hq
    rfl
  · obtain ⟨a1, a2, a3⟩ := hW.2.2.1 j s hj
    have e5 : am_pi pl (1000 + j) = 1000 + j := am_pi_ge (by omega)
    refine ⟨?_, ⟨?_, fun hA => ?_⟩, a3⟩
    · show am_rc D H (ad (am_pi pl (1000 + j))) j s.2.1 (h.1 (am_pi pl (1000 + j)))
      rw [e5]; exact a1
    · show ad (am_pi pl (1000 + j)) < am_Gc G ad pl 4
      rw [e5, am_Gc_lt (by omega)]; exact a2.1
    · have h6 := am_sub_A hpl hW hA
      dsimp only at h6
      rw [e5] at h6
      exact a2.2 h6
/-- behind the callee: its cells as it leaves them, the others as they were -/
theorem am_W_join (hpl : am_plok pl shc sh = true) {h0 : HP} {H1 : Heap} (hW : am_W D G ad h sh ro H) (hC : am_W D (am_Gc G ad pl) (fun k => ad (am_pi pl k)) h0 shc ro H1) (hF : ∀ q : Nat, q < H.size → ¬ am_A (am_Gc G ad pl) q → H1[q]? = H[q]?) : am_W D G ad (am_push pl h h0) sh ro H1 := by
  obtain ⟨h1, e2, h3, h4⟩ := am_plok_at hpl
  have hin : ∀ (c k : Nat), am_ip pl c = some k → ∃ s, shc[k]? = some s ∧ c = am_pi pl k := by
    intro c k hk
    have h5 := am_ip_some hk
    have hkl := (List.getElem?_eq_some_iff.mp h5).1
    refine ⟨shc[k]'(by omega), List.getElem?_eq_getElem (by omega), ?_⟩
    have := am_pi_lt hkl
    rw [h5] at this
    exact Option.some.inj this
  have hout : ∀ (c : Nat) (s : Sh), am_ip pl c = none → am_ce G ad (am_push pl h h0) c s = am_ce G ad h c s := by
    intro c s hn
    have g1 : (am_push pl h h0).1 c = h.1 c := by simp only [hn]
    have g2 : (am_push pl h h0).2 c = h.2 c := by simp only [hn]
    have g3 : ∀ j f, am_fv (am_push pl h h0) c j f = am_fv h c j f := fun j f => by unfold am_fv; rw [g1, g2]
    unfold am_ce
    rw [g1, g2]
    simp only [g3]
  have hnA : ∀ (c : Nat) (s : Sh), sh[c]? = some s → am_ip pl c = none → ¬ am_A (am_Gc G ad pl) (ad c) := by
    intro c s hs hn hA
    obtain ⟨k, hk, e⟩ := am_Gc_A.mp hA
    obtain ⟨s0, hs0⟩ : ∃ s, shc[k]? = some s := ⟨shc[k]'(by omega), List.getElem?_eq_getElem (by omega)⟩
    obtain ⟨-, hp, s', hs', -⟩ := h4 k s0 hs0
    have := am_inj hW hs' hs e
    rw [this] at hp
    exact am_ip_none hn (List.mem_of_getElem? hp)
  have hat : ∀ (c : Nat) (s : Sh), sh[c]? = some s → va_at D vwCl (ad c, am_ce G ad (am_push pl h h0) c s) H1 := by
    intro c s hs
    cases hi : am_ip pl c with
    | none =>
      rw [hout c s hi]
      have h6 := hW.1 c _ (am_wl_at (G := G) (ad := ad) (h := h) hs)
      exact h6.kept (hF _ h6.lt (hnA c s hs hi))
    | some k =>
      obtain ⟨s0, hs0, rfl⟩ := hin c k hi
      obtain ⟨-, -, s', hs', g1, g2, g5, g3⟩ := h4 k s0 hs0
      cases Option.some.inj (hs.symm.trans hs')
      have h6 := hC.1 k _ (am_wl_at (G := am_Gc G ad pl) (ad := fun k => ad (am_pi pl k)) (h := h0) hs0)
      rw [am_ce_ren (G := G) (G' := am_Gc G ad pl) (h := am_push pl h h0) (fun i hi => am_Gc_lt (by omega)) g1 g2 g5 g3 h0 ⟨by simp only [hi], by simp only [hi]⟩] at h6
      exact h6
  refine ⟨fun c q hq => ?_, ⟨fun i j a b hi hj hab => ?_, fun c q hq => ?_⟩, fun j s hj => ?_, hW.2.2.2⟩
  · unfold am_wl at hq
    rw [List.getElem?_mapIdx] at hq
    cases hs : sh[c]? with
    | none => rw [hs] at hq; cases hq
    | some s => rw [hs] at hq; cases hq; exact hat c s hs
  · unfold am_wl at hi hj
    rw [List.getElem?_mapIdx] at hi hj
    cases hs : sh[i]? with
    | none => rw [hs] at hi; cases hi
    | some s =>
      cases ht : sh[j]? with
      | none => rw [ht] at hj; cases hj
      | some t =>
        rw [hs] at hi
        rw [ht] at hj
        cases hi; cases hj
        exact am_inj hW hs ht hab
  · unfold am_wl at hq
    rw [List.getElem?_mapIdx] at hq
    cases hs : sh[c]? with
    | none => rw [hs] at hq; cases hq
    | some s =>
      rw [hs] at hq; cases hq
      exact hW.2.1.2 c (ad c, am_ce G ad h c s) (am_wl_at (G := G) (ad := ad) (h := h) hs)
  · obtain ⟨a1, a2, a3⟩ := hW.2.2.1 j s hj
    have hi : am_ip pl (1000 + j) = none := by
      cases hi : am_ip pl (1000 + j) with
      | none => rfl
      | some k =>
        obtain ⟨s0, hs0, e⟩ := hin _ k hi
        have := (h4 k s0 hs0).1
        omega
    refine ⟨?_, a2, a3⟩
    have e9 : (match am_ip pl (1000 + j) with | some k => h0.1 k | none => h.1 (1000 + j)) = h.1 (1000 + j) := by rw [hi]
    show am_rc D _ (ad (1000 + j)) j s.2.1 (match am_ip pl (1000 + j) with | some k => h0.1 k | none => h.1 (1000 + j))
    rw [e9]
    refine a1.kept (hF _ a1.lt fun hA => ?_)
    exact a2.2 (am_sub_A hpl hW hA)
end AMPL
/-- THE PLACEMENT: from a contract in the small world, at the answers g0, the contract in the large one -/
theorem am_place {l : Launch} {y : MethodName} {ws : List Cond} {rm : Room} {mc ms : Nat} {pl : List Nat} {shc sh ro : List Sh} (hpl : am_plok pl shc sh = true) (hoks : ∀ s ∈ shc, am_oks s) {D : va_G} {G ad : Nat → Nat} {h : HP} {as as0 : List Value} {xq : Nat} {g g0 : GR}
    (has : as.map (am_cv ad xq) = as0.map (am_cv (fun k => ad (am_pi pl k)) xq)) (h1 : g_thr g = g_thr g0) (h2 : g_val g = g_val g0) (h2r : ∀ v, g_val g0 = some v → am_cv ad 0 v = am_cv (fun k => ad (am_pi pl k)) 0 v) (h3 : g_hp g = am_push pl h (g_hp g0))
    (hM : am_Met l y ws rm (va_Pc (as0.map (am_cv (fun k => ad (am_pi pl k)) xq)) (am_S D (am_Gc G ad pl) (fun k => ad (am_pi pl k)) (am_pull pl h) shc ro)) (am_Qc D (am_Gc G ad pl) (fun k => ad (am_pi pl k)) shc ro g0) (am_XC D (am_Gc G ad pl) (fun k => ad (am_pi pl k)) shc ro g0) mc ms (am_A (am_Gc G ad pl))) :
    am_Met l y ws rm (va_Pc (as.map (am_cv ad xq)) (am_S D G ad h sh ro)) (am_Qc D G ad sh ro g) (am_XC D G ad sh ro g) mc ms (am_A G) := by
  intro p e ha hc hk s m args below hf happ hP hT
  obtain ⟨rfl, hW, hK, hZ, hG⟩ := hP
  have hsub : ∀ q, am_A (am_Gc G ad pl) q → am_A G q := fun q hq => am_sub_A hpl hW hq
  have hl3 := (am_plok_at hpl).2.2.1
  have hst : am_S D (am_Gc G ad pl) (fun k => ad (am_pi pl k)) (am_pull pl h) shc ro s := by
    refine ⟨am_W_sub hpl hoks hW, ?_, ⟨vx_Zq.narrow hZ.1 hsub, vx_Zq.narrow hZ.2.1 hsub, fun q hq => ?_, hZ.2.2.2⟩, ?_⟩
    · have e : am_tys (am_Gc G ad pl) = am_tys G := by
        unfold am_tys
        rw [am_Gc_lt (by omega), am_Gc_lt (by omega), am_Gc_lt (by omega), am_Gc_lt (by omega)]
      rw [e]; exact hK
    · have e5 : am_pi pl q.2 = q.2 := by
        refine am_pi_ge ?_
        have : 1000 ≤ q.2 := by
          revert q
          decide
        omega
      dsimp only
      rw [e5]
      exact va_Z.narrow (hZ.2.2.1 q hq) hsub
    · exact ⟨by rw [am_Gc_lt (by omega)]; exact hG.1, hG.2⟩
  obtain ⟨n, o, b1, b2, b3, b4⟩ := hM p e ha hc hk s m (as.map (am_cv ad xq)).toArray below hf happ ⟨by rw [has], hst⟩ hT
  refine ⟨n, o, b1, b2, b3, ?_⟩
  rcases b4 with ⟨⟨q1, q2, q3, q4, q5⟩, L, hL, hfr⟩ | ⟨q, rfl, E, ce, L, ⟨q1, q2, q3⟩, r1, r2, r3, r4, r5, r6⟩
  · refine Or.inl ⟨⟨h1.trans q1, ?_, ?_, fun v hv => q4 v (h2.symm.trans hv), q5.1, fun q r1 r2 => q5.2 q r1 (fun z => r2 (hsub q z))⟩, L, hL, fun q hq => hsub _ (hfr q hq)⟩
    · rw [q2, h2]
      cases hv : g_val g0 with
      | none => rfl
      | some v => simp only [Option.map_some, h2r v hv]
    · rw [h3]
      exact am_W_join hpl hW q3 (fun q r1 r2 => q5.2 q r1 r2)
  · refine Or.inr ⟨q, rfl, E, ce, L, ⟨h1.trans q1, ?_, q3.1, fun q r1 r2 => q3.2 q r1 (fun z => r2 (hsub q z))⟩, r1, r2, r3, r4, r5, fun z hz => hsub _ (r6 z hz)⟩
    rw [h3]
    exact am_W_join hpl hW q2 (fun q r1 r2 => q3.2 q r1 r2)
