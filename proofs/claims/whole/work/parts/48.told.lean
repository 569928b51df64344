/-! PURE: the fewest duties, told from the end. -/
theorem pm_next (m : HP) {k : Nat} (hk : k < 21) : p_M_next m (nI k) := pm_of m (w := 6) hk (by omega)
section MSE
variable {m : HP} {T : Nat → Int32} {n : Nat}
/-- one turn of the model's loop; x stands for what is known of s -/
theorem mm_fe (hT : m.1 1 = T) (hI : Inv T n) {s k : Nat} (hs : s < n) (hk : k < n) (hle : Dp T s ≤ Dp T k) (a : Int32) :
    (if ((if ((if (v_M_next m (nI k)) = (-1 : Int32) then (1 : Int32) else (if (m.1 1 (am_ix (4 + (v_M_of m (nI k) 2)))) = 1 then (1 : Int32) else 0)) : Int32) = 0 then (0 : Int32) else (if ((v_M_arrival m (nI k)) - (v_M_of m (nI s) 3)) ≤ (m.1 1 (am_ix 9)) then (if ((if (v_M_next m (nI k)) = (-1 : Int32) then (0 : Int32) else m.1 8 (am_ix (v_M_next m (nI k)))) : Int32) = (-1 : Int32) then (0 : Int32) else 1) else 0)) : Int32) = 0 then a else (if a = (-1 : Int32) then (1 + (if (v_M_next m (nI k)) = (-1 : Int32) then (0 : Int32) else m.1 8 (am_ix (v_M_next m (nI k))))) else (if (1 + (if (v_M_next m (nI k)) = (-1 : Int32) then (0 : Int32) else m.1 8 (am_ix (v_M_next m (nI k))))) < a then (1 + (if (v_M_next m (nI k)) = (-1 : Int32) then (0 : Int32) else m.1 8 (am_ix (v_M_next m (nI k))))) else a))) = if qD T s k = true then fe T (m.1 8) a k else a := by
  rw [mm_mE hT hI hk, mm_within hT hI hs hk hle, (mm_next hT hI hk).2]
  have e : (if eo (nx T k) = -1 then (0 : Int32) else m.1 8 (am_ix (eo (nx T k)))) = rst (m.1 8) (nx T k) := by
    cases e : nx T k with
    | none => rfl
    | some j =>
      have := (hI.nxs hk e).1; have := hI.n20
      rw [if_neg (show ¬ eo (some j) = -1 from nI_m1 (by omega))]
      show m.1 8 (am_ix (nI j)) = m.1 8 j
      rw [nI_ix (by omega)]
  rw [e, fe]
  generalize rst (m.1 8) (nx T k) = r
  have z0 : ¬ (1 : Int32) = 0 := by decide +kernel
  cases mE T k with
  | false =>
    rw [if_neg ff, if_pos rfl, if_pos rfl, if_neg ff, ite_self]
  | true =>
    rw [if_pos tr, if_neg z0, if_pos tr]
    cases qD T s k with
    | false => rw [if_neg ff, if_pos rfl, if_neg ff]
    | true =>
      rw [if_pos tr, if_pos tr]
      by_cases e2 : r = -1
      · rw [if_pos e2, if_pos rfl, if_pos e2]
      · rw [if_neg e2, if_neg z0, if_neg e2, Int32.add_comm 1 r]
theorem mm_settles (hT : m.1 1 = T) (hI : Inv T n) {s : Nat} (hs : s < n) : p_M_settles m (nI s) ∧ v_M_settles m (nI s) = am_si m 8 s (fs T (m.1 8) s) := by
  have h20 := hI.n20
  have hT2 : ∀ x, (am_si m 8 s x).1 1 = T := fun x => by rw [am_si_ne (by omega)]; exact hT
  have h8 : ∀ x, (am_si m 8 s x).1 8 s = x := fun x => by rw [am_si1, if_pos ⟨rfl, rfl⟩]
  have hfe : ∀ x a k, k < n → Dp T s ≤ Dp T k → fe T ((am_si m 8 s x).1 8) a k = fe T (m.1 8) a k := by
    intro x a k hk hle
    have e2 : rst ((am_si m 8 s x).1 8) (nx T k) = rst (m.1 8) (nx T k) := by
      cases e : nx T k with
      | none => rfl
      | some j =>
        have h1 := hI.nxs hk e
        have h2 := hI.ln1 hk
        have hjs : j ≠ s := by intro z; subst z; omega
        show (am_si m 8 s x).1 8 j = m.1 8 j
        rw [am_si1, if_neg (fun z => hjs z.2)]
    unfold fe
    rw [e2]
  obtain ⟨a, b, -⟩ := chain_all hI.fw (step := s_M_settles_9 m (nI s)) (pst := ps_M_settles_9 m (nI s)) (fun (a : Int32) _ o => (eo o, am_si m 8 s a)) (fun _ o => ∀ k, o = some k → Dp T s ≤ Dp T k) (fun a k => if qD T s k = true then fe T (m.1 8) a k else a) (fun a _ => (eo none, am_si m 8 s a))
    (fun a c j hP hj hc => by
      have hle := hP j rfl
      refine ⟨?_, fun k e => by
        have h2 := (hI.nxs hj e).2.2.2
        omega⟩
      have h := mm_fe (hT2 a) hI hs hj hle ((am_si m 8 s a).1 8 (am_ix (nI s)))
      show s_M_settles_9 m (nI s) (nI j, am_si m 8 s a) = _
      unfold s_M_settles_9
      rw [if_neg (nI_m1 (by omega))]
      show Sum.inl (v_M_next (am_si (am_si m 8 s a) 8 (am_ix (nI s)) _) (nI j), am_si (am_si m 8 s a) 8 (am_ix (nI s)) _) = _
      rw [h, nI_ix (by omega), am_si_si, h8, hfe a a j hj hle, (mm_next (hT2 _) hI hj).2])
    (fun a c hP hc => rfl)
    (fun a c o hP ho _ => ⟨fun _ => trivial, fun z => by
      cases o with
      | none => exact absurd rfl z
      | some j =>
        have hj := ho j rfl
        have hn := mm_next (hT2 a) hI hj
        have hix : am_in (nI s) 20 := nI_am (by omega) (by omega)
        have hnp : ¬ v_M_next (am_si m 8 s a) (nI j) = -1 → am_in (v_M_next (am_si m 8 s a) (nI j)) 20 := by
          intro z2
          rw [hn.2] at z2 ⊢
          cases e : nx T j with
          | none => rw [e] at z2; exact absurd rfl z2
          | some i => have := (hI.nxs hj e).1; exact nI_am (by omega) (by omega)
        exact ⟨hn.1, ⟨fun _ => trivial, fun _ => mm_mEp (hT2 a) hI hj⟩, hn.1, ⟨fun _ => trivial, fun z2 => ⟨hn.1, hnp z2⟩⟩, ⟨fun _ => trivial, fun _ => ⟨(mm_arr (hT2 a) hI hj).1, (mm_dp (hT2 a) hI hs).1⟩⟩, ⟨fun _ => hix, fun _ => ⟨hix, fun _ => trivial, fun _ => ⟨hix, fun _ => trivial, fun _ => hix⟩⟩⟩, hix, pm_next _ (by omega)⟩⟩) (some s) (-1) (fun k e => by cases e; exact Nat.le_refl _) (okO_some hs)
  have e0 : ((nI s, am_si m 8 s (-1)) : Int32 × HP) = (eo (some s), am_si m 8 s (-1)) := rfl
  refine ⟨⟨nI_am (by omega) (by omega), ?_⟩, ?_⟩
  · rw [nI_ix (by omega), e0]; exact a
  · rw [v_M_settles, nI_ix (by omega), e0, b]
    show am_si m 8 s ((ch (nx T) s).foldl _ (-1)) = _
    rw [fs_all hI (m.1 8) hs]
end MSE
/-- both tell the same -/
theorem told_both {h m : HP} {T : Nat → Int32} {n s : Nat} (hR : RT h.1 0 T n) (hT : m.1 1 = T) (hI : Inv T n) (hs : s < n) (hb : bf T n s = none) :
    p_U_fewestBackward h (nI s) ∧ p_M_told m (nI s) ∧ (v_U_fewestBackward h (nI s)).1 = (v_M_told m (nI s)).1 ∧ (∀ c, c ≠ 17 → (v_U_fewestBackward h (nI s)).2.1 c = h.1 c) ∧ ((∀ c, c ≠ 8 → (v_M_told m (nI s)).2.1 c = m.1 c) ∧ (v_M_told m (nI s)).2.2 = m.2) := by
  have h20 := hI.n20
  obtain ⟨hl, hln⟩ := lastc_lt hI.fw hs
  have hlb : lastc (bf T n) (lastc (nx T) s) = s := by rw [lastc_bf hI hs, lastc_none hb]
  have hE := cc_end hR hI hs
  have hL := mm_last hT hI hs
  have hS := mm_settles hT hI hl
  have hF := cc_toEnd hR hI hl
  generalize hle : lastc (nx T) s = l at *
  -- the class's first turn
  let h1 : HP := am_si h 17 l (fs T (h.1 17) l)
  let m1 : HP := am_si m 8 l (fs T (m.1 8) l)
  have hR1 : RT h1.1 0 T n := hR.congr (fun j hj => am_si_ne (by omega))
  have hstep : ∀ (h' : HP) (t c : Nat), RT h'.1 0 T n → t < n → c < 20 → s_U_fewestBackward_11 h (nI s) (nI t, nI c, h') = .inl (eo (bf T n t), nI (c + 1), am_si h' 17 t (fs T (h'.1 17) t)) := by
    intro h' t c hR' ht hc
    show (if nI c < nI 20 then (if nI t = -1 then _ else Sum.inl (v_at 20 ((v_put 20 h' 17 (nI t) (v_U_fewestToEnd h' (nI t))).1 6) (nI t), nI c + 1, v_put 20 h' 17 (nI t) (v_U_fewestToEnd h' (nI t)))) else _) = _
    rw [if_pos (nI_lt hc (by omega)), if_neg (nI_m1 (by omega)), (cc_toEnd hR' hI ht).2, put20 _ _ (by omega), nI_1]
    have hR2 : RT (am_si h' 17 t (fs T (h'.1 17) t)).1 0 T n := hR'.congr (fun j hj => am_si_ne (by omega))
    rw [cc_bf hR2 hI ht]
    rfl
  let R : (Int32 × Int32 × HP) → (Int32 × HP) → Prop := fun v w => ∃ (t c : Nat) (h' m' : HP), t < n ∧ v = (eo (bf T n t), nI c, h') ∧ w = (nI t, m') ∧ c + (cho (bf T n) (bf T n t)).length ≤ 20 ∧ (∀ c', c' ≠ 17 → h'.1 c' = h.1 c') ∧ (∀ c', c' ≠ 8 → m'.1 c' = m.1 c') ∧ m'.2 = m.2 ∧ (∀ k ∈ ch (nx T) t, h'.1 17 k = m'.1 8 k) ∧ lastc (bf T n) t = s
  let Q : (Int32 × Int32 × HP) → (Int32 × HP) → Prop := fun r q => r.2.2.1 17 s = q.2.1 8 s ∧ (∀ c', c' ≠ 17 → r.2.2.1 c' = h.1 c') ∧ (∀ c', c' ≠ 8 → q.2.1 c' = m.1 c') ∧ q.2.2 = m.2
  have hgo : ∀ v w, R v w → ps_U_fewestBackward_11 h (nI s) v ∧ ps_M_told_11 m (nI s) m1 w ∧ ((∃ v' w', s_U_fewestBackward_11 h (nI s) v = .inl v' ∧ s_M_told_11 m (nI s) m1 w = .inl w' ∧ R v' w' ∧ am_ix v'.2.1 + 0 = am_ix v.2.1 + 1 ∧ am_ix v.2.1 < 20) ∨ ∃ r q, s_U_fewestBackward_11 h (nI s) v = .inr r ∧ s_M_told_11 m (nI s) m1 w = .inr q ∧ Q r q) := by
    intro v w hRv
    obtain ⟨t, c, h', m', ht, rfl, rfl, hc, k1, k2, k3, k4, k5⟩ := hRv
    have hR' : RT h'.1 0 T n := hR.congr (fun j hj => k1 _ (by omega))
    have hT' : m'.1 1 = T := (k2 1 (by omega)).trans hT
    have hBm := mm_before hT' hI (k := t) (by omega)
    cases e : bf T n t with
    | none =>
      rw [lastc_none e] at k5
      subst k5
      refine ⟨⟨fun _ => ⟨fun _ => trivial, fun z => absurd rfl z⟩, fun _ => trivial⟩, ⟨fun _ => trivial, fun z => absurd rfl z⟩, Or.inr ⟨(eo none, nI c, h'), (nI t, m'), ?_, ?_, ?_⟩⟩
      · show (if nI c < nI 20 then (if eo none = -1 then _ else _) else _) = _
        rw [if_pos (show eo none = -1 from rfl), ite_self]
      · show (if nI t = nI t then _ else _) = _
        rw [if_pos rfl]
      · refine ⟨k4 t ?_, k1, k2, k3⟩
        rw [ch_step hI.fw ht]; exact List.mem_cons_self
    | some t' =>
      obtain ⟨ht', hnt⟩ := bfo_some (show bfo T t n = some t' from e)
      have hc' : c + ((cho (bf T n) (bf T n t')).length + 1) ≤ 20 := by rw [e, cho_some hI.bw ht'] at hc; exact hc
      have hts : ¬ nI t = nI s := by
        intro z
        have : t = s := nI_inj (by omega) (by omega) z
        rw [this, hb] at e; cases e
      have hB : v_M_before m' (nI t) = nI t' := by rw [hBm.2]; show eo (bf T n t) = _; rw [e]; rfl
      have hS' := mm_settles hT' hI ht'
      refine ⟨⟨fun _ => ⟨fun _ => trivial, fun _ => (cc_toEnd hR' hI ht').1⟩, fun _ => trivial⟩, ⟨fun _ => trivial, fun _ => ⟨hBm.1, ?_⟩⟩, Or.inl ⟨(eo (bf T n t'), nI (c + 1), am_si h' 17 t' (fs T (h'.1 17) t')), (nI t', am_si m' 8 t' (fs T (m'.1 8) t')), ?_, ?_, ?_, ?_, ?_⟩⟩
      · show p_M_settles m' (v_M_before m' (nI t))
        rw [hB]; exact hS'.1
      · exact hstep h' t' c hR' ht' (by omega)
      · show (if nI t = nI s then _ else (bnd (v_M_settles m' (v_M_before m' (nI t))) fun y3 => Sum.inl (v_M_before m' (nI t), y3))) = _
        rw [if_neg hts, hB, hS'.2]; rfl
      · refine ⟨t', c + 1, _, _, ht', rfl, rfl, by omega, fun c' hc' => ?_, fun c' hc' => ?_, k3, fun k hk => ?_, ?_⟩
        · rw [am_si_ne hc']; exact k1 c' hc'
        · rw [am_si_ne hc']; exact k2 c' hc'
        · rw [am_si1, am_si1]
          have hchain : cho (nx T) (nx T t') = ch (nx T) t := by rw [hnt]; rfl
          by_cases e4 : k = t'
          · rw [if_pos ⟨rfl, e4⟩, if_pos ⟨rfl, e4⟩]
            exact fs_congr hI ht' (fun j hj => k4 j (by rw [← hchain]; exact hj))
          · rw [if_neg (fun z => e4 z.2), if_neg (fun z => e4 z.2)]
            rw [ch_step hI.fw ht', hchain] at hk
            rcases List.mem_cons.mp hk with z | z
            · exact absurd z e4
            · exact k4 k z
        · rw [← k5]; exact (lastc_some hI.bw ht e).symm
      · show am_ix (nI (c + 1)) + 0 = am_ix (nI c) + 1
        rw [nI_ix (by omega), nI_ix (by omega)]
      · show am_ix (nI c) < 20
        rw [nI_ix (by omega)]; omega
  have hR0 : R (eo (bf T n l), nI 1, h1) (nI l, m1) := by
    refine ⟨l, 1, h1, m1, hl, rfl, rfl, ?_, fun c' hc' => am_si_ne hc', fun c' hc' => am_si_ne hc', rfl, fun k hk => ?_, hlb⟩
    · have := cho_20 hI.bw (okO_some hl)
      rw [cho_some hI.bw hl] at this
      have h2 : (cho (bf T n) (bf T n l)).length + 1 ≤ 20 := this
      omega
    · rw [ch_step hI.fw hl, hln] at hk
      rcases List.mem_cons.mp hk with rfl | z
      · show (am_si h 17 k _).1 17 k = (am_si m 8 k _).1 8 k
        rw [am_si1, am_si1, if_pos ⟨rfl, rfl⟩, if_pos ⟨rfl, rfl⟩]
        refine fs_congr hI hl (fun j hj => ?_)
        rw [hln] at hj; cases hj
      · cases z
  obtain ⟨a, b, r, q, e1, e2, hQ⟩ := itr_rel2 (p₁ := ps_U_fewestBackward_11 h (nI s)) (p₂ := ps_M_told_11 m (nI s) m1) R (fun v _ => 20 - am_ix v.2.1) Q (fun v w hRv => by
    obtain ⟨g1, g2, g3⟩ := hgo v w hRv
    refine ⟨g1, g2, ?_⟩
    rcases g3 with ⟨v', w', f1, f2, f3, f4, f5⟩ | g3
    · exact Or.inl ⟨v', w', f1, f2, f3, by omega⟩
    · exact Or.inr g3) 999999 NF (eo (bf T n l), nI 1, h1) (nI l, m1) (by show 20 - am_ix (nI 1) < 999999; omega) (by show 20 - am_ix (nI 1) < NF; rw [NF_eq]; omega) hR0
  have hc0 : s_U_fewestBackward_11 h (nI s) (nI l, 0, h) = .inl (eo (bf T n l), nI 1, h1) := hstep h l 0 hR hl (by omega)
  have e3 : itr (s_U_fewestBackward_11 h (nI s)) NF (nI l, 0, h) = some r := by
    rw [NF_eq, show (1000000 : Nat) = 999999 + 1 from rfl, itr, hc0]; exact e1
  refine ⟨⟨hE.1, ?_⟩, ⟨hL.1, ?_, fun y1 hy => ?_⟩, ?_⟩
  · rw [hE.2]
    rw [NF_eq, show (1000000 : Nat) = 999999 + 1 from rfl]
    refine ⟨⟨fun _ => ⟨fun _ => trivial, fun _ => hF.1⟩, fun _ => trivial⟩, fun v' hv => ?_⟩
    rw [hc0] at hv; cases hv; exact a
  · rw [hL.2]; exact hS.1
  · rw [hL.2, hS.2] at hy
    subst hy
    rw [hL.2]
    exact ⟨b, fun r2 hr => nI_am (by omega) (by omega)⟩
  · have vU : v_U_fewestBackward h (nI s) = (v_at 20 (r.2.2.1 17) (nI s), r.2.2) := by
      rw [v_U_fewestBackward, hE.2, e3]
    have vM : v_M_told m (nI s) = (q.2.1 8 s, q.2) := by
      rw [v_M_told, hL.2, hS.2]
      show (match itr (s_M_told_11 m (nI s) m1) NF (nI l, m1) with | some r2 => (r2.2.1 8 (am_ix (nI s)), r2.2) | none => (0, m)) = _
      rw [e2, nI_ix (by omega)]
    rw [vU, vM]
    exact ⟨by show v_at 20 (r.2.2.1 17) (nI s) = _; rw [at20 _ (by omega)]; exact hQ.1, hQ.2.1, hQ.2.2.1, hQ.2.2.2⟩
