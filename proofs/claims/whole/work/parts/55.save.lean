/-! PURE: saving, undoing, snapshots. -/
theorem nI_nq {a b : Nat} (h : a ≠ b) (ha : a < 100000) (hb : b < 100000) : ¬ nI a = nI b := fun z => h (nI_inj (by omega) (by omega) z)
theorem cq39 {p : Nat} (hp : p < 6) : (39 + 12 * p, 0) ∈ cql ∧ (0, 39 + 12 * p) ∈ cql := by
  rcases p with _ | _ | _ | _ | _ | _ | p
  · decide
  · decide
  · decide
  · decide
  · decide
  · decide
  · omega
theorem cq111 {p : Nat} (hp : p < 2) : (111 + 12 * p, 0) ∈ cql ∧ (0, 111 + 12 * p) ∈ cql := by
  rcases p with _ | _ | p
  · decide
  · decide
  · omega
theorem st33 {p : Nat} (hp : p < 6) (h : HP) : v_S_store_0_33 h (nI p) = v_copyFrom h (39 + 12 * p) 0 ∧ p_S_store_0_33 h (nI p) := by
  refine ⟨?_, fun _ => trivial, fun _ => ⟨fun _ => nI_am hp (by omega), fun _ => trivial⟩⟩
  unfold v_S_store_0_33
  rw [if_neg (nI_pos (by omega)), if_pos (show nI p < 6 from nI_lt (b := 6) hp (by omega))]
  rcases p with _ | _ | _ | _ | _ | _ | p
  · rw [if_pos rfl]; rfl
  · rw [if_neg (nI_nq (by omega) (by omega) (by omega)), if_pos rfl]; rfl
  · rw [if_neg (nI_nq (by omega) (by omega) (by omega)), if_neg (nI_nq (by omega) (by omega) (by omega)), if_pos rfl]; rfl
  · rw [if_neg (nI_nq (by omega) (by omega) (by omega)), if_neg (nI_nq (by omega) (by omega) (by omega)), if_neg (nI_nq (by omega) (by omega) (by omega)), if_pos rfl]; rfl
  · rw [if_neg (nI_nq (by omega) (by omega) (by omega)), if_neg (nI_nq (by omega) (by omega) (by omega)), if_neg (nI_nq (by omega) (by omega) (by omega)), if_neg (nI_nq (by omega) (by omega) (by omega)), if_pos rfl]; rfl
  · rw [if_neg (nI_nq (by omega) (by omega) (by omega)), if_neg (nI_nq (by omega) (by omega) (by omega)), if_neg (nI_nq (by omega) (by omega) (by omega)), if_neg (nI_nq (by omega) (by omega) (by omega)), if_neg (nI_nq (by omega) (by omega) (by omega)), if_pos rfl]; rfl
  · omega
theorem fe33 {p : Nat} (hp : p < 6) (h : HP) : v_S_fetch_0_33 h (nI p) = v_copyFrom h 0 (39 + 12 * p) ∧ p_S_fetch_0_33 h (nI p) := by
  refine ⟨?_, fun _ => trivial, fun _ => ⟨fun _ => nI_am hp (by omega), fun _ => trivial⟩⟩
  unfold v_S_fetch_0_33
  rw [if_neg (nI_pos (by omega)), if_pos (show nI p < 6 from nI_lt (b := 6) hp (by omega))]
  rcases p with _ | _ | _ | _ | _ | _ | p
  · rw [if_pos rfl]; rfl
  · rw [if_neg (nI_nq (by omega) (by omega) (by omega)), if_pos rfl]; rfl
  · rw [if_neg (nI_nq (by omega) (by omega) (by omega)), if_neg (nI_nq (by omega) (by omega) (by omega)), if_pos rfl]; rfl
  · rw [if_neg (nI_nq (by omega) (by omega) (by omega)), if_neg (nI_nq (by omega) (by omega) (by omega)), if_neg (nI_nq (by omega) (by omega) (by omega)), if_pos rfl]; rfl
  · rw [if_neg (nI_nq (by omega) (by omega) (by omega)), if_neg (nI_nq (by omega) (by omega) (by omega)), if_neg (nI_nq (by omega) (by omega) (by omega)), if_neg (nI_nq (by omega) (by omega) (by omega)), if_pos rfl]; rfl
  · rw [if_neg (nI_nq (by omega) (by omega) (by omega)), if_neg (nI_nq (by omega) (by omega) (by omega)), if_neg (nI_nq (by omega) (by omega) (by omega)), if_neg (nI_nq (by omega) (by omega) (by omega)), if_neg (nI_nq (by omega) (by omega) (by omega)), if_pos rfl]; rfl
  · omega
theorem st35 {p : Nat} (hp : p < 2) (h : HP) : v_S_store_0_35 h (nI p) = v_copyFrom h (111 + 12 * p) 0 ∧ p_S_store_0_35 h (nI p) := by
  refine ⟨?_, fun _ => trivial, fun _ => ⟨fun _ => nI_am hp (by omega), fun _ => trivial⟩⟩
  unfold v_S_store_0_35
  rw [if_neg (nI_pos (by omega)), if_pos (show nI p < 2 from nI_lt (b := 2) hp (by omega))]
  rcases p with _ | _ | p
  · rw [if_pos rfl]; rfl
  · rw [if_neg (nI_nq (by omega) (by omega) (by omega)), if_pos rfl]; rfl
  · omega
theorem fe35 {p : Nat} (hp : p < 2) (h : HP) : v_S_fetch_0_35 h (nI p) = v_copyFrom h 0 (111 + 12 * p) ∧ p_S_fetch_0_35 h (nI p) := by
  refine ⟨?_, fun _ => trivial, fun _ => ⟨fun _ => nI_am hp (by omega), fun _ => trivial⟩⟩
  unfold v_S_fetch_0_35
  rw [if_neg (nI_pos (by omega)), if_pos (show nI p < 2 from nI_lt (b := 2) hp (by omega))]
  rcases p with _ | _ | p
  · rw [if_pos rfl]; rfl
  · rw [if_neg (nI_nq (by omega) (by omega) (by omega)), if_pos rfl]; rfl
  · omega
theorem mod6 {a : Nat} (ha : a < 100000) : nI a - nI a / 6 * 6 = nI (a % 6) := nI_mod (b := 6) (by omega) (by omega)
/-- where the class saves next -/
theorem cc_save {h : HP} {s o : Nat} (hs : s ≤ 6) (ho : o < 6) (h9 : h.1 38 9 = nI s) (h8 : h.1 38 8 = nI o) : p_B_save h ∧
    ∃ s' o', s' = (if s = 6 then 6 else s + 1) ∧ o' = (if s = 6 then (o + 1) % 6 else o) ∧ (v_B_save h).1 38 9 = nI s' ∧ (v_B_save h).1 38 8 = nI o' ∧
      (∀ c, c ≠ 38 → ¬ (39 + 12 * ((o' + s' - 1) % 6) ≤ c ∧ c < 39 + 12 * ((o' + s' - 1) % 6) + 12) → (v_B_save h).1 c = h.1 c) ∧
      (∀ (T : Nat → Int32) (n : Nat), RT h.1 0 T n → n ≤ 20 → RT (v_B_save h).1 (39 + 12 * ((o' + s' - 1) % 6)) T n) := by
  by_cases e : s = 6
  · subst e
    have hn : ¬ h.1 38 9 < 6 := by rw [h9]; exact nI_nlt (b := 6) (by omega) (by omega)
    let g := am_si h 38 8 (nI ((o + 1) % 6))
    have hg : (if h.1 38 9 < 6 then am_si h 38 9 (h.1 38 9 + 1) else am_si h 38 8 ((h.1 38 8 + 1) - (h.1 38 8 + 1) / 6 * 6)) = g := by
      rw [if_neg hn, h8, nI_1, mod6 (by omega)]
    have g9 : g.1 38 9 = nI 6 := by show (am_si h 38 8 _).1 38 9 = _; rw [am_si1, if_neg (by omega)]; exact h9
    have g8 : g.1 38 8 = nI ((o + 1) % 6) := by show (am_si h 38 8 _).1 38 8 = _; rw [am_si1, if_pos ⟨rfl, rfl⟩]
    have hi : g.1 38 8 + g.1 38 9 - 1 - (g.1 38 8 + g.1 38 9 - 1) / 6 * 6 = nI (((o + 1) % 6 + 6 - 1) % 6) := by
      rw [g8, g9, nI_add, show (o + 1) % 6 + 6 = ((o + 1) % 6 + 6 - 1) + 1 by omega, nI_pred, mod6 (by omega)]
      congr 1
    have hp : ((o + 1) % 6 + 6 - 1) % 6 < 6 := Nat.mod_lt _ (by omega)
    obtain ⟨a, b⟩ := st33 hp g
    have hq := (cq39 hp).1
    have hv : v_B_save h = v_copyFrom g (39 + 12 * (((o + 1) % 6 + 6 - 1) % 6)) 0 := by
      rw [v_B_save, hg, hi]; exact a
    refine ⟨by rw [p_B_save, hg, hi]; exact b, 6, (o + 1) % 6, (if_pos rfl).symm, (if_pos rfl).symm, ?_, ?_, fun c hc hc2 => ?_, fun T n hR hn2 => ?_⟩
    · rw [hv, copy_rest hq _ (by omega)]; exact g9
    · rw [hv, copy_rest hq _ (by omega)]; exact g8
    · rw [hv, copy_rest hq _ hc2]; exact am_si_ne hc
    · rw [hv]; exact copy_RT hq (hR.congr (fun j hj => am_si_ne (by omega))) hn2
  · have hn : h.1 38 9 < 6 := by rw [h9]; exact nI_lt (b := 6) (by omega) (by omega)
    let g := am_si h 38 9 (nI (s + 1))
    have hg : (if h.1 38 9 < 6 then am_si h 38 9 (h.1 38 9 + 1) else am_si h 38 8 ((h.1 38 8 + 1) - (h.1 38 8 + 1) / 6 * 6)) = g := by
      rw [if_pos hn, h9, nI_1]
    have g9 : g.1 38 9 = nI (s + 1) := by show (am_si h 38 9 _).1 38 9 = _; rw [am_si1, if_pos ⟨rfl, rfl⟩]
    have g8 : g.1 38 8 = nI o := by show (am_si h 38 9 _).1 38 8 = _; rw [am_si1, if_neg (by omega)]; exact h8
    have hi : g.1 38 8 + g.1 38 9 - 1 - (g.1 38 8 + g.1 38 9 - 1) / 6 * 6 = nI ((o + (s + 1) - 1) % 6) := by
      rw [g8, g9, nI_add, show o + (s + 1) = (o + (s + 1) - 1) + 1 by omega, nI_pred, mod6 (by omega)]
      congr 1
    have hp : (o + (s + 1) - 1) % 6 < 6 := Nat.mod_lt _ (by omega)
    obtain ⟨a, b⟩ := st33 hp g
    have hq := (cq39 hp).1
    have hv : v_B_save h = v_copyFrom g (39 + 12 * ((o + (s + 1) - 1) % 6)) 0 := by
      rw [v_B_save, hg, hi]; exact a
    refine ⟨by rw [p_B_save, hg, hi]; exact b, s + 1, o, (if_neg e).symm, (if_neg e).symm, ?_, ?_, fun c hc hc2 => ?_, fun T n hR hn2 => ?_⟩
    · rw [hv, copy_rest hq _ (by omega)]; exact g9
    · rw [hv, copy_rest hq _ (by omega)]; exact g8
    · rw [hv, copy_rest hq _ hc2]; exact am_si_ne hc
    · rw [hv]; exact copy_RT hq (hR.congr (fun j hj => am_si_ne (by omega))) hn2
/-- both save -/
theorem RR_save {n : Nat} {h m : HP} (hr : RR n h m) : p_B_save h ∧ p_M_saves m ∧ RR n (v_B_save h) (v_M_saves m) ∧ (∀ c, c < 33 → (v_B_save h).1 c = h.1 c) ∧ (v_M_saves m).1 1 = m.1 1 ∧ (v_M_saves m).1 0 8 = m.1 0 8 ∧ (v_M_saves m).2 = m.2 := by
  obtain ⟨hR, hI, ⟨s, o, k1, k2, k3, k4, k5, k6⟩, hK, ⟨l, x1, x2, x3, x4⟩, hZ⟩ := hr
  obtain ⟨a1, s', o', e1, e2, b1, b2, b3, b4⟩ := cc_save k1 k2 k3 k4
  obtain ⟨c1, c2, c3, c4, c5, c6, c7⟩ := mm_saves k1 k5
  have hn20 := hI.n20
  have hblk : (o' + s' - 1) % 6 < 6 := Nat.mod_lt _ (by omega)
  have hlow : ∀ c, c < 33 → (v_B_save h).1 c = h.1 c := fun c hc => b3 c (by omega) (by omega)
  have h1 : (v_M_saves m).1 1 = m.1 1 := c3 1 (by omega) (by omega)
  refine ⟨a1, c1, ⟨?_, ?_, ⟨s', o', ?_, ?_, b1, b2, ?_, fun j hj => ?_⟩, fun j hj => ?_, ⟨l, x1, by rw [hlow 18 (by omega)]; exact x2, by rw [c4 7 (by omega)]; exact x3, fun i hi => ?_⟩, ?_⟩, hlow, h1, c4 8 (by omega), c5⟩
  · rw [h1]; exact hR.congr (fun j hj => hlow _ (by omega))
  · rw [h1]; exact hI
  · rw [e1]; split <;> omega
  · rw [e2]; split
    · exact Nat.mod_lt _ (by omega)
    · exact k2
  · rw [c2, e1]
  · -- the saved states
    by_cases hlast : j = s' - 1
    · -- the new one
      have hp : (o' + j) % 6 = (o' + s' - 1) % 6 := by congr 1; omega
      rw [hp]
      have hs5 : s' - 1 = (if s = 6 then 5 else s) := by rw [e1]; split <;> omega
      have hrow : ∀ i, i < 163 → row (v_M_saves m) 3 (163 * j) i = m.1 1 i := fun i hi => by
        show (v_M_saves m).1 3 (163 * j + i) = _
        rw [hlast, hs5]; exact c7 i hi
      refine ⟨n, ?_, ?_⟩
      · exact (b4 _ n hR hn20).agree (fun i hi => hrow i (by omega))
      · exact hI.agree (fun i hi => hrow i (by omega))
    · have hne : (o' + j) % 6 ≠ (o' + s' - 1) % 6 := by
        have : s' ≤ 6 := by rw [e1]; split <;> omega
        omega
      have hold : ∃ j0, j0 < s ∧ (o + j0) % 6 = (o' + j) % 6 ∧ j0 = (if s = 6 then j + 1 else j) ∧ j < (if s = 6 then 5 else s) := by
        by_cases e : s = 6
        · rw [if_pos e] at e1 e2 ⊢
          rw [if_pos e]
          refine ⟨j + 1, by omega, ?_, rfl, by omega⟩
          rw [e2]; omega
        · rw [if_neg e] at e1 e2 ⊢
          rw [if_neg e]
          exact ⟨j, by omega, by rw [e2], rfl, by omega⟩
      obtain ⟨j0, q1, q2, q3, q4⟩ := hold
      have hS := k6 j0 q1
      rw [q2] at hS
      obtain ⟨n0, r1, r2⟩ := hS
      have hrow : ∀ i, i < 163 → row (v_M_saves m) 3 (163 * j) i = row m 3 (163 * j0) i := fun i hi => by
        show (v_M_saves m).1 3 (163 * j + i) = m.1 3 (163 * j0 + i)
        rw [c6 j i q4 hi, ← q3]
      have hn0 := r2.n20
      refine ⟨n0, (r1.congr (fun i hi => b3 _ (by omega) ?_)).agree (fun i hi => hrow i (by omega)), r2.agree (fun i hi => hrow i (by omega))⟩
      omega
  · rw [b3 37 (by omega) (by omega), c3 5 (by omega) (by omega)]
    refine ⟨(hK j hj).1, (hK j hj).2.imp id (fun z => ⟨z.1, z.2.keep (fun i _ => b3 _ (by omega) (by omega)) (fun i _ => by rw [c3 4 (by omega) (by omega)])⟩)⟩
  · rw [hlow 19 (by omega), c3 6 (by omega) (by omega)]; exact x4 i hi
  · unfold RrZ
    rw [b3 1002 (by omega) (by omega), b3 1003 (by omega) (by omega)]
    exact hZ
