/-! PURE: saving, undoing, snapshots. -/
theorem nI_nq {a b : Nat} (h : a ≠ b) (ha : a < 100000) (hb : b < 100000) : ¬ nI a = nI b := fun z => h (nI_inj (by omega) (by omega) z)
theorem cq39 {p : Nat} (hp : p < 6) : (39 + 12 * p, 0) ∈ cql ∧ (0, 39 + 12 * p) ∈ cql := by
  rcases p with _ | _ | _ | _ | _ | _ | p
  · decide
  · decide
  · decide
  · decide
  · decide
  · decide
  · omega
theorem cq111 {p : Nat} (hp : p < 2) : (111 + 12 * p, 0) ∈ cql ∧ (0, 111 + 12 * p) ∈ cql := by
  rcases p with _ | _ | p
  · decide
  · decide
  · omega
theorem st33 {p : Nat} (hp : p < 6) (h : HP) : v_S_store_0_33 h (nI p) = v_copyFrom h (39 + 12 * p) 0 ∧ p_S_store_0_33 h (nI p) := by
  refine ⟨?_, fun _ => trivial, fun _ => ⟨fun _ => nI_am hp (by omega), fun _ => trivial⟩⟩
  unfold v_S_store_0_33
  rw [if_neg (nI_pos (by omega)), if_pos (show nI p < 6 from nI_lt (b := 6) hp (by omega))]
  rcases p with _ | _ | _ | _ | _ | _ | p
  · rw [if_pos rfl]; rfl
  · rw [if_neg (nI_nq (by omega) (by omega) (by omega)), if_pos rfl]; rfl
  · rw [if_neg (nI_nq (by omega) (by omega) (by omega)), if_neg (nI_nq (by omega) (by omega) (by omega)), if_pos rfl]; rfl
  · rw [if_neg (nI_nq (by omega) (by omega) (by omega)), if_neg (nI_nq (by omega) (by omega) (by omega)), if_neg (nI_nq (by omega) (by omega) (by omega)), if_pos rfl]; rfl
  · rw [if_neg (nI_nq (by omega) (by omega) (by omega)), if_neg (nI_nq (by omega) (by omega) (by omega)), if_neg (nI_nq (by omega) (by omega) (by omega)), if_neg (nI_nq (by omega) (by omega) (by omega)), if_pos rfl]; rfl
  · rw [if_neg (nI_nq (by omega) (by omega) (by omega)), if_neg (nI_nq (by omega) (by omega) (by omega)), if_neg (nI_nq (by omega) (by omega) (by omega)), if_neg (nI_nq (by omega) (by omega) (by omega)), if_neg (nI_nq (by omega) (by omega) (by omega)), if_pos rfl]; rfl
  · omega
theorem fe33 {p : Nat} (hp : p < 6) (h : HP) : v_S_fetch_0_33 h (nI p) = v_copyFrom h 0 (39 + 12 * p) ∧ p_S_fetch_0_33 h (nI p) := by
  refine ⟨?_, fun _ => trivial, fun _ => ⟨fun _ => nI_am hp (by omega), fun _ => trivial⟩⟩
  unfold v_S_fetch_0_33
  rw [if_neg (nI_pos (by omega)), if_pos (show nI p < 6 from nI_lt (b := 6) hp (by omega))]
  rcases p with _ | _ | _ | _ | _ | _ | p
  · rw [if_pos rfl]; rfl
  · rw [if_neg (nI_nq (by omega) (by omega) (by omega)), if_pos rfl]; rfl
  · rw [if_neg (nI_nq (by omega) (by omega) (by omega)), if_neg (nI_nq (by omega) (by omega) (by omega)), if_pos rfl]; rfl
  · rw [if_neg (nI_nq (by omega) (by omega) (by omega)), if_neg (nI_nq (by omega) (by omega) (by omega)), if_neg (nI_nq (by omega) (by omega) (by omega)), if_pos rfl]; rfl
  · rw [if_neg (nI_nq (by omega) (by omega) (by omega)), if_neg (nI_nq (by omega) (by omega) (by omega)), if_neg (nI_nq (by omega) (by omega) (by omega)), if_neg (nI_nq (by omega) (by omega) (by omega)), if_pos rfl]; rfl
  · rw [if_neg (nI_nq (by omega) (by omega) (by omega)), if_neg (nI_nq (by omega) (by omega) (by omega)), if_neg (nI_nq (by omega) (by omega) (by omega)), if_neg (nI_nq (by omega) (by omega) (by omega)), if_neg (nI_nq (by omega) (by omega) (by omega)), if_pos rfl]; rfl
  · omega
theorem st35 {p : Nat} (hp : p < 2) (h : HP) : v_S_store_0_35 h (nI p) = v_copyFrom h (111 + 12 * p) 0 ∧ p_S_store_0_35 h (nI p) := by
  refine ⟨?_, fun _ => trivial, fun _ => ⟨fun _ => nI_am hp (by omega), fun _ => trivial⟩⟩
  unfold v_S_store_0_35
  rw [if_neg (nI_pos (by omega)), if_pos (show nI p < 2 from nI_lt (b := 2) hp (by omega))]
  rcases p with _ | _ | p
  · rw [if_pos rfl]; rfl
  · rw [if_neg (nI_nq (by omega) (by omega) (by omega)), if_pos rfl]; rfl
  · omega
theorem fe35 {p : Nat} (hp : p < 2) (h : HP) : v_S_fetch_0_35 h (nI p) = v_copyFrom h 0 (111 + 12 * p) ∧ p_S_fetch_0_35 h (nI p) := by
  refine ⟨?_, fun _ => trivial, fun _ => ⟨fun _ => nI_am hp (by omega), fun _ => trivial⟩⟩
  unfold v_S_fetch_0_35
  rw [if_neg (nI_pos (by omega)), if_pos (show nI p < 2 from nI_lt (b := 2) hp (by omega))]
  rcases p with _ | _ | p
  · rw [if_pos rfl]; rfl
  · rw [if_neg (nI_nq (by omega) (by omega) (by omega)), if_pos rfl]; rfl
  · omega
theorem mod6 {a : Nat} (ha : a < 100000) : nI a - nI a / 6 * 6 = nI (a % 6) := nI_mod (b := 6) (by omega) (by omega)
/-- where the class saves next -/
theorem cc_save {h : HP} {s o : Nat} (hs : s ≤ 6) (ho : o < 6) (h9 : h.1 38 9 = nI s) (h8 : h.1 38 8 = nI o) : p_B_save h ∧
    ∃ s' o', s' = (if s = 6 then 6 else s + 1) ∧ o' = (if s = 6 then (o + 1) % 6 else o) ∧ (v_B_save h).1 38 9 = nI s' ∧ (v_B_save h).1 38 8 = nI o' ∧
      (∀ c, c ≠ 38 → ¬ (39 + 12 * ((o' + s' - 1) % 6) ≤ c ∧ c < 39 + 12 * ((o' + s' - 1) % 6) + 12) → (v_B_save h).1 c = h.1 c) ∧
      (∀ (T : Nat → Int32) (n : Nat), RT h.1 0 T n → n ≤ 20 → RT (v_B_save h).1 (39 + 12 * ((o' + s' - 1) % 6)) T n) := by
  by_cases e : s = 6
  · subst e
    have hn : ¬ h.1 38 9 < 6 := by rw [h9]; exact nI_nlt (b := 6) (by omega) (by omega)
    let g := am_si h 38 8 (nI ((o + 1) % 6))
    have hg : (if h.1 38 9 < 6 then am_si h 38 9 (h.1 38 9 + 1) else am_si h 38 8 ((h.1 38 8 + 1) - (h.1 38 8 + 1) / 6 * 6)) = g := by
      rw [if_neg hn, h8, nI_1, mod6 (by omega)]
    have g9 : g.1 38 9 = nI 6 := by show (am_si h 38 8 _).1 38 9 = _; rw [am_si1, if_neg (by omega)]; exact h9
    have g8 : g.1 38 8 = nI ((o + 1) % 6) := by show (am_si h 38 8 _).1 38 8 = _; rw [am_si1, if_pos ⟨rfl, rfl⟩]
    have hi : g.1 38 8 + g.1 38 9 - 1 - (g.1 38 8 + g.1 38 9 - 1) / 6 * 6 = nI (((o + 1) % 6 + 6 - 1) % 6) := by
      rw [g8, g9, nI_add, show (o + 1) % 6 + 6 = ((o + 1) % 6 + 6 - 1) + 1 by omega, nI_pred, mod6 (by omega)]
      congr 1
    have hp : ((o + 1) % 6 + 6 - 1) % 6 < 6 := Nat.mod_lt _ (by omega)
    obtain ⟨a, b⟩ := st33 hp g
    have hq := (cq39 hp).1
    have hv : v_B_save h = v_copyFrom g (39 + 12 * (((o + 1) % 6 + 6 - 1) % 6)) 0 := by
      rw [v_B_save, hg, hi]; exact a
    refine ⟨by rw [p_B_save, hg, hi]; exact b, 6, (o + 1) % 6, (if_pos rfl).symm, (if_pos rfl).symm, ?_, ?_, fun c hc hc2 => ?_, fun T n hR hn2 => ?_⟩
    · rw [hv, copy_rest hq _ (by omega)]; exact g9
    · rw [hv, copy_rest hq _ (by omega)]; exact g8
    · rw [hv, copy_rest hq _ hc2]; exact am_si_ne hc
    · rw [hv]; exact copy_RT hq (hR.congr (fun j hj => am_si_ne (by omega))) hn2
  · have hn : h.1 38 9 < 6 := by rw [h9]; exact nI_lt (b := 6) (by omega) (by omega)
    let g := am_si h 38 9 (nI (s + 1))
    have hg : (if h.1 38 9 < 6 then am_si h 38 9 (h.1 38 9 + 1) else am_si h 38 8 ((h.1 38 8 + 1) - (h.1 38 8 + 1) / 6 * 6)) = g := by
      rw [if_pos hn, h9, nI_1]
    have g9 : g.1 38 9 = nI (s + 1) := by show (am_si h 38 9 _).1 38 9 = _; rw [am_si1, if_pos ⟨rfl, rfl⟩]
    have g8 : g.1 38 8 = nI o := by show (am_si h 38 9 _).1 38 8 = _; rw [am_si1, if_neg (by omega)]; exact h8
    have hi : g.1 38 8 + g.1 38 9 - 1 - (g.1 38 8 + g.1 38 9 - 1) / 6 * 6 = nI ((o + (s + 1) - 1) % 6) := by
      rw [g8, g9, nI_add, show o + (s + 1) = (o + (s + 1) - 1) + 1 by omega, nI_pred, mod6 (by omega)]
      congr 1
    have hp : (o + (s + 1) - 1) % 6 < 6 := Nat.mod_lt _ (by omega)
    obtain ⟨a, b⟩ := st33 hp g
    have hq := (cq39 hp).1
    have hv : v_B_save h = v_copyFrom g (39 + 12 * ((o + (s + 1) - 1) % 6)) 0 := by
      rw [v_B_save, hg, hi]; exact a
    refine ⟨by rw [p_B_save, hg, hi]; exact b, s + 1, o, (if_neg e).symm, (if_neg e).symm, ?_, ?_, fun c hc hc2 => ?_, fun T n hR hn2 => ?_⟩
    · rw [hv, copy_rest hq _ (by omega)]; exact g9
    · rw [hv, copy_rest hq _ (by omega)]; exact g8
    · rw [hv, copy_rest hq _ hc2]; exact am_si_ne hc
    · rw [hv]; exact copy_RT hq (hR.congr (fun j hj => am_si_ne (by omega))) hn2