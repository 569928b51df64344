/-! PURE: texts: numbers, parts, the model's reading whole. -/
section MNU
variable {M : HP} {s : Nat → Nat} {L i q : Nat}
/-- the digits that follow -/
theorem ms_more (hL : L ≤ 60) (hs : ∀ i, i < L → s i ≤ 126) (t : MS M L s i q) {h0 : HP} {a1 a2 : Int32} {p : Nat} (hp : p = 4 ∨ p = 5) : ∀ (n j v N : Nat) (f : Nat → Option Nat), j + n = L → n < N → v ≤ mo p → f p = some v → itrp (s_M_isNumber_39 h0 a1 a2 (nI (mo p))) (ps_M_isNumber_39 h0 a1 a2 (nI (mo p))) N (nI v, am_si M 0 12 (nI j)) ∧ ∃ k w, itr (s_M_isNumber_39 h0 a1 a2 (nI (mo p))) N (nI v, am_si M 0 12 (nI j)) = some (nI w, am_si M 0 12 (nI (j + k))) ∧ j + k ≤ L ∧ w ≤ mo p ∧ (1 ≤ v → 1 ≤ w) ∧ Gx s k j p f p (st f p w) ∧ (j + k = L ∨ ¬ (48 ≤ s (j + k) ∧ s (j + k) ≤ 57) ∨ (w = 0 ∨ mo p < 10 * w + (s (j + k) - 48)))
  | _, _, _, 0, _, _, hN, _, _ => absurd hN (Nat.not_lt_zero _)
  | n, j, v, N + 1, f, hj, hN, hv, hf => by
    have hmo : mo p ≤ 1439 := by unfold mo; split <;> omega
    have t' : MS (am_si M 0 12 (nI j)) L s j q := t.adv j
    obtain ⟨a, b⟩ := ms_sees hL hs (by omega) t' (lo := 48) (hj := 57) (by omega) (by omega)
    have b' : v_M_sees (am_si M 0 12 (nI j)) 48 57 = (if j < L ∧ 48 ≤ s j ∧ s j ≤ 57 then 1 else 0) := b
    have hself : st f p v = f := by
      funext x
      unfold st
      by_cases e : x = p
      · rw [if_pos e, e, hf]
      · rw [if_neg e]
    have stop : s_M_isNumber_39 h0 a1 a2 (nI (mo p)) (nI v, am_si M 0 12 (nI j)) = .inr (nI v, am_si M 0 12 (nI j)) → (j = L ∨ ¬ (48 ≤ s j ∧ s j ≤ 57) ∨ (v = 0 ∨ mo p < 10 * v + (s j - 48))) → ps_M_isNumber_39 h0 a1 a2 (nI (mo p)) (nI v, am_si M 0 12 (nI j)) → itrp (s_M_isNumber_39 h0 a1 a2 (nI (mo p))) (ps_M_isNumber_39 h0 a1 a2 (nI (mo p))) (N + 1) (nI v, am_si M 0 12 (nI j)) ∧ ∃ k w, itr (s_M_isNumber_39 h0 a1 a2 (nI (mo p))) (N + 1) (nI v, am_si M 0 12 (nI j)) = some (nI w, am_si M 0 12 (nI (j + k))) ∧ j + k ≤ L ∧ w ≤ mo p ∧ (1 ≤ v → 1 ≤ w) ∧ Gx s k j p f p (st f p w) ∧ (j + k = L ∨ ¬ (48 ≤ s (j + k) ∧ s (j + k) ≤ 57) ∨ (w = 0 ∨ mo p < 10 * w + (s (j + k) - 48))) := fun e1 e2 e3 =>
      ⟨⟨e3, fun v' hv' => by rw [e1] at hv'; cases hv'⟩, 0, v, by rw [itr, e1]; rfl, by omega, hv, id, ⟨rfl, hself.symm⟩, e2⟩
    by_cases h0v : v = 0
    · have c1 : nI v ≤ 0 := (nI_lei (b := 0) (by omega) (by omega)).mpr (by omega)
      refine stop (by show (if nI v ≤ 0 then Sum.inr _ else _) = _; rw [if_pos c1]) (.inr (.inr (.inl h0v))) ⟨fun _ => trivial, fun z => absurd c1 z⟩
    · have c1 : ¬ nI v ≤ 0 := fun z => h0v (by have := (nI_lei (b := 0) (by omega) (by omega)).mp z; omega)
      by_cases hd : j < L ∧ 48 ≤ s j ∧ s j ≤ 57
      · have h126 := hs j hd.1
        have e6 : (am_si M 0 12 (nI j)).1 6 (am_ix ((am_si M 0 12 (nI j)).1 0 12)) = nI (s j) := by rw [t'.1, nI_ix (by omega)]; exact t'.2.2.2 j hd.1
        have e7 : 10 * nI v + nI (s j) - 48 = nI (10 * v + (s j - 48)) := by
          rw [show (10 : Int32) = nI 10 from rfl, nI_mul, nI_add, show (48 : Int32) = nI 48 from rfl, nI_sub (by omega)]
          congr 1; omega
        have h12 : am_in ((am_si M 0 12 (nI j)).1 0 12) 60 := by rw [t'.1]; exact nI_am (by omega) (by omega)
        have n0 : ¬ v_M_sees (am_si M 0 12 (nI j)) 48 57 = 0 := by rw [b', if_pos hd]; exact one0
        have hps : ps_M_isNumber_39 h0 a1 a2 (nI (mo p)) (nI v, am_si M 0 12 (nI j)) := ⟨fun z => absurd z c1, fun _ => ⟨a, fun _ => trivial, fun _ => ⟨h12, fun _ => h12, fun _ => trivial⟩⟩⟩
        have es : s_M_isNumber_39 h0 a1 a2 (nI (mo p)) (nI v, am_si M 0 12 (nI j)) = (if nI (10 * v + (s j - 48)) ≤ nI (mo p) then Sum.inl (nI (10 * v + (s j - 48)), am_si M 0 12 (nI (j + 1))) else Sum.inr (nI v, am_si M 0 12 (nI j))) := by
          show (if nI v ≤ 0 then Sum.inr _ else if v_M_sees (am_si M 0 12 (nI j)) 48 57 = 0 then Sum.inr _ else if 10 * nI v + (am_si M 0 12 (nI j)).1 6 (am_ix ((am_si M 0 12 (nI j)).1 0 12)) - 48 ≤ nI (mo p) then Sum.inl (10 * nI v + (am_si M 0 12 (nI j)).1 6 (am_ix ((am_si M 0 12 (nI j)).1 0 12)) - 48, am_si (am_si M 0 12 (nI j)) 0 12 ((am_si M 0 12 (nI j)).1 0 12 + 1)) else Sum.inr _) = _
          rw [if_neg c1, if_neg n0, e6, e7, t'.1, nI_1, si_si]
        by_cases hb : 10 * v + (s j - 48) ≤ mo p
        · rw [if_pos ((nI_lei (by omega) (by omega)).mpr hb)] at es
          obtain ⟨z1, k, w, z2, z3, z4, z5, z6, z7⟩ := ms_more hL hs t hp (n - 1) (j + 1) (10 * v + (s j - 48)) N (st f p (10 * v + (s j - 48))) (by omega) (by omega) hb (st_at _ _ _)
          have g1 := Gx.one (s := s) (i := j) (p := p) (f := f) (by omega) (xt_num2 hp hd.2 hf (by omega))
          have g2 := Gx.tr g1 z6
          rw [st_st, show 1 + k = k + 1 by omega] at g2
          refine ⟨⟨hps, fun v' hv' => by rw [es] at hv'; cases hv'; exact z1⟩, k + 1, w, by rw [itr, es, show j + (k + 1) = j + 1 + k by omega]; exact z2, by omega, z4, fun _ => z5 (by omega), g2, ?_⟩
          rw [show j + (k + 1) = j + 1 + k by omega]; exact z7
        · rw [if_neg (fun z => hb ((nI_lei (by omega) (by omega)).mp z))] at es
          exact stop es (.inr (.inr (.inr (by omega)))) hps
      · have n0 : v_M_sees (am_si M 0 12 (nI j)) 48 57 = 0 := by rw [b', if_neg hd]
        refine stop ?_ ?_ ⟨fun z => absurd z c1, fun _ => ⟨a, fun _ => trivial, fun z => absurd n0 z⟩⟩
        · show (if nI v ≤ 0 then Sum.inr _ else if v_M_sees (am_si M 0 12 (nI j)) 48 57 = 0 then Sum.inr _ else _) = _
          rw [if_neg c1, if_pos n0]
        · by_cases h1 : j = L
          · exact .inl h1
          · exact .inr (.inl (fun z => hd ⟨by omega, z⟩))
/-- a number -/
theorem ms_number (hL : L ≤ 60) (hs : ∀ i, i < L → s i ≤ 126) (hi : i ≤ L) (hq : 5 * q + 4 < 40) (t : MS M L s i q) {p w lo : Nat} {f : Nat → Option Nat} (hp : p = 4 ∧ w = 3 ∧ lo = 0 ∨ p = 5 ∧ w = 4 ∧ lo = 1) (hf : f p = none) : p_M_isNumber M (nI w) (nI lo) (nI (mo p)) ∧ ((∃ n v M', v_M_isNumber M (nI w) (nI lo) (nI (mo p)) = (1, M') ∧ 1 ≤ n ∧ i + n ≤ L ∧ lo ≤ v ∧ v ≤ mo p ∧ Gx s n i p f p (st f p v) ∧ MS M' L s (i + n) q ∧ MQk M M' ∧ (∀ k, k ≠ 5 * q + w → M'.1 9 k = M.1 9 k) ∧ M'.1 9 (5 * q + w) = nI v ∧ (i + n = L ∨ ¬ (48 ≤ s (i + n) ∧ s (i + n) ≤ 57) ∨ (v = 0 ∨ mo p < 10 * v + (s (i + n) - 48)))) ∨ (v_M_isNumber M (nI w) (nI lo) (nI (mo p)) = (0, M) ∧ (i = L ∨ xt p f (s i) = none))) := by
  have hp' : p = 4 ∨ p = 5 := by omega
  have hmo : mo p ≤ 1439 := by unfold mo; split <;> omega
  have hmo9 : 9 ≤ mo p := by unfold mo; split <;> omega
  obtain ⟨a, b⟩ := ms_sees hL hs hi t (lo := 48 + lo) (hj := 57) (by omega) (by omega)
  have e48 : (48 : Int32) + nI lo = nI (48 + lo) := by rw [show (48 : Int32) = nI 48 from rfl, nI_add]
  have b' : v_M_sees M (48 + nI lo) 57 = (if i < L ∧ 48 + lo ≤ s i ∧ s i ≤ 57 then 1 else 0) := by rw [e48]; exact b
  have a' : p_M_sees M (48 + nI lo) 57 := by rw [e48]; exact a
  by_cases hd : i < L ∧ 48 + lo ≤ s i ∧ s i ≤ 57
  · have h126 := hs i hd.1
    have n0 : ¬ v_M_sees M (48 + nI lo) 57 = 0 := by rw [b', if_pos hd]; exact one0
    obtain ⟨z1, k, v, z2, z3, z4, z5, z6, z7⟩ := ms_more hL hs t (h0 := M) (a1 := nI w) (a2 := nI lo) hp' (L - (i + 1)) (i + 1) (s i - 48) NF (st f p (s i - 48)) (by omega) (by rw [NF_eq]; omega) (by omega) (st_at _ _ _)
    have e1 : (M.1 6 (am_ix (M.1 0 12)) - 48, am_si M 0 12 (M.1 0 12 + 1)) = (nI (s i - 48), am_si M 0 12 (nI (i + 1))) := by rw [t.1, nI_ix (by omega), t.2.2.2 i hd.1, sub48 (by omega), nI_1]
    have t2 : MS (am_si M 0 12 (nI (i + 1 + k))) L s (i + 1 + k) q := t.adv _
    have e5 : 5 * (am_si M 0 12 (nI (i + 1 + k))).1 0 14 + nI w = nI (5 * q + w) := by rw [t2.2.1, show (5 : Int32) = nI 5 from rfl, nI_mul, nI_add]
    have hlo : lo ≤ v := by
      rcases hp with h | h
      · omega
      · have := z5 (by omega); omega
    have g1 := Gx.one (s := s) (i := i) (p := p) (f := f) (by omega) (xt_num1 hp' ⟨by omega, hd.2.2⟩ hf (by omega))
    have g2 := Gx.tr g1 z6
    rw [st_st, show 1 + k = k + 1 by omega] at g2
    refine ⟨⟨a', fun z => absurd z n0, fun _ => ⟨by rw [t.1]; exact nI_am (by omega) (by omega), by rw [e1]; exact z1, fun r1 hr1 => ?_⟩⟩, .inl ⟨k + 1, v, am_si (am_si M 0 12 (nI (i + 1 + k))) 9 (5 * q + w) (nI v), ?_, by omega, by omega, hlo, z4, g2, by rw [show i + (k + 1) = i + 1 + k by omega]; exact t2.r9 _ _, (MQk.sp _ (by omega) _).tr (MQk.r9 _ _ _), fun x hx => ?_, ?_, by rw [show i + (k + 1) = i + 1 + k by omega]; exact z7⟩⟩
    · rw [e1, z2] at hr1
      cases hr1
      show am_in (5 * (am_si M 0 12 (nI (i + 1 + k))).1 0 14 + nI w) 40
      rw [e5]; exact nI_am (by omega) (by omega)
    · unfold v_M_isNumber
      rw [if_neg n0, e1, z2]
      show (1, am_si (am_si M 0 12 (nI (i + 1 + k))) 9 (am_ix (5 * (am_si M 0 12 (nI (i + 1 + k))).1 0 14 + nI w)) (nI v)) = _
      rw [e5, nI_ix (by omega)]
    · rw [am_si1, if_neg (fun z => hx z.2), am_si_ne (by omega)]
    · rw [am_si1, if_pos ⟨rfl, rfl⟩]
  · have n0 : v_M_sees M (48 + nI lo) 57 = 0 := by rw [b', if_neg hd]
    refine ⟨⟨a', fun _ => trivial, fun z => absurd n0 z⟩, .inr ⟨by unfold v_M_isNumber; rw [if_pos n0], ?_⟩⟩
    by_cases h1 : i = L
    · exact .inl h1
    · refine .inr ?_
      by_cases h2 : 48 ≤ s i ∧ s i ≤ 57
      · rw [xt_num hp' h2, hf]
        exact if_pos (by omega)
      · exact xt_nd0 hp' h2 hf
end MNU
