/-! PURE: the class's methods by the state: the best time. -/
def btC (f : Nat → Nat) (a : Nat × Nat) (d : Nat) : Nat × Nat := if f d < a.2 then (d, f d) else a
/-- one step outwards: j is 1, 2, .. -/
def btF (f : Nat → Nat) (own : Nat) (a : Nat × Nat) (j : Nat) : Nat × Nat := if j % 2 = 1 then (if (j + 1) / 2 ≤ own then (if own - (j + 1) / 2 ≤ 1439 then btC f a (own - (j + 1) / 2) else a) else a) else (if own + j / 2 ≤ 1439 then btC f a (own + j / 2) else a)
def btR (f : Nat → Nat) (own : Nat) : Nat → Nat × Nat
  | 0 => (own, f own)
  | j + 1 => btF f own (btR f own j) (j + 1)
def l_bestTime (S : Sta) (a b : Int32) : Lk0 := match ixN a S.1.2 with
  | none => .inl xI
  | some k => match rnN b 0 120 with
    | none => .inl xA
    | some w => if isr S.1.1 k = true then .inr (nI (btR (dfA S.1.1 S.1.2 k) (Dp S.1.1 k) (2 * w)).1) else .inl xS
theorem bt_le {f : Nat → Nat} {own B : Nat} (hf : ∀ d, d ≤ 1439 → f d ≤ B) (ho : own ≤ 1439) : ∀ j, (btR f own j).1 ≤ 1439 ∧ (btR f own j).2 ≤ B
  | 0 => ⟨ho, hf own ho⟩
  | j + 1 => by
    have ih := bt_le hf ho j
    have hC : ∀ d, d ≤ 1439 → (btC f (btR f own j) d).1 ≤ 1439 ∧ (btC f (btR f own j) d).2 ≤ B := fun d hd => by
      unfold btC
      split
      · exact ⟨hd, hf d hd⟩
      · exact ih
    rw [btR, btF]
    split
    · split
      · split
        · rename_i z; exact hC _ z
        · exact ih
      · exact ih
    · split
      · rename_i z; exact hC _ z
      · exact ih
theorem dfA_le {T : Nat → Int32} {n k d : Nat} (hn : n ≤ 20) : dfA T n k d ≤ 100000 := by
  have hl : ∀ (T' : Nat → Int32) (t : Nat) (ro : Option Nat), dmx (fD T' n t ro) n ≤ 20 := fun T' t ro => by
    rcases dmx_ex (fD T' n t ro) n with e | ⟨q, -, h2, -⟩
    · omega
    · have h3 : fD T' n t ro q ≤ (n : Int) := by
        unfold fD
        split
        · exact (lkI_bd T' t ro _ n).2
        · omega
      omega
  have hd : ∀ t, t < 4 → dfc (atT T k d) n t ≤ 80 := fun t _ => by
    unfold dfc
    split
    · exact sn_le (b := 20) (n := 4) (fun r _ => hl _ _ _)
    · have := hl (atT T k d) t none; omega
  unfold dfA
  have := sn_le (b := 80) (n := 4) hd
  omega
theorem sub_neg {a b : Nat} (ha : a < 100000) (hb : b < 100000) (h : a < b) : nI a - nI b < 0 := by
  rw [Int32.lt_iff_toInt_lt, Int32.toInt_sub, nI_toInt (by omega), nI_toInt (by omega)]
  have e0 : (0 : Int32).toInt = 0 := by decide +kernel
  rw [e0, Int.bmod_eq_of_le (by omega) (by omega)]
  omega
theorem best_c {h G : HP} {T : Nat → Int32} {n k w : Nat} (hI : Inv T n) (hk : k < n) (hr : isr T k = true) (hw : w ≤ 120) (y2 : Int32 × HP) {A : Nat → Nat} {s : Nat}
    (hR : RT h.1 0 T n) (hG : ∀ c, c ≠ 12 → c ≠ 13 → G.1 c = h.1 c) (hE : EvS y2.2 A s) (hq : ∀ q : Nat → Bool, cn (fun i => q (A i)) s = evn T (some k) q n) (hy : ∀ c, c ≠ 12 → c ≠ 13 → c ≠ 14 → c ≠ 15 → y2.2.1 c = h.1 c) :
    itrp (s_B_bestTime_114 h (nI k) (nI w) G y2) (ps_B_bestTime_114 h (nI k) (nI w) G y2) NF (nI (Dp T k), nI (dfA T n k (Dp T k)), 1, y2.2) ∧
    ∃ r, itr (s_B_bestTime_114 h (nI k) (nI w) G y2) NF (nI (Dp T k), nI (dfA T n k (Dp T k)), 1, y2.2) = some r ∧ r.1 = nI (btR (dfA T n k) (Dp T k) (2 * w)).1 ∧ (∀ c, c ≠ 12 → c ≠ 13 → c ≠ 14 → c ≠ 15 → r.2.2.2.1 c = h.1 c) := by
  have h20 := hI.n20
  have hdp : Dp T k ≤ 1439 := (hI.dp hk).2
  have hRG : RT G.1 0 T n := hR.congr (fun j hj => hG _ (by omega) (by omega))
  have c1 := cc_rt hRG hI hk
  have c2 := cc_fr hRG hI hk
  have c3 := cc_go hRG hI hk
  have c4 := cc_dep hRG hI hk
  have c5 := cc_len hRG hI hk
  have e2w : (2 : Int32) * nI w = nI (2 * w) := by rw [show (2 : Int32) = nI 2 from rfl, nI_mul]
  have hbt := bt_le (f := dfA T n k) (B := 100000) (fun d _ => dfA_le h20) hdp
  obtain ⟨F, hF⟩ : ∃ F, dfA T n k = F := ⟨_, rfl⟩
  rw [hF] at hbt ⊢
  refine itr_invN (step := s_B_bestTime_114 h (nI k) (nI w) G y2) (pst := ps_B_bestTime_114 h (nI k) (nI w) G y2)
    (fun v => ∃ i H, v = (nI (btR F (Dp T k) i).1, nI (btR F (Dp T k) i).2, nI (i + 1), H) ∧ i ≤ 2 * w ∧ (∀ c, c ≠ 12 → c ≠ 13 → c ≠ 14 → c ≠ 15 → H.1 c = h.1 c) ∧ EvS H A s)
    (fun v => 2 * w + 2 - am_ix v.2.2.1)
    (fun r => r.1 = nI (btR F (Dp T k) (2 * w)).1 ∧ (∀ c, c ≠ 12 → c ≠ 13 → c ≠ 14 → c ≠ 15 → r.2.2.2.1 c = h.1 c))
    _ (by show 2 * w + 2 - _ < 100000; omega) ⟨0, _, rfl, by omega, hy, hE⟩ ?_
  rintro v ⟨i, H, rfl, hi1, hH, hEH⟩
  obtain ⟨hb1, hb2⟩ := hbt i
  obtain ⟨bb, hbb⟩ : ∃ bb, (btR F (Dp T k) i).1 = bb := ⟨_, rfl⟩
  obtain ⟨le, hle⟩ : ∃ le, (btR F (Dp T k) i).2 = le := ⟨_, rfl⟩
  rw [hbb] at hb1
  rw [hle] at hb2
  rw [hbb, hle]
  obtain ⟨X, hX⟩ : ∃ X, (if nI (i + 1) - nI (i + 1) / 2 * 2 = 1 then nI (Dp T k) - (nI (i + 1) + 1) / 2 else nI (Dp T k) + nI (i + 1) / 2) = X := ⟨_, rfl⟩
  have hs1 : s_B_bestTime_114 h (nI k) (nI w) G y2 (nI bb, nI le, nI (i + 1), H) = if nI (i + 1) ≤ nI (2 * w) then (if X < 0 then .inl (nI bb, nI le, nI (i + 1) + 1, H) else (if X ≤ 1439 then .inl ((if (v_D_fewestWith H (nI (Rt T k)) (nI (Fr T k)) (nI (Go T k)) X (nI (Ln T k))).1 < nI le then X else nI bb), v_min (nI le) (v_D_fewestWith H (nI (Rt T k)) (nI (Fr T k)) (nI (Go T k)) X (nI (Ln T k))).1, nI (i + 1) + 1, (v_D_fewestWith H (nI (Rt T k)) (nI (Fr T k)) (nI (Go T k)) X (nI (Ln T k))).2) else .inl (nI bb, nI le, nI (i + 1) + 1, H))) else .inr (nI bb, nI le, nI (i + 1), H) := by
    unfold s_B_bestTime_114
    dsimp only [bnd]
    rw [c1, c2, c3, c4, c5, e2w, hX]
  have hp1 : (X < 0 → True) ∧ (¬ X < 0 → ((X ≤ 1439 → p_D_fewestWith H (nI (Rt T k)) (nI (Fr T k)) (nI (Go T k)) X (nI (Ln T k))) ∧ (¬ X ≤ 1439 → True))) → ps_B_bestTime_114 h (nI k) (nI w) G y2 (nI bb, nI le, nI (i + 1), H) := by
    intro z
    unfold ps_B_bestTime_114
    dsimp only
    rw [c1, c2, c3, c4, c5, e2w, hX]
    exact ⟨fun _ => z, fun _ => trivial⟩
  have hRH : RT H.1 0 T n := hR.congr (fun j hj => hH _ (by omega) (by omega) (by omega) (by omega))
  by_cases hi : i + 1 ≤ 2 * w
  · have hle1 : nI (i + 1) ≤ nI (2 * w) := (nI_lei (by omega) (by omega)).mpr hi
    have hmeas : 2 * w + 2 - am_ix (nI (i + 1 + 1)) < 2 * w + 2 - am_ix (nI (i + 1)) := by rw [nI_ix (by omega), nI_ix (by omega)]; omega
    rw [hs1, if_pos hle1, nI_1]
    -- the time that is tried
    have hXd : (∃ d, X = nI d ∧ d < 100000 ∧ btR F (Dp T k) (i + 1) = (if d ≤ 1439 then btC F (btR F (Dp T k) i) d else btR F (Dp T k) i)) ∨ (X < 0 ∧ btR F (Dp T k) (i + 1) = btR F (Dp T k) i) := by
      have m1 : nI (i + 1) - nI (i + 1) / 2 * 2 = nI ((i + 1) % 2) := nI_mod (b := 2) (by omega) (by omega)
      have m2 : (nI (i + 1) + 1) / 2 = nI ((i + 1 + 1) / 2) := by rw [nI_1]; exact nI_div (b := 2) (by omega) (by omega)
      have m3 : nI (i + 1) / 2 = nI ((i + 1) / 2) := nI_div (b := 2) (by omega) (by omega)
      rw [m1, m2, m3] at hX
      rw [btR, btF]
      by_cases eo' : (i + 1) % 2 = 1
      · rw [if_pos (show nI ((i + 1) % 2) = 1 by rw [eo']; rfl)] at hX
        rw [if_pos eo']
        by_cases e3 : (i + 1 + 1) / 2 ≤ Dp T k
        · rw [if_pos e3]
          exact .inl ⟨Dp T k - (i + 1 + 1) / 2, by rw [← hX]; exact nI_sub e3, by omega, rfl⟩
        · rw [if_neg e3]
          exact .inr ⟨by rw [← hX]; exact sub_neg (by omega) (by omega) (by omega), rfl⟩
      · rw [if_neg (show ¬ nI ((i + 1) % 2) = 1 from fun z => eo' (nI_inj (b := 1) (by omega) (by omega) z))] at hX
        rw [if_neg eo']
        exact .inl ⟨Dp T k + (i + 1) / 2, by rw [← hX]; exact nI_add _ _, by omega, rfl⟩
    rcases hXd with ⟨d, eX, hd1, hb⟩ | ⟨hX0, hb⟩
    · have g1' : ¬ X < 0 := by rw [eX]; exact nI_pos (by omega)
      by_cases hd : d ≤ 1439
      · have g2' : X ≤ 1439 := by rw [eX]; exact (nI_lei (b := 1439) (by omega) (by omega)).mpr hd
        obtain ⟨w1, w2, w3⟩ := cc_at hI hk hr hd hRH hEH hq (h := H)
        rw [hF] at w2
        have hFd : F d ≤ 100000 := by rw [← hF]; exact dfA_le h20
        refine ⟨hp1 ⟨fun _ => trivial, fun _ => ⟨fun _ => by rw [eX]; exact w1, fun _ => trivial⟩⟩, .inl ?_⟩
        rw [if_neg g1', if_pos g2', eX, w2, min_lt]
        rw [if_pos hd, btC, hle] at hb
        refine ⟨_, rfl, ⟨i + 1, _, ?_, by omega, fun c q1 q2 q3 q4 => by rw [w3.1 c q1 q3 q4]; exact hH c q1 q2 q3 q4, hEH.fr w3⟩, hmeas⟩
        rw [hb]
        by_cases e4 : F d < le
        · rw [if_pos e4, if_pos (nI_lt e4 (by omega)), if_pos (nI_lt e4 (by omega))]
        · rw [if_neg e4, if_neg (nI_nlt (by omega) (by omega)), if_neg (nI_nlt (by omega) (by omega)), hbb, hle]
      · have g2' : ¬ X ≤ 1439 := by rw [eX]; exact fun z => hd ((nI_lei (b := 1439) (by omega) (by omega)).mp z)
        refine ⟨hp1 ⟨fun _ => trivial, fun _ => ⟨fun z => absurd z g2', fun _ => trivial⟩⟩, .inl ?_⟩
        rw [if_neg g1', if_neg g2']
        rw [if_neg hd] at hb
        exact ⟨_, rfl, ⟨i + 1, H, by rw [hb, hbb, hle], by omega, hH, hEH⟩, hmeas⟩
    · refine ⟨hp1 ⟨fun _ => trivial, fun z => absurd hX0 z⟩, .inl ?_⟩
      rw [if_pos hX0]
      exact ⟨_, rfl, ⟨i + 1, H, by rw [hb, hbb, hle], by omega, hH, hEH⟩, hmeas⟩
  · have ei : i = 2 * w := by omega
    have hle1 : ¬ nI (i + 1) ≤ nI (2 * w) := fun z => hi ((nI_lei (by omega) (by omega)).mp z)
    have q1 : ps_B_bestTime_114 h (nI k) (nI w) G y2 (nI bb, nI le, nI (i + 1), H) := by
      unfold ps_B_bestTime_114
      dsimp only
      rw [e2w]
      exact ⟨fun z => absurd z hle1, fun _ => trivial⟩
    rw [hs1, if_neg hle1]
    exact ⟨q1, .inr ⟨_, rfl, by rw [← ei, hbb], hH⟩⟩
theorem bestTime_s {h : HP} {S : Sta} (hs : RS h S) (a b : Int32) : p_B_bestTime h a b ∧ Co (v_B_bestTime h a b) (lks S (l_bestTime S a b)) := by
  have hR := hs.1.1
  have hI := hs.1.2
  have h20 := hI.n20
  rcases trip_c hR hI a with ⟨k, hk, ea, e1, e2⟩ | ⟨e1, e2⟩
  · have hz := checkRun_c hs hk
    rcases rng_c (lo := 0) (hi := 120) (by omega) (by omega) h b with ⟨w, _, hw, eb, f1, f2⟩ | ⟨f1, f2⟩
    · have f1' : v_B_checkRange h b 0 120 = none := f1
      by_cases en : isr S.1.1 k = true
      · rw [if_pos en] at hz
        obtain ⟨g1, A, s, hE, h2n, hq, hf, -⟩ := cc_gather hR hI (some k) (okO_some hk)
        have hE' : EvS (v_D_gather h (nI k)) A s := hE
        have hf' : ∀ c, c ≠ 12 → c ≠ 13 → (v_D_gather h (nI k)).1 c = h.1 c := hf
        have g1' : p_D_gather h (nI k) := g1
        obtain ⟨G, hG⟩ : ∃ G, v_D_gather h (nI k) = G := ⟨_, rfl⟩
        rw [hG] at hE' hf'
        have hRG : RT G.1 0 S.1.1 S.1.2 := hR.congr (fun j hj => hf' _ (by omega) (by omega))
        have c1 := cc_rt hRG hI hk
        have c2 := cc_fr hRG hI hk
        have c3 := cc_go hRG hI hk
        have c4 := cc_dep hRG hI hk
        have c5 := cc_len hRG hI hk
        have hdp : Dp S.1.1 k ≤ 1439 := (hI.dp hk).2
        obtain ⟨w1, w2, w3⟩ := cc_at hI hk en hdp hRG hE' hq (h := h)
        obtain ⟨y2, hy2⟩ : ∃ y2, v_D_fewestWith G (nI (Rt S.1.1 k)) (nI (Fr S.1.1 k)) (nI (Go S.1.1 k)) (nI (Dp S.1.1 k)) (nI (Ln S.1.1 k)) = y2 := ⟨_, rfl⟩
        rw [hy2] at w2 w3
        obtain ⟨l1, r, l3, l5, l6⟩ := best_c hI hk en hw y2 hR hf' (hE'.fr w3) hq (fun c q1 q2 q3 q4 => by rw [w3.1 c q1 q3 q4]; exact hf' c q1 q2)
        refine ⟨fun _ _ _ => ?_, ?_⟩
        · rw [ea, eb, hG]
          refine ⟨g1', fun y hy => ?_⟩
          subst hy
          rw [c1, c2, c3, c4, c5]
          refine ⟨w1, fun y hy => ?_⟩
          rw [hy2] at hy
          subst hy
          rw [w2]
          exact l1
        · have hcv : v_B_bestTime h a b = .inr (r.1, r.2.2.2) := by
            rw [v_B_bestTime, e1, f1', ea, eb]
            show (match v_B_checkRun h (nI k) with | some E => _ | none => (match itr (s_B_bestTime_114 h (nI k) (nI w) (v_D_gather h (nI k)) (v_D_fewestWith (v_D_gather h (nI k)) (v_at 20 ((v_D_gather h (nI k)).1 1) (nI k)) (v_at 20 ((v_D_gather h (nI k)).1 2) (nI k)) (v_at 20 ((v_D_gather h (nI k)).1 3) (nI k)) (v_at 20 ((v_D_gather h (nI k)).1 4) (nI k)) (v_at 20 ((v_D_gather h (nI k)).1 5) (nI k)))) NF ((v_at 20 ((v_D_gather h (nI k)).1 4) (nI k)), (v_D_fewestWith (v_D_gather h (nI k)) (v_at 20 ((v_D_gather h (nI k)).1 1) (nI k)) (v_at 20 ((v_D_gather h (nI k)).1 2) (nI k)) (v_at 20 ((v_D_gather h (nI k)).1 3) (nI k)) (v_at 20 ((v_D_gather h (nI k)).1 4) (nI k)) (v_at 20 ((v_D_gather h (nI k)).1 5) (nI k))).1, 1, (v_D_fewestWith (v_D_gather h (nI k)) (v_at 20 ((v_D_gather h (nI k)).1 1) (nI k)) (v_at 20 ((v_D_gather h (nI k)).1 2) (nI k)) (v_at 20 ((v_D_gather h (nI k)).1 3) (nI k)) (v_at 20 ((v_D_gather h (nI k)).1 4) (nI k)) (v_at 20 ((v_D_gather h (nI k)).1 5) (nI k))).2) with | some r3 => (Sum.inr (r3.1, r3.2.2.2)) | none => Sum.inr (0, h))) = _
            rw [hz, hG, c1, c2, c3, c4, c5, hy2, w2, l3]
          rw [hcv, l_bestTime, e2]
          show Co _ (lks S (match rnN b 0 120 with | none => _ | some w => _))
          rw [f2]
          show Co _ (lks S (if isr S.1.1 k = true then _ else _))
          rw [if_pos en]
          exact ⟨l5, hs.look ⟨fun c hc' => l6 c (by omega) (by omega) (by omega) (by omega), by rw [l6 18 (by omega) (by omega) (by omega) (by omega)]⟩⟩
      · rw [if_neg en] at hz
        refine ⟨fun _ _ y => (by rw [ea, hz] at y; cases y), ?_⟩
        have hcv : v_B_bestTime h a b = .inl xS := by
          rw [v_B_bestTime, e1, f1', ea]
          show (match v_B_checkRun h (nI k) with | some E => _ | none => _) = _
          rw [hz]
        rw [hcv, l_bestTime, e2]
        show Co _ (lks S (match rnN b 0 120 with | none => _ | some w => _))
        rw [f2]
        show Co _ (lks S (if isr S.1.1 k = true then _ else _))
        rw [if_neg en]
        rfl
    · have f1' : v_B_checkRange h b 0 120 = some xA := f1
      refine ⟨fun _ y => (nomatch (f1'.symm.trans y)), ?_⟩
      rw [v_B_bestTime, e1, f1', l_bestTime, e2]
      show Co _ (lks S (match rnN b 0 120 with | none => _ | some w => _))
      rw [f2]
      rfl
  · refine ⟨fun y => (nomatch (e1.symm.trans y)), ?_⟩
    rw [v_B_bestTime, e1, l_bestTime, e2]
    rfl
