/-! PURE: looks, class and model side by side: blocks, duties. -/
theorem block_cases {n : Nat} {h : HP} {T : Nat → Int32} (hR : RT h.1 0 T n) (hI : Inv T n) (a : Int32) : p_T_headOf h a ∧ ((∃ k, k < n ∧ hd T n k = true ∧ a = nI (cn (hd T n) k) ∧ v_T_headOf h a = nI k ∧ v_B_checkHead h (nI k) = none ∧ ∀ m : HP, m.1 1 = T → v_M_isBlock m a = 1) ∨ (v_T_headOf h a = -1 ∧ ∀ m : HP, m.1 1 = T → v_M_isBlock m a = 0)) := by
  have h20 := hI.n20
  obtain ⟨h1, h2⟩ := cc_headOf hR hI a
  refine ⟨h1, ?_⟩
  have hcn : cn (hd T n) n ≤ n := cn_le _ _
  have hb : ∀ m : HP, m.1 1 = T → v_M_isBlock m a = v_M_in m a 0 (nI (cn (hd T n) n) - 1) := fun m hm => by rw [v_M_isBlock, (mm_blocks hm hI).2]
  rcases pred_cases (N := cn (hd T n) n) (by omega) a with ⟨t, ht, ea, h3⟩ | ⟨h3, h4⟩
  · rcases h2 with ⟨k, k1, k2, k3, k4⟩ | ⟨k1, k2⟩
    · exact .inl ⟨k, k1, k2, k3, k4, if_neg (nI_m1 (by omega)), fun m hm => (hb m hm).trans (h3 m)⟩
    · obtain ⟨k, q1, q2, q3⟩ := nth_ex ht
      exact absurd (by rw [ea, q3]) (k1 k q1 q2)
  · rcases h2 with ⟨k, k1, k2, k3, k4⟩ | ⟨k1, k2⟩
    · have : cn (hd T n) k < cn (hd T n) n := by
        have e1 : cn (hd T n) (k + 1) = cn (hd T n) k + 1 := by rw [cn, k2, if_pos rfl]
        have e2 : ∀ b, k + 1 ≤ b → cn (hd T n) (k + 1) ≤ cn (hd T n) b := by
          intro b
          induction b with
          | zero => intro z; omega
          | succ b ih =>
            intro z
            by_cases e : k + 1 = b + 1
            · rw [e]; exact Nat.le_refl _
            · have := ih (by omega)
              rw [show cn (hd T n) (b + 1) = cn (hd T n) b + (if hd T n b = true then 1 else 0) from rfl]; omega
        have := e2 n (by omega)
        omega
      exact absurd k3 (h3 _ this)
    · exact .inr ⟨k2, fun m hm => (hb m hm).trans (h4 m)⟩
theorem pm_block {n : Nat} {m : HP} {T : Nat → Int32} (hT : m.1 1 = T) (hI : Inv T n) (a : Int32) : p_M_isBlock m a := ⟨(mm_blocks hT hI).1, in01 _ _ _ _⟩
theorem noHead (h : HP) : v_B_checkHead h (-1) = some xI := if_pos rfl
theorem hd_bf {T : Nat → Int32} {n k : Nat} (h : hd T n k = true) (hk : k < n) : bf T n k = none := by
  unfold hd at h
  rw [Bool.and_eq_true] at h
  unfold bf
  cases e : bfo T k n with
  | none => rfl
  | some j => rw [e] at h; exact absurd (show false = true from h.2) (by decide)
theorem blockOf_both {n : Nat} {h m : HP} (hr : RR n h m) (a b : Int32) : p_B_blockOf h a b ∧ p_M_blockOf m a b ∧ Bo [(xI, 1), (xA, 2)] h (v_B_blockOf h a b) (v_M_blockOf m a b) := by
  have hm0 : (am_si m 0 8 0).1 1 = m.1 1 := am_si_ne (by omega)
  have h20 := hr.2.1.n20
  have hR := hr.1
  have hI := hr.2.1
  obtain ⟨p1, hcs⟩ := block_cases hR hI a
  rcases hcs with ⟨k, hk, hh, ea, e1, e2, e3⟩ | ⟨e1, e3⟩
  · have hf := mm_firstOf hm0 hI hk hh
    have hfe : v_M_firstOf (am_si m 0 8 0) a = nI k := by rw [ea]; exact hf.2
    have hfp : p_M_firstOf (am_si m 0 8 0) a := by rw [ea]; exact hf.1
    have hbk := hd_bf hh hk
    obtain ⟨u1, u2, u3, u4, u5, u6⟩ := told_both hR hm0 hI hk hbk
    obtain ⟨w1, w2, ⟨w3, w4⟩, -⟩ := mm_cuts hm0 hI hk
    refine ⟨⟨p1, fun _ _ => ?_⟩, ?_⟩
    · rw [e1]
      exact ⟨fun _ => trivial, fun _ => ⟨fun _ => (cc_trips hR hI hk).1, fun _ => ⟨fun _ => (cc_span hR hI hk).1, fun _ => ⟨fun _ => ⟨(cc_span hR hI hk).1, (cc_driven hR hI hk).1⟩, fun _ => ⟨fun _ => (cc_changes hR hI hk).1, fun _ => ⟨fun _ => (cc_forward hR hI hk).1, fun _ => u1⟩⟩⟩⟩⟩⟩
    refine ⟨⟨pm_block hm0 hI _, fun _ => trivial, fun _ => ⟨fun _ => trivial, fun _ => ?_⟩⟩, ?_⟩
    · refine ⟨hfp, ?_⟩
      rw [hfe]
      exact ⟨fun _ => trivial, fun _ => ⟨fun _ => (mm_trips hm0 hI hk).1, fun _ => ⟨fun _ => (mm_span hm0 hI hk).1, fun _ => ⟨fun _ => ⟨(mm_span hm0 hI hk).1, (mm_driven hm0 hI hk).1⟩, fun _ => ⟨fun _ => (mm_changes hm0 hI hk).1, fun _ => ⟨fun _ => w1, fun _ => u2⟩⟩⟩⟩⟩⟩
    rcases rng_cases (lo := 0) (hi := 6) (by omega) (by omega) h b with ⟨v, _, hv, eb, f1, f2⟩ | ⟨f1, f2⟩
    · have f1' : v_B_checkRange h (nI v) 0 6 = none := by rw [← eb]; exact f1
      have f2' : v_M_in (am_si m 0 8 0) b 0 6 = 1 := f2 _
      have key : ∃ q H M, v_B_blockOf h a (nI v) = .inr (q, H) ∧ v_M_aboutBlock (am_si m 0 8 0) a (nI v) = (q, M) ∧ hK h H ∧ (∀ c, c ≠ 7 → c ≠ 8 → M.1 c = (am_si m 0 8 0).1 c) := by
        rw [v_B_blockOf, e1, e2, f1', v_M_aboutBlock, hfe]
        match v, hv with
        | 0, _ => exact ⟨_, _, _, rfl, rfl, hK.rf, fun _ _ _ => rfl⟩
        | 1, _ => exact ⟨_, _, _, congrArg (fun x => Sum.inr (x, h)) (cc_trips hR hI hk).2, congrArg (fun x => (x, am_si m 0 8 0)) (mm_trips hm0 hI hk).2, hK.rf, fun _ _ _ => rfl⟩
        | 2, _ => exact ⟨_, _, _, congrArg (fun x => Sum.inr (x, h)) (cc_span hR hI hk).2, congrArg (fun x => (x, am_si m 0 8 0)) (mm_span hm0 hI hk).2, hK.rf, fun _ _ _ => rfl⟩
        | 3, _ => exact ⟨_, _, _, congrArg (fun x => Sum.inr (x, h)) (show v_T_spanFrom h (nI k) - v_T_drivenFrom h (nI k) = _ by rw [(cc_span hR hI hk).2, (cc_driven hR hI hk).2]), congrArg (fun x => (x, am_si m 0 8 0)) (show v_M_span (am_si m 0 8 0) (nI k) - v_M_driven (am_si m 0 8 0) (nI k) = _ by rw [(mm_span hm0 hI hk).2, (mm_driven hm0 hI hk).2]), hK.rf, fun _ _ _ => rfl⟩
        | 4, _ => exact ⟨_, _, _, congrArg (fun x => Sum.inr (x, h)) (cc_changes hR hI hk).2, congrArg (fun x => (x, am_si m 0 8 0)) (mm_changes hm0 hI hk).2, hK.rf, fun _ _ _ => rfl⟩
        | 5, _ => exact ⟨_, _, (v_M_cuts (am_si m 0 8 0) (nI k)).2, congrArg (fun x => Sum.inr (x, h)) (cc_forward hR hI hk).2, Prod.ext w2 rfl, hK.rf, fun c h1 _ => w3 c h1⟩
        | 6, _ => exact ⟨_, (v_U_fewestBackward h (nI k)).2, (v_M_told (am_si m 0 8 0) (nI k)).2, rfl, Prod.ext u3.symm rfl, ⟨fun c hc => u4 c (by omega), by rw [u4 18 (by omega)]⟩, fun c _ h1 => u5 c h1⟩
        | v + 7, z => omega
      obtain ⟨q, H, M, k1, k2, k3, k4⟩ := key
      rw [v_M_blockOf, e3 _ hm0, if_neg one0, f2', if_neg one0, eb, k1]
      show Bo _ h _ ((v_M_aboutBlock (am_si m 0 8 0) a (nI v)).1, (v_M_aboutBlock (am_si m 0 8 0) a (nI v)).2)
      rw [k2]
      refine ⟨?_, rfl, n, (hr.th 0).look k3 (mk_of (fun c h1 h2 _ _ => k4 c h1 h2)) (fun i _ => by rw [k4 1 (by omega) (by omega)])⟩
      show M.1 0 8 = 0
      rw [k4 0 (by omega) (by omega), th8]
    · have f1' : v_B_checkRange h b 0 6 = some xA := f1
      have f2' : v_M_in (am_si m 0 8 0) b 0 6 = 0 := f2 _
      rw [v_B_blockOf, e1, e2, f1', v_M_blockOf, e3 _ hm0, if_neg one0, f2', if_pos rfl]
      exact Bo.thr hr (.tail _ (.head _))
  · refine ⟨⟨p1, fun z => by rw [e1, noHead] at z; cases z⟩, ⟨pm_block hm0 hI _, fun _ => trivial, fun z => absurd (e3 _ hm0) z⟩, ?_⟩
    rw [v_B_blockOf, e1, noHead, v_M_blockOf, e3 _ hm0, if_pos rfl]
    exact Bo.thr hr (.head _)
theorem inr4 {c d e : Prop} [Decidable c] [Decidable d] [Decidable e] {x y z u : Int32} : (if c then (Sum.inr x : String ⊕ Int32) else if d then .inr y else if e then .inr z else .inr u) = .inr (if c then x else if d then y else if e then z else u) := by
  by_cases h1 : c
  · rw [if_pos h1, if_pos h1]
  · rw [if_neg h1, if_neg h1]
    by_cases h2 : d
    · rw [if_pos h2, if_pos h2]
    · rw [if_neg h2, if_neg h2]
      by_cases h3 : e
      · rw [if_pos h3, if_pos h3]
      · rw [if_neg h3, if_neg h3]
theorem nneg (a : Int32) : (∃ r, r < 2 ^ 31 ∧ a = nI r ∧ ¬ a < 0) ∨ a < 0 := by
  by_cases h1 : a < 0
  · exact .inr h1
  · have h1' : ¬ a.toInt < 0 := fun z => h1 (Int32.lt_iff_toInt_lt.mpr z)
    have h2 := Int32.toInt_lt a
    have h3 : a.toInt.toNat < 2 ^ 31 := by omega
    refine .inl ⟨a.toInt.toNat, h3, Int32.toInt_inj.mp ?_, h1⟩
    rw [nI_toInt h3]; omega
theorem duty_both {n : Nat} {h m : HP} (hr : RR n h m) (a b w : Int32) : p_B_duty h a b w ∧ p_M_duty m a b w ∧ Bo [(xI, 1), (xA, 2)] h ((v_B_duty h a b w).map id (fun q => (q, h))) (v_M_duty m a b w) := by
  have hm0 : (am_si m 0 8 0).1 1 = m.1 1 := am_si_ne (by omega)
  have h20 := hr.2.1.n20
  have hR := hr.1
  have hI := hr.2.1
  obtain ⟨p1, hcs⟩ := block_cases hR hI a
  rcases hcs with ⟨k, hk, hh, ea, e1, e2, e3⟩ | ⟨e1, e3⟩
  · rcases nneg b with ⟨r, hr2, eb, hb⟩ | hb
    · obtain ⟨c1, c2, c3⟩ := cc_duty hR hI hk hr2 w
      obtain ⟨d1, d2, d3, d4⟩ := mm_dutyTold hm0 hI hk hh hr2 w
      refine ⟨⟨p1, fun _ => ⟨fun _ => trivial, fun _ _ => ?_⟩⟩, ⟨pm_block hm0 hI _, fun _ => trivial, fun _ => ⟨fun _ => trivial, fun _ => ⟨fun _ => trivial, fun _ => by rw [ea, eb]; exact d1⟩⟩⟩, ?_⟩
      · rw [e1, eb]
        exact ⟨c1, fun _ => trivial, fun z => c2 z⟩
      · rcases rng_cases (lo := 0) (hi := 2) (by omega) (by omega) h w with ⟨v, _, hv, ew, f1, f2⟩ | ⟨f1, f2⟩
        · have f1' : v_B_checkRange h w 0 2 = none := f1
          have f2' : v_M_in (am_si m 0 8 0) w 0 2 = 1 := f2 _
          have hcv : v_B_duty h a b w = .inr (dv (m.1 1) k r w) := by
            rw [v_B_duty, e1, e2]
            show (if b < 0 then _ else (match v_B_checkRange h w 0 2 with | some E => _ | none => _)) = _
            rw [if_neg hb, f1', eb, ← c3]
            exact inr4
          rw [hcv, v_M_duty, e3 _ hm0, if_neg one0, if_neg hb, f2', if_neg one0]
          show Bo _ h (.inr (dv (m.1 1) k r w, h)) ((v_M_dutyTold (am_si m 0 8 0) a b w).1, (v_M_dutyTold (am_si m 0 8 0) a b w).2)
          rw [ea, eb]
          refine ⟨?_, d2, n, (hr.th 0).look hK.rf (mk_of (fun c h1 _ _ _ => d3 c h1)) (fun i _ => by rw [d3 1 (by omega)])⟩
          show (v_M_dutyTold (am_si m 0 8 0) _ _ w).2.1 0 8 = 0
          rw [d3 0 (by omega), th8]
        · have f1' : v_B_checkRange h w 0 2 = some xA := f1
          have f2' : v_M_in (am_si m 0 8 0) w 0 2 = 0 := f2 _
          have hcv : v_B_duty h a b w = .inl xA := by
            rw [v_B_duty, e1, e2]
            show (if b < 0 then _ else (match v_B_checkRange h w 0 2 with | some E => _ | none => _)) = _
            rw [if_neg hb, f1']
          rw [hcv, v_M_duty, e3 _ hm0, if_neg one0, if_neg hb, f2', if_pos rfl]
          exact Bo.thr hr (.tail _ (.head _))
    · refine ⟨⟨p1, fun _ => ⟨fun _ => trivial, fun z => absurd hb z⟩⟩, ⟨pm_block hm0 hI _, fun _ => trivial, fun _ => ⟨fun _ => trivial, fun z => absurd hb z⟩⟩, ?_⟩
      have hcv : v_B_duty h a b w = .inl xA := by
        rw [v_B_duty, e1, e2]
        show (if b < 0 then Sum.inl xA else _) = _
        rw [if_pos hb]
      rw [hcv, v_M_duty, e3 _ hm0, if_neg one0, if_pos hb]
      exact Bo.thr hr (.tail _ (.head _))
  · refine ⟨⟨p1, fun z => by rw [e1, noHead] at z; cases z⟩, ⟨pm_block hm0 hI _, fun _ => trivial, fun z => absurd (e3 _ hm0) z⟩, ?_⟩
    rw [v_B_duty, e1, noHead, v_M_duty, e3 _ hm0, if_pos rfl]
    exact Bo.thr hr (.head _)
