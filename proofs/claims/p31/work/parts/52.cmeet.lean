/-! PURE: the class meets its events. -/
/-- what stands in the class's rows when the first i of the events C are met -/
def Sc (h : HP) (C : Nat → Nat) (i : Nat) : Prop := (∀ c, c < 16 → h.1 14 c = oI (Dc C c i)) ∧ (∀ c, c < 16 → h.1 15 c = nI (Mc C c i)) ∧ h.1 12 5 = nI (sn (fun c => Mc C c i) 16)
/-- what the meeting leaves as it is -/
def dF (h h' : HP) : Prop := (∀ c, c ≠ 12 → c ≠ 14 → c ≠ 15 → h'.1 c = h.1 c) ∧ (∀ k, k ≠ 5 → h'.1 12 k = h.1 12 k)
theorem dF.rf {h : HP} : dF h h := ⟨fun _ _ _ _ => rfl, fun _ _ => rfl⟩
theorem dF.tr {h h' h'' : HP} (a : dF h h') (b : dF h' h'') : dF h h'' := ⟨fun c h1 h2 h3 => (b.1 c h1 h2 h3).trans (a.1 c h1 h2 h3), fun k hk => (b.2 k hk).trans (a.2 k hk)⟩
theorem dF.Ev {h h' : HP} (a : dF h h') {A : Nat → Nat} {s : Nat} (hE : EvS h A s) : EvS h' A s := by
  refine ⟨by rw [a.2 4 (by omega)]; exact hE.1, fun i hi => ?_, hE.2.2⟩
  rw [a.1 13 (by omega) (by omega) (by omega)]; exact hE.2.1 i hi
theorem dF.RT {h h' : HP} (a : dF h h') {T : Nat → Int32} {n : Nat} (hR : RT h.1 0 T n) : RT h'.1 0 T n := hR.congr (fun j hj => a.1 _ (by omega) (by omega) (by omega))
theorem Dc_bd (C : Nat → Nat) (c i : Nat) : -(i : Int) ≤ Dc C c i ∧ Dc C c i ≤ i := by
  have h1 := cn_le (fun j => isL c (C j)) i
  have h2 := cn_le (fun j => isY c (C j)) i
  unfold Dc
  omega
theorem fill_ne {n : Nat} {h : HP} {r c : Nat} {x : Int32} (hc : c ≠ r) : (v_fill n h r x).1 c = h.1 c := if_neg hc
theorem fill_at {n : Nat} {h : HP} {r i : Nat} {x : Int32} (hi : i < n) : (v_fill n h r x).1 r i = x := by
  show (if r = r then (fun i => if i < n then x else h.1 r i) else h.1 r) i = x
  rw [if_pos rfl]; exact if_pos hi
theorem Sc_restart (h : HP) (C : Nat → Nat) : Sc (v_D_restart h) C 0 ∧ dF h (v_D_restart h) := by
  have e14 : ∀ c, c < 16 → (v_D_restart h).1 14 c = 0 := fun c hc => by
    rw [v_D_restart, am_si_ne (by omega), fill_ne (by omega), fill_at hc]
  have e15 : ∀ c, c < 16 → (v_D_restart h).1 15 c = 0 := fun c hc => by
    rw [v_D_restart, am_si_ne (by omega), fill_at hc]
  have hne : ∀ c, c ≠ 14 → c ≠ 15 → (v_fill 16 (v_fill 16 h 14 0) 15 0).1 c = h.1 c := fun c h1 h2 => by
    rw [fill_ne h2, fill_ne h1]
  have z : sn (fun c => Mc C c 0) 16 = 0 := rfl
  refine ⟨⟨fun c hc => by rw [e14 c hc]; rfl, fun c hc => by rw [e15 c hc]; rfl, ?_⟩, fun c h1 h2 h3 => ?_, fun k hk => ?_⟩
  · rw [z, v_D_restart, am_si1, if_pos ⟨rfl, rfl⟩]; rfl
  · rw [v_D_restart, am_si_ne h1, hne c h2 h3]
  · rw [v_D_restart, am_si1, if_neg (fun z => hk z.2), hne 12 (by omega) (by omega)]
theorem cc_meet {h : HP} {C : Nat → Nat} {i e : Nat} (hS : Sc h C i) (hC : C i = e) (he : e < 1000000) (hi : i < 1000) : Sc (v_D_meet h (nI e)) C (i + 1) ∧ dF h (v_D_meet h (nI e)) := by
  obtain ⟨s1, s2, s3⟩ := hS
  have hk : e % 16 < 16 := Nat.mod_lt _ (by omega)
  have m32 : nI e - nI e / 32 * 32 = nI (e % 32) := nI_mod (b := 32) (by omega) (by omega)
  have m16 : nI e - nI e / 16 * 16 = nI (e % 16) := nI_mod (b := 16) (by omega) (by omega)
  have hD := Dc_bd C (e % 16) i
  have hM := Mc_le C (e % 16) i
  have hDM := Dc_Mc C (e % 16) i
  have hother : ∀ c, c ≠ e % 16 → isL c (C i) = false ∧ isY c (C i) = false := by
    intro c hc
    rw [hC]
    have hb : Nat.beq (e % 16) c = false := beq_false.mpr (fun z => hc z.symm)
    unfold isL isY
    rw [hb]
    exact ⟨rfl, rfl⟩
  have hDo : ∀ c, c ≠ e % 16 → Dc C c (i + 1) = Dc C c i := by
    intro c hc
    obtain ⟨a, b⟩ := hother c hc
    rw [Dc_succ, a, b, if_neg ff]; omega
  have hMo : ∀ c, c ≠ e % 16 → Mc C c (i + 1) = Mc C c i := by
    intro c hc
    have h1 := Dc_Mc C c i
    rw [Mc, hDo c hc, if_neg (by omega)]
  have hbk : Nat.beq (e % 16) (e % 16) = true := Nat.beq_refl _
  rw [v_D_meet, m32, m16, at16 _ hk, s1 _ hk, show (16 : Int32) = nI 16 from rfl]
  by_cases hr : e % 32 < 16
  · rw [if_pos (nI_lt hr (by omega)), put16 _ _ hk, oI_sub1]
    have hY : isY (e % 16) (C i) = true := by rw [hC]; unfold isY; rw [hbk, blt_iff.mpr hr]; rfl
    have hL : isL (e % 16) (C i) = false := by rw [hC]; unfold isL; rw [hbk, ble_false.mpr (by omega)]; rfl
    have hDn : Dc C (e % 16) (i + 1) = Dc C (e % 16) i - 1 := by rw [Dc_succ, hL, hY, if_neg ff, if_pos tr]; omega
    have hMn : Mc C (e % 16) (i + 1) = Mc C (e % 16) i := by rw [Mc, hDn, if_neg (by omega)]
    refine ⟨⟨fun c hc => ?_, fun c hc => ?_, ?_⟩, fun c h1 h2 h3 => am_si_ne h2, fun k hk => by rw [am_si_ne (by omega)]⟩
    · rw [am_si1]
      by_cases e1 : c = e % 16
      · rw [if_pos ⟨rfl, e1⟩, e1, hDn]
      · rw [if_neg (fun z => e1 z.2), s1 c hc, hDo c e1]
    · rw [am_si_ne (by omega), s2 c hc]
      by_cases e1 : c = e % 16
      · rw [e1, hMn]
      · rw [hMo c e1]
    · rw [am_si_ne (by omega), s3]
      congr 1
      exact sn_congr (fun c _ => by
        by_cases e1 : c = e % 16
        · rw [e1, hMn]
        · rw [hMo c e1])
  · rw [if_neg (fun z => hr ((nI_ltI (by omega) (by omega)).mp z)), put16 _ _ hk, oI_add1, at16 _ hk, am_si_ne (by omega), s2 _ hk, ← oI_nat]
    have hY : isY (e % 16) (C i) = false := by rw [hC]; unfold isY; rw [hbk, blt_false.mpr hr]; rfl
    have hL : isL (e % 16) (C i) = true := by rw [hC]; unfold isL; rw [hbk, ble_iff.mpr (by omega)]; rfl
    have hDn : Dc C (e % 16) (i + 1) = Dc C (e % 16) i + 1 := by rw [Dc_succ, hL, hY, if_pos tr, if_neg ff]; omega
    by_cases hm : Dc C (e % 16) i + 1 ≤ (Mc C (e % 16) i : Int)
    · rw [if_pos ((oI_le (by omega) (by omega) (by omega) (by omega)).mpr hm)]
      have hMn : Mc C (e % 16) (i + 1) = Mc C (e % 16) i := by rw [Mc, hDn, if_neg (by omega)]
      refine ⟨⟨fun c hc => ?_, fun c hc => ?_, ?_⟩, fun c h1 h2 h3 => am_si_ne h2, fun k hk => by rw [am_si_ne (by omega)]⟩
      · rw [am_si1]
        by_cases e1 : c = e % 16
        · rw [if_pos ⟨rfl, e1⟩, e1, hDn]
        · rw [if_neg (fun z => e1 z.2), s1 c hc, hDo c e1]
      · rw [am_si_ne (by omega), s2 c hc]
        by_cases e1 : c = e % 16
        · rw [e1, hMn]
        · rw [hMo c e1]
      · rw [am_si_ne (by omega), s3]
        congr 1
        exact sn_congr (fun c _ => by
          by_cases e1 : c = e % 16
          · rw [e1, hMn]
          · rw [hMo c e1])
    · rw [if_neg (fun z => hm ((oI_le (by omega) (by omega) (by omega) (by omega)).mp z)), put16 _ _ hk]
      have hMn : Mc C (e % 16) (i + 1) = Mc C (e % 16) i + 1 := by rw [Mc, hDn, if_pos (by omega)]; omega
      have hoI : oI (Dc C (e % 16) i + 1) = nI (Mc C (e % 16) i + 1) := by rw [← oI_nat]; congr 1; omega
      refine ⟨⟨fun c hc => ?_, fun c hc => ?_, ?_⟩, fun c h1 h2 h3 => ?_, fun k hk => ?_⟩
      · rw [am_si_ne (by omega), am_si_ne (by omega), am_si1]
        by_cases e1 : c = e % 16
        · rw [if_pos ⟨rfl, e1⟩, e1, hDn]
        · rw [if_neg (fun z => e1 z.2), s1 c hc, hDo c e1]
      · rw [am_si_ne (by omega), am_si1]
        by_cases e1 : c = e % 16
        · rw [if_pos ⟨rfl, e1⟩, e1, hMn, hoI]
        · rw [if_neg (fun z => e1 z.2), am_si_ne (by omega), s2 c hc, hMo c e1]
      · rw [am_si1, if_pos ⟨rfl, rfl⟩, am_si_ne (by omega), am_si_ne (by omega), s3, nI_1]
        congr 1
        exact (sn_one (c := e % 16) hk (fun c _ hc => hMo c hc) hMn).symm
      · rw [am_si_ne h1, am_si_ne h3, am_si_ne h2]
      · rw [am_si1, if_neg (fun z => hk z.2), am_si_ne (by omega), am_si_ne (by omega)]
/-- events are met from p on, up to a bound -/
theorem cc_upTo {h : HP} {A C : Nat → Nat} {s p q off b : Nat} (hE : EvS h A s) (hS : Sc h C (p + off)) (hpq : p ≤ q) (hqs : q ≤ s) (hC : ∀ j, p ≤ j → j < q → C (j + off) = A j) (h1 : ∀ j, p ≤ j → j < q → A j < b) (h2 : q < s → b ≤ A q) (hb : b < 2000000) (ho : off < 100) :
    p_D_meetUpTo h (nI p) (nI b) ∧ (v_D_meetUpTo h (nI p) (nI b)).1 = nI q ∧ Sc (v_D_meetUpTo h (nI p) (nI b)).2 C (q + off) ∧ dF h (v_D_meetUpTo h (nI p) (nI b)).2 := by
  have hs40 := hE.2.2.2.2
  obtain ⟨a, r, e, c⟩ := itr_invN (step := s_D_meetUpTo_2 h (nI p) (nI b)) (pst := ps_D_meetUpTo_2 h (nI p) (nI b)) (fun v => ∃ j H, p ≤ j ∧ j ≤ q ∧ v = (nI j, H) ∧ Sc H C (j + off) ∧ dF h H) (fun v => s - am_ix v.1)
    (fun r => ∃ H, (r = .inr (nI q, H) ∨ (q = s ∧ r = .inl (nI q, H))) ∧ Sc H C (q + off) ∧ dF h H) (nI p, h)
    (by show s - am_ix (nI p) < _; omega) ⟨p, h, Nat.le_refl _, hpq, rfl, hS, dF.rf⟩
    (fun v hv => by
      obtain ⟨j, H, k1, k2, rfl, k3, k4⟩ := hv
      refine ⟨trivial, ?_⟩
      have hE' := k4.Ev hE
      have hst : s_D_meetUpTo_2 h (nI p) (nI b) (nI j, H) = (if nI j < H.1 12 4 then (if v_at 40 (H.1 13) (nI j) < nI b then .inl (nI j + 1, v_D_meet H (v_at 40 (H.1 13) (nI j))) else .inr (.inr (nI j, H))) else .inr (.inl (nI j, H))) := rfl
      rw [hst, hE'.1]
      by_cases hjs : j < s
      · have hA := hE.2.2.2.1 j hjs
        rw [if_pos (nI_lt hjs (by omega)), at40 _ (by omega), hE'.2.1 j hjs]
        by_cases hjq : j < q
        · have hm := cc_meet k3 (hC j k1 hjq) hA (by omega)
          rw [if_pos (nI_lt (h1 j k1 hjq) (by omega)), nI_1]
          refine Or.inl ⟨_, rfl, ⟨j + 1, _, by omega, hjq, rfl, ?_, k4.tr hm.2⟩, ?_⟩
          · rw [show j + 1 + off = j + off + 1 by omega]; exact hm.1
          · show s - am_ix (nI (j + 1)) < s - am_ix (nI j)
            rw [nI_ix (by omega), nI_ix (by omega)]; omega
        · have ej : j = q := by omega
          subst ej
          have := h2 hjs
          rw [if_neg (nI_nlt this (by omega))]
          exact Or.inr ⟨_, rfl, H, Or.inl rfl, k3, k4⟩
      · have ej : j = s := by omega
        have eq : q = s := by omega
        rw [if_neg (nI_nlt (by omega) (by omega))]
        have : j = q := by omega
        subst this
        exact Or.inr ⟨_, rfl, H, Or.inr ⟨eq, rfl⟩, k3, k4⟩)
  refine ⟨a, ?_⟩
  rw [v_D_meetUpTo, e]
  obtain ⟨H, c1 | ⟨c0, c1⟩, c2, c3⟩ := c
  · subst c1; exact ⟨rfl, c2, c3⟩
  · subst c1
    refine ⟨?_, c2, c3⟩
    show H.1 12 4 = nI q
    rw [(c3.Ev hE).1, c0]
theorem cc_fewest {h : HP} {A : Nat → Nat} {s : Nat} (hE : EvS h A s) : p_D_fewest h ∧ (v_D_fewest h).1 = nI (sn (fun c => Mc A c s) 16) ∧ Sc (v_D_fewest h).2 A s ∧ dF h (v_D_fewest h).2 := by
  obtain ⟨r1, r2⟩ := Sc_restart h A
  obtain ⟨u1, u2, u3, u4⟩ := cc_upTo (p := 0) (q := s) (off := 0) (b := 1000000) (r2.Ev hE) r1 (Nat.zero_le _) (Nat.le_refl _) (fun j _ _ => rfl) (fun j _ hj => hE.2.2.2.1 j hj) (fun z => absurd z (Nat.lt_irrefl _)) (by omega) (by omega)
  refine ⟨fun y1 e => by subst e; exact u1, ?_⟩
  have hv : v_D_fewest h = ((v_D_meetUpTo (v_D_restart h) (nI 0) (nI 1000000)).2.1 12 5, (v_D_meetUpTo (v_D_restart h) (nI 0) (nI 1000000)).2) := rfl
  rw [hv]
  exact ⟨u3.2.2, u3, r2.tr u4⟩
/-- the events with a trip more, in their order -/
def mrg (A : Nat → Nat) (s l r : Nat) : Nat → Nat := insF (insF A (cn (fun j => Nat.blt (A j) l) s) l) (cn (fun j => Nat.blt (A j) r) s + 1) r
theorem cn_first {A : Nat → Nat} {s : Nat} (h : srt A s) (b : Nat) : cn (fun j => Nat.blt (A j) b) s ≤ s ∧ (∀ j, j < cn (fun j => Nat.blt (A j) b) s → A j < b) ∧ (∀ j, cn (fun j => Nat.blt (A j) b) s ≤ j → j < s → b ≤ A j) := by
  have hle := cn_le (fun j => Nat.blt (A j) b) s
  refine ⟨hle, fun j hj => ?_, fun j hj hjs => ?_⟩
  · by_cases hc : A j < b
    · exact hc
    · exfalso
      -- then none behind j counts
      have h1 : cn (fun i => Nat.blt (A i) b) s ≤ j := by
        have h2 := cn_add (p := fun i => Nat.blt (A i) b) j (s - j)
        rw [show j + (s - j) = s by omega] at h2
        have h3 := cn_le (fun i => Nat.blt (A i) b) j
        have h4 : cn (fun i => Nat.blt (A (j + i)) b) (s - j) = 0 := by
          have : ∀ m, m ≤ s - j → cn (fun i => Nat.blt (A (j + i)) b) m = 0 := by
            intro m
            induction m with
            | zero => intro _; rfl
            | succ m ih =>
              intro hm
              have h5 := h j (j + m) (by omega) (by omega)
              rw [cn, ih (by omega), if_neg (by rw [blt_iff]; omega)]
          exact this _ (Nat.le_refl _)
        rw [h2, h4]
        omega
      omega
  · by_cases hc : A j < b
    · exfalso
      have h2 := cn_add (p := fun i => Nat.blt (A i) b) (j + 1) (s - (j + 1))
      rw [show j + 1 + (s - (j + 1)) = s by omega] at h2
      have h3 : ∀ m, m ≤ j + 1 → m ≤ cn (fun i => Nat.blt (A i) b) m := by
        intro m
        induction m with
        | zero => intro _; exact Nat.zero_le _
        | succ m ih =>
          intro hm
          have h4 := ih (by omega)
          have h5 := h m j (by omega) hjs
          rw [cn, if_pos (by rw [blt_iff]; omega)]
          omega
      have h6 := h3 (j + 1) (Nat.le_refl _)
      omega
    · omega
theorem mrg_srt {A : Nat → Nat} {s l r : Nat} (h : srt A s) (hlr : l ≤ r) : srt (mrg A s l r) (s + 1 + 1) ∧ ∀ q : Nat → Bool, cn (fun i => q (mrg A s l r i)) (s + 1 + 1) = cn (fun i => q (A i)) s + ((if q l = true then 1 else 0) + (if q r = true then 1 else 0)) := by
  obtain ⟨a1, a2, a3⟩ := cn_first h l
  obtain ⟨b1, b2, b3⟩ := cn_first h r
  have hab : cn (fun j => Nat.blt (A j) l) s ≤ cn (fun j => Nat.blt (A j) r) s := cn_mono (fun k _ hk => by rw [blt_iff] at hk ⊢; omega)
  unfold mrg
  generalize cn (fun j => Nat.blt (A j) l) s = u at *
  generalize cn (fun j => Nat.blt (A j) r) s = w at *
  refine ⟨ins_srt (ins_srt h a1 (fun i hi => Nat.le_of_lt (a2 i hi)) (fun i hi hi2 => a3 i hi hi2)) (by omega) (fun i hi => ?_) (fun i hi hi2 => ?_), fun q => ?_⟩
  · unfold insF
    split
    · have := a2 i (by omega); omega
    · split
      · exact hlr
      · have := b2 (i - 1) (by omega); omega
  · unfold insF
    rw [if_neg (by omega), if_neg (by omega)]
    exact b3 (i - 1) (by omega) (by omega)
  · have c2 := ins_cn q (insF A u l) r (w + 1) (s - w)
    have c1 := ins_cn q A l u (s - u)
    rw [show w + 1 + (s - w) = s + 1 by omega] at c2
    rw [show u + (s - u) = s by omega] at c1
    rw [c2, c1]
    omega
theorem cc_fewestWith {h : HP} {T : Nat → Int32} {n : Nat} (hR : RT h.1 0 T n) (hI : Inv T n) {A : Nat → Nat} {s : Nat} (hE : EvS h A s) {r f t d l : Nat} (hr : r < 4) (hf : f < 4) (ht : t < 4) (hd : d ≤ 1439) (hl : l ≤ 240) (hl1 : 1 ≤ l) :
    p_D_fewestWith h (nI r) (nI f) (nI t) (nI d) (nI l) ∧ (v_D_fewestWith h (nI r) (nI f) (nI t) (nI d) (nI l)).1 = nI (sn (fun c => Mc (mrg A s (lvN T r f d) (rdN T r t (d + l))) c (s + 1 + 1)) 16) ∧ dF h (v_D_fewestWith h (nI r) (nI f) (nI t) (nI d) (nI l)).2 := by
  have hs40 := hE.2.2.2.2
  have eL := cc_lv hR hI hr hf d
  have eY : v_D_readyEvent h (nI r) (nI t) (nI d + nI l) = nI (rdN T r t (d + l)) := by rw [nI_add]; exact cc_rd hR hI hr ht (d + l)
  have k1 := keyN_lt (T := T) hr hf
  have k2 := keyN_lt (T := T) hr ht
  have k3 := (hI.lay ht).2
  have hL : lvN T r f d < 1000000 := by unfold lvN; omega
  have hY : rdN T r t (d + l) < 1000000 := by unfold rdN; omega
  have hlr : lvN T r f d ≤ rdN T r t (d + l) := by unfold lvN rdN; omega
  obtain ⟨a1, a2, a3⟩ := cn_first hE.2.2.1 (lvN T r f d)
  obtain ⟨b1, b2, b3⟩ := cn_first hE.2.2.1 (rdN T r t (d + l))
  have hab : cn (fun j => Nat.blt (A j) (lvN T r f d)) s ≤ cn (fun j => Nat.blt (A j) (rdN T r t (d + l))) s := cn_mono (fun k _ hk => by rw [blt_iff] at hk ⊢; omega)
  unfold mrg
  generalize lvN T r f d = el at *
  generalize rdN T r t (d + l) = er at *
  generalize cn (fun j => Nat.blt (A j) el) s = u at *
  generalize cn (fun j => Nat.blt (A j) er) s = w at *
  generalize hCd : insF (insF A u el) (w + 1) er = C
  have C1 : ∀ j, j < u → C j = A j := fun j hj => by rw [← hCd, insF, if_pos (by omega), insF, if_pos hj]
  have C2 : C u = el := by rw [← hCd, insF, if_pos (by omega), insF, if_neg (Nat.lt_irrefl _), if_pos rfl]
  have C3 : ∀ j, u ≤ j → j < w → C (j + 1) = A j := fun j h1 h2 => by rw [← hCd, insF, if_pos (by omega), insF, if_neg (by omega), if_neg (by omega)]; rfl
  have C4 : C (w + 1) = er := by rw [← hCd, insF, if_neg (Nat.lt_irrefl _), if_pos rfl]
  have C5 : ∀ j, w ≤ j → C (j + 2) = A j := fun j h1 => by rw [← hCd, insF, if_neg (by omega), if_neg (by omega), insF, if_neg (by omega), if_neg (by omega)]; rfl
  obtain ⟨r1, r2⟩ := Sc_restart h C
  obtain ⟨x1, x2, x3, x4⟩ := cc_upTo (p := 0) (q := u) (off := 0) (b := el) (C := C) (r2.Ev hE) r1 (Nat.zero_le _) a1 (fun j _ hj => C1 j hj) (fun j _ hj => a2 j hj) (fun z => a3 u (Nat.le_refl _) z) (by omega) (by omega)
  have e2 : ∃ y2, v_D_meetUpTo (v_D_restart h) (nI 0) (nI el) = y2 := ⟨_, rfl⟩
  obtain ⟨y2, e2⟩ := e2
  rw [e2] at x2 x3 x4
  obtain ⟨m1, m2⟩ := cc_meet x3 C2 hL (by omega)
  have e3 : ∃ y3, v_D_meet y2.2 (nI el) = y3 := ⟨_, rfl⟩
  obtain ⟨y3, e3⟩ := e3
  rw [e3] at m1 m2
  have f3 : dF h y3 := (r2.tr x4).tr m2
  obtain ⟨z1, z2, z3, z4⟩ := cc_upTo (p := u) (q := w) (off := 1) (b := er) (C := C) (f3.Ev hE) m1 hab b1 (fun j h1 h2 => C3 j h1 h2) (fun j _ hj => b2 j hj) (fun z => b3 w (Nat.le_refl _) z) (by omega) (by omega)
  have e4 : ∃ y4, v_D_meetUpTo y3 (nI u) (nI er) = y4 := ⟨_, rfl⟩
  obtain ⟨y4, e4⟩ := e4
  rw [e4] at z2 z3 z4
  obtain ⟨w1, w2⟩ := cc_meet z3 C4 hY (by omega)
  have e5 : ∃ y5, v_D_meet y4.2 (nI er) = y5 := ⟨_, rfl⟩
  obtain ⟨y5, e5⟩ := e5
  rw [e5] at w1 w2
  have f5 : dF h y5 := (f3.tr z4).tr w2
  obtain ⟨t1, t2, t3, t4⟩ := cc_upTo (p := w) (q := s) (off := 2) (b := 1000000) (C := C) (f5.Ev hE) w1 b1 (Nat.le_refl _) (fun j h1 _ => C5 j h1) (fun j _ hj => hE.2.2.2.1 j hj) (fun z => absurd z (Nat.lt_irrefl _)) (by omega) (by omega)
  refine ⟨?_, ?_⟩
  · rw [p_D_fewestWith, eL, eY]
    intro y1 he1
    subst he1
    refine ⟨x1, fun y2' he2 => ?_⟩
    cases (e2.symm.trans he2)
    intro y3' he3
    cases (e3.symm.trans he3)
    rw [x2]
    refine ⟨z1, fun y4' he4 => ?_⟩
    cases (e4.symm.trans he4)
    intro y5' he5
    cases (e5.symm.trans he5)
    rw [z2]
    exact t1
  · have hv : v_D_fewestWith h (nI r) (nI f) (nI t) (nI d) (nI l) = ((v_D_meetUpTo y5 (nI w) (nI 1000000)).2.1 12 5, (v_D_meetUpTo y5 (nI w) (nI 1000000)).2) := by
      rw [v_D_fewestWith, eL, eY]
      unfold bnd
      dsimp only
      rw [show v_D_meetUpTo (v_D_restart h) 0 (nI el) = y2 from e2, e3, x2, e4, e5, z2]
      rfl
    rw [hv]
    exact ⟨t3.2.2, f5.tr t4⟩
theorem cc_deficitOf {h : HP} {C : Nat → Nat} {s t : Nat} (hS : Sc h C s) (ht : t < 4) : p_D_deficitOf h (nI t) ∧ v_D_deficitOf h (nI t) = nI (sn (fun r => Mc C (t * 4 + r) s) 4) := by
  obtain ⟨a, b⟩ := sum_loop (step := s_D_deficitOf_4 h (nI t)) (pst := ps_D_deficitOf_4 h (nI t)) (n := 4) (by omega) (fun r => nI (Mc C (t * 4 + r) s))
    (fun j hj a => by
      show (if nI j < nI 4 then Sum.inl (a + v_at 16 (h.1 15) (nI t * nI 4 + nI j), nI j + 1) else _) = _
      rw [if_pos (nI_lt hj (by omega)), nI_mul, nI_add, at16 _ (by omega), hS.2.1 _ (by omega), nI_1])
    (fun a => by
      show (if nI 4 < nI 4 then _ else _) = _
      rw [if_neg (nI_nlt (Nat.le_refl _) (by omega))]) (fun _ _ _ => trivial)
  refine ⟨a, ?_⟩
  rw [v_D_deficitOf, b]
  show sm _ 4 = _
  exact sn_sm (fun k _ => rfl)
