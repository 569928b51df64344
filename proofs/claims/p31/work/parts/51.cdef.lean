/-! PURE: the class's deficits: events in their order, met one after another. -/
theorem nI_div {a b : Nat} (ha : a < 2 ^ 31) (hb : b < 2 ^ 31) : nI a / nI b = nI (a / b) := (Int32.ofNat_div ha hb).symm
theorem nI_mod {a b : Nat} (ha : a < 2 ^ 31) (hb : b < 2 ^ 31) : nI a - nI a / nI b * nI b = nI (a % b) := by
  rw [nI_div ha hb, nI_mul, nI_sub (Nat.div_mul_le_self a b)]
  congr 1
  have := Nat.div_add_mod a b
  rw [Nat.mul_comm] at this
  omega
abbrev oI (x : Int) : Int32 := Int32.ofInt x
theorem oI_nat (a : Nat) : oI (a : Int) = nI a := Int32.ofInt_eq_ofNat
theorem oI_toInt {x : Int} (h : -1000000 ≤ x) (h2 : x ≤ 1000000) : (oI x).toInt = x := Int32.toInt_ofInt_of_le (by omega) (by omega)
theorem oI_add1 (x : Int) : oI x + 1 = oI (x + 1) := (Int32.ofInt_add x 1).symm
theorem oI_sub1 (x : Int) : oI x - 1 = oI (x - 1) := (Int32.ofInt_sub x 1).symm
theorem oI_le {x y : Int} (h : -1000000 ≤ x) (h2 : x ≤ 1000000) (h3 : -1000000 ≤ y) (h4 : y ≤ 1000000) : oI x ≤ oI y ↔ x ≤ y := by
  rw [Int32.le_iff_toInt_le, oI_toInt h h2, oI_toInt h3 h4]
def keyN (T : Nat → Int32) (r t : Nat) : Nat := t * 4 + (if nT T 8 = 0 then r else 0)
def lvN (T : Nat → Int32) (r t d : Nat) : Nat := d * 32 + 16 + keyN T r t
def rdN (T : Nat → Int32) (r t a : Nat) : Nat := (a + nT T t) * 32 + keyN T r t
theorem keyN_lt {T : Nat → Int32} {r t : Nat} (hr : r < 4) (ht : t < 4) : keyN T r t < 16 := by unfold keyN; split <;> omega
section CKY
variable {h : HP} {T : Nat → Int32} {n : Nat}
theorem cc_key (hR : RT h.1 0 T n) (hI : Inv T n) {r t : Nat} (hr : r < 4) (ht : t < 4) : v_D_keyOf h (nI r) (nI t) = nI (keyN T r t) := by
  have h8 := hI.s0.2
  rw [v_D_keyOf, cc_s0 hR hI, show (4 : Int32) = nI 4 from rfl, nI_mul, keyN]
  by_cases e : nT T 8 = 0
  · rw [if_pos ((nI_z (by omega)).mpr e), if_pos e, nI_add]
  · rw [if_neg (fun z => e ((nI_z (by omega)).mp z)), if_neg e, Int32.add_zero, Nat.add_zero]
theorem cc_lv (hR : RT h.1 0 T n) (hI : Inv T n) {r t : Nat} (hr : r < 4) (ht : t < 4) (d : Nat) : v_D_leavingEvent h (nI r) (nI t) (nI d) = nI (lvN T r t d) := by
  rw [v_D_leavingEvent, cc_key hR hI hr ht, show (32 : Int32) = nI 32 from rfl, show (16 : Int32) = nI 16 from rfl, nI_mul, nI_add, nI_add]
  rfl
theorem cc_rd (hR : RT h.1 0 T n) (hI : Inv T n) {r t : Nat} (hr : r < 4) (ht : t < 4) (a : Nat) : v_D_readyEvent h (nI r) (nI t) (nI a) = nI (rdN T r t a) := by
  rw [v_D_readyEvent, cc_key hR hI hr ht, cc_lay hR hI ht, show (32 : Int32) = nI 32 from rfl, nI_add, nI_mul, nI_add]
  rfl
end CKY
/-- the events of the class, sorted -/
def EvS (h : HP) (A : Nat → Nat) (s : Nat) : Prop := h.1 12 4 = nI s ∧ (∀ i, i < s → h.1 13 i = nI (A i)) ∧ srt A s ∧ (∀ i, i < s → A i < 1000000) ∧ s ≤ 40
theorem put40 (h : HP) (r : Nat) {i : Nat} (hi : i < 40) (x : Int32) : v_put 40 h r (nI i) x = am_si h r i x := put_nI (by omega) h r hi x
theorem put16 (h : HP) (r : Nat) {i : Nat} (hi : i < 16) (x : Int32) : v_put 16 h r (nI i) x = am_si h r i x := put_nI (by omega) h r hi x
theorem cc_insert {h : HP} {A : Nat → Nat} {s e : Nat} (hE : EvS h A s) (hs : s < 40) (he : e < 1000000) : p_D_insert h (nI e) ∧ ∃ p, p ≤ s ∧ EvS (v_D_insert h (nI e)) (insF A p e) (s + 1) ∧
    (∀ c, c ≠ 12 → c ≠ 13 → (v_D_insert h (nI e)).1 c = h.1 c) ∧ (∀ k, k ≠ 4 → (v_D_insert h (nI e)).1 12 k = h.1 12 k) := by
  obtain ⟨h1, h2, h3, h4, h5⟩ := hE
  obtain ⟨a, r, b, c⟩ := itr_invN (step := s_D_insert_5 h (nI e)) (pst := ps_D_insert_5 h (nI e)) (fun v => ∃ p H, p ≤ s ∧ v = (nI p, H) ∧ (∀ i, i < p → H.1 13 i = nI (A i)) ∧ (∀ i, p < i → i ≤ s → H.1 13 i = nI (A (i - 1))) ∧ (∀ i, p ≤ i → i < s → e < A i) ∧ (∀ c, c ≠ 13 → H.1 c = h.1 c)) (fun v => am_ix v.1)
    (fun r => ∃ p H, p ≤ s ∧ r = (nI p, H) ∧ (∀ i, i < p → H.1 13 i = nI (A i)) ∧ (∀ i, p < i → i ≤ s → H.1 13 i = nI (A (i - 1))) ∧ (∀ i, p ≤ i → i < s → e < A i) ∧ (∀ c, c ≠ 13 → H.1 c = h.1 c) ∧ (0 < p → A (p - 1) ≤ e)) (nI s, h)
    (by show am_ix (nI s) < _; rw [nI_ix (by omega)]; omega) ⟨s, h, Nat.le_refl _, rfl, h2, fun i a b => by omega, fun i a b => by omega, fun _ _ => rfl⟩
    (fun v hv => by
      obtain ⟨p, H, hp, rfl, k1, k2, k3, k4⟩ := hv
      refine ⟨trivial, ?_⟩
      have hst : s_D_insert_5 h (nI e) (nI p, H) = (if nI p ≤ 0 then .inr (nI p, H) else (if v_at 40 (H.1 13) (nI p - 1) ≤ nI e then .inr (nI p, H) else .inl (nI p + (-1 : Int32), v_put 40 H 13 (nI p) (v_at 40 (H.1 13) (nI p - 1))))) := rfl
      rw [hst]
      match p, hp, k1, k2, k3 with
      | 0, hp, k1, k2, k3 =>
        rw [if_pos (by decide +kernel)]
        exact Or.inr ⟨_, rfl, 0, H, hp, rfl, k1, k2, k3, k4, fun z => absurd z (by omega)⟩
      | p + 1, hp, k1, k2, k3 =>
        have k1p := k1 p (by omega)
        have hAp := h4 p (by omega)
        have em1 : nI (p + 1) + (-1 : Int32) = nI p := by rw [← nI_pred p]; exact (Int32.sub_eq_add_neg ..).symm
        rw [if_neg (nI_nle (by omega) (by omega)), nI_pred, at40 _ (by omega), k1p, em1, put40 _ _ (by omega)]
        by_cases hc : A p ≤ e
        · rw [if_pos (nI_le hc (by omega))]
          exact Or.inr ⟨_, rfl, p + 1, H, hp, rfl, k1, k2, k3, k4, fun _ => hc⟩
        · rw [if_neg (nI_ge (by omega) (by omega))]
          refine Or.inl ⟨_, rfl, ⟨p, _, by omega, rfl, fun i hi => ?_, fun i hi hi2 => ?_, fun i hi hi2 => ?_, fun c hc => ?_⟩, ?_⟩
          · rw [am_si1, if_neg (by omega)]; exact k1 i (by omega)
          · rw [am_si1]
            by_cases e2 : i = p + 1
            · subst e2; rw [if_pos ⟨rfl, rfl⟩]; rfl
            · rw [if_neg (fun z => e2 z.2)]; exact k2 i (by omega) hi2
          · by_cases e2 : i = p
            · subst e2; omega
            · exact k3 i (by omega) hi2
          · rw [am_si_ne hc]; exact k4 c hc
          · show am_ix (nI p) < am_ix (nI (p + 1))
            rw [nI_ix (by omega), nI_ix (by omega)]; omega)
  refine ⟨by rw [p_D_insert, h1]; exact a, ?_⟩
  obtain ⟨p, H, hp, rfl, k1, k2, k3, k4, k5⟩ := c
  have hv : v_D_insert h (nI e) = am_si (am_si H 13 p (nI e)) 12 4 (nI (s + 1)) := by
    rw [v_D_insert, h1, b]
    show am_si (v_put 40 H 13 (nI p) (nI e)) 12 4 ((v_put 40 H 13 (nI p) (nI e)).1 12 4 + 1) = _
    rw [put40 _ _ (by omega), am_si_ne (by omega), k4 12 (by omega), h1, nI_1]
  rw [hv]
  refine ⟨p, hp, ⟨?_, fun i hi => ?_, ?_, fun i hi => ?_, by omega⟩, fun c hc1 hc2 => ?_, fun k hk => ?_⟩
  · rw [am_si1, if_pos ⟨rfl, rfl⟩]
  · rw [am_si_ne (by omega), am_si1, insF]
    by_cases e1 : i < p
    · rw [if_neg (by omega), if_pos e1]; exact k1 i e1
    · by_cases e2 : i = p
      · rw [if_pos ⟨rfl, e2⟩, if_neg e1, if_pos e2]
      · rw [if_neg (fun z => e2 z.2), if_neg e1, if_neg e2]; exact k2 i (by omega) (by omega)
  · refine ins_srt h3 hp (fun i hi => ?_) (fun i hi1 hi2 => Nat.le_of_lt (k3 i hi1 hi2))
    have := k5 (by omega)
    have := h3 i (p - 1) (by omega) (by omega)
    omega
  · unfold insF
    split
    · exact h4 i (by omega)
    · split
      · exact he
      · exact h4 (i - 1) (by omega)
  · rw [am_si_ne hc1, am_si_ne hc2]; exact k4 c hc2
  · rw [am_si1, if_neg (fun z => hk z.2), am_si_ne (by omega)]; rw [k4 12 (by omega)]
/-- the events of the first m trips, but of one -/
def evn (T : Nat → Int32) (lo : Option Nat) (q : Nat → Bool) (m : Nat) : Nat :=
  sn (fun k => if isr T k = true ∧ ¬ lo = some k then (if q (lvN T (Rt T k) (Fr T k) (Dp T k)) = true then 1 else 0) + (if q (rdN T (Rt T k) (Go T k) (Ar T k)) = true then 1 else 0) else 0) m
section CGA
variable {h : HP} {T : Nat → Int32} {n : Nat}
theorem evlt (hR : RT h.1 0 T n) (hI : Inv T n) {k : Nat} (hk : k < n) : lvN T (Rt T k) (Fr T k) (Dp T k) < 1000000 ∧ rdN T (Rt T k) (Go T k) (Ar T k) < 1000000 := by
  have h1 := hI.dpL hk
  have h2 := hI.lnL hk
  have h3 := hI.rtL hk
  have h4 := hI.frL hk
  have h5 := hI.goL hk
  have h6 := (hI.lay (i := Go T k) (by omega)).2
  have h7 := keyN_lt (T := T) (r := Rt T k) (t := Fr T k) (by omega) (by omega)
  have h8 := keyN_lt (T := T) (r := Rt T k) (t := Go T k) (by omega) (by omega)
  have h9 : Ar T k = Dp T k + Ln T k := rfl
  unfold lvN rdN
  omega
theorem cc_gather (hR : RT h.1 0 T n) (hI : Inv T n) (lo : Option Nat) (hlo : okO n lo) : p_D_gather h (eo lo) ∧ ∃ A s, EvS (v_D_gather h (eo lo)) A s ∧ s ≤ 2 * n ∧ (∀ q : Nat → Bool, cn (fun i => q (A i)) s = evn T lo q n) ∧
    (∀ c, c ≠ 12 → c ≠ 13 → (v_D_gather h (eo lo)).1 c = h.1 c) ∧ (lo ≠ none → s ≤ 2 * n - 2) := by
  have h20 := hI.n20
  let h0 := am_si h 12 4 0
  obtain ⟨a, r, b, c⟩ := itr_invN (step := s_D_gather_7 h (eo lo)) (pst := ps_D_gather_7 h (eo lo)) (fun v => ∃ k H A s, k ≤ n ∧ v = (nI k, H) ∧ EvS H A s ∧ s ≤ 2 * k ∧ (∀ q : Nat → Bool, cn (fun i => q (A i)) s = evn T lo q k) ∧ (∀ c, c ≠ 12 → c ≠ 13 → H.1 c = h.1 c) ∧ (∀ j, lo = some j → j < k → s ≤ 2 * k - 2)) (fun v => n - am_ix v.1)
    (fun r => ∃ H A s, r = (nI n, H) ∧ EvS H A s ∧ s ≤ 2 * n ∧ (∀ q : Nat → Bool, cn (fun i => q (A i)) s = evn T lo q n) ∧ (∀ c, c ≠ 12 → c ≠ 13 → H.1 c = h.1 c) ∧ (∀ j, lo = some j → s ≤ 2 * n - 2)) (0, h0)
    (by show n - am_ix 0 < _; omega) ⟨0, h0, fun _ => 0, 0, Nat.zero_le _, rfl, ⟨by show (am_si h 12 4 0).1 12 4 = _; rw [am_si1, if_pos ⟨rfl, rfl⟩]; rfl, fun i hi => by omega, fun i j _ hj => by omega, fun i hi => by omega, by omega⟩, by omega, fun q => rfl, fun c hc1 hc2 => am_si_ne hc1, fun j _ hj => by omega⟩
    (fun v hv => by
      obtain ⟨k, H, A, s, hk, rfl, hE, hs, hq, hf, hl⟩ := hv
      have hR' : RT H.1 0 T n := hR.congr (fun j hj => hf _ (by omega) (by omega))
      by_cases e : k < n
      · have hkl := hI.lt e
        obtain ⟨v1, v2⟩ := evlt hR hI e
        have g1 := hI.rtL e
        have g2 := hI.frL e
        have g3 := hI.goL e
        obtain ⟨i1, p1, j1, E1, f1, f1'⟩ := cc_insert hE (by omega) v1
        have hR1 : RT (v_D_insert H (nI (lvN T (Rt T k) (Fr T k) (Dp T k)))).1 0 T n := hR'.congr (fun j hj => f1 _ (by omega) (by omega))
        obtain ⟨i2, p2, j2, E2, f2, f2'⟩ := cc_insert E1 (by omega) v2
        have e1 : v_D_leavingEvent H (v_at 20 (H.1 1) (nI k)) (v_at 20 (H.1 2) (nI k)) (v_at 20 (H.1 4) (nI k)) = nI (lvN T (Rt T k) (Fr T k) (Dp T k)) := by
          rw [cc_rt hR' hI e, cc_fr hR' hI e, cc_dep hR' hI e, cc_lv hR' hI (by omega) (by omega)]
        have e2 : v_D_readyEvent (v_D_insert H (nI (lvN T (Rt T k) (Fr T k) (Dp T k)))) (v_at 20 (H.1 1) (nI k)) (v_at 20 ((v_D_insert H (nI (lvN T (Rt T k) (Fr T k) (Dp T k)))).1 3) (nI k)) (v_T_arrivalOf (v_D_insert H (nI (lvN T (Rt T k) (Fr T k) (Dp T k)))) (nI k)) = nI (rdN T (Rt T k) (Go T k) (Ar T k)) := by
          rw [cc_rt hR' hI e, cc_go hR1 hI e, cc_arr hR1 hI e, cc_rd hR1 hI (by omega) (by omega)]
        have hst : s_D_gather_7 h (eo lo) (nI k, H) = (if nI k = eo lo then .inl (nI k + 1, H) else (if v_T_isRun H (nI k) = 0 then .inl (nI k + 1, H) else .inl (nI k + 1, v_D_insert (v_D_insert H (nI (lvN T (Rt T k) (Fr T k) (Dp T k)))) (nI (rdN T (Rt T k) (Go T k) (Ar T k)))))) := by
          show (if nI k < H.1 0 11 then (if nI k = eo lo then _ else (if v_T_isRun H (nI k) = 0 then _ else (bnd (v_D_insert H (v_D_leavingEvent H (v_at 20 (H.1 1) (nI k)) (v_at 20 (H.1 2) (nI k)) (v_at 20 (H.1 4) (nI k)))) fun y2 => (bnd (v_D_insert y2 (v_D_readyEvent y2 (v_at 20 (H.1 1) (nI k)) (v_at 20 (y2.1 3) (nI k)) (v_T_arrivalOf y2 (nI k)))) fun y3 => Sum.inl (nI k + 1, y3))))) else _) = _
          rw [if_pos (cc_lt hR' hI e), e1]
          unfold bnd
          dsimp only
          rw [e2]
        have hps : ps_D_gather_7 h (eo lo) (nI k, H) := by
          refine ⟨fun _ => ⟨fun _ => trivial, fun _ => ⟨fun _ => trivial, fun _ => ⟨?_, fun y2 hy => ?_⟩⟩⟩, fun _ => trivial⟩
          · show p_D_insert H (v_D_leavingEvent H (v_at 20 (H.1 1) (nI k)) (v_at 20 (H.1 2) (nI k)) (v_at 20 (H.1 4) (nI k)))
            rw [e1]; exact i1
          · have hy' : v_D_insert H (v_D_leavingEvent H (v_at 20 (H.1 1) (nI k)) (v_at 20 (H.1 2) (nI k)) (v_at 20 (H.1 4) (nI k))) = y2 := hy
            rw [e1] at hy'
            subst hy'
            show p_D_insert _ (v_D_readyEvent _ (v_at 20 (H.1 1) (nI k)) _ _)
            rw [e2]; exact i2
        refine ⟨hps, ?_⟩
        have hm : n - am_ix (nI (k + 1)) < n - am_ix (nI k) := by rw [nI_ix (by omega), nI_ix (by omega)]; omega
        rw [hst, nI_1]
        by_cases hlk : lo = some k
        · rw [if_pos (by rw [hlk]; rfl)]
          refine Or.inl ⟨_, rfl, ⟨k + 1, H, A, s, e, rfl, hE, by omega, fun q => ?_, hf, fun j _ _ => by omega⟩, hm⟩
          rw [hq q, evn, evn, sn, if_neg (fun z => z.2 hlk), Nat.add_zero]
        · have hne : ¬ nI k = eo lo := by
            intro z
            cases lo with
            | none => exact nI_m1 (by omega) z
            | some j => have := hlo j rfl; exact hlk (by rw [nI_inj (by omega) (by omega) z])
          rw [if_neg hne, cc_isRun hR' hI e]
          cases er : isr T k with
          | false =>
            rw [if_pos b01_f]
            refine Or.inl ⟨_, rfl, ⟨k + 1, H, A, s, e, rfl, hE, by omega, fun q => ?_, hf, fun j hj hjk => by
              by_cases hc : j < k
              · have := hl j hj hc; omega
              · exfalso; exact hlk (by rw [hj]; congr 1; omega)⟩, hm⟩
            rw [hq q, evn, evn, sn, if_neg (fun z => by rw [er] at z; exact ff z.1), Nat.add_zero]
          | true =>
            rw [if_neg b01_t]
            refine Or.inl ⟨_, rfl, ⟨k + 1, _, _, s + 1 + 1, e, rfl, E2, by omega, fun q => ?_, fun c hc1 hc2 => by rw [f2 c hc1 hc2, f1 c hc1 hc2, hf c hc1 hc2], fun j hj hjk => by
              by_cases hc : j < k
              · have := hl j hj hc; omega
              · exfalso; exact hlk (by rw [hj]; congr 1; omega)⟩, hm⟩
            have c2 := ins_cn q (insF A p1 (lvN T (Rt T k) (Fr T k) (Dp T k))) (rdN T (Rt T k) (Go T k) (Ar T k)) p2 (s + 1 - p2)
            have c1 := ins_cn q A (lvN T (Rt T k) (Fr T k) (Dp T k)) p1 (s - p1)
            rw [show p2 + (s + 1 - p2) = s + 1 by omega] at c2
            rw [show p1 + (s - p1) = s by omega] at c1
            rw [c2, c1, hq q, evn, evn, sn, if_pos (show isr T k = true ∧ ¬ lo = some k from ⟨er, hlk⟩), Nat.add_assoc]
      · have e4 : k = n := by omega
        subst e4
        refine ⟨⟨fun z => absurd z (cc_nlt hR' hI), fun _ => trivial⟩, Or.inr ⟨(nI k, H), ?_, H, A, s, rfl, hE, hs, hq, hf, fun j hj => hl j hj (hlo j hj)⟩⟩
        show (if nI k < H.1 0 11 then _ else _) = _
        rw [if_neg (cc_nlt hR' hI)])
  obtain ⟨H, A, s, rfl, hE, hs, hq, hf, hl⟩ := c
  refine ⟨a, A, s, ?_⟩
  have hv : v_D_gather h (eo lo) = H := by
    rw [v_D_gather]
    show (match itr (s_D_gather_7 h (eo lo)) NF (0, h0) with | some r1 => r1.2 | none => h) = _
    rw [b]
  rw [hv]
  exact ⟨hE, hs, hq, hf, fun z => by
    cases lo with
    | none => exact absurd rfl z
    | some j => exact hl j rfl⟩
end CGA
