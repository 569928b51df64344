/-! REFUSALS, on. -/
noncomputable section
def g_L_refusesAny (_ _ : List Sh) (as : List Value) (h : HP) : GR := match as with
  | [.ref o, .int k] => (Nat.beq o 38, (∃ S, RS h S ∧ S.2.2.2 = [] ∧ ∃ j, j < 4 ∧ k = nI j), none, some (.int 1), v_RA h)
  | _ => bad h
def d_L_refusesAny (k : Nat) : CD := (k, yL_refusesAny, cL_refusesAny, 5, some .boolean, 2, 10, 198, 41, false, true, g_L_refusesAny)
theorem pf_L_refusesAny : plainFor yL_refusesAny = true := by decide +kernel
theorem cu_L_refusesAny : Cond.code yL_refusesAny cL_refusesAny 5 (some .boolean) ∈ am_U := am_in_U (List.mem_append_right _ (List.mem_append_right _ (List.mem_append_right _ (List.mem_append_right _ (List.mem_of_getElem? (i := 62) (show tables_1_4[62]? = some _ from rfl)))))) rfl
theorem ok_L_refusesAny {l : Launch} (hl : l.stackTraces = false) {e2 : List Sh} (he : e2.length ≤ 800) (k : Nat) : am_Ok l (WB ++ []) (RO ++ e2) (d_L_refusesAny k) := by
  have hw : (WB ++ []).length ≤ 1000 := WB_len
  have hr : (RO ++ e2).length ≤ 900 := by rw [List.length_append]; have : RO.length = 5 := rfl; omega
  refine am_metB (own := RL) (M := m_L_refusesAny) rfl pf_L_refusesAny cu_L_refusesAny rfl rfl rfl rfl (fun _ => rfl) rfl rfl mok_L_refusesAny (am_c (ok_g 0 hw hr (ok_B_count hl [] _ 15)) (am_c (ok_g 0 hw hr (ok_L_far hl [] _ 0)) (am_c (ok_g 1 hw hr (ok_L_call hl [] _)) am_n))) rfl ?_ hw hr ?_
  · intro as h _
    show g_thr (g_L_refusesAny (WB ++ []) (RO ++ e2) as h) = none
    unfold g_L_refusesAny
    split <;> rfl
  · intro as h
    show g_ok (g_L_refusesAny (WB ++ []) (RO ++ e2) as h) = true → g_pre (g_L_refusesAny (WB ++ []) (RO ++ e2) as h) → _ ∧ am_Ev _ _ _ (am_eqB (g_L_refusesAny (WB ++ []) (RO ++ e2) as h) 41) _
    unfold g_L_refusesAny
    split
    · rename_i o k0
      intro hg hp
      obtain rfl := am_beq hg
      obtain ⟨S, hs, hx, j, hj, rfl⟩ := hp
      refine ⟨Nat.le_of_ble_eq_true rfl, ?_⟩
      exact ra_all hs hj hx (fun H a b => ⟨rfl, a, b⟩)
    · exact fun z => nomatch z
end
