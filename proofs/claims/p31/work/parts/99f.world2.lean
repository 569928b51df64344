/-! THE FIRST WORLD, whole. -/
theorem mp_eq {fs : List Nat} {ad : Nat → Nat} {l : List Nat} (e : fs.map ad = l) : (fun j : Nat => fs[j]?.map ad) = fun j : Nat => l[j]? := by
  subst e
  funext j
  rw [List.getElem?_map]
section FW2
variable {G t : Nat → Nat} {n : Nat} {xs : Nat → Int32} {a0 : Nat} {u : Nat → Nat → Nat} {a : Nat → Nat} {v6 v7 : Nat → Nat → Nat} {ao : Nat} {e1 : List Sh}
theorem wk34 : (am_wl G (adI t a0 u a v6 v7 ao) (hI n xs) (WB ++ e1))[34]? = (wBc G (hI n xs) a0 u a v6 v7)[35]? := (am_wl_at (s := (3, 6, [39, 51, 63, 75, 87, 99])) rfl).trans (by rw [am_ce_q rfl, mp_eq (l := [v6 0 0, v6 1 0, v6 2 0, v6 3 0, v6 4 0, v6 5 0]) rfl]; rfl)
theorem wk36 : (am_wl G (adI t a0 u a v6 v7 ao) (hI n xs) (WB ++ e1))[36]? = (wBc G (hI n xs) a0 u a v6 v7)[109]? := (am_wl_at (s := (3, 2, [111, 123])) rfl).trans (by rw [am_ce_q rfl, mp_eq (l := [v7 0 0, v7 1 0]) rfl]; rfl)
theorem wk_all (k : Nat) (hk : k < 135) : (am_wl G (adI t a0 u a v6 v7 ao) (hI n xs) (WB ++ e1))[k]? = (wBc G (hI n xs) a0 u a v6 v7)[sgm k]? :=
  match k, hk with
  | 0, _ => wk0
  | 1, _ => wk1
  | 2, _ => wk2
  | 3, _ => wk3
  | 4, _ => wk4
  | 5, _ => wk5
  | 6, _ => wk6
  | 7, _ => wk7
  | 8, _ => wk8
  | 9, _ => wk9
  | 10, _ => wk10
  | 11, _ => wk11
  | 12, _ => wk12
  | 13, _ => wk13
  | 14, _ => wk14
  | 15, _ => wk15
  | 16, _ => wk16
  | 17, _ => wk17
  | 18, _ => wk18
  | 19, _ => wk19
  | 20, _ => wk20
  | 21, _ => wk21
  | 22, _ => wk22
  | 23, _ => wk23
  | 24, _ => wk24
  | 25, _ => wk25
  | 26, _ => wk26
  | 27, _ => wk27
  | 28, _ => wk28
  | 29, _ => wk29
  | 30, _ => wk30
  | 31, _ => wk31
  | 32, _ => wk32
  | 33, _ => wk33
  | 34, _ => wk34
  | 35, _ => wk35
  | 36, _ => wk36
  | 37, _ => wk37
  | 38, _ => wk38
  | 39, _ => wk39
  | 40, _ => wk40
  | 41, _ => wk41
  | 42, _ => wk42
  | 43, _ => wk43
  | 44, _ => wk44
  | 45, _ => wk45
  | 46, _ => wk46
  | 47, _ => wk47
  | 48, _ => wk48
  | 49, _ => wk49
  | 50, _ => wk50
  | 51, _ => wk51
  | 52, _ => wk52
  | 53, _ => wk53
  | 54, _ => wk54
  | 55, _ => wk55
  | 56, _ => wk56
  | 57, _ => wk57
  | 58, _ => wk58
  | 59, _ => wk59
  | 60, _ => wk60
  | 61, _ => wk61
  | 62, _ => wk62
  | 63, _ => wk63
  | 64, _ => wk64
  | 65, _ => wk65
  | 66, _ => wk66
  | 67, _ => wk67
  | 68, _ => wk68
  | 69, _ => wk69
  | 70, _ => wk70
  | 71, _ => wk71
  | 72, _ => wk72
  | 73, _ => wk73
  | 74, _ => wk74
  | 75, _ => wk75
  | 76, _ => wk76
  | 77, _ => wk77
  | 78, _ => wk78
  | 79, _ => wk79
  | 80, _ => wk80
  | 81, _ => wk81
  | 82, _ => wk82
  | 83, _ => wk83
  | 84, _ => wk84
  | 85, _ => wk85
  | 86, _ => wk86
  | 87, _ => wk87
  | 88, _ => wk88
  | 89, _ => wk89
  | 90, _ => wk90
  | 91, _ => wk91
  | 92, _ => wk92
  | 93, _ => wk93
  | 94, _ => wk94
  | 95, _ => wk95
  | 96, _ => wk96
  | 97, _ => wk97
  | 98, _ => wk98
  | 99, _ => wk99
  | 100, _ => wk100
  | 101, _ => wk101
  | 102, _ => wk102
  | 103, _ => wk103
  | 104, _ => wk104
  | 105, _ => wk105
  | 106, _ => wk106
  | 107, _ => wk107
  | 108, _ => wk108
  | 109, _ => wk109
  | 110, _ => wk110
  | 111, _ => wk111
  | 112, _ => wk112
  | 113, _ => wk113
  | 114, _ => wk114
  | 115, _ => wk115
  | 116, _ => wk116
  | 117, _ => wk117
  | 118, _ => wk118
  | 119, _ => wk119
  | 120, _ => wk120
  | 121, _ => wk121
  | 122, _ => wk122
  | 123, _ => wk123
  | 124, _ => wk124
  | 125, _ => wk125
  | 126, _ => wk126
  | 127, _ => wk127
  | 128, _ => wk128
  | 129, _ => wk129
  | 130, _ => wk130
  | 131, _ => wk131
  | 132, _ => wk132
  | 133, _ => wk133
  | 134, _ => wk134
  | k + 135, z => absurd z (by omega)
theorem sg_inj (i j : Nat) (hi : i < 136) (hj : j < 136) (e : sgm i = sgm j) : i = j := by
  have h : ∀ i, i < 136 → sgl.idxOf (sgm i) = i := by
    have h0 : (List.range 136).all (fun i => decide (sgl.idxOf (sgm i) = i)) = true := by decide +kernel
    intro i hi
    exact of_decide_eq_true (List.all_eq_true.mp h0 i (List.mem_range.mpr hi))
  rw [← h i hi, ← h j hj, e]
theorem sg_lt (i : Nat) (hi : i < 135) : sgm i < 135 := by
  have h0 : (List.range 135).all (fun i => Nat.blt (sgm i) 135) = true := by decide +kernel
  exact am_blt (List.all_eq_true.mp h0 i (List.mem_range.mpr hi))
theorem WB_135 : WB.length = 135 := by decide +kernel
/-- the object's cells, by their names -/
theorem wY_WB {D : va_G} {A : Nat → Prop} {H : Heap} (hP : va_P D vwCl (wBc G (hI n xs) a0 u a v6 v7) H) (hD : va_D A (wBc G (hI n xs) a0 u a v6 v7)) : va_P D vwCl (am_wl G (adI t a0 u a v6 v7 ao) (hI n xs) WB) H ∧ va_D A (am_wl G (adI t a0 u a v6 v7 ao) (hI n xs) WB) := by
  have hlen : (am_wl G (adI t a0 u a v6 v7 ao) (hI n xs) WB).length = 135 := by
    unfold am_wl
    rw [List.length_mapIdx]
    exact WB_135
  refine cr_perm sgm (fun k x hk => ?_) (fun i j hi hj e => sg_inj i j (by omega) (by omega) e) hP hD
  have hlt : k < 135 := by have := (List.getElem?_eq_some_iff.mp hk).1; omega
  have h := wk_all (G := G) (t := t) (n := n) (xs := xs) (a0 := a0) (u := u) (a := a) (v6 := v6) (v7 := v7) (ao := ao) (e1 := []) k hlt
  rw [List.append_nil] at h
  rw [← h]
  exact hk
/-- with the law's row of longs -/
theorem wY_WL {D : va_G} {A : Nat → Prop} {H : Heap} (hP : va_P D vwCl (wBc G (hI n xs) a0 u a v6 v7 ++ [(ao, .inl (G 2, 64, .inr (.inl (fun _ => 0))))]) H) (hD : va_D A (wBc G (hI n xs) a0 u a v6 v7 ++ [(ao, .inl (G 2, 64, .inr (.inl (fun _ => 0))))])) : va_P D vwCl (am_wl G (adI t a0 u a v6 v7 ao) (hI n xs) WL) H ∧ va_D A (am_wl G (adI t a0 u a v6 v7 ao) (hI n xs) WL) := by
  have hlen : (am_wl G (adI t a0 u a v6 v7 ao) (hI n xs) WL).length = 136 := by
    unfold am_wl
    rw [List.length_mapIdx]
    unfold WL
    rw [List.length_append, WB_135]
    rfl
  have hlc : (wBc G (hI n xs) a0 u a v6 v7).length = 135 := rfl
  refine cr_perm sgm (fun k x hk => ?_) (fun i j hi hj e => sg_inj i j (by omega) (by omega) e) hP hD
  have hlt : k < 136 := by have := (List.getElem?_eq_some_iff.mp hk).1; omega
  by_cases h135 : k < 135
  · have h := wk_all (G := G) (t := t) (n := n) (xs := xs) (a0 := a0) (u := u) (a := a) (v6 := v6) (v7 := v7) (ao := ao) (e1 := [(2, 64, [])]) k h135
    rw [List.getElem?_append_left (by rw [hlc]; exact sg_lt k h135), ← h]
    exact hk
  · have e : k = 135 := by omega
    subst e
    rw [show sgm 135 = 135 from by decide +kernel, List.getElem?_append_right (by rw [hlc]; exact Nat.le_refl _), hlc]
    have h := am_wl_at (G := G) (ad := adI t a0 u a v6 v7 ao) (h := hI n xs) (sh := WL) (k := 135) (s := (2, 64, [])) (by decide +kernel)
    rw [h] at hk
    rw [← hk]
    rfl
end FW2
