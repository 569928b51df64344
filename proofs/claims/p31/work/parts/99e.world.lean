/-! THE FIRST WORLD of an object: which name is which cell (written by gen/start31.py). -/
def iL (o : Nat) : Bool := Nat.beq o 9 || Nat.beq o 30 || Nat.beq o 48 || Nat.beq o 60 || Nat.beq o 72 || Nat.beq o 84 || Nat.beq o 96 || Nat.beq o 108 || Nat.beq o 120 || Nat.beq o 132 || Nat.beq o 1000
def iR (o : Nat) : Bool := Nat.beq o 10 || Nat.beq o 31 || Nat.beq o 49 || Nat.beq o 61 || Nat.beq o 73 || Nat.beq o 85 || Nat.beq o 97 || Nat.beq o 109 || Nat.beq o 121 || Nat.beq o 133 || Nat.beq o 1001
def iS (o : Nat) : Bool := Nat.beq o 11 || Nat.beq o 32 || Nat.beq o 50 || Nat.beq o 62 || Nat.beq o 74 || Nat.beq o 86 || Nat.beq o 98 || Nat.beq o 110 || Nat.beq o 122 || Nat.beq o 134 || Nat.beq o 1004
def fLay : Nat → Int32 := fun _ => 5
def fRel : Nat → Int32 := fun j => bif Nat.blt j 2 then 1 else 0
def fSet : Nat → Int32 := fun j => bif Nat.beq j 0 then 1 else bif Nat.beq j 1 then 480 else bif Nat.beq j 2 then 1 else 30
def fLst : Nat → Int32 := fun j => bif Nat.beq j 1 then 60 else 0
def fMst : Nat → Int32 := fun j => bif Nat.beq j 0 then 1 else bif Nat.beq j 1 then 900 else bif Nat.beq j 2 then 9 else 240
/-- what the cells hold behind the constructor; n: what was made -/
def hI (n : Nat) (xs : Nat → Int32) : HP := (fun o => bif iL o then fLay else bif iR o then fRel else bif iS o then fSet else bif Nat.beq o 1002 then fLst else bif Nat.beq o 1003 then fMst else bif Nat.beq o 1005 then xs else bif Nat.beq o 2000 then (fun _ => nI n) else fun _ => 0, fun _ _ => 0)
abbrev qN : Nat := 46790899513571720913419115933337629168294585970694
theorem inv_ini : Inv (tl qN) 0 := by
  refine ⟨?_, fun k hk => absurd hk (Nat.not_lt_zero k), fun k hk => absurd hk (Nat.not_lt_zero k), fun k j hk => absurd hk (Nat.not_lt_zero k), fun k k' j hk => absurd hk (Nat.not_lt_zero k)⟩
  unfold InvA bd
  decide +kernel
theorem rt_ini (n : Nat) (xs : Nat → Int32) : RT (hI n xs).1 0 (tl qN) 0 := by
  have e : ∀ i, i < 16 → tl qN i = (if i < 4 then 5 else if i < 6 then 1 else if i < 8 then 0 else if i = 8 then 1 else if i = 9 then 480 else if i = 10 then 1 else if i = 11 then 30 else 0 : Int32) := by decide +kernel
  refine ⟨⟨rfl, (e 12 (by omega)).symm, (e 13 (by omega)).symm, (e 14 (by omega)).symm⟩, fun k hk => absurd hk (Nat.not_lt_zero k), fun i hi => ?_⟩
  match i, hi with
  | 0, _ => exact ⟨(e 0 (by omega)).symm, (e 4 (by omega)).symm, (e 8 (by omega)).symm⟩
  | 1, _ => exact ⟨(e 1 (by omega)).symm, (e 5 (by omega)).symm, (e 9 (by omega)).symm⟩
  | 2, _ => exact ⟨(e 2 (by omega)).symm, (e 6 (by omega)).symm, (e 10 (by omega)).symm⟩
  | 3, _ => exact ⟨(e 3 (by omega)).symm, (e 7 (by omega)).symm, (e 11 (by omega)).symm⟩
  | i + 4, z => omega
/-- a new object's state -/
theorem at_ini (n : Nat) (xs : Nat → Int32) : At (hI n xs) ((tl qN, 0), [], (none, none), []) n := by
  refine ⟨⟨⟨rt_ini n xs, inv_ini⟩, ⟨0, by show 0 ≤ 6; omega, by omega, rfl, rfl, fun j t h => ?_⟩, ⟨rfl, rfl⟩, ⟨by show 0 ≤ 60; omega, fun c hc => ?_, rfl, fun i hi => absurd hi (Nat.not_lt_zero i)⟩, ⟨rfl, rfl, rfl, rfl⟩, rfl, rfl, rfl, rfl⟩, rfl⟩
  · have h : ([] : List TN)[j]? = some t := h
    simp at h
  · exact absurd hc List.not_mem_nil
theorem cr_perm {D : va_G} {cl : List vw_C} {A : Nat → Prop} {Y Z : va_W} {H : Heap} (σ : Nat → Nat) (hZ : ∀ k x, Z[k]? = some x → Y[σ k]? = some x) (hσ : ∀ i j, i < Z.length → j < Z.length → σ i = σ j → i = j) (hP : va_P D cl Y H) (hD : va_D A Y) : va_P D cl Z H ∧ va_D A Z := by
  refine ⟨fun k x hk => hP _ x (hZ k x hk), fun i j a b hi hj hab => ?_, fun k x hk => hD.2 _ x (hZ k x hk)⟩
  exact hσ i j (List.getElem?_eq_some_iff.mp hi).1 (List.getElem?_eq_some_iff.mp hj).1 (hD.1 _ _ a b (hZ i a hi) (hZ j b hj) hab)
def sgl : List Nat := [1, 2, 3, 4, 5, 6, 7, 8, 9, 10, 11, 12, 25, 26, 27, 28, 29, 30, 31, 32, 33, 13, 14, 15, 16, 17, 18, 19, 20, 21, 22, 23, 24, 34, 35, 108, 109, 134, 0, 36, 37, 38, 39, 40, 41, 42, 43, 44, 45, 46, 47, 48, 49, 50, 51, 52, 53, 54, 55, 56, 57, 58, 59, 60, 61, 62, 63, 64, 65, 66, 67, 68, 69, 70, 71, 72, 73, 74, 75, 76, 77, 78, 79, 80, 81, 82, 83, 84, 85, 86, 87, 88, 89, 90, 91, 92, 93, 94, 95, 96, 97, 98, 99, 100, 101, 102, 103, 104, 105, 106, 107, 110, 111, 112, 113, 114, 115, 116, 117, 118, 119, 120, 121, 122, 123, 124, 125, 126, 127, 128, 129, 130, 131, 132, 133, 135]
def sgm (k : Nat) : Nat := sgl.getD k 0
set_option maxRecDepth 100000 in
def adI (t : Nat → Nat) (a0 : Nat) (u : Nat → Nat → Nat) (a : Nat → Nat) (v6 v7 : Nat → Nat → Nat) (ao : Nat) (k : Nat) : Nat := bif Nat.blt k 136 then (bif Nat.blt k 68 then (bif Nat.blt k 34 then (bif Nat.blt k 17 then (bif Nat.blt k 8 then (bif Nat.blt k 4 then (bif Nat.blt k 2 then (bif Nat.blt k 1 then u 0 0 else u 0 1) else (bif Nat.blt k 3 then u 0 2 else u 0 3)) else (bif Nat.blt k 6 then (bif Nat.blt k 5 then u 0 4 else u 0 5) else (bif Nat.blt k 7 then u 0 6 else u 0 7))) else (bif Nat.blt k 12 then (bif Nat.blt k 10 then (bif Nat.blt k 9 then u 0 8 else u 0 9) else (bif Nat.blt k 11 then u 0 10 else u 0 11)) else (bif Nat.blt k 14 then (bif Nat.blt k 13 then u 2 0 else u 2 1) else (bif Nat.blt k 15 then u 2 2 else (bif Nat.blt k 16 then u 2 3 else u 3 0))))) else (bif Nat.blt k 25 then (bif Nat.blt k 21 then (bif Nat.blt k 19 then (bif Nat.blt k 18 then u 3 1 else u 4 0) else (bif Nat.blt k 20 then u 4 1 else u 4 2)) else (bif Nat.blt k 23 then (bif Nat.blt k 22 then u 1 0 else u 1 1) else (bif Nat.blt k 24 then u 1 2 else u 1 3))) else (bif Nat.blt k 29 then (bif Nat.blt k 27 then (bif Nat.blt k 26 then u 1 4 else u 1 5) else (bif Nat.blt k 28 then u 1 6 else u 1 7)) else (bif Nat.blt k 31 then (bif Nat.blt k 30 then u 1 8 else u 1 9) else (bif Nat.blt k 32 then u 1 10 else (bif Nat.blt k 33 then u 1 11 else a 0)))))) else (bif Nat.blt k 51 then (bif Nat.blt k 42 then (bif Nat.blt k 38 then (bif Nat.blt k 36 then (bif Nat.blt k 35 then a 1 else a 2) else (bif Nat.blt k 37 then a 3 else a 4)) else (bif Nat.blt k 40 then (bif Nat.blt k 39 then a0 else v6 0 0) else (bif Nat.blt k 41 then v6 0 1 else v6 0 2))) else (bif Nat.blt k 46 then (bif Nat.blt k 44 then (bif Nat.blt k 43 then v6 0 3 else v6 0 4) else (bif Nat.blt k 45 then v6 0 5 else v6 0 6)) else (bif Nat.blt k 48 then (bif Nat.blt k 47 then v6 0 7 else v6 0 8) else (bif Nat.blt k 49 then v6 0 9 else (bif Nat.blt k 50 then v6 0 10 else v6 0 11))))) else (bif Nat.blt k 59 then (bif Nat.blt k 55 then (bif Nat.blt k 53 then (bif Nat.blt k 52 then v6 1 0 else v6 1 1) else (bif Nat.blt k 54 then v6 1 2 else v6 1 3)) else (bif Nat.blt k 57 then (bif Nat.blt k 56 then v6 1 4 else v6 1 5) else (bif Nat.blt k 58 then v6 1 6 else v6 1 7))) else (bif Nat.blt k 63 then (bif Nat.blt k 61 then (bif Nat.blt k 60 then v6 1 8 else v6 1 9) else (bif Nat.blt k 62 then v6 1 10 else v6 1 11)) else (bif Nat.blt k 65 then (bif Nat.blt k 64 then v6 2 0 else v6 2 1) else (bif Nat.blt k 66 then v6 2 2 else (bif Nat.blt k 67 then v6 2 3 else v6 2 4))))))) else (bif Nat.blt k 102 then (bif Nat.blt k 85 then (bif Nat.blt k 76 then (bif Nat.blt k 72 then (bif Nat.blt k 70 then (bif Nat.blt k 69 then v6 2 5 else v6 2 6) else (bif Nat.blt k 71 then v6 2 7 else v6 2 8)) else (bif Nat.blt k 74 then (bif Nat.blt k 73 then v6 2 9 else v6 2 10) else (bif Nat.blt k 75 then v6 2 11 else v6 3 0))) else (bif Nat.blt k 80 then (bif Nat.blt k 78 then (bif Nat.blt k 77 then v6 3 1 else v6 3 2) else (bif Nat.blt k 79 then v6 3 3 else v6 3 4)) else (bif Nat.blt k 82 then (bif Nat.blt k 81 then v6 3 5 else v6 3 6) else (bif Nat.blt k 83 then v6 3 7 else (bif Nat.blt k 84 then v6 3 8 else v6 3 9))))) else (bif Nat.blt k 93 then (bif Nat.blt k 89 then (bif Nat.blt k 87 then (bif Nat.blt k 86 then v6 3 10 else v6 3 11) else (bif Nat.blt k 88 then v6 4 0 else v6 4 1)) else (bif Nat.blt k 91 then (bif Nat.blt k 90 then v6 4 2 else v6 4 3) else (bif Nat.blt k 92 then v6 4 4 else v6 4 5))) else (bif Nat.blt k 97 then (bif Nat.blt k 95 then (bif Nat.blt k 94 then v6 4 6 else v6 4 7) else (bif Nat.blt k 96 then v6 4 8 else v6 4 9)) else (bif Nat.blt k 99 then (bif Nat.blt k 98 then v6 4 10 else v6 4 11) else (bif Nat.blt k 100 then v6 5 0 else (bif Nat.blt k 101 then v6 5 1 else v6 5 2)))))) else (bif Nat.blt k 119 then (bif Nat.blt k 110 then (bif Nat.blt k 106 then (bif Nat.blt k 104 then (bif Nat.blt k 103 then v6 5 3 else v6 5 4) else (bif Nat.blt k 105 then v6 5 5 else v6 5 6)) else (bif Nat.blt k 108 then (bif Nat.blt k 107 then v6 5 7 else v6 5 8) else (bif Nat.blt k 109 then v6 5 9 else v6 5 10))) else (bif Nat.blt k 114 then (bif Nat.blt k 112 then (bif Nat.blt k 111 then v6 5 11 else v7 0 0) else (bif Nat.blt k 113 then v7 0 1 else v7 0 2)) else (bif Nat.blt k 116 then (bif Nat.blt k 115 then v7 0 3 else v7 0 4) else (bif Nat.blt k 117 then v7 0 5 else (bif Nat.blt k 118 then v7 0 6 else v7 0 7))))) else (bif Nat.blt k 127 then (bif Nat.blt k 123 then (bif Nat.blt k 121 then (bif Nat.blt k 120 then v7 0 8 else v7 0 9) else (bif Nat.blt k 122 then v7 0 10 else v7 0 11)) else (bif Nat.blt k 125 then (bif Nat.blt k 124 then v7 1 0 else v7 1 1) else (bif Nat.blt k 126 then v7 1 2 else v7 1 3))) else (bif Nat.blt k 131 then (bif Nat.blt k 129 then (bif Nat.blt k 128 then v7 1 4 else v7 1 5) else (bif Nat.blt k 130 then v7 1 6 else v7 1 7)) else (bif Nat.blt k 133 then (bif Nat.blt k 132 then v7 1 8 else v7 1 9) else (bif Nat.blt k 134 then v7 1 10 else (bif Nat.blt k 135 then v7 1 11 else ao)))))))) else bif Nat.blt k 1003 then (bif Nat.blt k 1001 then t 0 else bif Nat.blt k 1002 then t 1 else t 2) else bif Nat.blt k 1004 then t 3 else bif Nat.blt k 1005 then t 4 else t 5
section FW
variable {G t : Nat → Nat} {n : Nat} {xs : Nat → Int32} {a0 : Nat} {u : Nat → Nat → Nat} {a : Nat → Nat} {v6 v7 : Nat → Nat → Nat} {ao : Nat} {e1 : List Sh}
set_option maxRecDepth 100000 in
theorem wk0 : (am_wl G (adI t a0 u a v6 v7 ao) (hI n xs) (WB ++ e1))[0]? = (wBc G (hI n xs) a0 u a v6 v7)[1]? := (am_wl_at (s := (4, 4, [3, 4, 5, 6, 7, 8, 9, 10, 11, 12, 13, 0, 0, 0, 0])) rfl).trans rfl
set_option maxRecDepth 100000 in
theorem wk1 : (am_wl G (adI t a0 u a v6 v7 ao) (hI n xs) (WB ++ e1))[1]? = (wBc G (hI n xs) a0 u a v6 v7)[2]? := (am_wl_at (s := (0, 20, [])) rfl).trans rfl
set_option maxRecDepth 100000 in
theorem wk2 : (am_wl G (adI t a0 u a v6 v7 ao) (hI n xs) (WB ++ e1))[2]? = (wBc G (hI n xs) a0 u a v6 v7)[3]? := (am_wl_at (s := (0, 20, [])) rfl).trans rfl
set_option maxRecDepth 100000 in
theorem wk3 : (am_wl G (adI t a0 u a v6 v7 ao) (hI n xs) (WB ++ e1))[3]? = (wBc G (hI n xs) a0 u a v6 v7)[4]? := (am_wl_at (s := (0, 20, [])) rfl).trans rfl
set_option maxRecDepth 100000 in
theorem wk4 : (am_wl G (adI t a0 u a v6 v7 ao) (hI n xs) (WB ++ e1))[4]? = (wBc G (hI n xs) a0 u a v6 v7)[5]? := (am_wl_at (s := (0, 20, [])) rfl).trans rfl
set_option maxRecDepth 100000 in
theorem wk5 : (am_wl G (adI t a0 u a v6 v7 ao) (hI n xs) (WB ++ e1))[5]? = (wBc G (hI n xs) a0 u a v6 v7)[6]? := (am_wl_at (s := (0, 20, [])) rfl).trans rfl
set_option maxRecDepth 100000 in
theorem wk6 : (am_wl G (adI t a0 u a v6 v7 ao) (hI n xs) (WB ++ e1))[6]? = (wBc G (hI n xs) a0 u a v6 v7)[7]? := (am_wl_at (s := (0, 20, [])) rfl).trans rfl
set_option maxRecDepth 100000 in
theorem wk7 : (am_wl G (adI t a0 u a v6 v7 ao) (hI n xs) (WB ++ e1))[7]? = (wBc G (hI n xs) a0 u a v6 v7)[8]? := (am_wl_at (s := (0, 20, [])) rfl).trans rfl
set_option maxRecDepth 100000 in
theorem wk8 : (am_wl G (adI t a0 u a v6 v7 ao) (hI n xs) (WB ++ e1))[8]? = (wBc G (hI n xs) a0 u a v6 v7)[9]? := (am_wl_at (s := (0, 20, [])) rfl).trans rfl
set_option maxRecDepth 100000 in
theorem wk9 : (am_wl G (adI t a0 u a v6 v7 ao) (hI n xs) (WB ++ e1))[9]? = (wBc G (hI n xs) a0 u a v6 v7)[10]? := (am_wl_at (s := (0, 4, [])) rfl).trans rfl
set_option maxRecDepth 100000 in
theorem wk10 : (am_wl G (adI t a0 u a v6 v7 ao) (hI n xs) (WB ++ e1))[10]? = (wBc G (hI n xs) a0 u a v6 v7)[11]? := (am_wl_at (s := (0, 4, [])) rfl).trans rfl
set_option maxRecDepth 100000 in
theorem wk11 : (am_wl G (adI t a0 u a v6 v7 ao) (hI n xs) (WB ++ e1))[11]? = (wBc G (hI n xs) a0 u a v6 v7)[12]? := (am_wl_at (s := (0, 4, [])) rfl).trans rfl
set_option maxRecDepth 100000 in
theorem wk12 : (am_wl G (adI t a0 u a v6 v7 ao) (hI n xs) (WB ++ e1))[12]? = (wBc G (hI n xs) a0 u a v6 v7)[25]? := (am_wl_at (s := (4, 0, [2, 15, 16, 17, 0, 0])) rfl).trans rfl
set_option maxRecDepth 100000 in
theorem wk13 : (am_wl G (adI t a0 u a v6 v7 ao) (hI n xs) (WB ++ e1))[13]? = (wBc G (hI n xs) a0 u a v6 v7)[26]? := (am_wl_at (s := (0, 40, [])) rfl).trans rfl
set_option maxRecDepth 100000 in
theorem wk14 : (am_wl G (adI t a0 u a v6 v7 ao) (hI n xs) (WB ++ e1))[14]? = (wBc G (hI n xs) a0 u a v6 v7)[27]? := (am_wl_at (s := (0, 16, [])) rfl).trans rfl
set_option maxRecDepth 100000 in
theorem wk15 : (am_wl G (adI t a0 u a v6 v7 ao) (hI n xs) (WB ++ e1))[15]? = (wBc G (hI n xs) a0 u a v6 v7)[28]? := (am_wl_at (s := (0, 16, [])) rfl).trans rfl
set_option maxRecDepth 100000 in
theorem wk16 : (am_wl G (adI t a0 u a v6 v7 ao) (hI n xs) (WB ++ e1))[16]? = (wBc G (hI n xs) a0 u a v6 v7)[29]? := (am_wl_at (s := (4, 1, [2, 19])) rfl).trans rfl
set_option maxRecDepth 100000 in
theorem wk17 : (am_wl G (adI t a0 u a v6 v7 ao) (hI n xs) (WB ++ e1))[17]? = (wBc G (hI n xs) a0 u a v6 v7)[30]? := (am_wl_at (s := (0, 20, [])) rfl).trans rfl
set_option maxRecDepth 100000 in
theorem wk18 : (am_wl G (adI t a0 u a v6 v7 ao) (hI n xs) (WB ++ e1))[18]? = (wBc G (hI n xs) a0 u a v6 v7)[31]? := (am_wl_at (s := (4, 3, [21, 22, 0, 0])) rfl).trans rfl
set_option maxRecDepth 100000 in
theorem wk19 : (am_wl G (adI t a0 u a v6 v7 ao) (hI n xs) (WB ++ e1))[19]? = (wBc G (hI n xs) a0 u a v6 v7)[32]? := (am_wl_at (s := (0, 60, [])) rfl).trans rfl
set_option maxRecDepth 100000 in
theorem wk20 : (am_wl G (adI t a0 u a v6 v7 ao) (hI n xs) (WB ++ e1))[20]? = (wBc G (hI n xs) a0 u a v6 v7)[33]? := (am_wl_at (s := (0, 6, [])) rfl).trans rfl
set_option maxRecDepth 100000 in
theorem wk21 : (am_wl G (adI t a0 u a v6 v7 ao) (hI n xs) (WB ++ e1))[21]? = (wBc G (hI n xs) a0 u a v6 v7)[13]? := (am_wl_at (s := (4, 4, [24, 25, 26, 27, 28, 29, 30, 31, 32, 33, 34, 0, 0, 0, 0])) rfl).trans rfl
set_option maxRecDepth 100000 in
theorem wk22 : (am_wl G (adI t a0 u a v6 v7 ao) (hI n xs) (WB ++ e1))[22]? = (wBc G (hI n xs) a0 u a v6 v7)[14]? := (am_wl_at (s := (0, 20, [])) rfl).trans rfl
set_option maxRecDepth 100000 in
theorem wk23 : (am_wl G (adI t a0 u a v6 v7 ao) (hI n xs) (WB ++ e1))[23]? = (wBc G (hI n xs) a0 u a v6 v7)[15]? := (am_wl_at (s := (0, 20, [])) rfl).trans rfl
set_option maxRecDepth 100000 in
theorem wk24 : (am_wl G (adI t a0 u a v6 v7 ao) (hI n xs) (WB ++ e1))[24]? = (wBc G (hI n xs) a0 u a v6 v7)[16]? := (am_wl_at (s := (0, 20, [])) rfl).trans rfl
set_option maxRecDepth 100000 in
theorem wk25 : (am_wl G (adI t a0 u a v6 v7 ao) (hI n xs) (WB ++ e1))[25]? = (wBc G (hI n xs) a0 u a v6 v7)[17]? := (am_wl_at (s := (0, 20, [])) rfl).trans rfl
set_option maxRecDepth 100000 in
theorem wk26 : (am_wl G (adI t a0 u a v6 v7 ao) (hI n xs) (WB ++ e1))[26]? = (wBc G (hI n xs) a0 u a v6 v7)[18]? := (am_wl_at (s := (0, 20, [])) rfl).trans rfl
set_option maxRecDepth 100000 in
theorem wk27 : (am_wl G (adI t a0 u a v6 v7 ao) (hI n xs) (WB ++ e1))[27]? = (wBc G (hI n xs) a0 u a v6 v7)[19]? := (am_wl_at (s := (0, 20, [])) rfl).trans rfl
set_option maxRecDepth 100000 in
theorem wk28 : (am_wl G (adI t a0 u a v6 v7 ao) (hI n xs) (WB ++ e1))[28]? = (wBc G (hI n xs) a0 u a v6 v7)[20]? := (am_wl_at (s := (0, 20, [])) rfl).trans rfl
set_option maxRecDepth 100000 in
theorem wk29 : (am_wl G (adI t a0 u a v6 v7 ao) (hI n xs) (WB ++ e1))[29]? = (wBc G (hI n xs) a0 u a v6 v7)[21]? := (am_wl_at (s := (0, 20, [])) rfl).trans rfl
set_option maxRecDepth 100000 in
theorem wk30 : (am_wl G (adI t a0 u a v6 v7 ao) (hI n xs) (WB ++ e1))[30]? = (wBc G (hI n xs) a0 u a v6 v7)[22]? := (am_wl_at (s := (0, 4, [])) rfl).trans rfl
set_option maxRecDepth 100000 in
theorem wk31 : (am_wl G (adI t a0 u a v6 v7 ao) (hI n xs) (WB ++ e1))[31]? = (wBc G (hI n xs) a0 u a v6 v7)[23]? := (am_wl_at (s := (0, 4, [])) rfl).trans rfl
set_option maxRecDepth 100000 in
theorem wk32 : (am_wl G (adI t a0 u a v6 v7 ao) (hI n xs) (WB ++ e1))[32]? = (wBc G (hI n xs) a0 u a v6 v7)[24]? := (am_wl_at (s := (0, 4, [])) rfl).trans rfl
set_option maxRecDepth 100000 in
theorem wk33 : (am_wl G (adI t a0 u a v6 v7 ao) (hI n xs) (WB ++ e1))[33]? = (wBc G (hI n xs) a0 u a v6 v7)[34]? := (am_wl_at (s := (4, 2, [36])) rfl).trans rfl
set_option maxRecDepth 100000 in
theorem wk35 : (am_wl G (adI t a0 u a v6 v7 ao) (hI n xs) (WB ++ e1))[35]? = (wBc G (hI n xs) a0 u a v6 v7)[108]? := (am_wl_at (s := (4, 2, [38])) rfl).trans rfl
set_option maxRecDepth 100000 in
theorem wk37 : (am_wl G (adI t a0 u a v6 v7 ao) (hI n xs) (WB ++ e1))[37]? = (wBc G (hI n xs) a0 u a v6 v7)[134]? := (am_wl_at (s := (0, 2, [])) rfl).trans rfl
set_option maxRecDepth 100000 in
theorem wk38 : (am_wl G (adI t a0 u a v6 v7 ao) (hI n xs) (WB ++ e1))[38]? = (wBc G (hI n xs) a0 u a v6 v7)[0]? := (am_wl_at (s := (4, 5, [2, 23, 14, 18, 20, 35, 37, 39, 0, 0])) rfl).trans rfl
set_option maxRecDepth 100000 in
theorem wk39 : (am_wl G (adI t a0 u a v6 v7 ao) (hI n xs) (WB ++ e1))[39]? = (wBc G (hI n xs) a0 u a v6 v7)[36]? := (am_wl_at (s := (4, 4, [42, 43, 44, 45, 46, 47, 48, 49, 50, 51, 52, 0, 0, 0, 0])) rfl).trans rfl
set_option maxRecDepth 100000 in
theorem wk40 : (am_wl G (adI t a0 u a v6 v7 ao) (hI n xs) (WB ++ e1))[40]? = (wBc G (hI n xs) a0 u a v6 v7)[37]? := (am_wl_at (s := (0, 20, [])) rfl).trans rfl
set_option maxRecDepth 100000 in
theorem wk41 : (am_wl G (adI t a0 u a v6 v7 ao) (hI n xs) (WB ++ e1))[41]? = (wBc G (hI n xs) a0 u a v6 v7)[38]? := (am_wl_at (s := (0, 20, [])) rfl).trans rfl
set_option maxRecDepth 100000 in
theorem wk42 : (am_wl G (adI t a0 u a v6 v7 ao) (hI n xs) (WB ++ e1))[42]? = (wBc G (hI n xs) a0 u a v6 v7)[39]? := (am_wl_at (s := (0, 20, [])) rfl).trans rfl
set_option maxRecDepth 100000 in
theorem wk43 : (am_wl G (adI t a0 u a v6 v7 ao) (hI n xs) (WB ++ e1))[43]? = (wBc G (hI n xs) a0 u a v6 v7)[40]? := (am_wl_at (s := (0, 20, [])) rfl).trans rfl
set_option maxRecDepth 100000 in
theorem wk44 : (am_wl G (adI t a0 u a v6 v7 ao) (hI n xs) (WB ++ e1))[44]? = (wBc G (hI n xs) a0 u a v6 v7)[41]? := (am_wl_at (s := (0, 20, [])) rfl).trans rfl
set_option maxRecDepth 100000 in
theorem wk45 : (am_wl G (adI t a0 u a v6 v7 ao) (hI n xs) (WB ++ e1))[45]? = (wBc G (hI n xs) a0 u a v6 v7)[42]? := (am_wl_at (s := (0, 20, [])) rfl).trans rfl
set_option maxRecDepth 100000 in
theorem wk46 : (am_wl G (adI t a0 u a v6 v7 ao) (hI n xs) (WB ++ e1))[46]? = (wBc G (hI n xs) a0 u a v6 v7)[43]? := (am_wl_at (s := (0, 20, [])) rfl).trans rfl
set_option maxRecDepth 100000 in
theorem wk47 : (am_wl G (adI t a0 u a v6 v7 ao) (hI n xs) (WB ++ e1))[47]? = (wBc G (hI n xs) a0 u a v6 v7)[44]? := (am_wl_at (s := (0, 20, [])) rfl).trans rfl
set_option maxRecDepth 100000 in
theorem wk48 : (am_wl G (adI t a0 u a v6 v7 ao) (hI n xs) (WB ++ e1))[48]? = (wBc G (hI n xs) a0 u a v6 v7)[45]? := (am_wl_at (s := (0, 4, [])) rfl).trans rfl
set_option maxRecDepth 100000 in
theorem wk49 : (am_wl G (adI t a0 u a v6 v7 ao) (hI n xs) (WB ++ e1))[49]? = (wBc G (hI n xs) a0 u a v6 v7)[46]? := (am_wl_at (s := (0, 4, [])) rfl).trans rfl
set_option maxRecDepth 100000 in
theorem wk50 : (am_wl G (adI t a0 u a v6 v7 ao) (hI n xs) (WB ++ e1))[50]? = (wBc G (hI n xs) a0 u a v6 v7)[47]? := (am_wl_at (s := (0, 4, [])) rfl).trans rfl
set_option maxRecDepth 100000 in
theorem wk51 : (am_wl G (adI t a0 u a v6 v7 ao) (hI n xs) (WB ++ e1))[51]? = (wBc G (hI n xs) a0 u a v6 v7)[48]? := (am_wl_at (s := (4, 4, [54, 55, 56, 57, 58, 59, 60, 61, 62, 63, 64, 0, 0, 0, 0])) rfl).trans rfl
set_option maxRecDepth 100000 in
theorem wk52 : (am_wl G (adI t a0 u a v6 v7 ao) (hI n xs) (WB ++ e1))[52]? = (wBc G (hI n xs) a0 u a v6 v7)[49]? := (am_wl_at (s := (0, 20, [])) rfl).trans rfl
set_option maxRecDepth 100000 in
theorem wk53 : (am_wl G (adI t a0 u a v6 v7 ao) (hI n xs) (WB ++ e1))[53]? = (wBc G (hI n xs) a0 u a v6 v7)[50]? := (am_wl_at (s := (0, 20, [])) rfl).trans rfl
set_option maxRecDepth 100000 in
theorem wk54 : (am_wl G (adI t a0 u a v6 v7 ao) (hI n xs) (WB ++ e1))[54]? = (wBc G (hI n xs) a0 u a v6 v7)[51]? := (am_wl_at (s := (0, 20, [])) rfl).trans rfl
set_option maxRecDepth 100000 in
theorem wk55 : (am_wl G (adI t a0 u a v6 v7 ao) (hI n xs) (WB ++ e1))[55]? = (wBc G (hI n xs) a0 u a v6 v7)[52]? := (am_wl_at (s := (0, 20, [])) rfl).trans rfl
set_option maxRecDepth 100000 in
theorem wk56 : (am_wl G (adI t a0 u a v6 v7 ao) (hI n xs) (WB ++ e1))[56]? = (wBc G (hI n xs) a0 u a v6 v7)[53]? := (am_wl_at (s := (0, 20, [])) rfl).trans rfl
set_option maxRecDepth 100000 in
theorem wk57 : (am_wl G (adI t a0 u a v6 v7 ao) (hI n xs) (WB ++ e1))[57]? = (wBc G (hI n xs) a0 u a v6 v7)[54]? := (am_wl_at (s := (0, 20, [])) rfl).trans rfl
set_option maxRecDepth 100000 in
theorem wk58 : (am_wl G (adI t a0 u a v6 v7 ao) (hI n xs) (WB ++ e1))[58]? = (wBc G (hI n xs) a0 u a v6 v7)[55]? := (am_wl_at (s := (0, 20, [])) rfl).trans rfl
set_option maxRecDepth 100000 in
theorem wk59 : (am_wl G (adI t a0 u a v6 v7 ao) (hI n xs) (WB ++ e1))[59]? = (wBc G (hI n xs) a0 u a v6 v7)[56]? := (am_wl_at (s := (0, 20, [])) rfl).trans rfl
set_option maxRecDepth 100000 in
theorem wk60 : (am_wl G (adI t a0 u a v6 v7 ao) (hI n xs) (WB ++ e1))[60]? = (wBc G (hI n xs) a0 u a v6 v7)[57]? := (am_wl_at (s := (0, 4, [])) rfl).trans rfl
set_option maxRecDepth 100000 in
theorem wk61 : (am_wl G (adI t a0 u a v6 v7 ao) (hI n xs) (WB ++ e1))[61]? = (wBc G (hI n xs) a0 u a v6 v7)[58]? := (am_wl_at (s := (0, 4, [])) rfl).trans rfl
set_option maxRecDepth 100000 in
theorem wk62 : (am_wl G (adI t a0 u a v6 v7 ao) (hI n xs) (WB ++ e1))[62]? = (wBc G (hI n xs) a0 u a v6 v7)[59]? := (am_wl_at (s := (0, 4, [])) rfl).trans rfl
set_option maxRecDepth 100000 in
theorem wk63 : (am_wl G (adI t a0 u a v6 v7 ao) (hI n xs) (WB ++ e1))[63]? = (wBc G (hI n xs) a0 u a v6 v7)[60]? := (am_wl_at (s := (4, 4, [66, 67, 68, 69, 70, 71, 72, 73, 74, 75, 76, 0, 0, 0, 0])) rfl).trans rfl
set_option maxRecDepth 100000 in
theorem wk64 : (am_wl G (adI t a0 u a v6 v7 ao) (hI n xs) (WB ++ e1))[64]? = (wBc G (hI n xs) a0 u a v6 v7)[61]? := (am_wl_at (s := (0, 20, [])) rfl).trans rfl
set_option maxRecDepth 100000 in
theorem wk65 : (am_wl G (adI t a0 u a v6 v7 ao) (hI n xs) (WB ++ e1))[65]? = (wBc G (hI n xs) a0 u a v6 v7)[62]? := (am_wl_at (s := (0, 20, [])) rfl).trans rfl
set_option maxRecDepth 100000 in
theorem wk66 : (am_wl G (adI t a0 u a v6 v7 ao) (hI n xs) (WB ++ e1))[66]? = (wBc G (hI n xs) a0 u a v6 v7)[63]? := (am_wl_at (s := (0, 20, [])) rfl).trans rfl
set_option maxRecDepth 100000 in
theorem wk67 : (am_wl G (adI t a0 u a v6 v7 ao) (hI n xs) (WB ++ e1))[67]? = (wBc G (hI n xs) a0 u a v6 v7)[64]? := (am_wl_at (s := (0, 20, [])) rfl).trans rfl
set_option maxRecDepth 100000 in
theorem wk68 : (am_wl G (adI t a0 u a v6 v7 ao) (hI n xs) (WB ++ e1))[68]? = (wBc G (hI n xs) a0 u a v6 v7)[65]? := (am_wl_at (s := (0, 20, [])) rfl).trans rfl
set_option maxRecDepth 100000 in
theorem wk69 : (am_wl G (adI t a0 u a v6 v7 ao) (hI n xs) (WB ++ e1))[69]? = (wBc G (hI n xs) a0 u a v6 v7)[66]? := (am_wl_at (s := (0, 20, [])) rfl).trans rfl
set_option maxRecDepth 100000 in
theorem wk70 : (am_wl G (adI t a0 u a v6 v7 ao) (hI n xs) (WB ++ e1))[70]? = (wBc G (hI n xs) a0 u a v6 v7)[67]? := (am_wl_at (s := (0, 20, [])) rfl).trans rfl
set_option maxRecDepth 100000 in
theorem wk71 : (am_wl G (adI t a0 u a v6 v7 ao) (hI n xs) (WB ++ e1))[71]? = (wBc G (hI n xs) a0 u a v6 v7)[68]? := (am_wl_at (s := (0, 20, [])) rfl).trans rfl
set_option maxRecDepth 100000 in
theorem wk72 : (am_wl G (adI t a0 u a v6 v7 ao) (hI n xs) (WB ++ e1))[72]? = (wBc G (hI n xs) a0 u a v6 v7)[69]? := (am_wl_at (s := (0, 4, [])) rfl).trans rfl
set_option maxRecDepth 100000 in
theorem wk73 : (am_wl G (adI t a0 u a v6 v7 ao) (hI n xs) (WB ++ e1))[73]? = (wBc G (hI n xs) a0 u a v6 v7)[70]? := (am_wl_at (s := (0, 4, [])) rfl).trans rfl
set_option maxRecDepth 100000 in
theorem wk74 : (am_wl G (adI t a0 u a v6 v7 ao) (hI n xs) (WB ++ e1))[74]? = (wBc G (hI n xs) a0 u a v6 v7)[71]? := (am_wl_at (s := (0, 4, [])) rfl).trans rfl
set_option maxRecDepth 100000 in
theorem wk75 : (am_wl G (adI t a0 u a v6 v7 ao) (hI n xs) (WB ++ e1))[75]? = (wBc G (hI n xs) a0 u a v6 v7)[72]? := (am_wl_at (s := (4, 4, [78, 79, 80, 81, 82, 83, 84, 85, 86, 87, 88, 0, 0, 0, 0])) rfl).trans rfl
set_option maxRecDepth 100000 in
theorem wk76 : (am_wl G (adI t a0 u a v6 v7 ao) (hI n xs) (WB ++ e1))[76]? = (wBc G (hI n xs) a0 u a v6 v7)[73]? := (am_wl_at (s := (0, 20, [])) rfl).trans rfl
set_option maxRecDepth 100000 in
theorem wk77 : (am_wl G (adI t a0 u a v6 v7 ao) (hI n xs) (WB ++ e1))[77]? = (wBc G (hI n xs) a0 u a v6 v7)[74]? := (am_wl_at (s := (0, 20, [])) rfl).trans rfl
set_option maxRecDepth 100000 in
theorem wk78 : (am_wl G (adI t a0 u a v6 v7 ao) (hI n xs) (WB ++ e1))[78]? = (wBc G (hI n xs) a0 u a v6 v7)[75]? := (am_wl_at (s := (0, 20, [])) rfl).trans rfl
set_option maxRecDepth 100000 in
theorem wk79 : (am_wl G (adI t a0 u a v6 v7 ao) (hI n xs) (WB ++ e1))[79]? = (wBc G (hI n xs) a0 u a v6 v7)[76]? := (am_wl_at (s := (0, 20, [])) rfl).trans rfl
set_option maxRecDepth 100000 in
theorem wk80 : (am_wl G (adI t a0 u a v6 v7 ao) (hI n xs) (WB ++ e1))[80]? = (wBc G (hI n xs) a0 u a v6 v7)[77]? := (am_wl_at (s := (0, 20, [])) rfl).trans rfl
set_option maxRecDepth 100000 in
theorem wk81 : (am_wl G (adI t a0 u a v6 v7 ao) (hI n xs) (WB ++ e1))[81]? = (wBc G (hI n xs) a0 u a v6 v7)[78]? := (am_wl_at (s := (0, 20, [])) rfl).trans rfl
set_option maxRecDepth 100000 in
theorem wk82 : (am_wl G (adI t a0 u a v6 v7 ao) (hI n xs) (WB ++ e1))[82]? = (wBc G (hI n xs) a0 u a v6 v7)[79]? := (am_wl_at (s := (0, 20, [])) rfl).trans rfl
set_option maxRecDepth 100000 in
theorem wk83 : (am_wl G (adI t a0 u a v6 v7 ao) (hI n xs) (WB ++ e1))[83]? = (wBc G (hI n xs) a0 u a v6 v7)[80]? := (am_wl_at (s := (0, 20, [])) rfl).trans rfl
set_option maxRecDepth 100000 in
theorem wk84 : (am_wl G (adI t a0 u a v6 v7 ao) (hI n xs) (WB ++ e1))[84]? = (wBc G (hI n xs) a0 u a v6 v7)[81]? := (am_wl_at (s := (0, 4, [])) rfl).trans rfl
set_option maxRecDepth 100000 in
theorem wk85 : (am_wl G (adI t a0 u a v6 v7 ao) (hI n xs) (WB ++ e1))[85]? = (wBc G (hI n xs) a0 u a v6 v7)[82]? := (am_wl_at (s := (0, 4, [])) rfl).trans rfl
set_option maxRecDepth 100000 in
theorem wk86 : (am_wl G (adI t a0 u a v6 v7 ao) (hI n xs) (WB ++ e1))[86]? = (wBc G (hI n xs) a0 u a v6 v7)[83]? := (am_wl_at (s := (0, 4, [])) rfl).trans rfl
set_option maxRecDepth 100000 in
theorem wk87 : (am_wl G (adI t a0 u a v6 v7 ao) (hI n xs) (WB ++ e1))[87]? = (wBc G (hI n xs) a0 u a v6 v7)[84]? := (am_wl_at (s := (4, 4, [90, 91, 92, 93, 94, 95, 96, 97, 98, 99, 100, 0, 0, 0, 0])) rfl).trans rfl
set_option maxRecDepth 100000 in
theorem wk88 : (am_wl G (adI t a0 u a v6 v7 ao) (hI n xs) (WB ++ e1))[88]? = (wBc G (hI n xs) a0 u a v6 v7)[85]? := (am_wl_at (s := (0, 20, [])) rfl).trans rfl
set_option maxRecDepth 100000 in
theorem wk89 : (am_wl G (adI t a0 u a v6 v7 ao) (hI n xs) (WB ++ e1))[89]? = (wBc G (hI n xs) a0 u a v6 v7)[86]? := (am_wl_at (s := (0, 20, [])) rfl).trans rfl
set_option maxRecDepth 100000 in
theorem wk90 : (am_wl G (adI t a0 u a v6 v7 ao) (hI n xs) (WB ++ e1))[90]? = (wBc G (hI n xs) a0 u a v6 v7)[87]? := (am_wl_at (s := (0, 20, [])) rfl).trans rfl
set_option maxRecDepth 100000 in
theorem wk91 : (am_wl G (adI t a0 u a v6 v7 ao) (hI n xs) (WB ++ e1))[91]? = (wBc G (hI n xs) a0 u a v6 v7)[88]? := (am_wl_at (s := (0, 20, [])) rfl).trans rfl
set_option maxRecDepth 100000 in
theorem wk92 : (am_wl G (adI t a0 u a v6 v7 ao) (hI n xs) (WB ++ e1))[92]? = (wBc G (hI n xs) a0 u a v6 v7)[89]? := (am_wl_at (s := (0, 20, [])) rfl).trans rfl
set_option maxRecDepth 100000 in
theorem wk93 : (am_wl G (adI t a0 u a v6 v7 ao) (hI n xs) (WB ++ e1))[93]? = (wBc G (hI n xs) a0 u a v6 v7)[90]? := (am_wl_at (s := (0, 20, [])) rfl).trans rfl
set_option maxRecDepth 100000 in
theorem wk94 : (am_wl G (adI t a0 u a v6 v7 ao) (hI n xs) (WB ++ e1))[94]? = (wBc G (hI n xs) a0 u a v6 v7)[91]? := (am_wl_at (s := (0, 20, [])) rfl).trans rfl
set_option maxRecDepth 100000 in
theorem wk95 : (am_wl G (adI t a0 u a v6 v7 ao) (hI n xs) (WB ++ e1))[95]? = (wBc G (hI n xs) a0 u a v6 v7)[92]? := (am_wl_at (s := (0, 20, [])) rfl).trans rfl
set_option maxRecDepth 100000 in
theorem wk96 : (am_wl G (adI t a0 u a v6 v7 ao) (hI n xs) (WB ++ e1))[96]? = (wBc G (hI n xs) a0 u a v6 v7)[93]? := (am_wl_at (s := (0, 4, [])) rfl).trans rfl
set_option maxRecDepth 100000 in
theorem wk97 : (am_wl G (adI t a0 u a v6 v7 ao) (hI n xs) (WB ++ e1))[97]? = (wBc G (hI n xs) a0 u a v6 v7)[94]? := (am_wl_at (s := (0, 4, [])) rfl).trans rfl
set_option maxRecDepth 100000 in
theorem wk98 : (am_wl G (adI t a0 u a v6 v7 ao) (hI n xs) (WB ++ e1))[98]? = (wBc G (hI n xs) a0 u a v6 v7)[95]? := (am_wl_at (s := (0, 4, [])) rfl).trans rfl
set_option maxRecDepth 100000 in
theorem wk99 : (am_wl G (adI t a0 u a v6 v7 ao) (hI n xs) (WB ++ e1))[99]? = (wBc G (hI n xs) a0 u a v6 v7)[96]? := (am_wl_at (s := (4, 4, [102, 103, 104, 105, 106, 107, 108, 109, 110, 111, 112, 0, 0, 0, 0])) rfl).trans rfl
set_option maxRecDepth 100000 in
theorem wk100 : (am_wl G (adI t a0 u a v6 v7 ao) (hI n xs) (WB ++ e1))[100]? = (wBc G (hI n xs) a0 u a v6 v7)[97]? := (am_wl_at (s := (0, 20, [])) rfl).trans rfl
set_option maxRecDepth 100000 in
theorem wk101 : (am_wl G (adI t a0 u a v6 v7 ao) (hI n xs) (WB ++ e1))[101]? = (wBc G (hI n xs) a0 u a v6 v7)[98]? := (am_wl_at (s := (0, 20, [])) rfl).trans rfl
set_option maxRecDepth 100000 in
theorem wk102 : (am_wl G (adI t a0 u a v6 v7 ao) (hI n xs) (WB ++ e1))[102]? = (wBc G (hI n xs) a0 u a v6 v7)[99]? := (am_wl_at (s := (0, 20, [])) rfl).trans rfl
set_option maxRecDepth 100000 in
theorem wk103 : (am_wl G (adI t a0 u a v6 v7 ao) (hI n xs) (WB ++ e1))[103]? = (wBc G (hI n xs) a0 u a v6 v7)[100]? := (am_wl_at (s := (0, 20, [])) rfl).trans rfl
set_option maxRecDepth 100000 in
theorem wk104 : (am_wl G (adI t a0 u a v6 v7 ao) (hI n xs) (WB ++ e1))[104]? = (wBc G (hI n xs) a0 u a v6 v7)[101]? := (am_wl_at (s := (0, 20, [])) rfl).trans rfl
set_option maxRecDepth 100000 in
theorem wk105 : (am_wl G (adI t a0 u a v6 v7 ao) (hI n xs) (WB ++ e1))[105]? = (wBc G (hI n xs) a0 u a v6 v7)[102]? := (am_wl_at (s := (0, 20, [])) rfl).trans rfl
set_option maxRecDepth 100000 in
theorem wk106 : (am_wl G (adI t a0 u a v6 v7 ao) (hI n xs) (WB ++ e1))[106]? = (wBc G (hI n xs) a0 u a v6 v7)[103]? := (am_wl_at (s := (0, 20, [])) rfl).trans rfl
set_option maxRecDepth 100000 in
theorem wk107 : (am_wl G (adI t a0 u a v6 v7 ao) (hI n xs) (WB ++ e1))[107]? = (wBc G (hI n xs) a0 u a v6 v7)[104]? := (am_wl_at (s := (0, 20, [])) rfl).trans rfl
set_option maxRecDepth 100000 in
theorem wk108 : (am_wl G (adI t a0 u a v6 v7 ao) (hI n xs) (WB ++ e1))[108]? = (wBc G (hI n xs) a0 u a v6 v7)[105]? := (am_wl_at (s := (0, 4, [])) rfl).trans rfl
set_option maxRecDepth 100000 in
theorem wk109 : (am_wl G (adI t a0 u a v6 v7 ao) (hI n xs) (WB ++ e1))[109]? = (wBc G (hI n xs) a0 u a v6 v7)[106]? := (am_wl_at (s := (0, 4, [])) rfl).trans rfl
set_option maxRecDepth 100000 in
theorem wk110 : (am_wl G (adI t a0 u a v6 v7 ao) (hI n xs) (WB ++ e1))[110]? = (wBc G (hI n xs) a0 u a v6 v7)[107]? := (am_wl_at (s := (0, 4, [])) rfl).trans rfl
set_option maxRecDepth 100000 in
theorem wk111 : (am_wl G (adI t a0 u a v6 v7 ao) (hI n xs) (WB ++ e1))[111]? = (wBc G (hI n xs) a0 u a v6 v7)[110]? := (am_wl_at (s := (4, 4, [114, 115, 116, 117, 118, 119, 120, 121, 122, 123, 124, 0, 0, 0, 0])) rfl).trans rfl
set_option maxRecDepth 100000 in
theorem wk112 : (am_wl G (adI t a0 u a v6 v7 ao) (hI n xs) (WB ++ e1))[112]? = (wBc G (hI n xs) a0 u a v6 v7)[111]? := (am_wl_at (s := (0, 20, [])) rfl).trans rfl
set_option maxRecDepth 100000 in
theorem wk113 : (am_wl G (adI t a0 u a v6 v7 ao) (hI n xs) (WB ++ e1))[113]? = (wBc G (hI n xs) a0 u a v6 v7)[112]? := (am_wl_at (s := (0, 20, [])) rfl).trans rfl
set_option maxRecDepth 100000 in
theorem wk114 : (am_wl G (adI t a0 u a v6 v7 ao) (hI n xs) (WB ++ e1))[114]? = (wBc G (hI n xs) a0 u a v6 v7)[113]? := (am_wl_at (s := (0, 20, [])) rfl).trans rfl
set_option maxRecDepth 100000 in
theorem wk115 : (am_wl G (adI t a0 u a v6 v7 ao) (hI n xs) (WB ++ e1))[115]? = (wBc G (hI n xs) a0 u a v6 v7)[114]? := (am_wl_at (s := (0, 20, [])) rfl).trans rfl
set_option maxRecDepth 100000 in
theorem wk116 : (am_wl G (adI t a0 u a v6 v7 ao) (hI n xs) (WB ++ e1))[116]? = (wBc G (hI n xs) a0 u a v6 v7)[115]? := (am_wl_at (s := (0, 20, [])) rfl).trans rfl
set_option maxRecDepth 100000 in
theorem wk117 : (am_wl G (adI t a0 u a v6 v7 ao) (hI n xs) (WB ++ e1))[117]? = (wBc G (hI n xs) a0 u a v6 v7)[116]? := (am_wl_at (s := (0, 20, [])) rfl).trans rfl
set_option maxRecDepth 100000 in
theorem wk118 : (am_wl G (adI t a0 u a v6 v7 ao) (hI n xs) (WB ++ e1))[118]? = (wBc G (hI n xs) a0 u a v6 v7)[117]? := (am_wl_at (s := (0, 20, [])) rfl).trans rfl
set_option maxRecDepth 100000 in
theorem wk119 : (am_wl G (adI t a0 u a v6 v7 ao) (hI n xs) (WB ++ e1))[119]? = (wBc G (hI n xs) a0 u a v6 v7)[118]? := (am_wl_at (s := (0, 20, [])) rfl).trans rfl
set_option maxRecDepth 100000 in
theorem wk120 : (am_wl G (adI t a0 u a v6 v7 ao) (hI n xs) (WB ++ e1))[120]? = (wBc G (hI n xs) a0 u a v6 v7)[119]? := (am_wl_at (s := (0, 4, [])) rfl).trans rfl
set_option maxRecDepth 100000 in
theorem wk121 : (am_wl G (adI t a0 u a v6 v7 ao) (hI n xs) (WB ++ e1))[121]? = (wBc G (hI n xs) a0 u a v6 v7)[120]? := (am_wl_at (s := (0, 4, [])) rfl).trans rfl
set_option maxRecDepth 100000 in
theorem wk122 : (am_wl G (adI t a0 u a v6 v7 ao) (hI n xs) (WB ++ e1))[122]? = (wBc G (hI n xs) a0 u a v6 v7)[121]? := (am_wl_at (s := (0, 4, [])) rfl).trans rfl
set_option maxRecDepth 100000 in
theorem wk123 : (am_wl G (adI t a0 u a v6 v7 ao) (hI n xs) (WB ++ e1))[123]? = (wBc G (hI n xs) a0 u a v6 v7)[122]? := (am_wl_at (s := (4, 4, [126, 127, 128, 129, 130, 131, 132, 133, 134, 135, 136, 0, 0, 0, 0])) rfl).trans rfl
set_option maxRecDepth 100000 in
theorem wk124 : (am_wl G (adI t a0 u a v6 v7 ao) (hI n xs) (WB ++ e1))[124]? = (wBc G (hI n xs) a0 u a v6 v7)[123]? := (am_wl_at (s := (0, 20, [])) rfl).trans rfl
set_option maxRecDepth 100000 in
theorem wk125 : (am_wl G (adI t a0 u a v6 v7 ao) (hI n xs) (WB ++ e1))[125]? = (wBc G (hI n xs) a0 u a v6 v7)[124]? := (am_wl_at (s := (0, 20, [])) rfl).trans rfl
set_option maxRecDepth 100000 in
theorem wk126 : (am_wl G (adI t a0 u a v6 v7 ao) (hI n xs) (WB ++ e1))[126]? = (wBc G (hI n xs) a0 u a v6 v7)[125]? := (am_wl_at (s := (0, 20, [])) rfl).trans rfl
set_option maxRecDepth 100000 in
theorem wk127 : (am_wl G (adI t a0 u a v6 v7 ao) (hI n xs) (WB ++ e1))[127]? = (wBc G (hI n xs) a0 u a v6 v7)[126]? := (am_wl_at (s := (0, 20, [])) rfl).trans rfl
set_option maxRecDepth 100000 in
theorem wk128 : (am_wl G (adI t a0 u a v6 v7 ao) (hI n xs) (WB ++ e1))[128]? = (wBc G (hI n xs) a0 u a v6 v7)[127]? := (am_wl_at (s := (0, 20, [])) rfl).trans rfl
set_option maxRecDepth 100000 in
theorem wk129 : (am_wl G (adI t a0 u a v6 v7 ao) (hI n xs) (WB ++ e1))[129]? = (wBc G (hI n xs) a0 u a v6 v7)[128]? := (am_wl_at (s := (0, 20, [])) rfl).trans rfl
set_option maxRecDepth 100000 in
theorem wk130 : (am_wl G (adI t a0 u a v6 v7 ao) (hI n xs) (WB ++ e1))[130]? = (wBc G (hI n xs) a0 u a v6 v7)[129]? := (am_wl_at (s := (0, 20, [])) rfl).trans rfl
set_option maxRecDepth 100000 in
theorem wk131 : (am_wl G (adI t a0 u a v6 v7 ao) (hI n xs) (WB ++ e1))[131]? = (wBc G (hI n xs) a0 u a v6 v7)[130]? := (am_wl_at (s := (0, 20, [])) rfl).trans rfl
set_option maxRecDepth 100000 in
theorem wk132 : (am_wl G (adI t a0 u a v6 v7 ao) (hI n xs) (WB ++ e1))[132]? = (wBc G (hI n xs) a0 u a v6 v7)[131]? := (am_wl_at (s := (0, 4, [])) rfl).trans rfl
set_option maxRecDepth 100000 in
theorem wk133 : (am_wl G (adI t a0 u a v6 v7 ao) (hI n xs) (WB ++ e1))[133]? = (wBc G (hI n xs) a0 u a v6 v7)[132]? := (am_wl_at (s := (0, 4, [])) rfl).trans rfl
set_option maxRecDepth 100000 in
theorem wk134 : (am_wl G (adI t a0 u a v6 v7 ao) (hI n xs) (WB ++ e1))[134]? = (wBc G (hI n xs) a0 u a v6 v7)[133]? := (am_wl_at (s := (0, 4, [])) rfl).trans rfl
end FW
