/-! THE FIRST WORLD: which name is which cell; class and model hold the same (printed by wip/whole/gen/start.py). -/
def iL (o : Nat) : Bool := Nat.beq o 9 || Nat.beq o 30 || Nat.beq o 48 || Nat.beq o 60 || Nat.beq o 72 || Nat.beq o 84 || Nat.beq o 96 || Nat.beq o 108 || Nat.beq o 120 || Nat.beq o 132 || Nat.beq o 1000
def iR (o : Nat) : Bool := Nat.beq o 10 || Nat.beq o 31 || Nat.beq o 49 || Nat.beq o 61 || Nat.beq o 73 || Nat.beq o 85 || Nat.beq o 97 || Nat.beq o 109 || Nat.beq o 121 || Nat.beq o 133 || Nat.beq o 1001
def iS (o : Nat) : Bool := Nat.beq o 11 || Nat.beq o 32 || Nat.beq o 50 || Nat.beq o 62 || Nat.beq o 74 || Nat.beq o 86 || Nat.beq o 98 || Nat.beq o 110 || Nat.beq o 122 || Nat.beq o 134 || Nat.beq o 1004
def fLay : Nat → Int32 := fun _ => 5
def fRel : Nat → Int32 := fun j => bif Nat.blt j 2 then 1 else 0
def fSet : Nat → Int32 := fun j => bif Nat.beq j 0 then 1 else bif Nat.beq j 1 then 480 else bif Nat.beq j 2 then 1 else 30
def fLst : Nat → Int32 := fun j => bif Nat.beq j 1 then 60 else 0
def fMst : Nat → Int32 := fun j => bif Nat.beq j 0 then 1 else bif Nat.beq j 1 then 900 else bif Nat.beq j 2 then 9 else 240
/-- what the cells hold when the law's loop begins -/
def hI (xs : Nat → Int32) : HP := (fun o => bif iL o then fLay else bif iR o then fRel else bif iS o then fSet else bif Nat.beq o 136 then f_ini else bif Nat.beq o 1002 then fLst else bif Nat.beq o 1003 then fMst else bif Nat.beq o 1005 then xs else bif Nat.beq o 2000 then (fun _ => nI 146) else fun _ => 0, fun _ _ => 0)
theorem inv_ini : Inv f_ini 0 := by
  refine ⟨?_, fun k hk => absurd hk (Nat.not_lt_zero k), fun k hk => absurd hk (Nat.not_lt_zero k), fun k j hk => absurd hk (Nat.not_lt_zero k), fun k k' j hk => absurd hk (Nat.not_lt_zero k)⟩
  unfold InvA bd
  decide +kernel
theorem rt_ini (xs : Nat → Int32) : RT (hI xs).1 0 f_ini 0 := by
  refine ⟨⟨rfl, rfl, rfl, rfl⟩, fun k hk => absurd hk (Nat.not_lt_zero k), fun i hi => ?_⟩
  match i, hi with
  | 0, _ => exact ⟨rfl, rfl, rfl⟩
  | 1, _ => exact ⟨rfl, rfl, rfl⟩
  | 2, _ => exact ⟨rfl, rfl, rfl⟩
  | 3, _ => exact ⟨rfl, rfl, rfl⟩
  | i + 4, z => omega
theorem LR_hI (xs : Nat → Int32) : LR (hI xs) := by
  refine ⟨0, rt_ini xs, inv_ini, ⟨0, 0, by omega, by omega, rfl, rfl, rfl, fun j hj => absurd hj (Nat.not_lt_zero j)⟩, fun j hj => ⟨rfl, .inl rfl⟩, ⟨0, by omega, rfl, rfl, fun i hi => absurd hi (Nat.not_lt_zero i)⟩, ⟨rfl, rfl, rfl, rfl⟩, rfl, rfl, rfl, rfl⟩
theorem cr_perm {D : va_G} {cl : List vw_C} {A : Nat → Prop} {Y Z : va_W} {H : Heap} (σ : Nat → Nat) (hZ : ∀ k x, Z[k]? = some x → Y[σ k]? = some x) (hσ : ∀ i j, i < Z.length → j < Z.length → σ i = σ j → i = j) (hP : va_P D cl Y H) (hD : va_D A Y) : va_P D cl Z H ∧ va_D A Z := by
  refine ⟨fun k x hk => hP _ x (hZ k x hk), fun i j a b hi hj hab => ?_, fun k x hk => hD.2 _ x (hZ k x hk)⟩
  exact hσ i j (List.getElem?_eq_some_iff.mp hi).1 (List.getElem?_eq_some_iff.mp hj).1 (hD.1 _ _ a b (hZ i a hi) (hZ j b hj) hab)
def sgl : List Nat := [1, 2, 3, 4, 5, 6, 7, 8, 9, 10, 11, 12, 25, 26, 27, 28, 29, 30, 31, 32, 33, 13, 14, 15, 16, 17, 18, 19, 20, 21, 22, 23, 24, 34, 35, 108, 109, 134, 0, 36, 37, 38, 39, 40, 41, 42, 43, 44, 45, 46, 47, 48, 49, 50, 51, 52, 53, 54, 55, 56, 57, 58, 59, 60, 61, 62, 63, 64, 65, 66, 67, 68, 69, 70, 71, 72, 73, 74, 75, 76, 77, 78, 79, 80, 81, 82, 83, 84, 85, 86, 87, 88, 89, 90, 91, 92, 93, 94, 95, 96, 97, 98, 99, 100, 101, 102, 103, 104, 105, 106, 107, 110, 111, 112, 113, 114, 115, 116, 117, 118, 119, 120, 121, 122, 123, 124, 125, 126, 127, 128, 129, 130, 131, 132, 133, 135, 136, 137, 138, 139, 140, 141, 142, 143, 144, 145]
def sg (k : Nat) : Nat := sgl.getD k 0
set_option maxRecDepth 100000 in
def adI (t : Nat → Nat) (a0 : Nat) (u : Nat → Nat → Nat) (a : Nat → Nat) (v6 v7 : Nat → Nat → Nat) (q : Nat → Nat) (ao : Nat) (k : Nat) : Nat := bif Nat.blt k 146 then (bif Nat.blt k 73 then (bif Nat.blt k 36 then (bif Nat.blt k 18 then (bif Nat.blt k 9 then (bif Nat.blt k 4 then (bif Nat.blt k 2 then (bif Nat.blt k 1 then u 0 0 else u 0 1) else (bif Nat.blt k 3 then u 0 2 else u 0 3)) else (bif Nat.blt k 6 then (bif Nat.blt k 5 then u 0 4 else u 0 5) else (bif Nat.blt k 7 then u 0 6 else (bif Nat.blt k 8 then u 0 7 else u 0 8)))) else (bif Nat.blt k 13 then (bif Nat.blt k 11 then (bif Nat.blt k 10 then u 0 9 else u 0 10) else (bif Nat.blt k 12 then u 0 11 else u 2 0)) else (bif Nat.blt k 15 then (bif Nat.blt k 14 then u 2 1 else u 2 2) else (bif Nat.blt k 16 then u 2 3 else (bif Nat.blt k 17 then u 3 0 else u 3 1))))) else (bif Nat.blt k 27 then (bif Nat.blt k 22 then (bif Nat.blt k 20 then (bif Nat.blt k 19 then u 4 0 else u 4 1) else (bif Nat.blt k 21 then u 4 2 else u 1 0)) else (bif Nat.blt k 24 then (bif Nat.blt k 23 then u 1 1 else u 1 2) else (bif Nat.blt k 25 then u 1 3 else (bif Nat.blt k 26 then u 1 4 else u 1 5)))) else (bif Nat.blt k 31 then (bif Nat.blt k 29 then (bif Nat.blt k 28 then u 1 6 else u 1 7) else (bif Nat.blt k 30 then u 1 8 else u 1 9)) else (bif Nat.blt k 33 then (bif Nat.blt k 32 then u 1 10 else u 1 11) else (bif Nat.blt k 34 then a 0 else (bif Nat.blt k 35 then a 1 else a 2)))))) else (bif Nat.blt k 54 then (bif Nat.blt k 45 then (bif Nat.blt k 40 then (bif Nat.blt k 38 then (bif Nat.blt k 37 then a 3 else a 4) else (bif Nat.blt k 39 then a0 else v6 0 0)) else (bif Nat.blt k 42 then (bif Nat.blt k 41 then v6 0 1 else v6 0 2) else (bif Nat.blt k 43 then v6 0 3 else (bif Nat.blt k 44 then v6 0 4 else v6 0 5)))) else (bif Nat.blt k 49 then (bif Nat.blt k 47 then (bif Nat.blt k 46 then v6 0 6 else v6 0 7) else (bif Nat.blt k 48 then v6 0 8 else v6 0 9)) else (bif Nat.blt k 51 then (bif Nat.blt k 50 then v6 0 10 else v6 0 11) else (bif Nat.blt k 52 then v6 1 0 else (bif Nat.blt k 53 then v6 1 1 else v6 1 2))))) else (bif Nat.blt k 63 then (bif Nat.blt k 58 then (bif Nat.blt k 56 then (bif Nat.blt k 55 then v6 1 3 else v6 1 4) else (bif Nat.blt k 57 then v6 1 5 else v6 1 6)) else (bif Nat.blt k 60 then (bif Nat.blt k 59 then v6 1 7 else v6 1 8) else (bif Nat.blt k 61 then v6 1 9 else (bif Nat.blt k 62 then v6 1 10 else v6 1 11)))) else (bif Nat.blt k 68 then (bif Nat.blt k 65 then (bif Nat.blt k 64 then v6 2 0 else v6 2 1) else (bif Nat.blt k 66 then v6 2 2 else (bif Nat.blt k 67 then v6 2 3 else v6 2 4))) else (bif Nat.blt k 70 then (bif Nat.blt k 69 then v6 2 5 else v6 2 6) else (bif Nat.blt k 71 then v6 2 7 else (bif Nat.blt k 72 then v6 2 8 else v6 2 9))))))) else (bif Nat.blt k 109 then (bif Nat.blt k 91 then (bif Nat.blt k 82 then (bif Nat.blt k 77 then (bif Nat.blt k 75 then (bif Nat.blt k 74 then v6 2 10 else v6 2 11) else (bif Nat.blt k 76 then v6 3 0 else v6 3 1)) else (bif Nat.blt k 79 then (bif Nat.blt k 78 then v6 3 2 else v6 3 3) else (bif Nat.blt k 80 then v6 3 4 else (bif Nat.blt k 81 then v6 3 5 else v6 3 6)))) else (bif Nat.blt k 86 then (bif Nat.blt k 84 then (bif Nat.blt k 83 then v6 3 7 else v6 3 8) else (bif Nat.blt k 85 then v6 3 9 else v6 3 10)) else (bif Nat.blt k 88 then (bif Nat.blt k 87 then v6 3 11 else v6 4 0) else (bif Nat.blt k 89 then v6 4 1 else (bif Nat.blt k 90 then v6 4 2 else v6 4 3))))) else (bif Nat.blt k 100 then (bif Nat.blt k 95 then (bif Nat.blt k 93 then (bif Nat.blt k 92 then v6 4 4 else v6 4 5) else (bif Nat.blt k 94 then v6 4 6 else v6 4 7)) else (bif Nat.blt k 97 then (bif Nat.blt k 96 then v6 4 8 else v6 4 9) else (bif Nat.blt k 98 then v6 4 10 else (bif Nat.blt k 99 then v6 4 11 else v6 5 0)))) else (bif Nat.blt k 104 then (bif Nat.blt k 102 then (bif Nat.blt k 101 then v6 5 1 else v6 5 2) else (bif Nat.blt k 103 then v6 5 3 else v6 5 4)) else (bif Nat.blt k 106 then (bif Nat.blt k 105 then v6 5 5 else v6 5 6) else (bif Nat.blt k 107 then v6 5 7 else (bif Nat.blt k 108 then v6 5 8 else v6 5 9)))))) else (bif Nat.blt k 127 then (bif Nat.blt k 118 then (bif Nat.blt k 113 then (bif Nat.blt k 111 then (bif Nat.blt k 110 then v6 5 10 else v6 5 11) else (bif Nat.blt k 112 then v7 0 0 else v7 0 1)) else (bif Nat.blt k 115 then (bif Nat.blt k 114 then v7 0 2 else v7 0 3) else (bif Nat.blt k 116 then v7 0 4 else (bif Nat.blt k 117 then v7 0 5 else v7 0 6)))) else (bif Nat.blt k 122 then (bif Nat.blt k 120 then (bif Nat.blt k 119 then v7 0 7 else v7 0 8) else (bif Nat.blt k 121 then v7 0 9 else v7 0 10)) else (bif Nat.blt k 124 then (bif Nat.blt k 123 then v7 0 11 else v7 1 0) else (bif Nat.blt k 125 then v7 1 1 else (bif Nat.blt k 126 then v7 1 2 else v7 1 3))))) else (bif Nat.blt k 136 then (bif Nat.blt k 131 then (bif Nat.blt k 129 then (bif Nat.blt k 128 then v7 1 4 else v7 1 5) else (bif Nat.blt k 130 then v7 1 6 else v7 1 7)) else (bif Nat.blt k 133 then (bif Nat.blt k 132 then v7 1 8 else v7 1 9) else (bif Nat.blt k 134 then v7 1 10 else (bif Nat.blt k 135 then v7 1 11 else q 0)))) else (bif Nat.blt k 141 then (bif Nat.blt k 138 then (bif Nat.blt k 137 then q 1 else q 2) else (bif Nat.blt k 139 then q 3 else (bif Nat.blt k 140 then q 4 else q 5))) else (bif Nat.blt k 143 then (bif Nat.blt k 142 then q 6 else q 7) else (bif Nat.blt k 144 then q 8 else (bif Nat.blt k 145 then q 9 else ao)))))))) else bif Nat.blt k 1003 then (bif Nat.blt k 1001 then t 0 else bif Nat.blt k 1002 then t 1 else t 2) else bif Nat.blt k 1004 then t 3 else bif Nat.blt k 1005 then t 4 else t 5
def wY (G : Nat → Nat) (h : HP) (a0 : Nat) (u : Nat → Nat → Nat) (a : Nat → Nat) (v6 v7 : Nat → Nat → Nat) (q : Nat → Nat) (ao : Nat) : va_W := (wBc G h a0 u a v6 v7 ++ wMc G q) ++ [(ao, .inl (G 2, 1, .inr (.inl (fun _ => 0))))]
section FW
variable {G t : Nat → Nat} {xs : Nat → Int32} {a0 : Nat} {u : Nat → Nat → Nat} {a : Nat → Nat} {v6 v7 : Nat → Nat → Nat} {q : Nat → Nat} {ao : Nat}
set_option maxRecDepth 100000 in
theorem wk0 : (am_wl G (adI t a0 u a v6 v7 q ao) (hI xs) WL)[0]? = (wY G (hI xs) a0 u a v6 v7 q ao)[1]? := (am_wl_at (s := (4, 4, [3, 4, 5, 6, 7, 8, 9, 10, 11, 12, 13, 0, 0, 0, 0])) rfl).trans rfl
set_option maxRecDepth 100000 in
theorem wk1 : (am_wl G (adI t a0 u a v6 v7 q ao) (hI xs) WL)[1]? = (wY G (hI xs) a0 u a v6 v7 q ao)[2]? := (am_wl_at (s := (0, 20, [])) rfl).trans rfl
set_option maxRecDepth 100000 in
theorem wk2 : (am_wl G (adI t a0 u a v6 v7 q ao) (hI xs) WL)[2]? = (wY G (hI xs) a0 u a v6 v7 q ao)[3]? := (am_wl_at (s := (0, 20, [])) rfl).trans rfl
set_option maxRecDepth 100000 in
theorem wk3 : (am_wl G (adI t a0 u a v6 v7 q ao) (hI xs) WL)[3]? = (wY G (hI xs) a0 u a v6 v7 q ao)[4]? := (am_wl_at (s := (0, 20, [])) rfl).trans rfl
set_option maxRecDepth 100000 in
theorem wk4 : (am_wl G (adI t a0 u a v6 v7 q ao) (hI xs) WL)[4]? = (wY G (hI xs) a0 u a v6 v7 q ao)[5]? := (am_wl_at (s := (0, 20, [])) rfl).trans rfl
set_option maxRecDepth 100000 in
theorem wk5 : (am_wl G (adI t a0 u a v6 v7 q ao) (hI xs) WL)[5]? = (wY G (hI xs) a0 u a v6 v7 q ao)[6]? := (am_wl_at (s := (0, 20, [])) rfl).trans rfl
set_option maxRecDepth 100000 in
theorem wk6 : (am_wl G (adI t a0 u a v6 v7 q ao) (hI xs) WL)[6]? = (wY G (hI xs) a0 u a v6 v7 q ao)[7]? := (am_wl_at (s := (0, 20, [])) rfl).trans rfl
set_option maxRecDepth 100000 in
theorem wk7 : (am_wl G (adI t a0 u a v6 v7 q ao) (hI xs) WL)[7]? = (wY G (hI xs) a0 u a v6 v7 q ao)[8]? := (am_wl_at (s := (0, 20, [])) rfl).trans rfl
set_option maxRecDepth 100000 in
theorem wk8 : (am_wl G (adI t a0 u a v6 v7 q ao) (hI xs) WL)[8]? = (wY G (hI xs) a0 u a v6 v7 q ao)[9]? := (am_wl_at (s := (0, 20, [])) rfl).trans rfl
set_option maxRecDepth 100000 in
theorem wk9 : (am_wl G (adI t a0 u a v6 v7 q ao) (hI xs) WL)[9]? = (wY G (hI xs) a0 u a v6 v7 q ao)[10]? := (am_wl_at (s := (0, 4, [])) rfl).trans rfl
set_option maxRecDepth 100000 in
theorem wk10 : (am_wl G (adI t a0 u a v6 v7 q ao) (hI xs) WL)[10]? = (wY G (hI xs) a0 u a v6 v7 q ao)[11]? := (am_wl_at (s := (0, 4, [])) rfl).trans rfl
set_option maxRecDepth 100000 in
theorem wk11 : (am_wl G (adI t a0 u a v6 v7 q ao) (hI xs) WL)[11]? = (wY G (hI xs) a0 u a v6 v7 q ao)[12]? := (am_wl_at (s := (0, 4, [])) rfl).trans rfl
set_option maxRecDepth 100000 in
theorem wk12 : (am_wl G (adI t a0 u a v6 v7 q ao) (hI xs) WL)[12]? = (wY G (hI xs) a0 u a v6 v7 q ao)[25]? := (am_wl_at (s := (4, 0, [2, 15, 16, 17, 0, 0])) rfl).trans rfl
set_option maxRecDepth 100000 in
theorem wk13 : (am_wl G (adI t a0 u a v6 v7 q ao) (hI xs) WL)[13]? = (wY G (hI xs) a0 u a v6 v7 q ao)[26]? := (am_wl_at (s := (0, 40, [])) rfl).trans rfl
set_option maxRecDepth 100000 in
theorem wk14 : (am_wl G (adI t a0 u a v6 v7 q ao) (hI xs) WL)[14]? = (wY G (hI xs) a0 u a v6 v7 q ao)[27]? := (am_wl_at (s := (0, 16, [])) rfl).trans rfl
set_option maxRecDepth 100000 in
theorem wk15 : (am_wl G (adI t a0 u a v6 v7 q ao) (hI xs) WL)[15]? = (wY G (hI xs) a0 u a v6 v7 q ao)[28]? := (am_wl_at (s := (0, 16, [])) rfl).trans rfl
set_option maxRecDepth 100000 in
theorem wk16 : (am_wl G (adI t a0 u a v6 v7 q ao) (hI xs) WL)[16]? = (wY G (hI xs) a0 u a v6 v7 q ao)[29]? := (am_wl_at (s := (4, 1, [2, 19])) rfl).trans rfl
set_option maxRecDepth 100000 in
theorem wk17 : (am_wl G (adI t a0 u a v6 v7 q ao) (hI xs) WL)[17]? = (wY G (hI xs) a0 u a v6 v7 q ao)[30]? := (am_wl_at (s := (0, 20, [])) rfl).trans rfl
set_option maxRecDepth 100000 in
theorem wk18 : (am_wl G (adI t a0 u a v6 v7 q ao) (hI xs) WL)[18]? = (wY G (hI xs) a0 u a v6 v7 q ao)[31]? := (am_wl_at (s := (4, 3, [21, 22, 0, 0])) rfl).trans rfl
set_option maxRecDepth 100000 in
theorem wk19 : (am_wl G (adI t a0 u a v6 v7 q ao) (hI xs) WL)[19]? = (wY G (hI xs) a0 u a v6 v7 q ao)[32]? := (am_wl_at (s := (0, 60, [])) rfl).trans rfl
set_option maxRecDepth 100000 in
theorem wk20 : (am_wl G (adI t a0 u a v6 v7 q ao) (hI xs) WL)[20]? = (wY G (hI xs) a0 u a v6 v7 q ao)[33]? := (am_wl_at (s := (0, 6, [])) rfl).trans rfl
set_option maxRecDepth 100000 in
theorem wk21 : (am_wl G (adI t a0 u a v6 v7 q ao) (hI xs) WL)[21]? = (wY G (hI xs) a0 u a v6 v7 q ao)[13]? := (am_wl_at (s := (4, 4, [24, 25, 26, 27, 28, 29, 30, 31, 32, 33, 34, 0, 0, 0, 0])) rfl).trans rfl
set_option maxRecDepth 100000 in
theorem wk22 : (am_wl G (adI t a0 u a v6 v7 q ao) (hI xs) WL)[22]? = (wY G (hI xs) a0 u a v6 v7 q ao)[14]? := (am_wl_at (s := (0, 20, [])) rfl).trans rfl
set_option maxRecDepth 100000 in
theorem wk23 : (am_wl G (adI t a0 u a v6 v7 q ao) (hI xs) WL)[23]? = (wY G (hI xs) a0 u a v6 v7 q ao)[15]? := (am_wl_at (s := (0, 20, [])) rfl).trans rfl
set_option maxRecDepth 100000 in
theorem wk24 : (am_wl G (adI t a0 u a v6 v7 q ao) (hI xs) WL)[24]? = (wY G (hI xs) a0 u a v6 v7 q ao)[16]? := (am_wl_at (s := (0, 20, [])) rfl).trans rfl
set_option maxRecDepth 100000 in
theorem wk25 : (am_wl G (adI t a0 u a v6 v7 q ao) (hI xs) WL)[25]? = (wY G (hI xs) a0 u a v6 v7 q ao)[17]? := (am_wl_at (s := (0, 20, [])) rfl).trans rfl
set_option maxRecDepth 100000 in
theorem wk26 : (am_wl G (adI t a0 u a v6 v7 q ao) (hI xs) WL)[26]? = (wY G (hI xs) a0 u a v6 v7 q ao)[18]? := (am_wl_at (s := (0, 20, [])) rfl).trans rfl
set_option maxRecDepth 100000 in
theorem wk27 : (am_wl G (adI t a0 u a v6 v7 q ao) (hI xs) WL)[27]? = (wY G (hI xs) a0 u a v6 v7 q ao)[19]? := (am_wl_at (s := (0, 20, [])) rfl).trans rfl
set_option maxRecDepth 100000 in
theorem wk28 : (am_wl G (adI t a0 u a v6 v7 q ao) (hI xs) WL)[28]? = (wY G (hI xs) a0 u a v6 v7 q ao)[20]? := (am_wl_at (s := (0, 20, [])) rfl).trans rfl
set_option maxRecDepth 100000 in
theorem wk29 : (am_wl G (adI t a0 u a v6 v7 q ao) (hI xs) WL)[29]? = (wY G (hI xs) a0 u a v6 v7 q ao)[21]? := (am_wl_at (s := (0, 20, [])) rfl).trans rfl
set_option maxRecDepth 100000 in
theorem wk30 : (am_wl G (adI t a0 u a v6 v7 q ao) (hI xs) WL)[30]? = (wY G (hI xs) a0 u a v6 v7 q ao)[22]? := (am_wl_at (s := (0, 4, [])) rfl).trans rfl
set_option maxRecDepth 100000 in
theorem wk31 : (am_wl G (adI t a0 u a v6 v7 q ao) (hI xs) WL)[31]? = (wY G (hI xs) a0 u a v6 v7 q ao)[23]? := (am_wl_at (s := (0, 4, [])) rfl).trans rfl
set_option maxRecDepth 100000 in
theorem wk32 : (am_wl G (adI t a0 u a v6 v7 q ao) (hI xs) WL)[32]? = (wY G (hI xs) a0 u a v6 v7 q ao)[24]? := (am_wl_at (s := (0, 4, [])) rfl).trans rfl
set_option maxRecDepth 100000 in
theorem wk33 : (am_wl G (adI t a0 u a v6 v7 q ao) (hI xs) WL)[33]? = (wY G (hI xs) a0 u a v6 v7 q ao)[34]? := (am_wl_at (s := (4, 2, [36])) rfl).trans rfl
set_option maxRecDepth 100000 in
theorem wk35 : (am_wl G (adI t a0 u a v6 v7 q ao) (hI xs) WL)[35]? = (wY G (hI xs) a0 u a v6 v7 q ao)[108]? := (am_wl_at (s := (4, 2, [38])) rfl).trans rfl
set_option maxRecDepth 100000 in
theorem wk37 : (am_wl G (adI t a0 u a v6 v7 q ao) (hI xs) WL)[37]? = (wY G (hI xs) a0 u a v6 v7 q ao)[134]? := (am_wl_at (s := (0, 2, [])) rfl).trans rfl
set_option maxRecDepth 100000 in
theorem wk38 : (am_wl G (adI t a0 u a v6 v7 q ao) (hI xs) WL)[38]? = (wY G (hI xs) a0 u a v6 v7 q ao)[0]? := (am_wl_at (s := (4, 5, [2, 23, 14, 18, 20, 35, 37, 39, 0, 0])) rfl).trans rfl
set_option maxRecDepth 100000 in
theorem wk39 : (am_wl G (adI t a0 u a v6 v7 q ao) (hI xs) WL)[39]? = (wY G (hI xs) a0 u a v6 v7 q ao)[36]? := (am_wl_at (s := (4, 4, [42, 43, 44, 45, 46, 47, 48, 49, 50, 51, 52, 0, 0, 0, 0])) rfl).trans rfl
set_option maxRecDepth 100000 in
theorem wk40 : (am_wl G (adI t a0 u a v6 v7 q ao) (hI xs) WL)[40]? = (wY G (hI xs) a0 u a v6 v7 q ao)[37]? := (am_wl_at (s := (0, 20, [])) rfl).trans rfl
set_option maxRecDepth 100000 in
theorem wk41 : (am_wl G (adI t a0 u a v6 v7 q ao) (hI xs) WL)[41]? = (wY G (hI xs) a0 u a v6 v7 q ao)[38]? := (am_wl_at (s := (0, 20, [])) rfl).trans rfl
set_option maxRecDepth 100000 in
theorem wk42 : (am_wl G (adI t a0 u a v6 v7 q ao) (hI xs) WL)[42]? = (wY G (hI xs) a0 u a v6 v7 q ao)[39]? := (am_wl_at (s := (0, 20, [])) rfl).trans rfl
set_option maxRecDepth 100000 in
theorem wk43 : (am_wl G (adI t a0 u a v6 v7 q ao) (hI xs) WL)[43]? = (wY G (hI xs) a0 u a v6 v7 q ao)[40]? := (am_wl_at (s := (0, 20, [])) rfl).trans rfl
set_option maxRecDepth 100000 in
theorem wk44 : (am_wl G (adI t a0 u a v6 v7 q ao) (hI xs) WL)[44]? = (wY G (hI xs) a0 u a v6 v7 q ao)[41]? := (am_wl_at (s := (0, 20, [])) rfl).trans rfl
set_option maxRecDepth 100000 in
theorem wk45 : (am_wl G (adI t a0 u a v6 v7 q ao) (hI xs) WL)[45]? = (wY G (hI xs) a0 u a v6 v7 q ao)[42]? := (am_wl_at (s := (0, 20, [])) rfl).trans rfl
set_option maxRecDepth 100000 in
theorem wk46 : (am_wl G (adI t a0 u a v6 v7 q ao) (hI xs) WL)[46]? = (wY G (hI xs) a0 u a v6 v7 q ao)[43]? := (am_wl_at (s := (0, 20, [])) rfl).trans rfl
set_option maxRecDepth 100000 in
theorem wk47 : (am_wl G (adI t a0 u a v6 v7 q ao) (hI xs) WL)[47]? = (wY G (hI xs) a0 u a v6 v7 q ao)[44]? := (am_wl_at (s := (0, 20, [])) rfl).trans rfl
set_option maxRecDepth 100000 in
theorem wk48 : (am_wl G (adI t a0 u a v6 v7 q ao) (hI xs) WL)[48]? = (wY G (hI xs) a0 u a v6 v7 q ao)[45]? := (am_wl_at (s := (0, 4, [])) rfl).trans rfl
set_option maxRecDepth 100000 in
theorem wk49 : (am_wl G (adI t a0 u a v6 v7 q ao) (hI xs) WL)[49]? = (wY G (hI xs) a0 u a v6 v7 q ao)[46]? := (am_wl_at (s := (0, 4, [])) rfl).trans rfl
set_option maxRecDepth 100000 in
theorem wk50 : (am_wl G (adI t a0 u a v6 v7 q ao) (hI xs) WL)[50]? = (wY G (hI xs) a0 u a v6 v7 q ao)[47]? := (am_wl_at (s := (0, 4, [])) rfl).trans rfl
set_option maxRecDepth 100000 in
theorem wk51 : (am_wl G (adI t a0 u a v6 v7 q ao) (hI xs) WL)[51]? = (wY G (hI xs) a0 u a v6 v7 q ao)[48]? := (am_wl_at (s := (4, 4, [54, 55, 56, 57, 58, 59, 60, 61, 62, 63, 64, 0, 0, 0, 0])) rfl).trans rfl
set_option maxRecDepth 100000 in
theorem wk52 : (am_wl G (adI t a0 u a v6 v7 q ao) (hI xs) WL)[52]? = (wY G (hI xs) a0 u a v6 v7 q ao)[49]? := (am_wl_at (s := (0, 20, [])) rfl).trans rfl
set_option maxRecDepth 100000 in
theorem wk53 : (am_wl G (adI t a0 u a v6 v7 q ao) (hI xs) WL)[53]? = (wY G (hI xs) a0 u a v6 v7 q ao)[50]? := (am_wl_at (s := (0, 20, [])) rfl).trans rfl
set_option maxRecDepth 100000 in
theorem wk54 : (am_wl G (adI t a0 u a v6 v7 q ao) (hI xs) WL)[54]? = (wY G (hI xs) a0 u a v6 v7 q ao)[51]? := (am_wl_at (s := (0, 20, [])) rfl).trans rfl
set_option maxRecDepth 100000 in
theorem wk55 : (am_wl G (adI t a0 u a v6 v7 q ao) (hI xs) WL)[55]? = (wY G (hI xs) a0 u a v6 v7 q ao)[52]? := (am_wl_at (s := (0, 20, [])) rfl).trans rfl
set_option maxRecDepth 100000 in
theorem wk56 : (am_wl G (adI t a0 u a v6 v7 q ao) (hI xs) WL)[56]? = (wY G (hI xs) a0 u a v6 v7 q ao)[53]? := (am_wl_at (s := (0, 20, [])) rfl).trans rfl
set_option maxRecDepth 100000 in
theorem wk57 : (am_wl G (adI t a0 u a v6 v7 q ao) (hI xs) WL)[57]? = (wY G (hI xs) a0 u a v6 v7 q ao)[54]? := (am_wl_at (s := (0, 20, [])) rfl).trans rfl
set_option maxRecDepth 100000 in
theorem wk58 : (am_wl G (adI t a0 u a v6 v7 q ao) (hI xs) WL)[58]? = (wY G (hI xs) a0 u a v6 v7 q ao)[55]? := (am_wl_at (s := (0, 20, [])) rfl).trans rfl
set_option maxRecDepth 100000 in
theorem wk59 : (am_wl G (adI t a0 u a v6 v7 q ao) (hI xs) WL)[59]? = (wY G (hI xs) a0 u a v6 v7 q ao)[56]? := (am_wl_at (s := (0, 20, [])) rfl).trans rfl
set_option maxRecDepth 100000 in
theorem wk60 : (am_wl G (adI t a0 u a v6 v7 q ao) (hI xs) WL)[60]? = (wY G (hI xs) a0 u a v6 v7 q ao)[57]? := (am_wl_at (s := (0, 4, [])) rfl).trans rfl
set_option maxRecDepth 100000 in
theorem wk61 : (am_wl G (adI t a0 u a v6 v7 q ao) (hI xs) WL)[61]? = (wY G (hI xs) a0 u a v6 v7 q ao)[58]? := (am_wl_at (s := (0, 4, [])) rfl).trans rfl
set_option maxRecDepth 100000 in
theorem wk62 : (am_wl G (adI t a0 u a v6 v7 q ao) (hI xs) WL)[62]? = (wY G (hI xs) a0 u a v6 v7 q ao)[59]? := (am_wl_at (s := (0, 4, [])) rfl).trans rfl
set_option maxRecDepth 100000 in
theorem wk63 : (am_wl G (adI t a0 u a v6 v7 q ao) (hI xs) WL)[63]? = (wY G (hI xs) a0 u a v6 v7 q ao)[60]? := (am_wl_at (s := (4, 4, [66, 67, 68, 69, 70, 71, 72, 73, 74, 75, 76, 0, 0, 0, 0])) rfl).trans rfl
set_option maxRecDepth 100000 in
theorem wk64 : (am_wl G (adI t a0 u a v6 v7 q ao) (hI xs) WL)[64]? = (wY G (hI xs) a0 u a v6 v7 q ao)[61]? := (am_wl_at (s := (0, 20, [])) rfl).trans rfl
set_option maxRecDepth 100000 in
theorem wk65 : (am_wl G (adI t a0 u a v6 v7 q ao) (hI xs) WL)[65]? = (wY G (hI xs) a0 u a v6 v7 q ao)[62]? := (am_wl_at (s := (0, 20, [])) rfl).trans rfl
set_option maxRecDepth 100000 in
theorem wk66 : (am_wl G (adI t a0 u a v6 v7 q ao) (hI xs) WL)[66]? = (wY G (hI xs) a0 u a v6 v7 q ao)[63]? := (am_wl_at (s := (0, 20, [])) rfl).trans rfl
set_option maxRecDepth 100000 in
theorem wk67 : (am_wl G (adI t a0 u a v6 v7 q ao) (hI xs) WL)[67]? = (wY G (hI xs) a0 u a v6 v7 q ao)[64]? := (am_wl_at (s := (0, 20, [])) rfl).trans rfl
set_option maxRecDepth 100000 in
theorem wk68 : (am_wl G (adI t a0 u a v6 v7 q ao) (hI xs) WL)[68]? = (wY G (hI xs) a0 u a v6 v7 q ao)[65]? := (am_wl_at (s := (0, 20, [])) rfl).trans rfl
set_option maxRecDepth 100000 in
theorem wk69 : (am_wl G (adI t a0 u a v6 v7 q ao) (hI xs) WL)[69]? = (wY G (hI xs) a0 u a v6 v7 q ao)[66]? := (am_wl_at (s := (0, 20, [])) rfl).trans rfl
set_option maxRecDepth 100000 in
theorem wk70 : (am_wl G (adI t a0 u a v6 v7 q ao) (hI xs) WL)[70]? = (wY G (hI xs) a0 u a v6 v7 q ao)[67]? := (am_wl_at (s := (0, 20, [])) rfl).trans rfl
set_option maxRecDepth 100000 in
theorem wk71 : (am_wl G (adI t a0 u a v6 v7 q ao) (hI xs) WL)[71]? = (wY G (hI xs) a0 u a v6 v7 q ao)[68]? := (am_wl_at (s := (0, 20, [])) rfl).trans rfl
set_option maxRecDepth 100000 in
theorem wk72 : (am_wl G (adI t a0 u a v6 v7 q ao) (hI xs) WL)[72]? = (wY G (hI xs) a0 u a v6 v7 q ao)[69]? := (am_wl_at (s := (0, 4, [])) rfl).trans rfl
set_option maxRecDepth 100000 in
theorem wk73 : (am_wl G (adI t a0 u a v6 v7 q ao) (hI xs) WL)[73]? = (wY G (hI xs) a0 u a v6 v7 q ao)[70]? := (am_wl_at (s := (0, 4, [])) rfl).trans rfl
set_option maxRecDepth 100000 in
theorem wk74 : (am_wl G (adI t a0 u a v6 v7 q ao) (hI xs) WL)[74]? = (wY G (hI xs) a0 u a v6 v7 q ao)[71]? := (am_wl_at (s := (0, 4, [])) rfl).trans rfl
set_option maxRecDepth 100000 in
theorem wk75 : (am_wl G (adI t a0 u a v6 v7 q ao) (hI xs) WL)[75]? = (wY G (hI xs) a0 u a v6 v7 q ao)[72]? := (am_wl_at (s := (4, 4, [78, 79, 80, 81, 82, 83, 84, 85, 86, 87, 88, 0, 0, 0, 0])) rfl).trans rfl
set_option maxRecDepth 100000 in
theorem wk76 : (am_wl G (adI t a0 u a v6 v7 q ao) (hI xs) WL)[76]? = (wY G (hI xs) a0 u a v6 v7 q ao)[73]? := (am_wl_at (s := (0, 20, [])) rfl).trans rfl
set_option maxRecDepth 100000 in
theorem wk77 : (am_wl G (adI t a0 u a v6 v7 q ao) (hI xs) WL)[77]? = (wY G (hI xs) a0 u a v6 v7 q ao)[74]? := (am_wl_at (s := (0, 20, [])) rfl).trans rfl
set_option maxRecDepth 100000 in
theorem wk78 : (am_wl G (adI t a0 u a v6 v7 q ao) (hI xs) WL)[78]? = (wY G (hI xs) a0 u a v6 v7 q ao)[75]? := (am_wl_at (s := (0, 20, [])) rfl).trans rfl
set_option maxRecDepth 100000 in
theorem wk79 : (am_wl G (adI t a0 u a v6 v7 q ao) (hI xs) WL)[79]? = (wY G (hI xs) a0 u a v6 v7 q ao)[76]? := (am_wl_at (s := (0, 20, [])) rfl).trans rfl
set_option maxRecDepth 100000 in
theorem wk80 : (am_wl G (adI t a0 u a v6 v7 q ao) (hI xs) WL)[80]? = (wY G (hI xs) a0 u a v6 v7 q ao)[77]? := (am_wl_at (s := (0, 20, [])) rfl).trans rfl
set_option maxRecDepth 100000 in
theorem wk81 : (am_wl G (adI t a0 u a v6 v7 q ao) (hI xs) WL)[81]? = (wY G (hI xs) a0 u a v6 v7 q ao)[78]? := (am_wl_at (s := (0, 20, [])) rfl).trans rfl
set_option maxRecDepth 100000 in
theorem wk82 : (am_wl G (adI t a0 u a v6 v7 q ao) (hI xs) WL)[82]? = (wY G (hI xs) a0 u a v6 v7 q ao)[79]? := (am_wl_at (s := (0, 20, [])) rfl).trans rfl
set_option maxRecDepth 100000 in
theorem wk83 : (am_wl G (adI t a0 u a v6 v7 q ao) (hI xs) WL)[83]? = (wY G (hI xs) a0 u a v6 v7 q ao)[80]? := (am_wl_at (s := (0, 20, [])) rfl).trans rfl
set_option maxRecDepth 100000 in
theorem wk84 : (am_wl G (adI t a0 u a v6 v7 q ao) (hI xs) WL)[84]? = (wY G (hI xs) a0 u a v6 v7 q ao)[81]? := (am_wl_at (s := (0, 4, [])) rfl).trans rfl
set_option maxRecDepth 100000 in
theorem wk85 : (am_wl G (adI t a0 u a v6 v7 q ao) (hI xs) WL)[85]? = (wY G (hI xs) a0 u a v6 v7 q ao)[82]? := (am_wl_at (s := (0, 4, [])) rfl).trans rfl
set_option maxRecDepth 100000 in
theorem wk86 : (am_wl G (adI t a0 u a v6 v7 q ao) (hI xs) WL)[86]? = (wY G (hI xs) a0 u a v6 v7 q ao)[83]? := (am_wl_at (s := (0, 4, [])) rfl).trans rfl
set_option maxRecDepth 100000 in
theorem wk87 : (am_wl G (adI t a0 u a v6 v7 q ao) (hI xs) WL)[87]? = (wY G (hI xs) a0 u a v6 v7 q ao)[84]? := (am_wl_at (s := (4, 4, [90, 91, 92, 93, 94, 95, 96, 97, 98, 99, 100, 0, 0, 0, 0])) rfl).trans rfl
set_option maxRecDepth 100000 in
theorem wk88 : (am_wl G (adI t a0 u a v6 v7 q ao) (hI xs) WL)[88]? = (wY G (hI xs) a0 u a v6 v7 q ao)[85]? := (am_wl_at (s := (0, 20, [])) rfl).trans rfl
set_option maxRecDepth 100000 in
theorem wk89 : (am_wl G (adI t a0 u a v6 v7 q ao) (hI xs) WL)[89]? = (wY G (hI xs) a0 u a v6 v7 q ao)[86]? := (am_wl_at (s := (0, 20, [])) rfl).trans rfl
set_option maxRecDepth 100000 in
theorem wk90 : (am_wl G (adI t a0 u a v6 v7 q ao) (hI xs) WL)[90]? = (wY G (hI xs) a0 u a v6 v7 q ao)[87]? := (am_wl_at (s := (0, 20, [])) rfl).trans rfl
set_option maxRecDepth 100000 in
theorem wk91 : (am_wl G (adI t a0 u a v6 v7 q ao) (hI xs) WL)[91]? = (wY G (hI xs) a0 u a v6 v7 q ao)[88]? := (am_wl_at (s := (0, 20, [])) rfl).trans rfl
set_option maxRecDepth 100000 in
theorem wk92 : (am_wl G (adI t a0 u a v6 v7 q ao) (hI xs) WL)[92]? = (wY G (hI xs) a0 u a v6 v7 q ao)[89]? := (am_wl_at (s := (0, 20, [])) rfl).trans rfl
set_option maxRecDepth 100000 in
theorem wk93 : (am_wl G (adI t a0 u a v6 v7 q ao) (hI xs) WL)[93]? = (wY G (hI xs) a0 u a v6 v7 q ao)[90]? := (am_wl_at (s := (0, 20, [])) rfl).trans rfl
set_option maxRecDepth 100000 in
theorem wk94 : (am_wl G (adI t a0 u a v6 v7 q ao) (hI xs) WL)[94]? = (wY G (hI xs) a0 u a v6 v7 q ao)[91]? := (am_wl_at (s := (0, 20, [])) rfl).trans rfl
set_option maxRecDepth 100000 in
theorem wk95 : (am_wl G (adI t a0 u a v6 v7 q ao) (hI xs) WL)[95]? = (wY G (hI xs) a0 u a v6 v7 q ao)[92]? := (am_wl_at (s := (0, 20, [])) rfl).trans rfl
set_option maxRecDepth 100000 in
theorem wk96 : (am_wl G (adI t a0 u a v6 v7 q ao) (hI xs) WL)[96]? = (wY G (hI xs) a0 u a v6 v7 q ao)[93]? := (am_wl_at (s := (0, 4, [])) rfl).trans rfl
set_option maxRecDepth 100000 in
theorem wk97 : (am_wl G (adI t a0 u a v6 v7 q ao) (hI xs) WL)[97]? = (wY G (hI xs) a0 u a v6 v7 q ao)[94]? := (am_wl_at (s := (0, 4, [])) rfl).trans rfl
set_option maxRecDepth 100000 in
theorem wk98 : (am_wl G (adI t a0 u a v6 v7 q ao) (hI xs) WL)[98]? = (wY G (hI xs) a0 u a v6 v7 q ao)[95]? := (am_wl_at (s := (0, 4, [])) rfl).trans rfl
set_option maxRecDepth 100000 in
theorem wk99 : (am_wl G (adI t a0 u a v6 v7 q ao) (hI xs) WL)[99]? = (wY G (hI xs) a0 u a v6 v7 q ao)[96]? := (am_wl_at (s := (4, 4, [102, 103, 104, 105, 106, 107, 108, 109, 110, 111, 112, 0, 0, 0, 0])) rfl).trans rfl
set_option maxRecDepth 100000 in
theorem wk100 : (am_wl G (adI t a0 u a v6 v7 q ao) (hI xs) WL)[100]? = (wY G (hI xs) a0 u a v6 v7 q ao)[97]? := (am_wl_at (s := (0, 20, [])) rfl).trans rfl
set_option maxRecDepth 100000 in
theorem wk101 : (am_wl G (adI t a0 u a v6 v7 q ao) (hI xs) WL)[101]? = (wY G (hI xs) a0 u a v6 v7 q ao)[98]? := (am_wl_at (s := (0, 20, [])) rfl).trans rfl
set_option maxRecDepth 100000 in
theorem wk102 : (am_wl G (adI t a0 u a v6 v7 q ao) (hI xs) WL)[102]? = (wY G (hI xs) a0 u a v6 v7 q ao)[99]? := (am_wl_at (s := (0, 20, [])) rfl).trans rfl
set_option maxRecDepth 100000 in
theorem wk103 : (am_wl G (adI t a0 u a v6 v7 q ao) (hI xs) WL)[103]? = (wY G (hI xs) a0 u a v6 v7 q ao)[100]? := (am_wl_at (s := (0, 20, [])) rfl).trans rfl
set_option maxRecDepth 100000 in
theorem wk104 : (am_wl G (adI t a0 u a v6 v7 q ao) (hI xs) WL)[104]? = (wY G (hI xs) a0 u a v6 v7 q ao)[101]? := (am_wl_at (s := (0, 20, [])) rfl).trans rfl
set_option maxRecDepth 100000 in
theorem wk105 : (am_wl G (adI t a0 u a v6 v7 q ao) (hI xs) WL)[105]? = (wY G (hI xs) a0 u a v6 v7 q ao)[102]? := (am_wl_at (s := (0, 20, [])) rfl).trans rfl
set_option maxRecDepth 100000 in
theorem wk106 : (am_wl G (adI t a0 u a v6 v7 q ao) (hI xs) WL)[106]? = (wY G (hI xs) a0 u a v6 v7 q ao)[103]? := (am_wl_at (s := (0, 20, [])) rfl).trans rfl
set_option maxRecDepth 100000 in
theorem wk107 : (am_wl G (adI t a0 u a v6 v7 q ao) (hI xs) WL)[107]? = (wY G (hI xs) a0 u a v6 v7 q ao)[104]? := (am_wl_at (s := (0, 20, [])) rfl).trans rfl
set_option maxRecDepth 100000 in
theorem wk108 : (am_wl G (adI t a0 u a v6 v7 q ao) (hI xs) WL)[108]? = (wY G (hI xs) a0 u a v6 v7 q ao)[105]? := (am_wl_at (s := (0, 4, [])) rfl).trans rfl
set_option maxRecDepth 100000 in
theorem wk109 : (am_wl G (adI t a0 u a v6 v7 q ao) (hI xs) WL)[109]? = (wY G (hI xs) a0 u a v6 v7 q ao)[106]? := (am_wl_at (s := (0, 4, [])) rfl).trans rfl
set_option maxRecDepth 100000 in
theorem wk110 : (am_wl G (adI t a0 u a v6 v7 q ao) (hI xs) WL)[110]? = (wY G (hI xs) a0 u a v6 v7 q ao)[107]? := (am_wl_at (s := (0, 4, [])) rfl).trans rfl
set_option maxRecDepth 100000 in
theorem wk111 : (am_wl G (adI t a0 u a v6 v7 q ao) (hI xs) WL)[111]? = (wY G (hI xs) a0 u a v6 v7 q ao)[110]? := (am_wl_at (s := (4, 4, [114, 115, 116, 117, 118, 119, 120, 121, 122, 123, 124, 0, 0, 0, 0])) rfl).trans rfl
set_option maxRecDepth 100000 in
theorem wk112 : (am_wl G (adI t a0 u a v6 v7 q ao) (hI xs) WL)[112]? = (wY G (hI xs) a0 u a v6 v7 q ao)[111]? := (am_wl_at (s := (0, 20, [])) rfl).trans rfl
set_option maxRecDepth 100000 in
theorem wk113 : (am_wl G (adI t a0 u a v6 v7 q ao) (hI xs) WL)[113]? = (wY G (hI xs) a0 u a v6 v7 q ao)[112]? := (am_wl_at (s := (0, 20, [])) rfl).trans rfl
set_option maxRecDepth 100000 in
theorem wk114 : (am_wl G (adI t a0 u a v6 v7 q ao) (hI xs) WL)[114]? = (wY G (hI xs) a0 u a v6 v7 q ao)[113]? := (am_wl_at (s := (0, 20, [])) rfl).trans rfl
set_option maxRecDepth 100000 in
theorem wk115 : (am_wl G (adI t a0 u a v6 v7 q ao) (hI xs) WL)[115]? = (wY G (hI xs) a0 u a v6 v7 q ao)[114]? := (am_wl_at (s := (0, 20, [])) rfl).trans rfl
set_option maxRecDepth 100000 in
theorem wk116 : (am_wl G (adI t a0 u a v6 v7 q ao) (hI xs) WL)[116]? = (wY G (hI xs) a0 u a v6 v7 q ao)[115]? := (am_wl_at (s := (0, 20, [])) rfl).trans rfl
set_option maxRecDepth 100000 in
theorem wk117 : (am_wl G (adI t a0 u a v6 v7 q ao) (hI xs) WL)[117]? = (wY G (hI xs) a0 u a v6 v7 q ao)[116]? := (am_wl_at (s := (0, 20, [])) rfl).trans rfl
set_option maxRecDepth 100000 in
theorem wk118 : (am_wl G (adI t a0 u a v6 v7 q ao) (hI xs) WL)[118]? = (wY G (hI xs) a0 u a v6 v7 q ao)[117]? := (am_wl_at (s := (0, 20, [])) rfl).trans rfl
set_option maxRecDepth 100000 in
theorem wk119 : (am_wl G (adI t a0 u a v6 v7 q ao) (hI xs) WL)[119]? = (wY G (hI xs) a0 u a v6 v7 q ao)[118]? := (am_wl_at (s := (0, 20, [])) rfl).trans rfl
set_option maxRecDepth 100000 in
theorem wk120 : (am_wl G (adI t a0 u a v6 v7 q ao) (hI xs) WL)[120]? = (wY G (hI xs) a0 u a v6 v7 q ao)[119]? := (am_wl_at (s := (0, 4, [])) rfl).trans rfl
set_option maxRecDepth 100000 in
theorem wk121 : (am_wl G (adI t a0 u a v6 v7 q ao) (hI xs) WL)[121]? = (wY G (hI xs) a0 u a v6 v7 q ao)[120]? := (am_wl_at (s := (0, 4, [])) rfl).trans rfl
set_option maxRecDepth 100000 in
theorem wk122 : (am_wl G (adI t a0 u a v6 v7 q ao) (hI xs) WL)[122]? = (wY G (hI xs) a0 u a v6 v7 q ao)[121]? := (am_wl_at (s := (0, 4, [])) rfl).trans rfl
set_option maxRecDepth 100000 in
theorem wk123 : (am_wl G (adI t a0 u a v6 v7 q ao) (hI xs) WL)[123]? = (wY G (hI xs) a0 u a v6 v7 q ao)[122]? := (am_wl_at (s := (4, 4, [126, 127, 128, 129, 130, 131, 132, 133, 134, 135, 136, 0, 0, 0, 0])) rfl).trans rfl
set_option maxRecDepth 100000 in
theorem wk124 : (am_wl G (adI t a0 u a v6 v7 q ao) (hI xs) WL)[124]? = (wY G (hI xs) a0 u a v6 v7 q ao)[123]? := (am_wl_at (s := (0, 20, [])) rfl).trans rfl
set_option maxRecDepth 100000 in
theorem wk125 : (am_wl G (adI t a0 u a v6 v7 q ao) (hI xs) WL)[125]? = (wY G (hI xs) a0 u a v6 v7 q ao)[124]? := (am_wl_at (s := (0, 20, [])) rfl).trans rfl
set_option maxRecDepth 100000 in
theorem wk126 : (am_wl G (adI t a0 u a v6 v7 q ao) (hI xs) WL)[126]? = (wY G (hI xs) a0 u a v6 v7 q ao)[125]? := (am_wl_at (s := (0, 20, [])) rfl).trans rfl
set_option maxRecDepth 100000 in
theorem wk127 : (am_wl G (adI t a0 u a v6 v7 q ao) (hI xs) WL)[127]? = (wY G (hI xs) a0 u a v6 v7 q ao)[126]? := (am_wl_at (s := (0, 20, [])) rfl).trans rfl
set_option maxRecDepth 100000 in
theorem wk128 : (am_wl G (adI t a0 u a v6 v7 q ao) (hI xs) WL)[128]? = (wY G (hI xs) a0 u a v6 v7 q ao)[127]? := (am_wl_at (s := (0, 20, [])) rfl).trans rfl
set_option maxRecDepth 100000 in
theorem wk129 : (am_wl G (adI t a0 u a v6 v7 q ao) (hI xs) WL)[129]? = (wY G (hI xs) a0 u a v6 v7 q ao)[128]? := (am_wl_at (s := (0, 20, [])) rfl).trans rfl
set_option maxRecDepth 100000 in
theorem wk130 : (am_wl G (adI t a0 u a v6 v7 q ao) (hI xs) WL)[130]? = (wY G (hI xs) a0 u a v6 v7 q ao)[129]? := (am_wl_at (s := (0, 20, [])) rfl).trans rfl
set_option maxRecDepth 100000 in
theorem wk131 : (am_wl G (adI t a0 u a v6 v7 q ao) (hI xs) WL)[131]? = (wY G (hI xs) a0 u a v6 v7 q ao)[130]? := (am_wl_at (s := (0, 20, [])) rfl).trans rfl
set_option maxRecDepth 100000 in
theorem wk132 : (am_wl G (adI t a0 u a v6 v7 q ao) (hI xs) WL)[132]? = (wY G (hI xs) a0 u a v6 v7 q ao)[131]? := (am_wl_at (s := (0, 4, [])) rfl).trans rfl
set_option maxRecDepth 100000 in
theorem wk133 : (am_wl G (adI t a0 u a v6 v7 q ao) (hI xs) WL)[133]? = (wY G (hI xs) a0 u a v6 v7 q ao)[132]? := (am_wl_at (s := (0, 4, [])) rfl).trans rfl
set_option maxRecDepth 100000 in
theorem wk134 : (am_wl G (adI t a0 u a v6 v7 q ao) (hI xs) WL)[134]? = (wY G (hI xs) a0 u a v6 v7 q ao)[133]? := (am_wl_at (s := (0, 4, [])) rfl).trans rfl
set_option maxRecDepth 100000 in
theorem wk135 : (am_wl G (adI t a0 u a v6 v7 q ao) (hI xs) WL)[135]? = (wY G (hI xs) a0 u a v6 v7 q ao)[135]? := (am_wl_at (s := (4, 6, [138, 139, 140, 0, 141, 142, 143, 0, 0, 0, 144, 145, 0, 146, 0, 1])) rfl).trans rfl
set_option maxRecDepth 100000 in
theorem wk136 : (am_wl G (adI t a0 u a v6 v7 q ao) (hI xs) WL)[136]? = (wY G (hI xs) a0 u a v6 v7 q ao)[136]? := (am_wl_at (s := (0, 163, [])) rfl).trans rfl
set_option maxRecDepth 100000 in
theorem wk137 : (am_wl G (adI t a0 u a v6 v7 q ao) (hI xs) WL)[137]? = (wY G (hI xs) a0 u a v6 v7 q ao)[137]? := (am_wl_at (s := (0, 163, [])) rfl).trans rfl
set_option maxRecDepth 100000 in
theorem wk138 : (am_wl G (adI t a0 u a v6 v7 q ao) (hI xs) WL)[138]? = (wY G (hI xs) a0 u a v6 v7 q ao)[138]? := (am_wl_at (s := (0, 978, [])) rfl).trans rfl
set_option maxRecDepth 100000 in
theorem wk139 : (am_wl G (adI t a0 u a v6 v7 q ao) (hI xs) WL)[139]? = (wY G (hI xs) a0 u a v6 v7 q ao)[139]? := (am_wl_at (s := (0, 326, [])) rfl).trans rfl
set_option maxRecDepth 100000 in
theorem wk140 : (am_wl G (adI t a0 u a v6 v7 q ao) (hI xs) WL)[140]? = (wY G (hI xs) a0 u a v6 v7 q ao)[140]? := (am_wl_at (s := (1, 2, [])) rfl).trans rfl
set_option maxRecDepth 100000 in
theorem wk141 : (am_wl G (adI t a0 u a v6 v7 q ao) (hI xs) WL)[141]? = (wY G (hI xs) a0 u a v6 v7 q ao)[141]? := (am_wl_at (s := (0, 60, [])) rfl).trans rfl
set_option maxRecDepth 100000 in
theorem wk142 : (am_wl G (adI t a0 u a v6 v7 q ao) (hI xs) WL)[142]? = (wY G (hI xs) a0 u a v6 v7 q ao)[142]? := (am_wl_at (s := (0, 20, [])) rfl).trans rfl
set_option maxRecDepth 100000 in
theorem wk143 : (am_wl G (adI t a0 u a v6 v7 q ao) (hI xs) WL)[143]? = (wY G (hI xs) a0 u a v6 v7 q ao)[143]? := (am_wl_at (s := (0, 20, [])) rfl).trans rfl
set_option maxRecDepth 100000 in
theorem wk144 : (am_wl G (adI t a0 u a v6 v7 q ao) (hI xs) WL)[144]? = (wY G (hI xs) a0 u a v6 v7 q ao)[144]? := (am_wl_at (s := (0, 40, [])) rfl).trans rfl
set_option maxRecDepth 100000 in
theorem wk145 : (am_wl G (adI t a0 u a v6 v7 q ao) (hI xs) WL)[145]? = (wY G (hI xs) a0 u a v6 v7 q ao)[145]? := (am_wl_at (s := (2, 1, [])) rfl).trans rfl
end FW
