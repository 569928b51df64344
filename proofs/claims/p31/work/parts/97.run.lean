/-! RUNS BY HAND: states told by rows. -/
def tl (N : Nat) (i : Nat) : Int32 := bif Nat.beq ((N / 2 ^ (11 * i)) % 2048) 0 then -1 else nI ((N / 2 ^ (11 * i)) % 2048 - 1)
/-- the timetable that is now, by a row -/
def nrm (N n : Nat) (S : Sta) : Sta := ((tl N, n), S.2)
def nrq (N n : Nat) (S : Sta) : Bool := Nat.beq S.1.2 n && (List.range (16 + 7 * n)).all (fun i => decide (tl N i = S.1.1 i))
theorem RS.nrm {h : HP} {S : Sta} {N n : Nat} (hs : RS h S) (hq : nrq N n S = true) : RS h (nrm N n S) := by
  unfold nrq at hq
  rw [Bool.and_eq_true_iff] at hq
  have e := am_beq hq.1
  exact hs.agree e.symm (fun i hi => of_decide_eq_true (List.all_eq_true.mp hq.2 i (List.mem_range.mpr (by rw [← e]; exact hi))))
theorem At.nrm {h : HP} {S : Sta} {g N n : Nat} (ha : At h S g) (hq : nrq N n S = true) : At h (nrm N n S) g := ⟨ha.1.nrm hq, ha.2⟩
def thrB : Rsl → Bool
  | .inl _ => true
  | .inr _ => false
theorem dz_callT {ro : List Sh} {S : Sta} {v : Int32} (w a b : Int32) (m : Int64) (h1 : thrB (s_leafR S (cj w) a b (mc1 m) (mc2 m) (mc3 m)) = true) (h2 : (s_call S w a b m).1 = v) : Dz d_L_call ro [.int w, .int a, .int b, .long m] S (.int v) S := by
  have e : (s_call S w a b m).2 = S := by
    show (rs (s_leafR S (cj w) a b (mc1 m) (mc2 m) (mc3 m)) S).2 = S
    cases hl : s_leafR S (cj w) a b (mc1 m) (mc2 m) (mc3 m) with
    | inl E => rfl
    | inr q => rw [hl] at h1; cases h1
  have h := dz_call (ro := ro) w a b m h2
  rw [e] at h; exact h
/-- a run's end -/
def RQ : AR → HP → Prop := fun r H => r = .inl (some (.int 1)) ∧ (H.1 2000 0).toNatClampNeg ≤ 1000
section WK2
variable {M : MI} {sh ro : List Sh} {P : AR → HP → Prop} {pc i : Nat} {ls st : List Value} {h : HP}
theorem wk_irem {x y z : Int32} (hc : (m_code M pc).1 = .irem) (hy : ¬ y = 0) (e : x - x / y * y = z) (k : am_Ev M sh ro P (pc + 1, ls, .int z :: st, h)) : am_Ev M sh ro P (pc, ls, .int y :: .int x :: st, h) := am_Ev_F (by
  unfold am_F am_Fi; dsimp only; rw [hc]; dsimp only; rw [e]; exact ⟨hy, k⟩)
theorem wk_imul {x y z : Int32} (hc : (m_code M pc).1 = .imul) (e : x * y = z) (k : am_Ev M sh ro P (pc + 1, ls, .int z :: st, h)) : am_Ev M sh ro P (pc, ls, .int y :: .int x :: st, h) := am_Ev_F (by
  unfold am_F am_Fi; dsimp only; rw [hc]; dsimp only; rw [e]; exact k)
theorem wk_iinc {a : Nat} {c : Int} {x z : Int32} (hc : (m_code M pc).1 = .iinc a c) (hl : ls[(m_code M pc).2.2.1]? = some (.int x)) (ho : am_ok1 ls (m_code M pc).2.2.1 = true) (e : x + (m_code M pc).2.1 = z) (k : am_Ev M sh ro P (pc + 3, ls.set (m_code M pc).2.2.1 (.int z), st, h)) : am_Ev M sh ro P (pc, ls, st, h) := am_Ev_F (by
  unfold am_F am_Fi; dsimp only; rw [hc]; dsimp only; rw [hl]; dsimp only; rw [ho, e]; exact k)
end WK2
