/-! WHAT HOLDS BETWEEN THE CLASS'S STATE u AND THE REFERENCE'S v AFTER n CALLS: m rows; pl k is the place of row k. -/
/-- a wait for a time: what is left and what has gone come to the hour -/
def zTm (a b c : Int32) : Prop := 0 < a.toInt ∧ (c.toInt = a.toInt + b.toInt ∨ (c.toInt = 2147483647 ∧ 2147483647 ≤ a.toInt + b.toInt))
/-- the wait of a row that is blocked, at place i -/
def zWt (u v : St) (i k : Nat) : Prop := u 5 i = v 7 k ∧ (v 7 k = 1 → u 6 i = v 8 k) ∧ (v 7 k = 3 → zTm (u 7 i) (v 9 3) (v 8 k))
def zRow (N m : Nat) (u v : St) (i k : Nat) : Prop :=
  i < 15 ∧ v 1 k = nI i ∧ u 0 i = v 0 k ∧ u 2 i = v 2 k ∧ u 3 i = v 5 k ∧ u 4 i = (if v 3 k = 0 then 0 else v 4 k) ∧ u 1 i = mSta v m k ∧
  (u 1 i = 3 → zWt u v i k) ∧ (v 6 k = -1 ∨ (v 3 k = 0 ∧ v 7 k = 0 ∧ ∃ j, j < N ∧ v 6 k = nI j ∧ u 8 j = nI i))
/-- the rows' numbers, places, parents -/
def zNum (m lt : Nat) (v : St) (pl : Nat → Nat) : Prop :=
  (∀ k, k < m → ∃ q, 1 ≤ q ∧ q ≤ lt ∧ v 0 k = nI q) ∧ (∀ k j, k < m → j < m → v 0 k = v 0 j → k = j) ∧ (∀ k j, k < m → j < m → pl k = pl j → k = j) ∧
  (∀ k, k < m → (v 0 k = 1 ↔ pl k = 0)) ∧ (∀ k, k < m → v 0 k = 1 → v 2 k = 0) ∧ (∀ k, k < m → ¬ v 2 k = v 0 k) ∧ (0 < m → ∃ k, k < m ∧ pl k = 0)
def zCov (N m : Nat) (u v : St) (pl : Nat → Nat) : Prop :=
  (∀ i, i < 15 → ¬ u 1 i = 0 → ∃ k, k < m ∧ pl k = i) ∧ (∀ i, i < 15 → u 1 i = 0 → u 3 i = 0 ∧ u 4 i = 0) ∧ (∀ j, j < N → u 8 j = -1 ∨ ∃ k, k < m ∧ u 8 j = nI (pl k) ∧ v 6 k = nI j)
def zSc (N n m t lt tk : Nat) (u v : St) : Prop :=
  v 9 2 = nI m ∧ m ≤ 15 ∧ v 9 0 = 0 ∧ v 9 1 = nI N ∧ mB v ∧ t < 15 ∧ v 9 5 = nI t ∧ u 9 3 = v 9 6 ∧ 1 ≤ N ∧ N ≤ 4 ∧ u 9 2 = v 9 3 ∧ u 9 1 = v 9 4 ∧ v 9 3 = nI tk ∧ tk ≤ n ∧ v 9 4 = nI lt ∧ lt ≤ n ∧ n ≤ 1000 ∧ (0 < m → u 9 0 = v 9 5) ∧ ∃ t0, t0 < 15 ∧ u 9 0 = nI t0
def zB (N n m t : Nat) (u v : St) : Prop := ∃ (lt tk : Nat) (pl : Nat → Nat), zSc N n m t lt tk u v ∧ zNum m lt v pl ∧ (∀ k, k < m → zRow N m u v (pl k) k) ∧ zCov N m u v pl
/-- the two states go on alike -/
def zN (N n : Nat) (u v : St) : Prop := ∃ m t, zB N n m t u v
theorem zB.m {N n m t : Nat} {u v : St} (h : zB N n m t u v) : v 9 2 = nI m := by
  obtain ⟨lt, tk, pl, h, -⟩ := h
  exact h.1
theorem zB.m15 {N n m t : Nat} {u v : St} (h : zB N n m t u v) : m ≤ 15 := by
  obtain ⟨lt, tk, pl, h, -⟩ := h
  exact h.2.1
theorem zB.th {N n m t : Nat} {u v : St} (h : zB N n m t u v) : v 9 0 = 0 := by
  obtain ⟨lt, tk, pl, h, -⟩ := h
  exact h.2.2.1
theorem zB.b {N n m t : Nat} {u v : St} (h : zB N n m t u v) : mB v := by
  obtain ⟨lt, tk, pl, h, -⟩ := h
  exact h.2.2.2.2.1
theorem zB.t {N n m t : Nat} {u v : St} (h : zB N n m t u v) : t < 15 ∧ v 9 5 = nI t := by
  obtain ⟨lt, tk, pl, h, -⟩ := h
  exact ⟨h.2.2.2.2.2.1, h.2.2.2.2.2.2.1⟩
theorem zB.I {N n m t : Nat} {u v : St} (h : zB N n m t u v) : rI N u := by
  obtain ⟨lt, tk, pl, h, h2, h3, h4⟩ := h
  refine ⟨fun j hj => ?_, h.2.2.2.2.2.2.2.2.2.2.2.2.2.2.2.2.2.2⟩
  rcases h4.2.2 j hj with q | ⟨k, hk, q, -⟩
  · exact Or.inl q
  · exact Or.inr ⟨pl k, (h3 k hk).1, q⟩
theorem zB.N {N n m t : Nat} {u v : St} (h : zB N n m t u v) : 1 ≤ N ∧ N ≤ 4 := by
  obtain ⟨lt, tk, pl, h, -⟩ := h
  exact ⟨h.2.2.2.2.2.2.2.2.1, h.2.2.2.2.2.2.2.2.2.1⟩
