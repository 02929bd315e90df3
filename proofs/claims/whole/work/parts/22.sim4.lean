theorem zk_snoc {P : Nat → Bool} : ∀ (n i c : Nat), zk P (n + 1) i c = zk P n i c + (if P (i + n) = true then 1 else 0)
  | 0, i, c => by
    simp only [zk, Nat.add_zero]
    split <;> rfl
  | n + 1, i, c => by
    have h := zk_snoc (P := P) n (i + 1) (if P i = true then c + 1 else c)
    rw [show i + 1 + n = i + (n + 1) by omega] at h
    exact h
theorem zk_off {P : Nat → Bool} {i0 : Nat} : ∀ (n i c : Nat), i ≤ i0 → i0 < i + n → zk P n i c = zk (fun j => if j = i0 then false else P j) n i c + (if P i0 = true then 1 else 0)
  | 0, i, c, h1, h2 => absurd h2 (by omega)
  | n + 1, i, c, h1, h2 => by
    rw [zk_snoc, zk_snoc]
    by_cases e : i0 = i + n
    · have hc : zk P n i c = zk (fun j => if j = i0 then false else P j) n i c := zk_congr n i c (fun j a b => by
        have : ¬ j = i0 := by omega
        simp [this])
      rw [hc, ← e]
      simp
    · have h := zk_off (P := P) (i0 := i0) n i c h1 (by omega)
      have : ¬ i + n = i0 := fun z => e z.symm
      rw [h]
      simp only [this, if_false]
      omega
theorem zk_zero {P : Nat → Bool} : ∀ (n i c : Nat), (∀ j, i ≤ j → j < i + n → P j = false) → zk P n i c = c
  | 0, i, c, _ => rfl
  | n + 1, i, c, h => by
    rw [zk_snoc, zk_zero n i c (fun j a b => h j a (by omega)), h (i + n) (by omega) (by omega)]
    simp
theorem zk_le {P : Nat → Bool} : ∀ (n i c : Nat), zk P n i c ≤ c + n
  | 0, i, c => Nat.le_refl _
  | n + 1, i, c => by
    rw [zk_snoc]
    have := zk_le (P := P) n i c
    split <;> omega
theorem zk_all : ∀ (n i c : Nat), zk (fun _ => true) n i c = c + n
  | 0, i, c => rfl
  | n + 1, i, c => by
    rw [zk_snoc, zk_all n i c]
    simp
    omega
/-- counting places is counting rows -/
theorem zk_bij : ∀ (m : Nat) (pl : Nat → Nat) (P : Nat → Bool), (∀ k, k < m → pl k < 15) → (∀ k j, k < m → j < m → pl k = pl j → k = j) → (∀ i, i < 15 → P i = true → ∃ k, k < m ∧ pl k = i) → zk P 15 0 0 = zk (fun k => P (pl k)) m 0 0
  | 0, pl, P, h1, h2, h3 => by
    rw [zk_zero 15 0 0 (fun j _ b => by
      cases e : P j with
      | false => rfl
      | true =>
        obtain ⟨k, hk, -⟩ := h3 j (by omega) e
        omega)]
    rfl
  | m + 1, pl, P, h1, h2, h3 => by
    rw [zk_off (i0 := pl m) 15 0 0 (Nat.zero_le _) (by have := h1 m (by omega); omega), zk_snoc (P := fun k => P (pl k)) m 0 0, Nat.zero_add]
    have h := zk_bij m pl (fun j => if j = pl m then false else P j) (fun k hk => h1 k (by omega)) (fun k j hk hj e => h2 k j (by omega) (by omega) e) (fun i hi e => by
      have ne : ¬ i = pl m := fun z => by simp [z] at e
      simp only [ne, if_false] at e
      obtain ⟨k, hk, ek⟩ := h3 i hi e
      refine ⟨k, ?_, ek⟩
      rcases Nat.lt_or_eq_of_le (Nat.le_of_lt_succ hk) with z | z
      · exact z
      · rw [z] at ek; exact absurd ek.symm ne)
    rw [h]
    congr 1
    refine zk_congr m 0 0 (fun k _ hk => ?_)
    have : ¬ pl k = pl m := fun z => by
      have := h2 k m (by omega) (by omega) z
      omega
    simp [this]
theorem sim_count {N n m t : Nat} {u v : St} (h : zB N n m t u v) (hn : n < 600) (x : Int32) : rCnt u x = mCnt v m x ∧ zN N (n + 1) u v := by
  refine ⟨?_, h.up hn⟩
  obtain ⟨lt, tk, pl, S, M, Rw, Cv⟩ := h
  unfold rCnt mCnt mCnt1
  have e := zk_bij m pl (fun j => if x = 0 then decide (¬ u 1 j = 0) else decide (u 1 j = x)) (fun k hk => (Rw k hk).1) M.2.2.1 (fun i hi e => Cv.1 i hi (fun z => by
    by_cases q : x = 0
    · simp [q, z] at e
    · simp [q, z] at e
      exact q e.symm))
  rw [e]
  have e2 : zk (fun k => (fun j => if x = 0 then decide (¬ u 1 j = 0) else decide (u 1 j = x)) (pl k)) m 0 0 = zk (fun k => if x = 0 then true else decide (mSta v m k = x)) m 0 0 := zk_congr m 0 0 (fun k _ hk => by
    have g := (Rw k (by omega)).2.2.2.2.2.2.1
    by_cases q : x = 0
    · have := mSta_ne v m k
      simp [q, g, this]
    · simp [q, g])
  rw [e2]
/-- a free place: fewer than fifteen rows -/
theorem zRoom {N m lt : Nat} {u v : St} {pl : Nat → Nat} (M : zNum m lt v pl) (Rw : ∀ k, k < m → zRow N m u v (pl k) k) (Cv : zCov N m u v pl) {i : Nat} (hi : i < 15) (h0 : u 1 i = 0) : m < 15 := by
  have e := zk_bij m pl (fun j => decide (¬ u 1 j = 0)) (fun k hk => (Rw k hk).1) M.2.2.1 (fun i hi e => Cv.1 i hi (by simpa using e))
  have e2 : zk (fun k => (fun j => decide (¬ u 1 j = 0)) (pl k)) m 0 0 = zk (fun _ => true) m 0 0 := zk_congr m 0 0 (fun k _ hk => by
    have g := (Rw k (by omega)).2.2.2.2.2.2.1
    have := mSta_ne v m k
    simp [g, this])
  rw [e2, zk_all] at e
  have e3 := zk_off (P := fun j => if j = i then true else decide (¬ u 1 j = 0)) (i0 := i) 15 0 0 (Nat.zero_le _) (by omega)
  have e4 : zk (fun j => if j = i then false else (fun j => if j = i then true else decide (¬ u 1 j = 0)) j) 15 0 0 = zk (fun j => decide (¬ u 1 j = 0)) 15 0 0 := zk_congr 15 0 0 (fun j _ _ => by
    by_cases q : j = i
    · simp [q, h0]
    · simp [q])
  rw [e4, e] at e3
  have e5 := zk_le (P := fun j => if j = i then true else decide (¬ u 1 j = 0)) 15 0 0
  have e6 : (if (fun j => if j = i then true else decide (¬ u 1 j = 0)) i = true then 1 else 0) = 1 := by simp
  rw [e6] at e3
  omega
theorem zl_8 : ∀ (n i : Nat) (w : St) (q a : Nat), zl (fun i v => up2 v 8 i (-1)) n i w q a = if q = 8 ∧ i ≤ a ∧ a < i + n then -1 else w q a
  | 0, i, w, q, a => by
    rw [if_neg (by omega)]
    rfl
  | n + 1, i, w, q, a => by
    have h := zl_8 n (i + 1) (up2 w 8 i (-1)) q a
    show zl (fun i v => up2 v 8 i (-1)) n (i + 1) (up2 w 8 i (-1)) q a = _
    rw [h, up2_at]
    by_cases e : q = 8
    · subst e
      by_cases e1 : a = i
      · subst e1
        simp
      · have e2 : (i + 1 ≤ a ∧ a < i + 1 + n) ↔ (i ≤ a ∧ a < i + (n + 1)) := by omega
        simp [e1, e2]
    · simp [e]
theorem sim_new {N : Nat} (h1 : 1 ≤ N) (h4 : N ≤ 4) : zN N 0 (rU0 N) (mU0 N) := by
  refine ⟨0, 0, 0, 0, fun _ => 0, ?_, ?_, ?_, ?_, ?_, ?_⟩
  · refine ⟨by simp [mU0, up2_at, rZ, nI_0], by omega, by simp [mU0, up2_at, rZ], by simp [mU0, up2_at], ?_, by omega, by simp [mU0, up2_at, rZ, nI_0], by simp [rU0, mU0, up2_at, rZ], h1, h4, by simp [rU0, mU0, up2_at, rZ], by simp [rU0, mU0, up2_at, rZ], by simp [mU0, up2_at, rZ, nI_0], by omega, by simp [mU0, up2_at, rZ, nI_0], by omega, by omega, fun z => absurd z (by omega), 14, by omega, ?_⟩
    · intro k hk
      simp [mU0, up2_at, rZ]
    · simp [rU0, up2_at]
      rfl
  · exact ⟨fun k hk => absurd hk (by omega), fun k j hk => absurd hk (by omega), fun k j hk => absurd hk (by omega), fun k hk => absurd hk (by omega), fun k hk => absurd hk (by omega), fun k hk => absurd hk (by omega), fun z => absurd z (by omega)⟩
  · exact fun k hk => absurd hk (by omega)
  · intro i hi z
    simp [rU0, up2_at, zl_8, rZ] at z
  · intro i hi z
    simp [rU0, up2_at, zl_8, rZ]
  · intro j hj
    left
    simp [rU0, up2_at, zl_8, hj]
theorem mAdd_at (v : St) (m : Nat) (x y : Int32) (q k : Nat) : mAdd v m x y q k = if q = 9 ∧ k = 2 then nI (m + 1) else if q = 7 ∧ k = m then 0 else if q = 6 ∧ k = m then -1 else if q = 5 ∧ k = m then 0 else if q = 4 ∧ k = m then 0 else if q = 3 ∧ k = m then 0 else if q = 2 ∧ k = m then y else if q = 1 ∧ k = m then x else if q = 0 ∧ k = m then v 9 4 + 1 else if q = 9 ∧ k = 4 then v 9 4 + 1 else v q k := by
  simp [mAdd, mAdd1, up2_at]
theorem rSet_at (u : St) (i : Nat) (x y : Int32) (q k : Nat) : rSet u i x y q k = if q = 1 ∧ k = i then 1 else if q = 2 ∧ k = i then y else if q = 0 ∧ k = i then x else u q k := by
  simp only [rSet, up2_at]
theorem sim_first {N n m t : Nat} {u v : St} (h : zB N n m t u v) (hn : n < 600) : (rFst u).1 = (mFst v m).1 ∧ zN N (n + 1) (rFst u).2 (mFst v m).2 := by
  have h' := h
  obtain ⟨lt, tk, pl, S, M, Rw, Cv⟩ := h
  rcases Nat.eq_zero_or_pos m with q | q
  · subst q
    have free : ∀ i, i < 15 → u 1 i = 0 := fun i hi => by
      by_cases z : u 1 i = 0
      · exact z
      · obtain ⟨k, hk, -⟩ := Cv.1 i hi z
        omega
    have e0 := free 0 (by omega)
    have a : rFst u = (1, rSet (up2 (up2 (up2 u 9 2 0) 9 0 14) 9 1 1) 0 1 0) := by simp [rFst, rIsE, e0]
    have b : mFst v 0 = (1, mAdd (up2 (up2 (up2 v 9 3 0) 9 4 0) 9 5 14) 0 0 0) := by simp [mFst, nI_0]
    rw [a, b]
    have hf := Cv.2.1 0 (by omega) e0
    obtain ⟨p1, p2, p3, p4, p5, p6, p7, p8, p9, b1, b2, b3, b4, b5, b6, b7, b8, b9, b0⟩ := S
    refine ⟨rfl, 1, 14, 1, 0, fun _ => 0, ?_, ?_, ?_, ?_, ?_, ?_⟩
    · refine ⟨by simp [mAdd_at], by omega, by simpa [mAdd_at, up2_at] using p3, by simpa [mAdd_at, up2_at] using p4, ?_, by omega, ?_, by simpa [mAdd_at, up2_at, rSet_at] using p8, p9, b1, by simp [mAdd_at, up2_at, rSet_at], by simp [mAdd_at, up2_at, rSet_at], by simp [mAdd_at, up2_at, nI_0], by omega, ?_, by omega, by omega, fun _ => by simp [mAdd_at, up2_at, rSet_at], 14, by omega, ?_⟩
      · intro k hk
        have := p5 k hk
        by_cases e : k = 0
        · simp [mAdd_at, up2_at, e]
        · simpa [mAdd_at, up2_at, e] using this
      · simp [mAdd_at, up2_at]
        rfl
      · simp [mAdd_at, up2_at]
        rfl
      · simp [up2_at, rSet_at]
        rfl
    · refine ⟨fun k hk => ⟨1, by omega, by omega, ?_⟩, fun k j hk hj _ => by omega, fun k j hk hj _ => by omega, fun k hk => ⟨fun _ => rfl, fun _ => ?_⟩, fun k hk _ => ?_, fun k hk => ?_, fun _ => ⟨0, by omega, rfl⟩⟩
      · have e : k = 0 := by omega
        simp [mAdd_at, up2_at, e]
        rfl
      · have e : k = 0 := by omega
        simp [mAdd_at, up2_at, e]
      · have e : k = 0 := by omega
        simp [mAdd_at, e]
      · have e : k = 0 := by omega
        simp [mAdd_at, up2_at, e]
    · intro k hk
      have e : k = 0 := by omega
      subst e
      refine ⟨by show 0 < 15; omega, by simp [mAdd_at, nI_0], by simp [mAdd_at, up2_at, rSet_at], by simp [mAdd_at, up2_at, rSet_at], by simpa [mAdd_at, up2_at, rSet_at] using hf.1, by simpa [mAdd_at, up2_at, rSet_at] using hf.2, ?_, ?_, Or.inl (by simp [mAdd_at])⟩
      · rw [mSta_sF]
        simp [mAdd_at, rSet_at, sF, m1_neg]
      · intro z
        simp [rSet_at] at z
    · intro i hi z
      by_cases e : i = 0
      · exact ⟨0, by omega, e.symm⟩
      · have := free i hi
        simp [rSet_at, up2_at, e, this] at z
    · intro i hi z
      by_cases e : i = 0
      · simp [rSet_at, e] at z
      · have := Cv.2.1 i hi (free i hi)
        simpa [rSet_at, up2_at, e] using this
    · intro j hj
      rcases Cv.2.2 j hj with z | ⟨k, hk, -⟩
      · left
        simpa [rSet_at, up2_at] using z
      · omega
  · obtain ⟨k, hk, e⟩ := M.2.2.2.2.2.2 q
    have g := (Rw k hk).2.2.2.2.2.2.1
    rw [e] at g
    have h0 : ¬ u 1 0 = 0 := by rw [g]; exact mSta_ne _ _ _
    have hm := S.2.1
    have a : rFst u = (0, u) := by simp [rFst, rIsE, h0]
    have hz : ¬ nI m ≤ 0 := nI_nle q (by omega)
    have b : mFst v m = (0, v) := by simp [mFst, hz]
    rw [a, b]
    exact ⟨rfl, h'.up hn⟩
