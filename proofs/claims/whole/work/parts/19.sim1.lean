theorem mWts_at (v : St) (r : Nat) (x y : Int32) (q k : Nat) : mWts v r x y q k = if q = 8 ∧ k = r then y else if q = 7 ∧ k = r then x else if q = 6 ∧ k = r then -1 else v q k := by
  simp only [mWts, up2_at]
theorem rOff_at (u : St) (j i : Nat) (x : Int32) (q k : Nat) : rOff u j i x q k = if q = 1 ∧ k = i then x else if q = 8 ∧ k = j then -1 else u q k := by
  simp only [rOff, up2_at]
/-- a row leaves its processor: it waits for something, or for nothing -/
theorem zOffB {N n m t lt tk : Nat} {u v u' : St} {pl : Nat → Nat} (S : zSc N n m t lt tk u v) (M : zNum m lt v pl) (Rw : ∀ k, k < m → zRow N m u v (pl k) k) (Cv : zCov N m u v pl) (hn : n < 600)
    {r j : Nat} (hr : r < m) (hj : j < N) (e6 : v 6 r = nI j) (h3 : v 3 r = 0) (w y : Int32)
    (hu : ∀ q a, ¬ (q = 8 ∧ a = j) → ¬ (q = 1 ∧ a = pl r) → ¬ (q = 5 ∧ a = pl r) → ¬ (q = 6 ∧ a = pl r) → ¬ (q = 7 ∧ a = pl r) → u' q a = u q a) (h8 : u' 8 j = -1)
    (h1 : u' 1 (pl r) = sF 0 (-1) w y (v 9 3) (decide (mEnd v m r < 0)))
    (hw : u' 1 (pl r) = 3 → u' 5 (pl r) = w ∧ (w = 1 → u' 6 (pl r) = y) ∧ (w = 3 → zTm (u' 7 (pl r)) (v 9 3) y)) : zN N (n + 1) u' (mWts v r w y) := by
  have hm := S.2.1
  have hN : N ≤ 4 := S.2.2.2.2.2.2.2.2.2.1
  have hother : ∀ k, k < m → ¬ k = r → ¬ pl k = pl r := fun k hk hkr e => hkr (M.2.2.1 k r hk hr e)
  have hne : ∀ k, k < m → (zNE (mWts v r w y) m k ↔ zNE v m k) := fun k hk => zNE_cg (fun c _ => by constructor <;> simp [mWts_at]) (by simp [mWts_at])
  have hd : decide (mEnd (mWts v r w y) m r < 0) = decide (mEnd v m r < 0) := by
    rw [decide_eq_decide, mEnd_neg hm, mEnd_neg hm]
    exact hne r hr
  have ha : ∀ q a, ¬ q = 8 → ¬ q = 1 → ¬ q = 5 → ¬ q = 6 → ¬ q = 7 → u' q a = u q a := fun q a b1 b2 b3 b4 b5 => hu q a (fun z => b1 z.1) (fun z => b2 z.1) (fun z => b3 z.1) (fun z => b4 z.1) (fun z => b5 z.1)
  refine ⟨m, t, lt, tk, pl, ?_, ?_, ?_, ?_, ?_, ?_⟩
  · obtain ⟨a1, a2, a3, a4, a5, a6, a7, a8, a9, b1, b2, b3, b4, b5, b6, b7, b8, b9, b0⟩ := S
    have e9 : ∀ a, u' 9 a = u 9 a := fun a => ha 9 a (by decide) (by decide) (by decide) (by decide) (by decide)
    refine ⟨by simpa [mWts_at] using a1, a2, by simpa [mWts_at] using a3, by simpa [mWts_at] using a4, ?_, a6, by simpa [mWts_at] using a7, ?_, a9, b1, ?_, ?_, by simpa [mWts_at] using b4, by omega, by simpa [mWts_at] using b6, by omega, by omega, ?_, ?_⟩
    · intro k hk
      simpa [mWts_at] using a5 k hk
    · rw [e9]; simpa [mWts_at] using a8
    · rw [e9]; simpa [mWts_at] using b2
    · rw [e9]; simpa [mWts_at] using b3
    · rw [e9]; simpa [mWts_at] using b9
    · rw [e9]; exact b0
  · obtain ⟨c1, c2, c3, c4, c5, c6, c7⟩ := M
    refine ⟨fun k hk => by simpa [mWts_at] using c1 k hk, fun k j hk hj => by simpa [mWts_at] using c2 k j hk hj, c3, fun k hk => by simpa [mWts_at] using c4 k hk, fun k hk => by simpa [mWts_at] using c5 k hk, fun k hk => by simpa [mWts_at] using c6 k hk, c7⟩
  · intro k hk
    by_cases e : k = r
    · subst e
      obtain ⟨a1, a2, a3, a4, a5, a6, a7, a8, a9⟩ := Rw k hr
      refine ⟨a1, by simpa [mWts_at] using a2, ?_, ?_, ?_, ?_, ?_, ?_, ?_⟩
      · rw [ha 0 _ (by decide) (by decide) (by decide) (by decide) (by decide)]; simpa [mWts_at] using a3
      · rw [ha 2 _ (by decide) (by decide) (by decide) (by decide) (by decide)]; simpa [mWts_at] using a4
      · rw [ha 3 _ (by decide) (by decide) (by decide) (by decide) (by decide)]; simpa [mWts_at] using a5
      · rw [ha 4 _ (by decide) (by decide) (by decide) (by decide) (by decide)]; simpa [mWts_at] using a6
      · rw [h1, mSta_sF, hd]
        simp [mWts_at, h3]
      · intro q
        have := hw q
        unfold zWt
        simpa [mWts_at] using this
      · exact Or.inl (by simp [mWts_at])
    · have ep := hother k hk e
      refine zRow_cg (Rw k hk) (fun q hq => hu q _ (fun z => by omega) (fun z => ep z.2) (fun z => ep z.2) (fun z => ep z.2) (fun z => ep z.2)) (fun q hq => by simp [mWts_at, e]) (by simp [mWts_at]) hm hm (fun _ => hne k hk) (fun j' hj' e8 => ?_)
      by_cases ej : j' = j
      · subst ej
        rcases (Rw r hr).2.2.2.2.2.2.2.2 with z | ⟨-, -, j2, hj2, z1, z2⟩
        · rw [z] at e6; exact absurd e6.symm (nI_m1 (show j' < 2 ^ 31 by omega))
        · rw [e6] at z1
          have := nI_inj z1 (by omega) (by omega)
          subst this
          rw [e8] at z2
          have g1 := (Rw k hk).1
          have g2 := (Rw r hr).1
          exact absurd (nI_inj z2 (by omega) (by omega)) ep
      · rw [hu 8 j' (fun z => ej z.2) (fun z => absurd z.1 (by decide)) (fun z => absurd z.1 (by decide)) (fun z => absurd z.1 (by decide)) (fun z => absurd z.1 (by decide))]
        exact e8
  · intro i hi h0
    by_cases e : i = pl r
    · exact ⟨r, hr, e.symm⟩
    · rw [hu 1 i (fun z => absurd z.1 (by decide)) (fun z => e z.2) (fun z => absurd z.1 (by decide)) (fun z => absurd z.1 (by decide)) (fun z => absurd z.1 (by decide))] at h0
      exact Cv.1 i hi h0
  · intro i hi h0
    by_cases e : i = pl r
    · rw [e, h1] at h0
      exact absurd h0 (sF_ne _ _ _ _ _ _)
    · rw [hu 1 i (fun z => absurd z.1 (by decide)) (fun z => e z.2) (fun z => absurd z.1 (by decide)) (fun z => absurd z.1 (by decide)) (fun z => absurd z.1 (by decide))] at h0
      rw [ha 3 _ (by decide) (by decide) (by decide) (by decide) (by decide), ha 4 _ (by decide) (by decide) (by decide) (by decide) (by decide)]
      exact Cv.2.1 i hi h0
  · intro j' hj'
    by_cases ej : j' = j
    · rw [ej]; exact Or.inl h8
    · rw [hu 8 j' (fun z => ej z.2) (fun z => absurd z.1 (by decide)) (fun z => absurd z.1 (by decide)) (fun z => absurd z.1 (by decide)) (fun z => absurd z.1 (by decide))]
      rcases Cv.2.2 j' hj' with q | ⟨k, hk, q1, q2⟩
      · exact Or.inl q
      · have e : ¬ k = r := fun z => by
          rw [z, e6] at q2
          exact ej (nI_inj q2 (by omega) (by omega)).symm
        exact Or.inr ⟨k, hk, q1, by simpa [mWts_at, e] using q2⟩
theorem sim_block {N n m t : Nat} {u v : St} (h : zB N n m t u v) (hn : n < 600) (x y : Int32) : (rBlo N u x y).1 = (mBlo v m x y).1 ∧ zN N (n + 1) (rBlo N u x y).2 (mBlo v m x y).2 := by
  have h' := h
  obtain ⟨lt, tk, pl, S, M, Rw, Cv⟩ := h
  rcases zOn S M Rw Cv x with ⟨e1, e2⟩ | ⟨j, r, hj, hr, rfl, e6, e8, e1, e2, z3, z7⟩
  · have a : rBlo N u x y = (-1, u) := by simp [rBlo, e1]
    have b : mBlo v m x y = (-1, v) := by simp [mBlo, e2, nn_m1]
    rw [a, b]
    exact ⟨rfl, h'.up hn⟩
  · have g := (Rw r hr).1
    have hN : N ≤ 4 := S.2.2.2.2.2.2.2.2.2.1
    have hm := S.2.1
    have c1 := nI_clamp (show pl r < 2 ^ 31 by omega)
    have c2 := nI_clamp (show r < 2 ^ 31 by omega)
    have c3 := nI_clamp (show j < 2 ^ 31 by omega)
    have n1 := nI_m1 (show pl r < 2 ^ 31 by omega)
    have n2 := nI_pos' (show r < 2 ^ 31 by omega)
    have a : rBlo N u (nI j) y = (nI (pl r), up2 (up2 (rOff u j (pl r) 3) 5 (pl r) 1) 6 (pl r) y) := by simp [rBlo, e1, n1, cl, c1, c3]
    have b : mBlo v m (nI j) y = ((mWts v r 1 y) 1 r, mWts v r 1 y) := by simp [mBlo, e2, n2, cl, c2]
    rw [a, b]
    refine ⟨by simp [mWts_at, (Rw r hr).2.1], ?_⟩
    refine zOffB S M Rw Cv hn hr hj e6 z3 1 y (fun q a b1 b2 b3 b4 b5 => ?_) ?_ ?_ ?_
    · simp only [up2_at, rOff_at]
      rw [if_neg b4, if_neg b3, if_neg b2, if_neg b1]
    · simp [up2_at, rOff_at]
    · simp [up2_at, rOff_at, sF, m1_neg]
    · intro _
      simp [up2_at, rOff_at]
theorem sim_rest {N n m t : Nat} {u v : St} (h : zB N n m t u v) (hn : n < 600) (x : Int32) : (rRst N u x).1 = (mRst v m x).1 ∧ zN N (n + 1) (rRst N u x).2 (mRst v m x).2 := by
  have h' := h
  obtain ⟨lt, tk, pl, S, M, Rw, Cv⟩ := h
  rcases zOn S M Rw Cv x with ⟨e1, e2⟩ | ⟨j, r, hj, hr, rfl, e6, e8, e1, e2, z3, z7⟩
  · have a : rRst N u x = (-1, u) := by simp [rRst, e1]
    have b : mRst v m x = (-1, v) := by simp [mRst, e2, nn_m1]
    rw [a, b]
    exact ⟨rfl, h'.up hn⟩
  · have g := (Rw r hr).1
    have hN : N ≤ 4 := S.2.2.2.2.2.2.2.2.2.1
    have hm := S.2.1
    have c1 := nI_clamp (show pl r < 2 ^ 31 by omega)
    have c2 := nI_clamp (show r < 2 ^ 31 by omega)
    have c3 := nI_clamp (show j < 2 ^ 31 by omega)
    have n1 := nI_m1 (show pl r < 2 ^ 31 by omega)
    have n2 := nI_pos' (show r < 2 ^ 31 by omega)
    have a : rRst N u (nI j) = (nI (pl r), rOff u j (pl r) 1) := by simp [rRst, e1, n1, cl, c1, c3]
    have b : mRst v m (nI j) = ((mWts v r 0 0) 1 r, mWts v r 0 0) := by simp [mRst, e2, n2, cl, c2]
    rw [a, b]
    refine ⟨by simp [mWts_at, (Rw r hr).2.1], ?_⟩
    refine zOffB S M Rw Cv hn hr hj e6 z3 0 0 (fun q a b1 b2 b3 b4 b5 => ?_) ?_ ?_ ?_
    · simp only [rOff_at]
      rw [if_neg b2, if_neg b1]
    · simp [rOff_at]
    · simp [rOff_at, sF, m1_neg]
    · intro q
      simp [rOff_at] at q
theorem sim_status {N n m t : Nat} {u v : St} (h : zB N n m t u v) (hn : n < 600) : u 9 3 = v 9 6 ∧ zN N (n + 1) u v := by
  refine ⟨?_, h.up hn⟩
  obtain ⟨lt, tk, pl, S, -⟩ := h
  exact S.2.2.2.2.2.2.2.1
