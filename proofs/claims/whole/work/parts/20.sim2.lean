theorem i_add {a b : Int32} (h1 : -2147483648 ≤ a.toInt + b.toInt) (h2 : a.toInt + b.toInt < 2147483648) : (a + b).toInt = a.toInt + b.toInt := by
  rw [Int32.toInt_add, Int.bmod_def]
  split <;> omega
theorem i_sub {a b : Int32} (h1 : -2147483648 ≤ a.toInt - b.toInt) (h2 : a.toInt - b.toInt < 2147483648) : (a - b).toInt = a.toInt - b.toInt := by
  rw [Int32.toInt_sub, Int.bmod_def]
  split <;> omega
theorem i_max (a : Int32) : a.toInt < 2147483648 := by
  have := Int32.toInt_lt a
  omega
theorem i_min (a : Int32) : -2147483648 ≤ a.toInt := by
  have := Int32.le_toInt a
  omega
theorem zSlp {v : St} {tk : Nat} {y : Int32} (ht : v 9 3 = nI tk) (hk : tk ≤ 1000) (hy : 1 ≤ y) : zTm y (v 9 3) (mSlpW v y) ∧ ¬ mSlpW v y ≤ v 9 3 := by
  have e1 : (1 : Int32).toInt = 1 := by decide
  have e2 : (2147483647 : Int32).toInt = 2147483647 := by decide
  have e3 : (v 9 3).toInt = tk := by rw [ht, nI_toInt (by omega)]
  rw [Int32.le_iff_toInt_le, e1] at hy
  have hx := i_max y
  have e4 : ((2147483647 : Int32) - y).toInt = 2147483647 - y.toInt := by rw [i_sub (by omega) (by omega), e2]
  unfold mSlpW zTm
  by_cases q : v 9 3 ≤ 2147483647 - y
  · rw [if_pos q]
    rw [Int32.le_iff_toInt_le, e3, e4] at q
    have e5 : (v 9 3 + y).toInt = tk + y.toInt := by rw [i_add (by omega) (by omega), e3]
    refine ⟨⟨by omega, Or.inl (by omega)⟩, ?_⟩
    rw [Int32.le_iff_toInt_le]
    omega
  · rw [if_neg q]
    rw [Int32.le_iff_toInt_le, e3, e4] at q
    refine ⟨⟨by omega, Or.inr ⟨e2, by omega⟩⟩, ?_⟩
    rw [Int32.le_iff_toInt_le]
    omega
theorem sim_sleep {N n m t : Nat} {u v : St} (h : zB N n m t u v) (hn : n < 600) (x y : Int32) : (rSlp N u x y).1 = (mSlp v m x y).1 ∧ zN N (n + 1) (rSlp N u x y).2 (mSlp v m x y).2 := by
  have h' := h
  obtain ⟨lt, tk, pl, S, M, Rw, Cv⟩ := h
  rcases zOn S M Rw Cv x with ⟨e1, e2⟩ | ⟨j, r, hj, hr, rfl, e6, e8, e1, e2, z3, z7⟩
  · have a : rSlp N u x y = (-1, u) := by simp [rSlp, e1]
    have b : mSlp v m x y = (-1, v) := by simp [mSlp, e2, nn_m1]
    rw [a, b]
    exact ⟨rfl, h'.up hn⟩
  · have g := (Rw r hr).1
    have hN : N ≤ 4 := S.2.2.2.2.2.2.2.2.2.1
    have hm := S.2.1
    have htk := S.2.2.2.2.2.2.2.2.2.2.2.2.1
    have hkn := S.2.2.2.2.2.2.2.2.2.2.2.2.2.1
    have c1 := nI_clamp (show pl r < 2 ^ 31 by omega)
    have c2 := nI_clamp (show r < 2 ^ 31 by omega)
    have c3 := nI_clamp (show j < 2 ^ 31 by omega)
    have n1 := nI_m1 (show pl r < 2 ^ 31 by omega)
    have n2 := nI_pos' (show r < 2 ^ 31 by omega)
    by_cases hy : 1 ≤ y
    · obtain ⟨t1, t2⟩ := zSlp htk (by omega) hy
      have a : rSlp N u (nI j) y = (nI (pl r), up2 (up2 (rOff u j (pl r) 3) 5 (pl r) 3) 7 (pl r) y) := by simp [rSlp, e1, n1, hy, cl, c1, c3]
      have b : mSlp v m (nI j) y = ((mWts v r 3 (mSlpW v y)) 1 r, mWts v r 3 (mSlpW v y)) := by simp [mSlp, e2, n2, hy, cl, c2]
      rw [a, b]
      refine ⟨by simp [mWts_at, (Rw r hr).2.1], ?_⟩
      refine zOffB S M Rw Cv hn hr hj e6 z3 3 (mSlpW v y) (fun q a b1 b2 b3 b4 b5 => ?_) ?_ ?_ ?_
      · simp only [up2_at, rOff_at]
        rw [if_neg b5, if_neg b3, if_neg b2, if_neg b1]
      · simp [up2_at, rOff_at]
      · simp [up2_at, rOff_at, sF, m1_neg, t2]
      · intro _
        simp [up2_at, rOff_at]
        exact t1
    · have a : rSlp N u (nI j) y = (nI (pl r), u) := by simp [rSlp, e1, n1, hy]
      have b : mSlp v m (nI j) y = (v 1 r, v) := by simp [mSlp, e2, n2, hy, cl, c2]
      rw [a, b]
      exact ⟨(Rw r hr).2.1.symm, h'.up hn⟩
/-- the process of a number: none on both sides, or a row and its place -/
theorem zPlc {N m lt : Nat} {u v : St} {pl : Nat → Nat} (M : zNum m lt v pl) (Rw : ∀ k, k < m → zRow N m u v (pl k) k) (Cv : zCov N m u v pl) (x : Int32) :
    (rPlc u x = -1 ∧ mFnd (v 0) x m = -1 ∧ ∀ k, k < m → ¬ v 0 k = x) ∨ ∃ r, r < m ∧ v 0 r = x ∧ rPlc u x = nI (pl r) ∧ mFnd (v 0) x m = nI r := by
  rcases zs_cases (fun j => decide (¬ u 1 j = 0 ∧ u 0 j = x)) 15 0 with ⟨a, b⟩ | ⟨i, -, a, b, c, -⟩
  · have hno : ∀ k, k < m → ¬ v 0 k = x := fun k hk e => by
      have g := Rw k hk
      have := b (pl k) (Nat.zero_le _) (by have := g.1; omega)
      simp only [decide_eq_false_iff_not] at this
      exact this ⟨by rw [g.2.2.2.2.2.2.1]; exact mSta_ne _ _ _, by rw [g.2.2.1]; exact e⟩
    exact Or.inl ⟨a, mFnd_no hno, hno⟩
  · simp only [decide_eq_true_eq] at b
    obtain ⟨r, hr, e⟩ := Cv.1 i (by omega) b.1
    have g := Rw r hr
    rw [← e] at b
    have hx : v 0 r = x := by rw [← g.2.2.1]; exact b.2
    refine Or.inr ⟨r, hr, hx, by rw [e]; exact c, ?_⟩
    rw [← hx]
    exact zFnd_nu M hr
theorem sF_4 {en on wt wh tk : Int32} {b : Bool} : sF en on wt wh tk b = 4 ↔ ¬ en = 0 := by
  unfold sF
  by_cases h : en = 0
  · rw [if_pos h]
    constructor
    · intro q
      exfalso
      revert q
      split
      · split
        · decide
        · split
          · split
            · decide
            · decide
          · split
            · split
              · decide
              · decide
            · decide
      · decide
    · intro q
      exact absurd h q
  · rw [if_neg h]
    exact ⟨fun _ => h, fun _ => rfl⟩
theorem sF_on {on wt wh tk : Int32} {b : Bool} (h : ¬ on < 0) : sF 0 on wt wh tk b = 2 := by
  unfold sF
  rw [if_pos rfl, if_neg h]
theorem sF_off {wt wh tk : Int32} {b : Bool} : sF 0 (-1) wt wh tk b = 1 ∨ sF 0 (-1) wt wh tk b = 3 := by
  unfold sF
  rw [if_pos rfl, if_pos m1_neg]
  split
  · exact Or.inr rfl
  · split
    · split
      · exact Or.inr rfl
      · exact Or.inl rfl
    · split
      · split
        · exact Or.inl rfl
        · exact Or.inr rfl
      · exact Or.inl rfl
/-- one row is changed, nothing else; who is on which processor stays -/
theorem zOneB {N n m t lt tk : Nat} {u v u' v' : St} {pl : Nat → Nat} (S : zSc N n m t lt tk u v) (M : zNum m lt v pl) (Rw : ∀ k, k < m → zRow N m u v (pl k) k) (Cv : zCov N m u v pl) (hn : n < 600)
    {r : Nat} (hr : r < m) (hu : ∀ q a, q < 8 → ¬ a = pl r → u' q a = u q a) (hu8 : ∀ a, u' 8 a = u 8 a) (hu9 : ∀ a, u' 9 a = u 9 a) (hv : ∀ q a, q < 9 → ¬ a = r → v' q a = v q a) (hv9 : ∀ a, v' 9 a = v 9 a) (hb : mB v')
    (h0 : v' 0 r = v 0 r) (h1 : v' 1 r = v 1 r) (h2 : v' 2 r = v 2 r) (h3 : v' 3 r = v 3 r) (h6 : v' 6 r = v 6 r) (hrow : zRow N m u' v' (pl r) r) : zN N (n + 1) u' v' := by
  have hm := S.2.1
  have hq : ∀ k, v' 0 k = v 0 k ∧ v' 1 k = v 1 k ∧ v' 2 k = v 2 k ∧ v' 3 k = v 3 k ∧ v' 6 k = v 6 k := fun k => by
    by_cases e : k = r
    · rw [e]; exact ⟨h0, h1, h2, h3, h6⟩
    · exact ⟨hv 0 k (by decide) e, hv 1 k (by decide) e, hv 2 k (by decide) e, hv 3 k (by decide) e, hv 6 k (by decide) e⟩
  refine ⟨m, t, lt, tk, pl, ?_, ?_, ?_, ?_, ?_, ?_⟩
  · obtain ⟨a1, a2, a3, a4, a5, a6, a7, a8, a9, b1, b2, b3, b4, b5, b6, b7, b8, b9, b0⟩ := S
    simp only [zSc, hu9, hv9]
    exact ⟨a1, a2, a3, a4, hb, a6, a7, a8, a9, b1, b2, b3, b4, by omega, b6, by omega, by omega, b9, b0⟩
  · obtain ⟨c1, c2, c3, c4, c5, c6, c7⟩ := M
    refine ⟨fun k hk => by rw [(hq k).1]; exact c1 k hk, fun k j hk hj => by rw [(hq k).1, (hq j).1]; exact c2 k j hk hj, c3, fun k hk => by rw [(hq k).1]; exact c4 k hk, fun k hk => by rw [(hq k).1, (hq k).2.2.1]; exact c5 k hk, fun k hk => by rw [(hq k).1, (hq k).2.2.1]; exact c6 k hk, c7⟩
  · intro k hk
    by_cases e : k = r
    · rw [e]; exact hrow
    · have ep : ¬ pl k = pl r := fun z => e (M.2.2.1 k r hk hr z)
      exact zRow_cg (Rw k hk) (fun q hq' => hu q _ hq' ep) (fun q hq' => hv q k hq' e) (hv9 3) hm hm (fun _ => zNE_cg (fun c _ => ⟨(hq c).2.2.1, (hq c).2.2.2.1⟩) (hq k).1) (fun j _ e8 => by rw [hu8]; exact e8)
  · intro i hi hne
    by_cases e : i = pl r
    · exact ⟨r, hr, e.symm⟩
    · rw [hu 1 i (by decide) e] at hne
      exact Cv.1 i hi hne
  · intro i hi hne
    by_cases e : i = pl r
    · rw [e, hrow.2.2.2.2.2.2.1] at hne
      exact absurd hne (mSta_ne _ _ _)
    · rw [hu 1 i (by decide) e] at hne
      rw [hu 3 i (by decide) e, hu 4 i (by decide) e]
      exact Cv.2.1 i hi hne
  · intro j hj
    rw [hu8]
    rcases Cv.2.2 j hj with q | ⟨k, hk, q1, q2⟩
    · exact Or.inl q
    · exact Or.inr ⟨k, hk, q1, by rw [(hq k).2.2.2.2]; exact q2⟩
theorem sim_kill {N n m t : Nat} {u v : St} (h : zB N n m t u v) (hn : n < 600) (x : Int32) : (rKil u x).1 = (mKil v m x).1 ∧ zN N (n + 1) (rKil u x).2 (mKil v m x).2 := by
  have h' := h
  obtain ⟨lt, tk, pl, S, M, Rw, Cv⟩ := h
  rcases zPlc M Rw Cv x with ⟨e1, e2, -⟩ | ⟨r, hr, ex, e1, e2⟩
  · have a : rKil u x = (0, u) := by simp [rKil, e1]
    have b : mKil v m x = (0, v) := by simp [mKil, e2, m1_neg]
    rw [a, b]
    exact ⟨rfl, h'.up hn⟩
  · have hm := S.2.1
    obtain ⟨a1, a2, a3, a4, a5, a6, a7, a8, a9⟩ := Rw r hr
    have c1 := nI_clamp (show pl r < 2 ^ 31 by omega)
    have c2 := nI_clamp (show r < 2 ^ 31 by omega)
    have n1 := nI_m1 (show pl r < 2 ^ 31 by omega)
    have n2 := nI_pos (show r < 2 ^ 31 by omega)
    by_cases h3 : v 3 r = 0
    · have h4 : ¬ u 1 (pl r) = 4 := by
        rw [a7, mSta_sF, sF_4]
        exact fun q => q h3
      have b : mKil v m x = (1, up2 (up2 v 5 r 1) 7 r 0) := by simp [mKil, e2, n2, cl, c2, h3]
      have hb : mB (up2 (up2 v 5 r 1) 7 r 0) := by
        intro k hk
        have := S.2.2.2.2.1 k hk
        simp only [up2_at]
        by_cases e : k = r
        · simp [e]
          rw [← e]
          exact this.1
        · simp [e]
          exact this
      have hrow : ∀ u' : St, (∀ q, ¬ q = 1 → ¬ q = 3 → ¬ q = 5 → u' q (pl r) = u q (pl r)) → u' 3 (pl r) = 1 → (u' 1 (pl r) = if u 1 (pl r) = 3 then 1 else u 1 (pl r)) → (∀ j, u' 8 j = u 8 j) → zRow N m u' (up2 (up2 v 5 r 1) 7 r 0) (pl r) r := by
        intro u' g1 g2 g3 g4
        refine ⟨a1, by simpa [up2_at] using a2, by rw [g1 0 (by decide) (by decide) (by decide)]; simpa [up2_at] using a3, by rw [g1 2 (by decide) (by decide) (by decide)]; simpa [up2_at] using a4, by rw [g2]; simp [up2_at], by rw [g1 4 (by decide) (by decide) (by decide)]; simpa [up2_at] using a6, ?_, ?_, ?_⟩
        · rw [g3, a7, mSta_sF, mSta_sF]
          simp only [up2_at]
          simp [h3]
          rcases a9 with q | ⟨-, z7, j, hj, q, -⟩
          · rw [q]
            have e0 : sF 0 (-1) 0 (v 8 r) (v 9 3) (decide (mEnd (up2 (up2 v 5 r 1) 7 r 0) m r < 0)) = 1 := by simp [sF, m1_neg]
            rcases sF_off (wt := v 7 r) (wh := v 8 r) (tk := v 9 3) (b := decide (mEnd v m r < 0)) with z | z
            · rw [z, e0]; decide
            · rw [z, e0]; decide
          · have hN : N ≤ 4 := S.2.2.2.2.2.2.2.2.2.1
            rw [q, sF_on (nI_pos (by omega)), sF_on (nI_pos (by omega))]
            decide
        · rw [g3]
          intro q
          exfalso
          revert q
          split
          · decide
          · rename_i z
            exact z
        · rcases a9 with q | ⟨z3, z7, j, hj, q, q8⟩
          · exact Or.inl (by simpa [up2_at] using q)
          · exact Or.inr ⟨by simpa [up2_at] using z3, by simp [up2_at], j, hj, by simpa [up2_at] using q, by rw [g4]; exact q8⟩
      have fin : ∀ u' : St, (∀ q a, q < 8 → ¬ a = pl r → u' q a = u q a) → (∀ a, u' 8 a = u 8 a) → (∀ a, u' 9 a = u 9 a) → (∀ q, ¬ q = 1 → ¬ q = 3 → ¬ q = 5 → u' q (pl r) = u q (pl r)) → u' 3 (pl r) = 1 → (u' 1 (pl r) = if u 1 (pl r) = 3 then 1 else u 1 (pl r)) → zN N (n + 1) u' (up2 (up2 v 5 r 1) 7 r 0) := fun u' k1 k2 k3 k4 k5 k6 =>
        zOneB S M Rw Cv hn hr k1 k2 k3 (fun q a hq ha => by simp [up2_at, ha]) (fun a => by simp [up2_at]) hb (by simp [up2_at]) (by simp [up2_at]) (by simp [up2_at]) (by simp [up2_at]) (by simp [up2_at]) (hrow u' k4 k5 k6 k2)
      by_cases h5 : u 1 (pl r) = 3
      · have a : rKil u x = (1, rRdy (up2 u 3 (pl r) 1) (pl r)) := by
          unfold rKil
          rw [e1, if_neg n1]
          simp only [cl, c1]
          rw [if_neg h4, if_pos (by simpa [up2_at] using h5)]
        rw [a, b]
        refine ⟨rfl, fin _ (fun q a hq ha => by simp [rRdy, up2_at, ha]) (fun a => by simp [rRdy, up2_at]) (fun a => by simp [rRdy, up2_at]) (fun q q1 q3 q5 => by simp [rRdy, up2_at, q1, q3, q5]) (by simp [rRdy, up2_at]) (by rw [if_pos h5]; simp [rRdy, up2_at])⟩
      · have a : rKil u x = (1, up2 u 3 (pl r) 1) := by
          unfold rKil
          rw [e1, if_neg n1]
          simp only [cl, c1]
          rw [if_neg h4, if_neg (by simpa [up2_at] using h5)]
        rw [a, b]
        refine ⟨rfl, fin _ (fun q a hq ha => by simp [up2_at, ha]) (fun a => by simp [up2_at]) (fun a => by simp [up2_at]) (fun q q1 q3 q5 => by simp [up2_at, q3]) (by simp [up2_at]) (by rw [if_neg h5]; simp [up2_at])⟩
    · have h4 : u 1 (pl r) = 4 := by
        rw [a7, mSta_sF, sF_4]
        exact h3
      have a : rKil u x = (0, u) := by simp [rKil, e1, n1, cl, c1, h4]
      have b : mKil v m x = (0, v) := by simp [mKil, e2, n2, cl, c2, h3]
      rw [a, b]
      exact ⟨rfl, h'.up hn⟩
