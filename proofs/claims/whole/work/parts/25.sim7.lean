theorem zl_6 : ∀ (n i : Nat) (w : St) (q a : Nat), zl (fun k w => up2 w 6 k (-1)) n i w q a = if q = 6 ∧ i ≤ a ∧ a < i + n then -1 else w q a
  | 0, i, w, q, a => by
    rw [if_neg (by omega)]
    rfl
  | n + 1, i, w, q, a => by
    have h := zl_6 n (i + 1) (up2 w 6 i (-1)) q a
    show zl (fun k w => up2 w 6 k (-1)) n (i + 1) (up2 w 6 i (-1)) q a = _
    rw [h, up2_at]
    by_cases e : q = 6
    · subst e
      by_cases e1 : a = i
      · subst e1
        simp
      · have e2 : (i + 1 ≤ a ∧ a < i + 1 + n) ↔ (i ≤ a ∧ a < i + (n + 1)) := by omega
        simp [e1, e2]
    · simp [e]
theorem rTck1_at (i : Nat) (w : St) (q a : Nat) : rTck1 i w q a = if a = i ∧ w 1 i = 3 ∧ w 5 i = 3 then (if q = 7 then w 7 i - 1 else if 0 < w 7 i - 1 then w q a else if q = 5 then 0 else if q = 1 then 1 else w q a) else w q a := by
  unfold rTck1 rBlk
  by_cases h1 : w 1 i = 3
  · by_cases h2 : w 5 i = 3
    · simp only [h1, h2, if_true]
      rw [if_neg (by decide)]
      unfold rDwn
      have e7 : up2 w 7 i (w 7 i - 1) 7 i = w 7 i - 1 := by simp [up2_at]
      rw [e7]
      by_cases h3 : 0 < w 7 i - 1
      · rw [if_pos h3, up2_at]
        by_cases ea : a = i
        · simp [ea, h3]
        · simp [ea]
      · rw [if_neg h3, rRdy_at, up2_at]
        by_cases ea : a = i
        · subst ea
          by_cases e5 : q = 5
          · simp [e5, h3]
          · by_cases e1 : q = 1
            · simp [e1, h3]
            · by_cases e7 : q = 7
              · simp [e7]
              · simp [e5, e1, e7]
        · simp [ea]
    · simp [h1, h2]
  · simp [h1]
theorem rTck_at (w : St) (q a : Nat) : zl rTck1 15 0 w q a = if a < 15 then rTck1 a w q a else w q a := by
  rw [zl_loc (f := rTck1) (fun i w q a ha => by rw [rTck1_at, if_neg (fun z => ha z.1)]) (fun i w w' h q => by rw [rTck1_at, rTck1_at, h 1, h 5, h 7, h q]) 15 0 w q a]
  by_cases h : a < 15
  · rw [if_pos h, if_pos (by omega)]
  · rw [if_neg h, if_neg (by omega)]
/-- all processors rest -/
theorem zRsts {N : Nat} {u : St} (hN : N < 2 ^ 31) (hI : ∀ j, j < N → u 8 j = -1 ∨ ∃ i, i < 15 ∧ u 8 j = nI i) : ∀ w, w = zl (fun j v => (rRst N v (nI j)).2) N 0 u → (∀ q a, ¬ q = 8 → ¬ q = 1 → w q a = u q a) ∧ (∀ j, j < N → w 8 j = -1) ∧ ∀ a, a < 15 → (w 1 a = 1 ∧ ∃ j, j < N ∧ u 8 j = nI a) ∨ (w 1 a = u 1 a ∧ ∀ j, j < N → ¬ u 8 j = nI a) := by
  intro w hw
  have h := zl_inv (f := fun j v => (rRst N v (nI j)).2) (I := fun i (w : St) => (∀ q a, ¬ q = 8 → ¬ q = 1 → w q a = u q a) ∧ (∀ j, w 8 j = if j < i then -1 else u 8 j) ∧ ∀ a, a < 15 → (w 1 a = 1 ∧ ∃ j, j < i ∧ u 8 j = nI a) ∨ (w 1 a = u 1 a ∧ ∀ j, j < i → ¬ u 8 j = nI a)) N 0 u (fun j w _ hj hr => by
    have hjN : j < N := by omega
    obtain ⟨r1, r2, r3⟩ := hr
    have e8 : w 8 j = u 8 j := by rw [r2, if_neg (by omega)]
    have eo : rOn N w (nI j) = u 8 j := by rw [rOn_in hN hjN, e8]
    rcases hI j hjN with q | ⟨i, hi, q⟩
    · have e : (rRst N w (nI j)).2 = w := by simp [rRst, eo, q]
      show _ ∧ _ ∧ _
      simp only [e]
      refine ⟨r1, fun j' => ?_, fun a ha => ?_⟩
      · rw [r2]
        by_cases z : j' < j
        · rw [if_pos z, if_pos (by omega)]
        · by_cases z2 : j' = j
          · rw [if_neg z, if_pos (by omega), z2, q]
          · rw [if_neg z, if_neg (by omega)]
      · rcases r3 a ha with ⟨z1, j', z2, z3⟩ | ⟨z1, z2⟩
        · exact Or.inl ⟨z1, j', by omega, z3⟩
        · refine Or.inr ⟨z1, fun j' hj' => ?_⟩
          rcases Nat.lt_or_eq_of_le (Nat.le_of_lt_succ hj') with z | z
          · exact z2 j' z
          · rw [z, q]
            exact fun z => nI_m1 (show a < 2 ^ 31 by omega) z.symm
    · have n1 := nI_m1 (show i < 2 ^ 31 by omega)
      have ci := nI_clamp (show i < 2 ^ 31 by omega)
      have cj := nI_clamp (show j < 2 ^ 31 by omega)
      have e : (rRst N w (nI j)).2 = rOff w j i 1 := by simp [rRst, eo, q, n1, cl, ci, cj]
      show _ ∧ _ ∧ _
      simp only [e]
      refine ⟨fun q a h8 h1 => ?_, fun j' => ?_, fun a ha => ?_⟩
      · rw [rOff_at, if_neg (fun z => h1 z.1), if_neg (fun z => h8 z.1)]
        exact r1 q a h8 h1
      · rw [rOff_at]
        by_cases z2 : j' = j
        · subst z2
          simp
        · have z3 : j' < j + 1 ↔ j' < j := by omega
          simp [z2, r2, z3]
      · rw [rOff_at]
        by_cases z : a = i
        · refine Or.inl ⟨by simp [z], j, by omega, by rw [q, z]⟩
        · simp only [z, and_false, if_false]
          simp only [show ¬ (1 : Nat) = 8 by decide, false_and, if_false]
          rcases r3 a ha with ⟨z1, j', z2, z3⟩ | ⟨z1, z2⟩
          · exact Or.inl ⟨z1, j', by omega, z3⟩
          · refine Or.inr ⟨z1, fun j' hj' => ?_⟩
            rcases Nat.lt_or_eq_of_le (Nat.le_of_lt_succ hj') with y | y
            · exact z2 j' y
            · rw [y, q]
              intro x
              exact z (nI_inj x (by omega) (by omega)).symm) ⟨fun _ _ _ _ => rfl, fun j => by rw [if_neg (by omega)], fun a _ => Or.inr ⟨rfl, fun j hj => absurd hj (by omega)⟩⟩
  rw [Nat.zero_add, ← hw] at h
  exact ⟨h.1, fun j hj => by rw [h.2.1, if_pos hj], h.2.2⟩
theorem sim_tick {N n m t : Nat} {u v : St} (h : zB N n m t u v) (hn : n < 600) : (rTck N u).1 = (mTck v m).1 ∧ zN N (n + 1) (rTck N u).2 (mTck v m).2 := by
  have h' := h
  obtain ⟨lt, tk, pl, S, M, Rw, Cv⟩ := h
  have hm := S.2.1
  have hN4 : N ≤ 4 := S.2.2.2.2.2.2.2.2.2.1
  have hN : N < 2 ^ 31 := by omega
  rcases Nat.eq_zero_or_pos m with q | q
  · subst q
    have e0 : u 1 0 = 0 := by
      by_cases z : u 1 0 = 0
      · exact z
      · obtain ⟨k, hk, -⟩ := Cv.1 0 (by omega) z
        omega
    have a : rTck N u = (-1, u) := by simp [rTck, rIsE, e0]
    have b : mTck v 0 = (-1, v) := by simp [mTck, nI_0]
    rw [a, b]
    exact ⟨rfl, h'.up hn⟩
  · obtain ⟨k0, hk0, ek0⟩ := M.2.2.2.2.2.2 q
    have g0 := (Rw k0 hk0).2.2.2.2.2.2.1
    rw [ek0] at g0
    have h10 : ¬ u 1 0 = 0 := by rw [g0]; exact mSta_ne _ _ _
    have hie : rIsE u = 0 := by simp [rIsE, h10]
    have hnz := nI_ne0 q (show m < 2 ^ 31 by omega)
    obtain ⟨U, eU⟩ : ∃ U, U = zl rTck1 15 0 (rTck2 N u) := ⟨_, rfl⟩
    obtain ⟨V, eV⟩ : ∃ V, V = mTck1 m v := ⟨_, rfl⟩
    have a : rTck N u = (U 9 2, U) := by unfold rTck; rw [if_pos hie, ← eU]
    have b : mTck v m = (V 9 3, V) := by unfold mTck; rw [if_neg hnz, ← eV]
    rw [a, b]
    show U 9 2 = V 9 3 ∧ zN N (n + 1) U V
    have hV : ∀ q a, V q a = if q = 6 ∧ a < m then -1 else if q = 9 ∧ a = 3 then v 9 3 + 1 else v q a := fun q a => by
      rw [eV, mTck1, zl_6, up2_at]
      simp
    obtain ⟨W, eW⟩ : ∃ W, W = rTck2 N u := ⟨_, rfl⟩
    rw [← eW] at eU
    have hI : ∀ j, j < N → (up2 u 9 2 (u 9 2 + 1)) 8 j = -1 ∨ ∃ i, i < 15 ∧ (up2 u 9 2 (u 9 2 + 1)) 8 j = nI i := fun j hj => (zB.I h').1 j hj
    obtain ⟨w1, w2, w3⟩ := zRsts hN hI W (by rw [eW]; rfl)
    have hW9 : ∀ a, W 9 a = if a = 2 then u 9 2 + 1 else u 9 a := fun a => by
      rw [w1 9 a (by decide) (by decide), up2_at]
      simp
    have hWq : ∀ q a, ¬ q = 8 → ¬ q = 1 → ¬ q = 9 → W q a = u q a := fun q a h8 h1 h9 => by
      rw [w1 q a h8 h1, up2_at, if_neg (fun z => h9 z.1)]
    have hW1 : ∀ a, a < 15 → (W 1 a = 1 ∧ ∃ j, j < N ∧ u 8 j = nI a) ∨ (W 1 a = u 1 a ∧ ∀ j, j < N → ¬ u 8 j = nI a) := w3
    have hU : ∀ q a, U q a = if a < 15 then rTck1 a W q a else W q a := fun q a => by rw [eU, rTck_at]
    have hU9 : ∀ a, U 9 a = W 9 a := fun a => by
      rw [hU]
      split
      · rw [rTck1_at]
        split
        · simp
        · rfl
      · rfl
    have hU8 : ∀ a, U 8 a = W 8 a := fun a => by
      rw [hU]
      split
      · rw [rTck1_at]
        split
        · simp
        · rfl
      · rfl
    obtain ⟨p1, p2, p3, p4, p5, p6, p7, p8, p9, b1, b2, b3, b4, b5, b6, b7, b8, b9, b0⟩ := S
    have htk : v 9 3 + 1 = nI (tk + 1) := by rw [b4]; exact nI_1 tk
    have hVq : ∀ q a, ¬ q = 6 → ¬ q = 9 → V q a = v q a := fun q a h6 h9 => by rw [hV, if_neg (fun z => h6 z.1), if_neg (fun z => h9 z.1)]
    have hV9 : ∀ a, V 9 a = if a = 3 then v 9 3 + 1 else v 9 a := fun a => by
      rw [hV]
      simp
    refine ⟨by rw [hU9, hW9, hV9]; simp [b2], m, t, lt, tk + 1, pl, ?_, ?_, ?_, ?_, ?_, ?_⟩
    · refine ⟨by rw [hV9]; simpa using p1, p2, by rw [hV9]; simpa using p3, by rw [hV9]; simpa using p4, ?_, p6, by rw [hV9]; simpa using p7, by rw [hU9, hW9, hV9]; simpa using p8, p9, b1, by rw [hU9, hW9, hV9]; simp [b2], by rw [hU9, hW9, hV9]; simpa using b3, by rw [hV9]; simpa using htk, by omega, by rw [hV9]; simpa using b6, by omega, by omega, fun z => by rw [hU9, hW9, hV9]; simpa using b9 z, ?_⟩
      · intro k hk
        rw [hVq 3 k (by decide) (by decide), hVq 5 k (by decide) (by decide)]
        exact p5 k hk
      · obtain ⟨t0, ht0, et0⟩ := b0
        exact ⟨t0, ht0, by rw [hU9, hW9]; simpa using et0⟩
    · have e0 : ∀ a, V 0 a = v 0 a := fun a => hVq 0 a (by decide) (by decide)
      have e2 : ∀ a, V 2 a = v 2 a := fun a => hVq 2 a (by decide) (by decide)
      simp only [zNum, e0, e2]
      exact M
    · intro k hk
      have hoff : v 6 k = -1 → ∀ j, j < N → ¬ u 8 j = nI (pl k) := fun e6 j hj e => by
        rcases Cv.2.2 j hj with z | ⟨k', hk', z1, z2⟩
        · rw [z] at e
          have := (Rw k hk).1
          exact nI_m1 (show pl k < 2 ^ 31 by omega) e.symm
        · rw [z1] at e
          have g1 := (Rw k hk).1
          have g2 := (Rw k' hk').1
          have := M.2.2.1 k' k hk' hk (nI_inj e (by omega) (by omega))
          rw [this, e6] at z2
          exact nI_m1 (show j < 2 ^ 31 by omega) z2.symm
      obtain ⟨a1, a2, a3, a4, a5, a6, a7, a8, a9⟩ := Rw k hk
      have hne : decide (mEnd V m k < 0) = decide (mEnd v m k < 0) := by
        rw [decide_eq_decide, mEnd_neg hm, mEnd_neg hm]
        exact zNE_cg (fun c _ => ⟨hVq 2 c (by decide) (by decide), hVq 3 c (by decide) (by decide)⟩) (hVq 0 k (by decide) (by decide))
      have hms : mSta V m k = sF (v 3 k) (-1) (v 7 k) (v 8 k) (v 9 3 + 1) (decide (mEnd v m k < 0)) := by
        rw [mSta_sF, hne, hVq 3 k (by decide) (by decide), hVq 7 k (by decide) (by decide), hVq 8 k (by decide) (by decide), hV9 3, if_pos rfl, hV 6 k, if_pos ⟨rfl, hk⟩]
      have hU0 : ∀ q, ¬ q = 1 → ¬ q = 5 → ¬ q = 7 → ¬ q = 8 → ¬ q = 9 → U q (pl k) = u q (pl k) := fun q h1 h5 h7 h8 h9 => by
        rw [hU, if_pos a1, rTck1_at]
        split
        · simp [h1, h5, h7, hWq q _ h8 h1 h9]
        · exact hWq q _ h8 h1 h9
      have hUk : ∀ q, U q (pl k) = if W 1 (pl k) = 3 ∧ u 5 (pl k) = 3 then (if q = 7 then u 7 (pl k) - 1 else if 0 < u 7 (pl k) - 1 then W q (pl k) else if q = 5 then 0 else if q = 1 then 1 else W q (pl k)) else W q (pl k) := fun q => by
        rw [hU, if_pos a1, rTck1_at, hWq 5 _ (by decide) (by decide) (by decide), hWq 7 _ (by decide) (by decide) (by decide)]
        simp
      have base : ∀ (hst : U 1 (pl k) = mSta V m k) (hwt : U 1 (pl k) = 3 → zWt U V (pl k) k), zRow N m U V (pl k) k := fun hst hwt => ⟨a1, by rw [hVq 1 k (by decide) (by decide)]; exact a2, by rw [hU0 0 (by decide) (by decide) (by decide) (by decide) (by decide), hVq 0 k (by decide) (by decide)]; exact a3, by rw [hU0 2 (by decide) (by decide) (by decide) (by decide) (by decide), hVq 2 k (by decide) (by decide)]; exact a4, by rw [hU0 3 (by decide) (by decide) (by decide) (by decide) (by decide), hVq 5 k (by decide) (by decide)]; exact a5, by rw [hU0 4 (by decide) (by decide) (by decide) (by decide) (by decide), hVq 3 k (by decide) (by decide), hVq 4 k (by decide) (by decide)]; exact a6, hst, hwt, Or.inl (by rw [hV, if_pos ⟨rfl, hk⟩])⟩
      rcases a9 with e6 | ⟨z3, z7, j, hj, e6, e8⟩
      · have hw : W 1 (pl k) = u 1 (pl k) := by
          rcases hW1 (pl k) a1 with ⟨-, j, hj, z⟩ | ⟨z, -⟩
          · exact absurd z (hoff e6 j hj)
          · exact z
        rw [mSta_sF, e6] at a7
        by_cases h3 : v 3 k = 0
        · rw [h3] at a7
          by_cases h7 : v 7 k = 3
          · by_cases hle : v 8 k ≤ v 9 3
            · have e1 : u 1 (pl k) = 1 := by rw [a7]; simp [sF, m1_neg, h7, hle]
              have e2 : U 1 (pl k) = 1 := by rw [hUk, hw, e1]; simp
              refine base ?_ (fun z => by rw [e2] at z; exact absurd z (by decide))
              have hle2 : v 8 k ≤ v 9 3 + 1 := by
                rw [htk]
                rw [b4] at hle
                rw [Int32.le_iff_toInt_le, nI_toInt (by omega)] at *
                omega
              rw [e2, hms, h3, h7]
              simp [sF, m1_neg, hle2]
            · have e1 : u 1 (pl k) = 3 := by rw [a7]; simp [sF, m1_neg, h7, hle]
              obtain ⟨x1, x2, x3⟩ := a8 e1
              have x3 := x3 h7
              unfold zTm at x3
              rw [b4, nI_toInt (show tk < 2 ^ 31 by omega)] at x3
              have i1 : (1 : Int32).toInt = 1 := by decide
              have i0 : (0 : Int32).toInt = 0 := by decide
              have hmx := i_max (u 7 (pl k))
              have es : (u 7 (pl k) - 1).toInt = (u 7 (pl k)).toInt - 1 := by rw [i_sub (by omega) (by omega), i1]
              have hc : W 1 (pl k) = 3 ∧ u 5 (pl k) = 3 := ⟨by rw [hw, e1], by rw [x1, h7]⟩
              by_cases hp : 0 < u 7 (pl k) - 1
              · have e2 : U 1 (pl k) = 3 := by rw [hUk, if_pos hc]; simp [hp, hw, e1]
                have hp' := hp
                rw [Int32.lt_iff_toInt_lt, i0, es] at hp'
                have hnl : ¬ v 8 k ≤ v 9 3 + 1 := by
                  rw [htk, Int32.le_iff_toInt_le, nI_toInt (by omega)]
                  omega
                refine base ?_ (fun _ => ⟨?_, fun z => ?_, fun _ => ?_⟩)
                · rw [e2, hms, h3, h7]
                  simp [sF, m1_neg, hnl]
                · rw [hVq 7 k (by decide) (by decide), h7, hUk, if_pos hc]
                  simp [hp, hWq 5 (pl k) (by decide) (by decide) (by decide), hc.2]
                · rw [hVq 7 k (by decide) (by decide), h7] at z
                  exact absurd z (by decide)
                · rw [hVq 8 k (by decide) (by decide), hV9 3, if_pos rfl, htk, hUk, if_pos hc]
                  simp only [if_true]
                  unfold zTm
                  rw [es, nI_toInt (by omega)]
                  omega
              · have e2 : U 1 (pl k) = 1 := by rw [hUk, if_pos hc]; simp [hp]
                have hp' := hp
                rw [Int32.lt_iff_toInt_lt, i0, es] at hp'
                have hl : v 8 k ≤ v 9 3 + 1 := by
                  rw [htk, Int32.le_iff_toInt_le, nI_toInt (by omega)]
                  omega
                refine base ?_ (fun z => by rw [e2] at z; exact absurd z (by decide))
                rw [e2, hms, h3, h7]
                simp [sF, m1_neg, hl]
          · have hsame : sF 0 (-1) (v 7 k) (v 8 k) (v 9 3 + 1) (decide (mEnd v m k < 0)) = sF 0 (-1) (v 7 k) (v 8 k) (v 9 3) (decide (mEnd v m k < 0)) := by
              unfold sF
              simp only [h7, if_false]
            have hnc : ¬ (W 1 (pl k) = 3 ∧ u 5 (pl k) = 3) := fun z => by
              rw [hw] at z
              exact h7 (by rw [← (a8 z.1).1]; exact z.2)
            have e2 : U 1 (pl k) = u 1 (pl k) := by rw [hUk, if_neg hnc, hw]
            refine base ?_ (fun z => ?_)
            · rw [e2, hms, h3, hsame, a7]
            · rw [e2] at z
              obtain ⟨x1, x2, x3⟩ := a8 z
              refine ⟨?_, fun y => ?_, fun y => ?_⟩
              · rw [hUk, if_neg hnc, hWq 5 _ (by decide) (by decide) (by decide), hVq 7 k (by decide) (by decide)]
                exact x1
              · rw [hU0 6 (by decide) (by decide) (by decide) (by decide) (by decide), hVq 8 k (by decide) (by decide)]
                rw [hVq 7 k (by decide) (by decide)] at y
                exact x2 y
              · rw [hVq 7 k (by decide) (by decide)] at y
                exact absurd y h7
        · have e1 : u 1 (pl k) = 4 := by rw [a7]; exact sF_4.mpr h3
          have e2 : U 1 (pl k) = 4 := by rw [hUk, hw, e1]; simp
          refine base ?_ (fun z => by rw [e2] at z; exact absurd z (by decide))
          rw [e2, hms]
          exact (sF_4.mpr h3).symm
      · have hw : W 1 (pl k) = 1 := by
          rcases hW1 (pl k) a1 with ⟨z, -⟩ | ⟨-, z⟩
          · exact z
          · exact absurd e8 (z j hj)
        have e2 : U 1 (pl k) = 1 := by rw [hUk, hw]; simp
        refine base ?_ (fun z => by rw [e2] at z; exact absurd z (by decide))
        rw [e2, hms, z3, z7]
        simp [sF, m1_neg]
    · intro i hi z
      refine Cv.1 i hi (fun z0 => z ?_)
      have hw : W 1 i = 0 := by
        rcases hW1 i hi with ⟨-, j, hj, y⟩ | ⟨y, -⟩
        · rcases Cv.2.2 j hj with y2 | ⟨k, hk, y2, -⟩
          · rw [y2] at y
            exact absurd y.symm (nI_m1 (show i < 2 ^ 31 by omega))
          · rw [y2] at y
            have g := (Rw k hk).1
            have e := nI_inj y (by omega) (by omega)
            have g7 := (Rw k hk).2.2.2.2.2.2.1
            rw [e, z0] at g7
            exact absurd g7.symm (mSta_ne _ _ _)
        · rw [y, z0]
      rw [hU, if_pos hi, rTck1_at, hw]
      simp
    · intro i hi z
      have hz0 : u 1 i = 0 := by
        by_cases y : u 1 i = 0
        · exact y
        · exfalso
          have hw : ¬ W 1 i = 0 := by
            rcases hW1 i hi with ⟨y2, -⟩ | ⟨y2, -⟩
            · rw [y2]; decide
            · rw [y2]; exact y
          rw [hU, if_pos hi, rTck1_at] at z
          revert z
          split
          · simp only [show ¬ (1 : Nat) = 7 by decide, show ¬ (1 : Nat) = 5 by decide, if_false, if_true]
            split
            · exact hw
            · decide
          · exact hw
      have hc := Cv.2.1 i hi hz0
      have hq : ∀ q, ¬ q = 1 → ¬ q = 5 → ¬ q = 7 → ¬ q = 8 → ¬ q = 9 → U q i = u q i := fun q h1 h5 h7 h8 h9 => by
        rw [hU, if_pos hi, rTck1_at]
        split
        · simp [h1, h5, h7, hWq q _ h8 h1 h9]
        · exact hWq q _ h8 h1 h9
      rw [hq 3 (by decide) (by decide) (by decide) (by decide) (by decide), hq 4 (by decide) (by decide) (by decide) (by decide) (by decide)]
      exact hc
    · intro j hj
      left
      rw [hU8]
      exact w2 j hj
