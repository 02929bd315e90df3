theorem rExt1_at (u : St) (j i : Nat) (y : Int32) (q a : Nat) : rExt1 u j i y q a = if q = 4 ∧ a = i then y else if q = 1 ∧ a = i then 4 else if q = 8 ∧ a = j then -1 else u q a := by
  simp only [rExt1, rOff_at, up2_at]
theorem mExt2_at (v : St) (m r : Nat) (y : Int32) (q k : Nat) : mExt2 (zl (mExt1 r) m 0 v) r y q k = if q = 6 ∧ k = r then -1 else if q = 4 ∧ k = r then y else if q = 3 ∧ k = r then 1 else if (q = 2 ∧ k < m) ∧ v 2 k = v 0 r then 1 else v q k := by
  have h0 : (0 ≤ k ∧ k < 0 + m) ↔ k < m := by omega
  simp only [mExt2, up2_at, zl_ext, h0]
theorem sim_exit1 {N n m t lt tk : Nat} {u v : St} {pl : Nat → Nat} (S : zSc N n m t lt tk u v) (hn : n < 600) (y : Int32) : zN N (n + 1) (rEmp N (up2 u 9 3 y)) (up2 (up2 v 9 6 y) 9 2 0) := by
  obtain ⟨p1, p2, p3, p4, p5, p6, p7, p8, p9, b1, b2, b3, b4, b5, b6, b7, b8, b9, b0⟩ := S
  have hU : ∀ q a, rEmp N (up2 u 9 3 y) q a = if q = 8 ∧ a < N then -1 else if q < 8 ∧ a < 15 then 0 else (up2 u 9 3 y) q a := fun q a => rEmp_at _ _ _ _
  refine ⟨0, t, lt, tk, pl, ?_, ?_, ?_, ?_, ?_, ?_⟩
  · refine ⟨by simp [up2_at, nI_0], by omega, by simpa [up2_at] using p3, by simpa [up2_at] using p4, ?_, p6, by simpa [up2_at] using p7, by rw [hU]; simp [up2_at], p9, b1, by rw [hU]; simpa [up2_at] using b2, by rw [hU]; simpa [up2_at] using b3, by simpa [up2_at] using b4, by omega, by simpa [up2_at] using b6, by omega, by omega, fun z => absurd z (by omega), ?_⟩
    · intro k hk
      simpa [up2_at] using p5 k hk
    · obtain ⟨t0, ht0, et0⟩ := b0
      exact ⟨t0, ht0, by rw [hU]; simpa [up2_at] using et0⟩
  · exact ⟨fun k hk => absurd hk (by omega), fun k j hk => absurd hk (by omega), fun k j hk => absurd hk (by omega), fun k hk => absurd hk (by omega), fun k hk => absurd hk (by omega), fun k hk => absurd hk (by omega), fun z => absurd z (by omega)⟩
  · exact fun k hk => absurd hk (by omega)
  · intro i hi z
    rw [hU] at z
    simp [hi] at z
  · intro i hi z
    rw [hU, hU]
    simp [hi]
  · intro j hj
    left
    rw [hU]
    simp [hj]
theorem sim_exit2 {N n m t lt tk : Nat} {u v : St} {pl : Nat → Nat} (S : zSc N n m t lt tk u v) (M : zNum m lt v pl) (Rw : ∀ k, k < m → zRow N m u v (pl k) k) (Cv : zCov N m u v pl) (hn : n < 600) {r j : Nat} (hr : r < m) (hj : j < N) (e6 : v 6 r = nI j) (e8 : u 8 j = nI (pl r)) (z3 : v 3 r = 0) (y : Int32) :
    zN N (n + 1) (rExt2 (rExt1 u j (pl r) y) (pl r)) (mExt2 (zl (mExt1 r) m 0 v) r y) := by
  have hm := S.2.1
  have hN4 : N ≤ 4 := S.2.2.2.2.2.2.2.2.2.1
  obtain ⟨w0, ew⟩ : ∃ w, w = rExt1 u j (pl r) y := ⟨_, rfl⟩
  obtain ⟨V, eV⟩ : ∃ V, V = mExt2 (zl (mExt1 r) m 0 v) r y := ⟨_, rfl⟩
  rw [← ew, ← eV]
  have hw : ∀ q a, w0 q a = if q = 4 ∧ a = pl r then y else if q = 1 ∧ a = pl r then 4 else if q = 8 ∧ a = j then -1 else u q a := fun q a => by rw [ew, rExt1_at]
  have hV : ∀ q k, V q k = if q = 6 ∧ k = r then -1 else if q = 4 ∧ k = r then y else if q = 3 ∧ k = r then 1 else if (q = 2 ∧ k < m) ∧ v 2 k = v 0 r then 1 else v q k := fun q k => by rw [eV, mExt2_at]
  have gr := Rw r hr
  have hpl : ∀ k, k < m → ¬ k = r → ¬ pl k = pl r := fun k hk e z => e (M.2.2.1 k r hk hr z)
  have hwq : ∀ q a, ¬ q = 4 → ¬ q = 1 → ¬ q = 8 → w0 q a = u q a := fun q a h4 h1 h8 => by rw [hw, if_neg (fun z => h4 z.1), if_neg (fun z => h1 z.1), if_neg (fun z => h8 z.1)]
  have hw1 : ∀ a, w0 1 a = if a = pl r then 4 else u 1 a := fun a => by rw [hw]; simp
  have hw1r : w0 1 (pl r) = 4 := by rw [hw1, if_pos rfl]
  have Id : zId m v pl w0 := by
    refine ⟨fun k hk => ⟨(Rw k hk).1, ?_, ?_⟩, fun a ha z => ?_⟩
    · rw [hwq 0 _ (by decide) (by decide) (by decide)]
      exact (Rw k hk).2.2.1
    · rw [hw1]
      split
      · decide
      · rw [(Rw k hk).2.2.2.2.2.2.1]
        exact mSta_ne _ _ _
    · by_cases e : a = pl r
      · exact ⟨r, hr, e.symm⟩
      · rw [hw1, if_neg e] at z
        exact Cv.1 a ha z
  have hpr : ¬ v 2 r = v 0 r := M.2.2.2.2.2.1 r hr
  have ex : w0 0 (pl r) = v 0 r := (Id.1 r hr).2.1
  have hw2 : ∀ a, w0 2 a = u 2 a := fun a => hwq 2 a (by decide) (by decide) (by decide)
  have hw2r : w0 2 (pl r) = v 2 r := by rw [hw2]; exact gr.2.2.2.1
  obtain ⟨J2, q2, p2⟩ := zHnd M Id (v 0 r)
  have e22 : rHnd w0 (v 0 r) 2 (pl r) = v 2 r := by
    rw [p2, if_neg (fun z => hpr (by rw [← hw2r]; exact z.2.2)), hw2r]
  obtain ⟨J3, q3⟩ := J2.tel M (J2.id Id (fun a => q2 0 a (by decide) (by decide) (by decide))) (v 2 r)
  have eU : rExt2 w0 (pl r) = rTel (rHnd w0 (v 0 r)) (v 2 r) := by
    unfold rExt2
    rw [ex, e22]
  rw [eU]
  generalize rTel (rHnd w0 (v 0 r)) (v 2 r) = U at J3 q3
  have hUq : ∀ q a, ¬ q = 1 → ¬ q = 2 → ¬ q = 5 → U q a = w0 q a := fun q a h1 h2 h5 => by rw [q3 q a h1 h5]; exact q2 q a h1 h2 h5
  have hU2 : ∀ a, U 2 a = if a < 15 ∧ ¬ w0 1 a = 0 ∧ w0 2 a = v 0 r then 1 else w0 2 a := fun a => by rw [q3 2 a (by decide) (by decide)]; exact p2 a
  obtain ⟨qr, qr1, qr2, qr3⟩ := M.1 r hr
  have hlt := S.2.2.2.2.2.2.2.2.2.2.2.2.2.2.2.1
  have hr0 : ¬ v 0 r = 0 := fun z => by
    rw [qr3] at z
    have z : nI qr = nI 0 := z
    have := nI_inj z (by omega) (by omega)
    omega
  have hV0 : ∀ k, V 0 k = v 0 k := fun k => by rw [hV]; simp
  have hV2 : ∀ k, k < m → V 2 k = if v 2 k = v 0 r then 1 else v 2 k := fun k hk => by rw [hV]; simp [hk]
  have hVq : ∀ q k, ¬ q = 6 → ¬ q = 4 → ¬ q = 3 → ¬ q = 2 → V q k = v q k := fun q k h6 h4 h3 h2 => by rw [hV, if_neg (fun z => h6 z.1), if_neg (fun z => h4 z.1), if_neg (fun z => h3 z.1), if_neg (fun z => h2 z.1.1)]
  have hVk : ∀ q k, ¬ k = r → ¬ q = 2 → V q k = v q k := fun q k hk h2 => by rw [hV, if_neg (fun z => hk z.2), if_neg (fun z => hk z.2), if_neg (fun z => hk z.2), if_neg (fun z => h2 z.1.1)]
  have hV3r : V 3 r = 1 := by rw [hV]; simp
  have hV2r : V 2 r = v 2 r := by rw [hV2 r hr, if_neg hpr]
  refine ⟨m, t, lt, tk, pl, ?_, ?_, ?_, ?_, ?_, ?_⟩
  · obtain ⟨p1, p2, p3, p4, p5, p6, p7, p8, p9, b1, b2, b3, b4, b5, b6, b7, b8, b9, b0⟩ := S
    have hv9 : ∀ a, V 9 a = v 9 a := fun a => hVq 9 a (by decide) (by decide) (by decide) (by decide)
    have hu9 : ∀ a, U 9 a = u 9 a := fun a => by rw [hUq 9 a (by decide) (by decide) (by decide), hwq 9 a (by decide) (by decide) (by decide)]
    simp only [zSc, hv9, hu9]
    refine ⟨p1, p2, p3, p4, fun k hk => ?_, p6, p7, p8, p9, b1, b2, b3, b4, by omega, b6, by omega, by omega, b9, b0⟩
    rw [hVq 5 k (by decide) (by decide) (by decide) (by decide)]
    refine ⟨?_, (p5 k hk).2⟩
    by_cases e : k = r
    · rw [e, hV3r]; exact Or.inr rfl
    · rw [hVk 3 k e (by decide)]; exact (p5 k hk).1
  · obtain ⟨x1, x2, x3, x4, x5, x6, x7⟩ := M
    refine ⟨fun k hk => by rw [hV0]; exact x1 k hk, fun k i hk hi => by rw [hV0, hV0]; exact x2 k i hk hi, x3, fun k hk => by rw [hV0]; exact x4 k hk, fun k hk z => ?_, fun k hk z => ?_, x7⟩
    · rw [hV0] at z
      rw [hV2 k hk, x5 k hk z, if_neg (fun w => hr0 w.symm)]
    · rw [hV0, hV2 k hk] at z
      by_cases e : v 2 k = v 0 r
      · rw [if_pos e] at z
        rw [x5 k hk z.symm] at e
        exact hr0 e.symm
      · rw [if_neg e] at z
        exact x6 k hk z
  · intro k hk
    by_cases ek : k = r
    · subst ek
      obtain ⟨a1, a2, a3, a4, a5, a6, a7, a8, a9⟩ := gr
      have eU1 : U 1 (pl k) = 4 := by
        rcases J3 (pl k) with ⟨c1, -⟩ | ⟨-, -, c1, -⟩
        · rw [c1, hw1r]
        · rw [hw1r] at c1
          exact absurd c1 (by decide)
      refine ⟨a1, by rw [hVq 1 k (by decide) (by decide) (by decide) (by decide)]; exact a2, by rw [hUq 0 _ (by decide) (by decide) (by decide), hV0]; exact ex, ?_, ?_, ?_, ?_, fun z => ?_, Or.inl (by rw [hV]; simp)⟩
      · rw [hV2r, hU2, if_neg (fun z => hpr (by rw [← hw2r]; exact z.2.2)), hw2r]
      · rw [hUq 3 _ (by decide) (by decide) (by decide), hwq 3 _ (by decide) (by decide) (by decide), hVq 5 k (by decide) (by decide) (by decide) (by decide)]
        exact a5
      · rw [hUq 4 _ (by decide) (by decide) (by decide), hV3r, if_neg (by decide), hw, if_pos ⟨rfl, rfl⟩, hV]
        simp
      · rw [eU1, mSta_sF, hV3r]
        exact (sF_4.mpr (by decide)).symm
      · rw [eU1] at z
        exact absurd z (by decide)
    · have epl := hpl k hk ek
      obtain ⟨a1, a2, a3, a4, a5, a6, a7, a8, a9⟩ := Rw k hk
      have hw1k : w0 1 (pl k) = u 1 (pl k) := by rw [hw1, if_neg epl]
      have hw5k : w0 5 (pl k) = u 5 (pl k) := hwq 5 _ (by decide) (by decide) (by decide)
      have h1ne : ¬ u 1 (pl k) = 0 := by rw [a7]; exact mSta_ne _ _ _
      have hms : mSta V m k = sF (v 3 k) (v 6 k) (v 7 k) (v 8 k) (v 9 3) (decide (mEnd V m k < 0)) := by
        rw [mSta_sF, hVk 3 k ek (by decide), hVk 6 k ek (by decide), hVk 7 k ek (by decide), hVk 8 k ek (by decide), hVq 9 3 (by decide) (by decide) (by decide) (by decide)]
      have base : U 1 (pl k) = mSta V m k → (U 1 (pl k) = 3 → zWt U V (pl k) k) → zRow N m U V (pl k) k := fun hst hwt => by
        refine ⟨a1, by rw [hVk 1 k ek (by decide)]; exact a2, by rw [hUq 0 _ (by decide) (by decide) (by decide), hwq 0 _ (by decide) (by decide) (by decide), hV0]; exact a3, ?_, by rw [hUq 3 _ (by decide) (by decide) (by decide), hwq 3 _ (by decide) (by decide) (by decide), hVk 5 k ek (by decide)]; exact a5, ?_, hst, hwt, ?_⟩
        · rw [hU2, hV2 k hk, hw1k, hw2, a4]
          by_cases z : v 2 k = v 0 r
          · rw [if_pos z, if_pos ⟨a1, h1ne, z⟩]
          · rw [if_neg z, if_neg (fun w => z w.2.2)]
        · rw [hUq 4 _ (by decide) (by decide) (by decide), hw, if_neg (fun z => epl z.2), if_neg (fun z => absurd z.1 (by decide)), if_neg (fun z => absurd z.1 (by decide)), hVk 3 k ek (by decide), hVk 4 k ek (by decide)]
          exact a6
        · rw [hVk 6 k ek (by decide), hVk 3 k ek (by decide), hVk 7 k ek (by decide)]
          rcases a9 with z | ⟨y1, y2, j2, hj2, y3, y4⟩
          · exact Or.inl z
          · refine Or.inr ⟨y1, y2, j2, hj2, y3, ?_⟩
            have : ¬ j2 = j := fun z => by
              rw [z, e8] at y4
              have g1 := gr.1
              exact epl (nI_inj y4 (by omega) (by omega)).symm
            rw [hUq 8 _ (by decide) (by decide) (by decide), hw, if_neg (fun z => absurd z.1 (by decide)), if_neg (fun z => absurd z.1 (by decide)), if_neg (fun z => this z.2)]
            exact y4
      have hz4 : ∀ c, c < m → (u 1 (pl c) = 4 ↔ ¬ v 3 c = 0) := fun c hc => by
        rw [(Rw c hc).2.2.2.2.2.2.1, mSta_sF]
        exact sF_4
      rcases J3 (pl k) with ⟨c1, c5, cK⟩ | ⟨c1, c5, d1, d5, cK⟩
      · rw [hw1k] at c1 cK
        rw [hw5k] at c5 cK
        refine base ?_ (fun z => ?_)
        · rw [c1, hms, a7, mSta_sF]
          by_cases h7 : v 7 k = 2
          · by_cases hne : zNE v m k
            · have hne2 : (v 3 k = 0 ∧ v 6 k < 0) → zNE V m k := fun hh c hc e => by
                have e3 : u 1 (pl k) = 3 := by
                  rw [a7, mSta_sF, hh.1, h7]
                  simp [sF, hh.2, mEnd_neg hm, hne]
                have nK := fun z => cK z ⟨e3, by rw [(a8 e3).1]; exact h7⟩
                rw [hV0] at e
                by_cases ec : c = r
                · rw [ec, hV2r] at e
                  exact absurd (Or.inr ⟨k, hk, e.symm, rfl⟩) nK
                · rw [hVk 3 c ec (by decide)]
                  rw [hV2 c hc] at e
                  by_cases e2 : v 2 c = v 0 r
                  · rw [if_pos e2] at e
                    by_cases y3 : v 3 c = 0
                    · exact y3
                    · exfalso
                      refine nK (Or.inl ⟨⟨k, hk, e.symm, rfl⟩, pl c, (Rw c hc).1, ?_, ?_⟩)
                      · rw [hw1, if_neg (hpl c hc ec)]
                        exact (hz4 c hc).mpr y3
                      · rw [hw2, (Rw c hc).2.2.2.1]
                        exact e2
                  · rw [if_neg e2] at e
                    exact hne c hc e
              by_cases hh : v 3 k = 0 ∧ v 6 k < 0
              · have : decide (mEnd V m k < 0) = decide (mEnd v m k < 0) := by
                  rw [decide_eq_decide, mEnd_neg hm, mEnd_neg hm]
                  exact ⟨fun _ => hne, fun _ => hne2 hh⟩
                rw [this]
              · by_cases h3 : v 3 k = 0
                · rw [h3, sF_on (fun z => hh ⟨h3, z⟩), sF_on (fun z => hh ⟨h3, z⟩)]
                · rw [sF_4.mpr h3, sF_4.mpr h3]
            · have hne2 : ¬ zNE V m k := fun z => hne (fun c hc e => by
                by_cases ec : c = r
                · rw [ec]; exact z3
                · have hkr : ¬ v 2 c = v 0 r := fun y => ek (M.2.1 k r hk hr (e.symm.trans y))
                  have := z c hc (by rw [hV2 c hc, if_neg hkr, hV0]; exact e)
                  rwa [hVk 3 c ec (by decide)] at this)
              have : decide (mEnd V m k < 0) = decide (mEnd v m k < 0) := by
                rw [decide_eq_decide, mEnd_neg hm, mEnd_neg hm]
                exact ⟨fun y => absurd y hne2, fun y => absurd y hne⟩
              rw [this]
          · exact sF_b h7
        · rw [c1] at z
          obtain ⟨x1, x2, x3⟩ := a8 z
          have hu6 : U 6 (pl k) = u 6 (pl k) := by rw [hUq 6 _ (by decide) (by decide) (by decide), hwq 6 _ (by decide) (by decide) (by decide)]
          have hu7 : U 7 (pl k) = u 7 (pl k) := by rw [hUq 7 _ (by decide) (by decide) (by decide), hwq 7 _ (by decide) (by decide) (by decide)]
          unfold zWt
          rw [c5, hu6, hu7, hVk 7 k ek (by decide), hVk 8 k ek (by decide), hVq 9 3 (by decide) (by decide) (by decide) (by decide)]
          exact ⟨x1, x2, x3⟩
      · rw [hw1k] at d1
        rw [hw5k] at d5
        have h7 : v 7 k = 2 := by rw [← (a8 d1).1]; exact d5
        have hs : v 3 k = 0 ∧ v 6 k < 0 := sF_3 (by rw [← mSta_sF, ← a7]; exact d1)
        have hne2 : ¬ zNE V m k := fun z => by
          rcases cK with ⟨⟨k', hk', o1, o2⟩, b, hb, f1, f2⟩ | ⟨k', hk', o1, o2⟩
          · have ekk := M.2.2.1 k k' hk hk' o2
            rw [← ekk] at o1
            have hbr : ¬ b = pl r := fun y => hpr (by rw [← hw2r, ← y]; exact f2)
            rw [hw1, if_neg hbr] at f1
            obtain ⟨c, hc, ec⟩ := Cv.1 b (by omega) (by rw [f1]; decide)
            rw [← ec] at f1 f2 hbr
            have hcr : ¬ c = r := fun y => hbr (by rw [y])
            have f3 := (hz4 c hc).mp f1
            rw [hw2, (Rw c hc).2.2.2.1] at f2
            have := z c hc (by rw [hV2 c hc, if_pos f2, hV0, o1])
            rw [hVk 3 c hcr (by decide)] at this
            exact f3 this
          · have ekk := M.2.2.1 k k' hk hk' o2
            rw [← ekk] at o1
            have := z r hr (by rw [hV2r, hV0, o1])
            rw [hV3r] at this
            exact absurd this (by decide)
        refine base ?_ (fun z => by rw [c1] at z; exact absurd z (by decide))
        rw [c1, hms, hs.1, h7]
        have : ¬ mEnd V m k < 0 := fun z => hne2 ((mEnd_neg hm).mp z)
        simp [sF, hs.2, this]
  · intro a ha z
    exact Id.2 a ha (fun y => z ((J3.z a).mpr y))
  · intro a ha z
    have z0 := (J3.z a).mp z
    have har : ¬ a = pl r := fun y => by
      rw [y, hw1r] at z0
      exact absurd z0 (by decide)
    rw [hw1, if_neg har] at z0
    have hc := Cv.2.1 a ha z0
    rw [hUq 3 a (by decide) (by decide) (by decide), hUq 4 a (by decide) (by decide) (by decide), hwq 3 a (by decide) (by decide) (by decide), hw, if_neg (fun y => har y.2), if_neg (fun y => absurd y.1 (by decide)), if_neg (fun y => absurd y.1 (by decide))]
    exact hc
  · intro j' hj'
    rw [hUq 8 j' (by decide) (by decide) (by decide)]
    by_cases ej : j' = j
    · left
      rw [hw, if_neg (fun y => absurd y.1 (by decide)), if_neg (fun y => absurd y.1 (by decide)), if_pos ⟨rfl, ej⟩]
    · rw [hw, if_neg (fun y => absurd y.1 (by decide)), if_neg (fun y => absurd y.1 (by decide)), if_neg (fun y => ej y.2)]
      rcases Cv.2.2 j' hj' with z | ⟨k, hk, y1, y2⟩
      · exact Or.inl z
      · have hkr : ¬ k = r := fun y => by
          rw [y, e6] at y2
          exact ej (nI_inj y2 (by omega) (by omega)).symm
        exact Or.inr ⟨k, hk, y1, by rw [hVk 6 k hkr (by decide)]; exact y2⟩
theorem sim_exit {N n m t : Nat} {u v : St} (h : zB N n m t u v) (hn : n < 600) (x y : Int32) : (rExt N u x y).1 = (mExt v m x y).1 ∧ zN N (n + 1) (rExt N u x y).2 (mExt v m x y).2 := by
  have h' := h
  obtain ⟨lt, tk, pl, S, M, Rw, Cv⟩ := h
  have hm := S.2.1
  have hN4 : N ≤ 4 := S.2.2.2.2.2.2.2.2.2.1
  rcases zOn S M Rw Cv x with ⟨e1, e2⟩ | ⟨j, r, hj, hr, rfl, e6, e8, e1, e2, z3, z7⟩
  · have a : rExt N u x y = (-1, u) := by simp [rExt, e1]
    have b : mExt v m x y = (-1, v) := by simp [mExt, e2, nn_m1]
    rw [a, b]
    exact ⟨rfl, h'.up hn⟩
  · have g := Rw r hr
    have g1 := g.1
    have c1 := nI_clamp (show pl r < 2 ^ 31 by omega)
    have c2 := nI_clamp (show r < 2 ^ 31 by omega)
    have c3 := nI_clamp (show j < 2 ^ 31 by omega)
    have n1 := nI_m1 (show pl r < 2 ^ 31 by omega)
    have n2 := nI_pos' (show r < 2 ^ 31 by omega)
    by_cases h0 : pl r = 0
    · have hone : v 0 r = 1 := (M.2.2.2.1 r hr).mpr h0
      have hz : nI (pl r) = 0 := by rw [h0]; exact nI_0
      have a : rExt N u (nI j) y = (nI (pl r), rEmp N (up2 u 9 3 y)) := by
        unfold rExt
        rw [e1, if_neg n1, if_pos hz]
      have b : mExt v m (nI j) y = (v 1 r, up2 (up2 v 9 6 y) 9 2 0) := by
        unfold mExt
        rw [e2, if_pos n2]
        simp only [cl, c2]
        rw [if_pos hone]
      rw [a, b]
      exact ⟨g.2.1.symm, sim_exit1 (pl := pl) S hn y⟩
    · have hone : ¬ v 0 r = 1 := fun z => h0 ((M.2.2.2.1 r hr).mp z)
      have hz : ¬ nI (pl r) = 0 := fun z => by
        have z : nI (pl r) = nI 0 := z
        exact h0 (nI_inj z (by omega) (by omega))
      have a : rExt N u (nI j) y = (nI (pl r), rExt2 (rExt1 u j (pl r) y) (pl r)) := by
        unfold rExt
        rw [e1, if_neg n1, if_neg hz]
        simp only [cl, c1, c3]
      have b : mExt v m (nI j) y = (v 1 r, mExt2 (zl (mExt1 r) m 0 v) r y) := by
        unfold mExt
        rw [e2, if_pos n2]
        simp only [cl, c2]
        rw [if_neg hone]
      have e := sim_exit2 S M Rw Cv hn hr hj e6 e8 z3 y
      rw [a, b]
      dsimp only
      exact ⟨g.2.1.symm, e⟩
