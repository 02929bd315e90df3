theorem zVac {N m lt : Nat} {u v : St} {pl : Nat → Nat} (M : zNum m lt v pl) (Rw : ∀ k, k < m → zRow N m u v (pl k) k) (Cv : zCov N m u v pl) (hm : m ≤ 15) :
    ∀ n i, i + n = 15 → (zs (fun j => decide (u 1 j = 0)) n i = -1 ∧ zv (fun j => decide (¬ mFnd (v 1) (nI j) m < 0)) n i = 15) ∨ ∃ p, p < 15 ∧ u 1 p = 0 ∧ zs (fun j => decide (u 1 j = 0)) n i = nI p ∧ zv (fun j => decide (¬ mFnd (v 1) (nI j) m < 0)) n i = p
  | 0, i, h => Or.inl ⟨rfl, h⟩
  | n + 1, i, h => by
    by_cases h0 : u 1 i = 0
    · have ef := zFnd_no Rw (show i < 15 by omega) h0
      exact Or.inr ⟨i, by omega, h0, by simp [zs, h0], by simp [zv, ef, m1_neg]⟩
    · obtain ⟨r, hr, e⟩ := Cv.1 i (by omega) h0
      have ef := zFnd_pl M Rw hr
      rw [e] at ef
      have np := nI_pos (show r < 2 ^ 31 by omega)
      have e1 : zs (fun j => decide (u 1 j = 0)) (n + 1) i = zs (fun j => decide (u 1 j = 0)) n (i + 1) := by simp [zs, h0]
      have e2 : zv (fun j => decide (¬ mFnd (v 1) (nI j) m < 0)) (n + 1) i = zv (fun j => decide (¬ mFnd (v 1) (nI j) m < 0)) n (i + 1) := by simp [zv, ef, np]
      rw [e1, e2]
      exact zVac M Rw Cv hm n (i + 1) (by omega)
theorem sim_fork {N n m t : Nat} {u v : St} (h : zB N n m t u v) (hn : n < 600) (x : Int32) : (rFrk N u x).1 = (mFrk v m x).1 ∧ zN N (n + 1) (rFrk N u x).2 (mFrk v m x).2 := by
  have h' := h
  obtain ⟨lt, tk, pl, S, M, Rw, Cv⟩ := h
  have hm := S.2.1
  rcases zOn S M Rw Cv x with ⟨e1, e2⟩ | ⟨j, r, hj, hr, rfl, e6, e8, e1, e2, z3, z7⟩
  · have a : rFrk N u x = (-1, u) := by simp [rFrk, e1]
    have b : mFrk v m x = (-1, v) := by simp [mFrk, e2, m1_neg]
    rw [a, b]
    exact ⟨rfl, h'.up hn⟩
  · have g := (Rw r hr).1
    have hN : N ≤ 4 := S.2.2.2.2.2.2.2.2.2.1
    have c1 := nI_clamp (show pl r < 2 ^ 31 by omega)
    have c2 := nI_clamp (show r < 2 ^ 31 by omega)
    have n1 := nI_m1 (show pl r < 2 ^ 31 by omega)
    have n2 := nI_pos (show r < 2 ^ 31 by omega)
    rcases zVac M Rw Cv hm 15 0 rfl with ⟨f1, f2⟩ | ⟨p, hp, f0, f1, f2⟩
    · have f1 : rFre u = -1 := f1
      have f2 : mVac v m = 15 := f2
      have a : rFrk N u (nI j) = (-1, u) := by simp [rFrk, e1, n1, f1]
      have b : mFrk v m (nI j) = (-1, v) := by
        have : nI 15 = (15 : Int32) := rfl
        simp [mFrk, e2, n2, f2, this]
      rw [a, b]
      exact ⟨rfl, h'.up hn⟩
    · have f1 : rFre u = nI p := f1
      have f2 : mVac v m = p := f2
      have n3 := nI_m1 (show p < 2 ^ 31 by omega)
      have c3 := nI_clamp (show p < 2 ^ 31 by omega)
      have n4 : ¬ nI p = 15 := fun q => by
        have q : nI p = nI 15 := q
        have := nI_inj q (by omega) (by omega)
        omega
      have hm15 := zRoom M Rw Cv hp f0
      have a : rFrk N u (nI j) = (nI p, rSet (up2 u 9 1 (u 9 1 + 1)) p (u 9 1 + 1) (u 0 (pl r))) := by simp [rFrk, e1, n1, f1, n3, cl, c1, c3, up2_at]
      have b : mFrk v m (nI j) = (nI p, mAdd v m (nI p) (v 0 r)) := by simp [mFrk, e2, n2, f2, n4, cl, c2]
      rw [a, b]
      show _ ∧ zN N (n + 1) (rSet (up2 u 9 1 (u 9 1 + 1)) p (u 9 1 + 1) (u 0 (pl r))) (mAdd v m (nI p) (v 0 r))
      have hocc : ∀ k, k < m → ¬ pl k = p := fun k hk e => by
        have := (Rw k hk).2.2.2.2.2.2.1
        rw [e, f0] at this
        exact mSta_ne _ _ _ this.symm
      have hfc := Cv.2.1 p hp f0
      obtain ⟨qr, q1, q2, q3⟩ := M.1 r hr
      have hpl0 : ¬ p = 0 := fun e => by
        obtain ⟨k, hk, ek⟩ := M.2.2.2.2.2.2 (by omega)
        exact hocc k hk (by rw [ek, e])
      have hvq : ∀ q k, q < 9 → ¬ k = m → mAdd v m (nI p) (v 0 r) q k = v q k := fun q k hq hk => by
        have : ¬ q = 9 := by omega
        simp [mAdd_at, hk, this]
      obtain ⟨p1, p2, p3, p4, p5, p6, p7, p8, p9, b1, b2, b3, b4, b5, b6, b7, b8, b9, b0⟩ := S
      have hlt1 : v 9 4 + 1 = nI (lt + 1) := by rw [b6]; exact nI_1 lt
      refine ⟨rfl, m + 1, t, lt + 1, tk, fun k => if k = m then p else pl k, ?_, ?_, ?_, ?_, ?_, ?_⟩
      · refine ⟨by simp [mAdd_at], by omega, by simpa [mAdd_at] using p3, by simpa [mAdd_at] using p4, ?_, p6, by simpa [mAdd_at] using p7, by simpa [mAdd_at, rSet_at, up2_at] using p8, p9, b1, by simpa [mAdd_at, rSet_at, up2_at] using b2, by simp [mAdd_at, rSet_at, up2_at, b3], by simpa [mAdd_at] using b4, by omega, by simpa [mAdd_at] using hlt1, by omega, by omega, fun _ => by simpa [mAdd_at, rSet_at, up2_at] using b9 (by omega), ?_⟩
        · intro k hk
          by_cases e : k = m
          · simp [mAdd_at, e]
          · rw [hvq 3 k (by decide) e, hvq 5 k (by decide) e]
            exact p5 k hk
        · obtain ⟨t0, ht0, et0⟩ := b0
          exact ⟨t0, ht0, by simpa [rSet_at, up2_at] using et0⟩
      · have hnew : mAdd v m (nI p) (v 0 r) 0 m = nI (lt + 1) := by simpa [mAdd_at] using hlt1
        obtain ⟨d1, d2, d3, d4, d5, d6, d7⟩ := M
        refine ⟨fun k hk => ?_, fun k i hk hi => ?_, fun k i hk hi => ?_, fun k hk => ?_, fun k hk => ?_, fun k hk => ?_, fun _ => ?_⟩
        · by_cases e : k = m
          · exact ⟨lt + 1, by omega, by omega, by rw [e]; exact hnew⟩
          · obtain ⟨q, z1, z2, z3⟩ := d1 k (by omega)
            exact ⟨q, z1, by omega, by rw [hvq 0 k (by decide) e]; exact z3⟩
        · by_cases e : k = m
          · by_cases e' : i = m
            · omega
            · obtain ⟨q, z1, z2, z3⟩ := d1 i (by omega)
              rw [e, hnew, hvq 0 i (by decide) e', z3]
              intro z
              have := nI_inj z (by omega) (by omega)
              omega
          · by_cases e' : i = m
            · obtain ⟨q, z1, z2, z3⟩ := d1 k (by omega)
              rw [e', hnew, hvq 0 k (by decide) e, z3]
              intro z
              have := nI_inj z (by omega) (by omega)
              omega
            · rw [hvq 0 k (by decide) e, hvq 0 i (by decide) e']
              exact d2 k i (by omega) (by omega)
        · by_cases e : k = m
          · by_cases e' : i = m
            · omega
            · simp only [e, e', if_true, if_false]
              intro z
              exact absurd z.symm (hocc i (by omega))
          · by_cases e' : i = m
            · simp only [e, e', if_true, if_false]
              intro z
              exact absurd z (hocc k (by omega))
            · simp only [e, e', if_false]
              exact d3 k i (by omega) (by omega)
        · by_cases e : k = m
          · simp only [e, if_true]
            rw [hnew]
            constructor
            · intro z
              have z : nI (lt + 1) = nI 1 := z
              have := nI_inj z (by omega) (by omega)
              omega
            · intro z
              exact absurd z hpl0
          · simp only [e, if_false]
            rw [hvq 0 k (by decide) e]
            exact d4 k (by omega)
        · by_cases e : k = m
          · rw [e, hnew]
            intro z
            have z : nI (lt + 1) = nI 1 := z
            have := nI_inj z (by omega) (by omega)
            omega
          · rw [hvq 0 k (by decide) e, hvq 2 k (by decide) e]
            exact d5 k (by omega)
        · by_cases e : k = m
          · rw [e, hnew]
            have : mAdd v m (nI p) (v 0 r) 2 m = v 0 r := by simp [mAdd_at]
            rw [this, q3]
            intro z
            have := nI_inj z (by omega) (by omega)
            omega
          · rw [hvq 0 k (by decide) e, hvq 2 k (by decide) e]
            exact d6 k (by omega)
        · obtain ⟨k, hk, ek⟩ := d7 (by omega)
          exact ⟨k, by omega, by simp only [show ¬ k = m by omega, if_false]; exact ek⟩
      · intro k hk
        by_cases e : k = m
        · subst e
          simp only [if_true]
          refine ⟨hp, by simp [mAdd_at], by simp [mAdd_at, rSet_at, b3], by simp [mAdd_at, rSet_at, (Rw r hr).2.2.1], by simpa [mAdd_at, rSet_at, up2_at] using hfc.1, by simpa [mAdd_at, rSet_at, up2_at] using hfc.2, ?_, ?_, Or.inl (by simp [mAdd_at])⟩
          · rw [mSta_sF]
            simp [mAdd_at, rSet_at, sF, m1_neg]
          · intro z
            simp [rSet_at] at z
        · simp only [e, if_false]
          have ek := hocc k (by omega)
          refine zRow_cg (Rw k (by omega)) (fun q hq => ?_) (fun q hq => hvq q k hq e) (by simp [mAdd_at]) hm (by omega) (fun _ => ?_) (fun j2 _ z => by simpa [rSet_at, up2_at] using z)
          · have : ¬ q = 9 := by omega
            simp [rSet_at, up2_at, ek, this]
          · unfold zNE
            rw [hvq 0 k (by decide) e]
            constructor
            · intro z c hc hc2
              have := z c (by omega) (by rw [hvq 2 c (by decide) (by omega)]; exact hc2)
              rwa [hvq 3 c (by decide) (by omega)] at this
            · intro z c hc hc2
              by_cases ec : c = m
              · simp [mAdd_at, ec]
              · rw [hvq 3 c (by decide) ec]
                rw [hvq 2 c (by decide) ec] at hc2
                exact z c (by omega) hc2
      · intro i hi z
        by_cases e : i = p
        · exact ⟨m, by omega, by simp [e]⟩
        · obtain ⟨k, hk, ek⟩ := Cv.1 i hi (by simpa [rSet_at, up2_at, e] using z)
          exact ⟨k, by omega, by simp only [show ¬ k = m by omega, if_false]; exact ek⟩
      · intro i hi z
        by_cases e : i = p
        · simp [rSet_at, e] at z
        · have := Cv.2.1 i hi (by simpa [rSet_at, up2_at, e] using z)
          simpa [rSet_at, up2_at] using this
      · intro j2 hj2
        rcases Cv.2.2 j2 hj2 with z | ⟨k, hk, z1, z2⟩
        · left
          simpa [rSet_at, up2_at] using z
        · refine Or.inr ⟨k, by omega, ?_, by rw [hvq 6 k (by decide) (by omega)]; exact z2⟩
          simp only [show ¬ k = m by omega, if_false]
          simpa [rSet_at, up2_at] using z1
