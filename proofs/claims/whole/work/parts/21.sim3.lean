theorem mPk1_nn {v : St} {m t n i : Nat} {r : Int32} (h : 0 ≤ r) : mPk1 v m t n i r = r := by
  cases n with
  | zero => rfl
  | succ n => simp [mPk1, h]
theorem zNx {N m lt : Nat} {u v : St} {pl : Nat → Nat} (M : zNum m lt v pl) (Rw : ∀ k, k < m → zRow N m u v (pl k) k) (Cv : zCov N m u v pl) (hm : m ≤ 15) (t : Nat) :
    ∀ n i, (zn (fun j => decide (u 1 j = 1)) t n i = -1 ∧ mPk1 v m t n i (-1) = -1) ∨ ∃ r, r < m ∧ zn (fun j => decide (u 1 j = 1)) t n i = nI (pl r) ∧ mPk1 v m t n i (-1) = nI r ∧ mSta v m r = 1
  | 0, i => Or.inl ⟨rfl, rfl⟩
  | n + 1, i => by
    have hp : (t + i) % 15 < 15 := Nat.mod_lt _ (by decide)
    by_cases h1 : u 1 ((t + i) % 15) = 1
    · obtain ⟨r, hr, e⟩ := Cv.1 _ hp (by rw [h1]; decide)
      have ef := zFnd_pl M Rw hr
      rw [e] at ef
      have es : mSta v m r = 1 := by rw [← (Rw r hr).2.2.2.2.2.2.1, e, h1]
      have np := nI_pos (show r < 2 ^ 31 by omega)
      have cr := nI_clamp (show r < 2 ^ 31 by omega)
      refine Or.inr ⟨r, hr, ?_, ?_, es⟩
      · rw [e]
        simp [zn, h1]
      · simp only [mPk1]
        rw [if_neg nn_m1, ef, if_neg np]
        simp only [cl, cr]
        rw [if_pos es]
        exact mPk1_nn (nI_pos' (by omega))
    · have e : zn (fun j => decide (u 1 j = 1)) t (n + 1) i = zn (fun j => decide (u 1 j = 1)) t n (i + 1) := by simp [zn, h1]
      have e2 : mPk1 v m t (n + 1) i (-1) = mPk1 v m t n (i + 1) (-1) := by
        by_cases h0 : u 1 ((t + i) % 15) = 0
        · have ef := zFnd_no Rw hp h0
          simp [mPk1, nn_m1, ef, m1_neg]
        · obtain ⟨r, hr, e⟩ := Cv.1 _ hp h0
          have ef := zFnd_pl M Rw hr
          rw [e] at ef
          have es : ¬ mSta v m r = 1 := by rw [← (Rw r hr).2.2.2.2.2.2.1, e]; exact h1
          have np := nI_pos (show r < 2 ^ 31 by omega)
          have cr := nI_clamp (show r < 2 ^ 31 by omega)
          simp only [mPk1]
          rw [if_neg nn_m1, ef, if_neg np]
          simp only [cl, cr]
          rw [if_neg es]
      rw [e, e2]
      exact zNx M Rw Cv hm t n (i + 1)
theorem mPk2_at (v : St) (r : Nat) (x : Int32) (q k : Nat) : mPk2 v r x q k = if q = 9 ∧ k = 5 then v 1 r else if q = 7 ∧ k = r then 0 else if q = 6 ∧ k = r then x else v q k := by
  simp [mPk2, up2_at]
theorem sim_pick {N n m t : Nat} {u v : St} (h : zB N n m t u v) (hn : n < 600) (x : Int32) : (rPck N u x).1 = (mPck v m t x).1 ∧ zN N (n + 1) (rPck N u x).2 (mPck v m t x).2 := by
  have h' := h
  obtain ⟨lt, tk, pl, S, M, Rw, Cv⟩ := h
  have hm := S.2.1
  have hN4 : N ≤ 4 := S.2.2.2.2.2.2.2.2.2.1
  have hN : N < 2 ^ 31 := by omega
  have h91 := S.2.2.2.1
  obtain ⟨t0, ht0, et0⟩ := S.2.2.2.2.2.2.2.2.2.2.2.2.2.2.2.2.2.2
  have htm := S.2.2.2.2.2.2.2.2.2.2.2.2.2.2.2.2.2.1
  have ct0 := nI_clamp (show t0 < 2 ^ 31 by omega)
  rcases pk_ix x hN with q | q | ⟨j, hj, rfl⟩
  · have a : rPck N u x = (-1, u) := by simp [rPck, rIsP, q]
    have b : mPck v m t x = (-1, v) := by simp [mPck, q]
    rw [a, b]
    exact ⟨rfl, h'.up hn⟩
  · have z : rIsP N x = 0 := by
      unfold rIsP
      split
      · rfl
      · first | rfl | rw [if_pos q]
    have a : rPck N u x = (-1, u) := by simp [rPck, z]
    have hnl : ¬ x < v 9 1 := by
      rw [h91]
      rw [Int32.lt_iff_toInt_lt]
      rw [Int32.le_iff_toInt_le] at q
      omega
    have b : mPck v m t x = (-1, v) := by simp [mPck, hnl]
    rw [a, b]
    exact ⟨rfl, h'.up hn⟩
  · have hp1 := rIsP_in hN hj
    have hjn := nI_pos (show j < 2 ^ 31 by omega)
    have hjl : nI j < v 9 1 := by rw [h91]; exact nI_lt hj hN
    have cj := nI_clamp (show j < 2 ^ 31 by omega)
    rcases zOn S M Rw Cv (nI j) with ⟨e1, e2⟩ | ⟨j', r, hj', hr, ej, e6, e8, e1, e2, z3, z7⟩
    · have e8 : u 8 j = -1 := (rOn_in (u := u) hN hj).symm.trans e1
      have key : ∀ w, rNxt u t0 = w → (m = 0 ∨ t0 = t) → True := fun _ _ _ => trivial
      have ht : m = 0 ∨ t0 = t := by
        rcases Nat.eq_zero_or_pos m with q | q
        · exact Or.inl q
        · right
          have := htm q
          rw [et0, S.2.2.2.2.2.2.1] at this
          have h15 := S.2.2.2.2.2.1
          exact nI_inj this (by omega) (by omega)
      rcases zNx M Rw Cv hm t 15 1 with ⟨g1, g2⟩ | ⟨r, hr, g1, g2, gs⟩
      · have gn : rNxt u t0 = -1 := by
          rcases ht with q | q
          · rcases zNx M Rw Cv hm t0 15 1 with ⟨k1, -⟩ | ⟨r, hr, -⟩
            · exact k1
            · omega
          · rw [q]; exact g1
        have a : rPck N u (nI j) = (-1, u) := by simp [rPck, hp1, cl, cj, e8, et0, ct0, gn]
        have b : mPck v m t (nI j) = (-1, v) := by simp [mPck, hjn, hjl, e2, g2, nn_m1]
        rw [a, b]
        exact ⟨rfl, h'.up hn⟩
      · have htt : t0 = t := by
          rcases ht with q | q
          · omega
          · exact q
        have gn : rNxt u t0 = nI (pl r) := by rw [htt]; exact g1
        obtain ⟨a1, a2, a3, a4, a5, a6, a7, a8, a9⟩ := Rw r hr
        have n1 := nI_m1 (show pl r < 2 ^ 31 by omega)
        have n2 := nI_pos' (show r < 2 ^ 31 by omega)
        have c1 := nI_clamp (show pl r < 2 ^ 31 by omega)
        have c2 := nI_clamp (show r < 2 ^ 31 by omega)
        have hz3 : v 3 r = 0 := by
          by_cases q : v 3 r = 0
          · exact q
          · rw [mSta_sF, sF_4.mpr q] at gs
            exact absurd gs (by decide)
        have hz6 : v 6 r = -1 := by
          rcases a9 with q | ⟨-, -, j2, hj2, q, -⟩
          · exact q
          · rw [mSta_sF, hz3, q, sF_on (nI_pos (by omega))] at gs
            exact absurd gs (by decide)
        have hnx : ¬ v 6 r = nI j := by rw [hz6]; exact fun q => nI_m1 (show j < 2 ^ 31 by omega) q.symm
        have a : rPck N u (nI j) = (nI (pl r), up2 (up2 (up2 u 1 (pl r) 2) 8 j (nI (pl r))) 9 0 (nI (pl r))) := by simp [rPck, hp1, cl, cj, e8, et0, ct0, gn, n1, c1]
        have b : mPck v m t (nI j) = ((mPk2 v r (nI j)) 1 r, mPk2 v r (nI j)) := by simp [mPck, hjn, hjl, e2, g2, n2, cl, c2, hnx]
        rw [a, b]
        refine ⟨by simp [mPk2_at, a2], m, pl r, lt, tk, pl, ?_, ?_, ?_, ?_, ?_, ?_⟩
        · obtain ⟨p1, p2, p3, p4, p5, p6, p7, p8, p9, b1, b2, b3, b4, b5, b6, b7, b8, b9, b0⟩ := S
          refine ⟨by simpa [mPk2_at] using p1, p2, by simpa [mPk2_at] using p3, by simpa [mPk2_at] using p4, ?_, a1, by simp [mPk2_at, a2], by simpa [mPk2_at, up2_at] using p8, p9, b1, by simpa [mPk2_at, up2_at] using b2, by simpa [mPk2_at, up2_at] using b3, by simpa [mPk2_at] using b4, by omega, by simpa [mPk2_at] using b6, by omega, by omega, fun _ => by simp [mPk2_at, up2_at, a2], pl r, a1, by simp [up2_at]⟩
          intro k hk
          simpa [mPk2_at] using p5 k hk
        · obtain ⟨q1, q2, q3, q4, q5, q6, q7⟩ := M
          exact ⟨fun k hk => by simpa [mPk2_at] using q1 k hk, fun k j hk hj => by simpa [mPk2_at] using q2 k j hk hj, q3, fun k hk => by simpa [mPk2_at] using q4 k hk, fun k hk => by simpa [mPk2_at] using q5 k hk, fun k hk => by simpa [mPk2_at] using q6 k hk, q7⟩
        · intro k hk
          by_cases e : k = r
          · subst e
            refine ⟨a1, by simpa [mPk2_at] using a2, by simpa [mPk2_at, up2_at] using a3, by simpa [mPk2_at, up2_at] using a4, by simpa [mPk2_at, up2_at] using a5, by simpa [mPk2_at, up2_at] using a6, ?_, ?_, ?_⟩
            · rw [mSta_sF]
              simp only [mPk2_at, up2_at]
              simp [hz3]
              rw [sF_on hjn]
            · intro q
              simp [up2_at] at q
            · exact Or.inr ⟨by simpa [mPk2_at] using hz3, by simp [mPk2_at], j, hj, by simp [mPk2_at], by simp [up2_at]⟩
          · have ep : ¬ pl k = pl r := fun z => e (M.2.2.1 k r hk hr z)
            refine zRow_cg (Rw k hk) (fun q hq => ?_) (fun q hq => ?_) (by simp [mPk2_at]) hm hm (fun _ => zNE_cg (fun c _ => by constructor <;> simp [mPk2_at]) (by simp [mPk2_at])) (fun j2 hj2 z8 => ?_)
            · have q9 : ¬ q = 9 := by omega
              have q8 : ¬ q = 8 := by omega
              simp [up2_at, ep, q9, q8]
            · have q9 : ¬ q = 9 := by omega
              simp [mPk2_at, e, q9]
            · have : ¬ j2 = j := fun z => by
                rw [z, e8] at z8
                have h15 := (Rw k hk).1
                exact nI_m1 (show pl k < 2 ^ 31 by omega) z8.symm
              simpa [up2_at, this] using z8
        · intro i hi h0
          by_cases e : i = pl r
          · exact ⟨r, hr, e.symm⟩
          · exact Cv.1 i hi (by simpa [up2_at, e] using h0)
        · intro i hi h0
          by_cases e : i = pl r
          · simp [up2_at, e] at h0
          · have := Cv.2.1 i hi (by simpa [up2_at, e] using h0)
            simpa [up2_at] using this
        · intro j2 hj2
          by_cases e : j2 = j
          · exact Or.inr ⟨r, hr, by simp [up2_at, e], by simp [mPk2_at, e]⟩
          · rcases Cv.2.2 j2 hj2 with q | ⟨k, hk, q1, q2⟩
            · exact Or.inl (by simpa [up2_at, e] using q)
            · have ek : ¬ k = r := fun z => by
                rw [z, hz6] at q2
                exact nI_m1 (show j2 < 2 ^ 31 by omega) q2.symm
              exact Or.inr ⟨k, hk, by simpa [up2_at, e] using q1, by simpa [mPk2_at, ek] using q2⟩
    · have hjj := nI_inj ej (by omega) (by omega)
      subst hjj
      have g := (Rw r hr).1
      have n1 := nI_m1 (show pl r < 2 ^ 31 by omega)
      have n2 := nI_pos' (show r < 2 ^ 31 by omega)
      have c2 := nI_clamp (show r < 2 ^ 31 by omega)
      have a : rPck N u (nI j) = (nI (pl r), u) := by simp [rPck, hp1, cl, cj, e8, n1]
      have b : mPck v m t (nI j) = (v 1 r, v) := by simp [mPck, hjn, hjl, e2, mPk1_nn n2, n2, cl, c2, e6]
      rw [a, b]
      exact ⟨(Rw r hr).2.1.symm, h'.up hn⟩
/-- the processor of a place -/
theorem zPrc {N m lt : Nat} {u v : St} {pl : Nat → Nat} (M : zNum m lt v pl) (Rw : ∀ k, k < m → zRow N m u v (pl k) k) (Cv : zCov N m u v pl) (hN : N ≤ 4) {k : Nat} (hk : k < m) : rPrc N u (nI (pl k)) = v 6 k := by
  have uniq : ∀ j, j < N → u 8 j = nI (pl k) → v 6 k = nI j := fun j hj e => by
    rcases Cv.2.2 j hj with q | ⟨k', hk', q1, q2⟩
    · rw [q] at e
      have := (Rw k hk).1
      exact absurd e.symm (nI_m1 (show pl k < 2 ^ 31 by omega))
    · rw [q1] at e
      have g1 := (Rw k hk).1
      have g2 := (Rw k' hk').1
      have := M.2.2.1 k' k hk' hk (nI_inj e (by omega) (by omega))
      rw [← this]
      exact q2
  rcases zs_cases (fun j => decide (u 8 j = nI (pl k))) N 0 with ⟨a, b⟩ | ⟨j, -, a, b, c, -⟩
  · rcases (Rw k hk).2.2.2.2.2.2.2.2 with q | ⟨-, -, j, hj, q, q8⟩
    · rw [q]; exact a
    · have := b j (Nat.zero_le _) (by omega)
      simp [q8] at this
  · simp only [decide_eq_true_eq] at b
    rw [uniq j (by omega) b]
    exact c
theorem sim_about {N n m t : Nat} {u v : St} (h : zB N n m t u v) (hn : n < 600) (x y : Int32) : rAbt N u x y = mAbt v m x y ∧ zN N (n + 1) u v := by
  refine ⟨?_, h.up hn⟩
  obtain ⟨lt, tk, pl, S, M, Rw, Cv⟩ := h
  have hm := S.2.1
  have hN : N ≤ 4 := S.2.2.2.2.2.2.2.2.2.1
  rcases pk_ix x (n := 15) (by decide) with q | q | ⟨i, hi, rfl⟩
  · simp [rAbt, mAbt, mAbtR, q, nn_m1]
  · have q : (15 : Int32) ≤ x := q
    have hl : ¬ x < 15 := by
      rw [Int32.lt_iff_toInt_lt]
      rw [Int32.le_iff_toInt_le] at q
      omega
    have eR : mAbtR v m x = -1 := by
      unfold mAbtR
      split
      · rfl
      · first | rfl | rw [if_pos q]
    simp [rAbt, mAbt, eR, hl, q, nn_m1]
  · have h1 := nI_pos (show i < 2 ^ 31 by omega)
    have h2 : nI i < 15 := nI_lt (b := 15) hi (by decide)
    have h3 : ¬ (15 : Int32) ≤ nI i := nI_ge (b := 15) hi (by decide)
    have ci := nI_clamp (show i < 2 ^ 31 by omega)
    have eR : mAbtR v m (nI i) = mFnd (v 1) (nI i) m := by simp [mAbtR, h1, h3]
    by_cases h0 : u 1 i = 0
    · have ef := zFnd_no Rw hi h0
      simp [rAbt, mAbt, eR, ef, h1, h2, h3, cl, ci, h0, nn_m1]
    · obtain ⟨r, hr, e⟩ := Cv.1 i hi h0
      have ef := zFnd_pl M Rw hr
      have ep := zPrc M Rw Cv hN hr
      rw [e] at ef ep
      obtain ⟨a1, a2, a3, a4, a5, a6, a7, a8, a9⟩ := Rw r hr
      rw [e] at a2 a3 a4 a5 a6 a7
      have n2 := nI_pos' (show r < 2 ^ 31 by omega)
      have c2 := nI_clamp (show r < 2 ^ 31 by omega)
      have hs : ¬ mSta v m r = 0 := mSta_ne _ _ _
      simp [rAbt, mAbt, eR, ef, h1, h2, cl, ci, c2, n2, a3, a4, a5, a6, a7, hs, ep]
