theorem mFnd_cases {f : Nat → Int32} {x : Int32} {m : Nat} : (mFnd f x m = -1 ∧ ∀ k, k < m → ¬ f k = x) ∨ ∃ k, k < m ∧ f k = x ∧ mFnd f x m = nI k := by
  have h := zl_inv (f := fun k (r : Int32) => if f k = x then nI k else r) (I := fun i r => (r = -1 ∧ ∀ k, k < i → ¬ f k = x) ∨ ∃ k, k < i ∧ f k = x ∧ r = nI k) m 0 (-1) (fun j r _ _ hr => by
    show ((if f j = x then nI j else r) = -1 ∧ _) ∨ _
    by_cases e : f j = x
    · rw [if_pos e]
      exact Or.inr ⟨j, by omega, e, rfl⟩
    · rw [if_neg e]
      rcases hr with ⟨q, q2⟩ | ⟨k, a, b, c⟩
      · refine Or.inl ⟨q, fun k hk => ?_⟩
        rcases Nat.lt_or_eq_of_le (Nat.le_of_lt_succ hk) with z | z
        · exact q2 k z
        · rw [z]; exact e
      · exact Or.inr ⟨k, by omega, b, c⟩) (Or.inl ⟨rfl, fun k hk => absurd hk (by omega)⟩)
  rw [Nat.zero_add] at h
  exact h
theorem mFnd_eq {f : Nat → Int32} {x : Int32} {m k : Nat} (hk : k < m) (hf : f k = x) (hu : ∀ j, j < m → f j = x → j = k) : mFnd f x m = nI k := by
  rcases mFnd_cases (f := f) (x := x) (m := m) with ⟨-, q⟩ | ⟨j, a, b, c⟩
  · exact absurd hf (q k hk)
  · rw [c, hu j a b]
theorem mFnd_no {f : Nat → Int32} {x : Int32} {m : Nat} (h : ∀ k, k < m → ¬ f k = x) : mFnd f x m = -1 := by
  rcases mFnd_cases (f := f) (x := x) (m := m) with ⟨q, -⟩ | ⟨j, a, b, c⟩
  · exact q
  · exact absurd b (h j a)
theorem i_nle {a b : Int32} (h : ¬ a ≤ b) : b ≤ a := by
  rw [Int32.le_iff_toInt_le] at *
  omega
theorem i_tr {a b c : Int32} (h : a ≤ b) (h2 : b ≤ c) : a ≤ c := by
  rw [Int32.le_iff_toInt_le] at *
  omega
theorem i_rf (a : Int32) : a ≤ a := by
  rw [Int32.le_iff_toInt_le]
  omega
theorem mEnd_cases {v : St} {r m : Nat} (hm : m < 2 ^ 31) : (mEnd v m r = -1 ∧ ∀ c, c < m → v 2 c = v 0 r → v 3 c = 0) ∨ ∃ c, c < m ∧ v 2 c = v 0 r ∧ ¬ v 3 c = 0 ∧ mEnd v m r = nI c ∧ ∀ d, d < m → v 2 d = v 0 r → ¬ v 3 d = 0 → v 1 c ≤ v 1 d := by
  have h := zl_inv (f := mEnd1 v r) (I := fun i q => (q = -1 ∧ ∀ c, c < i → v 2 c = v 0 r → v 3 c = 0) ∨ ∃ c, c < i ∧ c < m ∧ v 2 c = v 0 r ∧ ¬ v 3 c = 0 ∧ q = nI c ∧ ∀ d, d < i → v 2 d = v 0 r → ¬ v 3 d = 0 → v 1 c ≤ v 1 d) m 0 (-1) (fun j q _ hj hr => by
    have hjm : j < m := by omega
    by_cases h1 : v 2 j = v 0 r
    · by_cases h2 : v 3 j = 0
      · have e : mEnd1 v r j q = q := by simp [mEnd1, h1, h2]
        rw [e]
        rcases hr with ⟨a, b⟩ | ⟨c, a0, a, b1, b2, b3, b4⟩
        · refine Or.inl ⟨a, fun c hc hc2 => ?_⟩
          rcases Nat.lt_or_eq_of_le (Nat.le_of_lt_succ hc) with z | z
          · exact b c z hc2
          · rw [z]; exact h2
        · refine Or.inr ⟨c, by omega, a, b1, b2, b3, fun d hd d1 d2 => ?_⟩
          rcases Nat.lt_or_eq_of_le (Nat.le_of_lt_succ hd) with z | z
          · exact b4 d z d1 d2
          · rw [z] at d2; exact absurd h2 d2
      · rcases hr with ⟨a, b⟩ | ⟨c, a0, a, b1, b2, b3, b4⟩
        · have e : mEnd1 v r j q = nI j := by simp [mEnd1, h1, h2, a, m1_neg]
          rw [e]
          refine Or.inr ⟨j, by omega, hjm, h1, h2, rfl, fun d hd d1 d2 => ?_⟩
          rcases Nat.lt_or_eq_of_le (Nat.le_of_lt_succ hd) with z | z
          · exact absurd (b d z d1) d2
          · rw [z]; exact i_rf _
        · have np := nI_pos (show c < 2 ^ 31 by omega)
          have cc := nI_clamp (show c < 2 ^ 31 by omega)
          by_cases h4 : v 1 c ≤ v 1 j
          · have e : mEnd1 v r j q = q := by simp [mEnd1, h1, h2, b3, np, cl, cc, h4]
            rw [e]
            refine Or.inr ⟨c, by omega, a, b1, b2, b3, fun d hd d1 d2 => ?_⟩
            rcases Nat.lt_or_eq_of_le (Nat.le_of_lt_succ hd) with z | z
            · exact b4 d z d1 d2
            · rw [z]; exact h4
          · have e : mEnd1 v r j q = nI j := by simp [mEnd1, h1, h2, b3, np, cl, cc, h4]
            rw [e]
            refine Or.inr ⟨j, by omega, hjm, h1, h2, rfl, fun d hd d1 d2 => ?_⟩
            rcases Nat.lt_or_eq_of_le (Nat.le_of_lt_succ hd) with z | z
            · exact i_tr (i_nle h4) (b4 d z d1 d2)
            · rw [z]; exact i_rf _
    · have e : mEnd1 v r j q = q := by simp [mEnd1, h1]
      rw [e]
      rcases hr with ⟨a, b⟩ | ⟨c, a0, a, b1, b2, b3, b4⟩
      · refine Or.inl ⟨a, fun c hc hc2 => ?_⟩
        rcases Nat.lt_or_eq_of_le (Nat.le_of_lt_succ hc) with z | z
        · exact b c z hc2
        · rw [z] at hc2; exact absurd hc2 h1
      · refine Or.inr ⟨c, by omega, a, b1, b2, b3, fun d hd d1 d2 => ?_⟩
        rcases Nat.lt_or_eq_of_le (Nat.le_of_lt_succ hd) with z | z
        · exact b4 d z d1 d2
        · rw [z] at d1; exact absurd d1 h1) (Or.inl ⟨rfl, fun c hc => absurd hc (by omega)⟩)
  rw [Nat.zero_add] at h
  rcases h with q | ⟨c, -, a, b⟩
  · exact Or.inl q
  · exact Or.inr ⟨c, a, b⟩
/-- no child of the row has ended -/
def zNE (v : St) (m k : Nat) : Prop := ∀ c, c < m → v 2 c = v 0 k → v 3 c = 0
theorem mEnd_neg {v : St} {r m : Nat} (hm : m ≤ 15) : mEnd v m r < 0 ↔ zNE v m r := by
  rcases mEnd_cases (v := v) (r := r) (show m < 2 ^ 31 by omega) with ⟨a, b⟩ | ⟨c, a, b1, b2, b3, b4⟩
  · exact ⟨fun _ => b, fun _ => by rw [a]; exact m1_neg⟩
  · constructor
    · intro q
      rw [b3] at q
      exact absurd q (nI_pos (by omega))
    · intro q
      exact absurd (q c a b1) b2
def sF (en on wt wh tk : Int32) (b : Bool) : Int32 := if en = 0 then (if on < 0 then (if wt = 1 then 3 else if wt = 2 then (if b = true then 3 else 1) else if wt = 3 then (if wh ≤ tk then 1 else 3) else 1) else 2) else 4
theorem mSta_sF (v : St) (m k : Nat) : mSta v m k = sF (v 3 k) (v 6 k) (v 7 k) (v 8 k) (v 9 3) (decide (mEnd v m k < 0)) := by
  unfold mSta sF
  simp only [decide_eq_true_eq]
theorem sF_in (en on wt wh tk : Int32) (b : Bool) : sF en on wt wh tk b = 1 ∨ sF en on wt wh tk b = 2 ∨ sF en on wt wh tk b = 3 ∨ sF en on wt wh tk b = 4 := by
  unfold sF
  split
  · split
    · split
      · exact Or.inr (Or.inr (Or.inl rfl))
      · split
        · split
          · exact Or.inr (Or.inr (Or.inl rfl))
          · exact Or.inl rfl
        · split
          · split
            · exact Or.inl rfl
            · exact Or.inr (Or.inr (Or.inl rfl))
          · exact Or.inl rfl
    · exact Or.inr (Or.inl rfl)
  · exact Or.inr (Or.inr (Or.inr rfl))
theorem sF_ne (en on wt wh tk : Int32) (b : Bool) : ¬ sF en on wt wh tk b = 0 := by
  rcases sF_in en on wt wh tk b with q | q | q | q <;> rw [q] <;> decide
theorem mSta_ne (v : St) (m k : Nat) : ¬ mSta v m k = 0 := by
  rw [mSta_sF]
  exact sF_ne _ _ _ _ _ _
/-- rows that are the same on both sides stay related -/
theorem zRow_cg {N m m' i k k' : Nat} {u v u' v' : St} (h : zRow N m u v i k) (hu : ∀ q, q < 8 → u' q i = u q i) (hv : ∀ q, q < 9 → v' q k' = v q k) (ht : v' 9 3 = v 9 3) (hm : m ≤ 15) (hm' : m' ≤ 15) (he : v 7 k = 2 → (zNE v' m' k' ↔ zNE v m k)) (h8 : ∀ j, j < N → u 8 j = nI i → u' 8 j = nI i) : zRow N m' u' v' i k' := by
  obtain ⟨a1, a2, a3, a4, a5, a6, a7, a8, a9⟩ := h
  have hd : sF (v 3 k) (v 6 k) (v 7 k) (v 8 k) (v 9 3) (decide (mEnd v' m' k' < 0)) = sF (v 3 k) (v 6 k) (v 7 k) (v 8 k) (v 9 3) (decide (mEnd v m k < 0)) := by
    by_cases q : v 7 k = 2
    · have : decide (mEnd v' m' k' < 0) = decide (mEnd v m k < 0) := by
        rw [decide_eq_decide, mEnd_neg hm', mEnd_neg hm]
        exact he q
      rw [this]
    · unfold sF
      simp only [q, if_false]
  refine ⟨a1, ?_, ?_, ?_, ?_, ?_, ?_, ?_, ?_⟩
  · rw [hv 1 (by decide)]; exact a2
  · rw [hu 0 (by decide), hv 0 (by decide)]; exact a3
  · rw [hu 2 (by decide), hv 2 (by decide)]; exact a4
  · rw [hu 3 (by decide), hv 5 (by decide)]; exact a5
  · rw [hu 4 (by decide), hv 3 (by decide), hv 4 (by decide)]; exact a6
  · rw [hu 1 (by decide), mSta_sF, hv 3 (by decide), hv 6 (by decide), hv 7 (by decide), hv 8 (by decide), ht, hd, ← mSta_sF]; exact a7
  · rw [hu 1 (by decide)]
    intro q
    have b := a8 q
    unfold zWt at *
    rw [hu 5 (by decide), hu 6 (by decide), hu 7 (by decide), hv 7 (by decide), hv 8 (by decide), ht]
    exact b
  · rw [hv 6 (by decide), hv 3 (by decide), hv 7 (by decide)]
    rcases a9 with q | ⟨q1, q2, j, q3, q4, q5⟩
    · exact Or.inl q
    · exact Or.inr ⟨q1, q2, j, q3, q4, h8 j q3 q5⟩
theorem zNE_cg {m : Nat} {v v' : St} {k : Nat} (h : ∀ c, c < m → v' 2 c = v 2 c ∧ v' 3 c = v 3 c) (h0 : v' 0 k = v 0 k) : zNE v' m k ↔ zNE v m k := by
  unfold zNE
  constructor
  · intro q c hc e
    have := q c hc (by rw [(h c hc).1, h0]; exact e)
    rwa [(h c hc).2] at this
  · intro q c hc e
    rw [(h c hc).2]
    rw [(h c hc).1, h0] at e
    exact q c hc e
theorem nI_inj {a b : Nat} (h : nI a = nI b) (ha : a < 2 ^ 31) (hb : b < 2 ^ 31) : a = b := (nI_eq ha hb).mp h
/-- the row at place i, from its state -/
theorem zFnd_pl {N m : Nat} {u v : St} {pl : Nat → Nat} {lt : Nat} (M : zNum m lt v pl) (Rw : ∀ k, k < m → zRow N m u v (pl k) k) {k : Nat} (hk : k < m) : mFnd (v 1) (nI (pl k)) m = nI k := by
  refine mFnd_eq hk (Rw k hk).2.1 (fun j hj e => ?_)
  rw [(Rw j hj).2.1] at e
  have h1 := (Rw j hj).1
  have h2 := (Rw k hk).1
  exact M.2.2.1 j k hj hk (nI_inj e (by omega) (by omega))
theorem zFnd_no {N m : Nat} {u v : St} {pl : Nat → Nat} (Rw : ∀ k, k < m → zRow N m u v (pl k) k) {i : Nat} (hi : i < 15) (h0 : u 1 i = 0) : mFnd (v 1) (nI i) m = -1 := by
  refine mFnd_no (fun k hk e => ?_)
  rw [(Rw k hk).2.1] at e
  have h1 := (Rw k hk).1
  have := nI_inj e (by omega) (by omega)
  have h7 := (Rw k hk).2.2.2.2.2.2.1
  rw [this, h0] at h7
  exact mSta_ne v m k h7.symm
theorem zFnd_nu {m lt : Nat} {v : St} {pl : Nat → Nat} (M : zNum m lt v pl) {k : Nat} (hk : k < m) : mFnd (v 0) (v 0 k) m = nI k := mFnd_eq hk rfl (fun j hj e => M.2.1 j k hj hk e)
/-- who is on a processor: none on both sides, or a row and its place -/
theorem zOn {N n m t lt tk : Nat} {u v : St} {pl : Nat → Nat} (S : zSc N n m t lt tk u v) (M : zNum m lt v pl) (Rw : ∀ k, k < m → zRow N m u v (pl k) k) (Cv : zCov N m u v pl) (x : Int32) :
    (rOn N u x = -1 ∧ mRun v m x = -1) ∨ ∃ j r, j < N ∧ r < m ∧ x = nI j ∧ v 6 r = nI j ∧ u 8 j = nI (pl r) ∧ rOn N u x = nI (pl r) ∧ mRun v m x = nI r ∧ v 3 r = 0 ∧ v 7 r = 0 := by
  have hN : N < 2 ^ 31 := by have := S.2.2.2.2.2.2.2.2.2.1; omega
  have h1 := S.2.2.2.1
  rcases pk_ix x hN with q | q | ⟨j, hj, rfl⟩
  · refine Or.inl ⟨?_, ?_⟩
    · simp [rOn, rIsP, q]
    · simp [mRun, q]
  · refine Or.inl ⟨?_, ?_⟩
    · have : rIsP N x = 0 := by
        unfold rIsP
        split
        · rfl
        · first | rfl | rw [if_pos q]
      rw [rOn, if_pos this]
    · unfold mRun
      split
      · rfl
      · rw [h1, if_pos q]
  · have er : mRun v m (nI j) = mFnd (v 6) (nI j) m := by
      unfold mRun
      rw [if_neg (nI_pos (by omega)), h1, if_neg (nI_ge hj hN)]
    rcases Cv.2.2 j hj with e8 | ⟨r, hr, e8, e6⟩
    · refine Or.inl ⟨by rw [rOn_in hN hj, e8], ?_⟩
      rw [er]
      refine mFnd_no (fun k hk e6 => ?_)
      rcases (Rw k hk).2.2.2.2.2.2.2.2 with z | ⟨-, -, j', hj', e1, e2⟩
      · rw [z] at e6
        exact nI_m1 (show j < 2 ^ 31 by omega) e6.symm
      · rw [e6] at e1
        have := nI_inj e1 (by omega) (by omega)
        subst this
        rw [e8] at e2
        have h15 := (Rw k hk).1
        exact nI_m1 (show pl k < 2 ^ 31 by omega) e2.symm
    · have hz : v 3 r = 0 ∧ v 7 r = 0 := by
        rcases (Rw r hr).2.2.2.2.2.2.2.2 with z | ⟨z1, z2, -⟩
        · rw [z] at e6
          exact absurd e6.symm (nI_m1 (show j < 2 ^ 31 by omega))
        · exact ⟨z1, z2⟩
      refine Or.inr ⟨j, r, hj, hr, rfl, e6, e8, by rw [rOn_in hN hj, e8], ?_, hz.1, hz.2⟩
      rw [er]
      refine mFnd_eq hr e6 (fun k hk ek => ?_)
      rcases (Rw k hk).2.2.2.2.2.2.2.2 with z | ⟨-, -, j', hj', e1, e2⟩
      · rw [z] at ek
        exact absurd ek.symm (nI_m1 (show j < 2 ^ 31 by omega))
      · rw [ek] at e1
        have := nI_inj e1 (by omega) (by omega)
        subst this
        rw [e8] at e2
        have h15 := (Rw k hk).1
        have h16 := (Rw r hr).1
        exact (M.2.2.1 r k hr hk (nI_inj e2 (by omega) (by omega))).symm
theorem zSc.up {N n m t lt tk : Nat} {u v : St} (S : zSc N n m t lt tk u v) (hn : n < 600) : zSc N (n + 1) m t lt tk u v := by
  obtain ⟨a1, a2, a3, a4, a5, a6, a7, a8, a9, b1, b2, b3, b4, b5, b6, b7, b8, b9⟩ := S
  exact ⟨a1, a2, a3, a4, a5, a6, a7, a8, a9, b1, b2, b3, b4, by omega, b6, by omega, by omega, b9⟩
theorem zB.up {N n m t : Nat} {u v : St} (h : zB N n m t u v) (hn : n < 600) : zN N (n + 1) u v := by
  obtain ⟨lt, tk, pl, S, M, Rw, Cv⟩ := h
  exact ⟨m, t, lt, tk, pl, S.up hn, M, Rw, Cv⟩
