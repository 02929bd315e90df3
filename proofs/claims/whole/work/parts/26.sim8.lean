theorem mS_at (p k : Nat) (v : St) (q a : Nat) : mS p k v q a = if q = p ∧ a = k then v p (k + 1) else v q a := by
  simp only [mS, up2_at]
theorem mShf_at (k : Nat) (w : St) (q a : Nat) : mShf k w q a = if q < 9 ∧ a = k then w q (k + 1) else w q a := by
  have hk : ¬ k + 1 = k := by omega
  by_cases e : a = k
  · subst e
    by_cases hq : q < 9
    · rcases (show q = 0 ∨ q = 1 ∨ q = 2 ∨ q = 3 ∨ q = 4 ∨ q = 5 ∨ q = 6 ∨ q = 7 ∨ q = 8 by omega) with rfl | rfl | rfl | rfl | rfl | rfl | rfl | rfl | rfl <;> simp [mShf, mS_at]
    · have h0 : ¬ q = 0 := by omega
      have h1 : ¬ q = 1 := by omega
      have h2 : ¬ q = 2 := by omega
      have h3 : ¬ q = 3 := by omega
      have h4 : ¬ q = 4 := by omega
      have h5 : ¬ q = 5 := by omega
      have h6 : ¬ q = 6 := by omega
      have h7 : ¬ q = 7 := by omega
      have h8 : ¬ q = 8 := by omega
      simp [mShf, mS_at, h0, h1, h2, h3, h4, h5, h6, h7, h8, hq]
  · simp [mShf, mS_at, e]
theorem zl_shf : ∀ (n i : Nat) (w : St) (q a : Nat), zl mShf n i w q a = if q < 9 ∧ i ≤ a ∧ a < i + n then w q (a + 1) else w q a
  | 0, i, w, q, a => by
    rw [if_neg (by omega)]
    rfl
  | n + 1, i, w, q, a => by
    have h := zl_shf n (i + 1) (mShf i w) q a
    show zl mShf n (i + 1) (mShf i w) q a = _
    rw [h, mShf_at, mShf_at]
    by_cases hq : q < 9
    · by_cases e1 : a = i
      · subst e1
        rw [if_neg (by omega), if_pos ⟨hq, rfl⟩, if_pos (by omega)]
      · by_cases e2 : i + 1 ≤ a ∧ a < i + 1 + n
        · rw [if_pos ⟨hq, e2⟩, if_neg (by omega), if_pos (by omega)]
        · rw [if_neg (fun z => e2 z.2), if_neg (fun z => e1 z.2), if_neg (by omega)]
    · rw [if_neg (fun z => hq z.1), if_neg (fun z => hq z.1), if_neg (fun z => hq z.1)]
theorem mRem_at (v : St) (m r q a : Nat) (h : r ≤ m) : mRem v m r q a = if q = 9 ∧ a = 2 then nI m else if q < 9 ∧ r ≤ a ∧ a < m then v q (a + 1) else v q a := by
  rw [mRem, zl_shf, up2_at, up2_at]
  by_cases hq : q < 9
  · have h9 : ¬ q = 9 := by omega
    simp only [h9, false_and, if_false]
    by_cases e : r ≤ a ∧ a < m
    · rw [if_pos (by omega), if_pos (by omega)]
    · rw [if_neg (by omega), if_neg (by omega)]
  · rw [if_neg (fun z => hq z.1)]
    by_cases e : q = 9 ∧ a = 2
    · rw [if_pos e, if_pos e]
    · rw [if_neg e, if_neg e, if_neg (fun z => hq z.1)]
theorem rClr_at (u : St) (i q a : Nat) : rClr u i q a = if q < 8 ∧ a = i then 0 else u q a := by
  by_cases e : a = i
  · subst e
    by_cases hq : q < 8
    · rcases (show q = 0 ∨ q = 1 ∨ q = 2 ∨ q = 3 ∨ q = 4 ∨ q = 5 ∨ q = 6 ∨ q = 7 by omega) with rfl | rfl | rfl | rfl | rfl | rfl | rfl | rfl <;> simp [rClr, up2_at]
    · have h0 : ¬ q = 0 := by omega
      have h1 : ¬ q = 1 := by omega
      have h2 : ¬ q = 2 := by omega
      have h3 : ¬ q = 3 := by omega
      have h4 : ¬ q = 4 := by omega
      have h5 : ¬ q = 5 := by omega
      have h6 : ¬ q = 6 := by omega
      have h7 : ¬ q = 7 := by omega
      simp [rClr, up2_at, h0, h1, h2, h3, h4, h5, h6, h7, hq]
  · simp [rClr, up2_at, e]
theorem rChi_iff {u : St} {i : Nat} {x : Int32} : ¬ rChi u i x = 0 ↔ (¬ u 1 i = 0 ∧ u 2 i = x) := by
  unfold rChi
  by_cases h : u 1 i = 0
  · simp [h]
  · by_cases h2 : u 2 i = x
    · simp [h, h2]
    · simp [h, h2]
theorem mChd_cases {v : St} {m r : Nat} : (mChd v m r = 0 ∧ ∀ k, k < m → ¬ v 2 k = v 0 r) ∨ (mChd v m r = 1 ∧ ∃ k, k < m ∧ v 2 k = v 0 r) := by
  have h := zl_inv (f := fun k (f : Int32) => if f = 0 then (if v 2 k = v 0 r then 1 else 0) else 1) (I := fun i f => (f = 0 ∧ ∀ k, k < i → ¬ v 2 k = v 0 r) ∨ (f = 1 ∧ ∃ k, k < i ∧ v 2 k = v 0 r)) m 0 0 (fun j f _ _ hr => by
    show ((if f = 0 then (if v 2 j = v 0 r then 1 else 0) else 1) = 0 ∧ _) ∨ ((if f = 0 then (if v 2 j = v 0 r then 1 else 0) else 1) = 1 ∧ _)
    rcases hr with ⟨a, b⟩ | ⟨a, k, b, c⟩
    · by_cases e : v 2 j = v 0 r
      · exact Or.inr ⟨by simp [a, e], j, by omega, e⟩
      · refine Or.inl ⟨by simp [a, e], fun k hk => ?_⟩
        rcases Nat.lt_or_eq_of_le (Nat.le_of_lt_succ hk) with z | z
        · exact b k z
        · rw [z]; exact e
    · exact Or.inr ⟨by simp [a], k, by omega, c⟩) (Or.inl ⟨rfl, fun k hk => absurd hk (by omega)⟩)
  rw [Nat.zero_add] at h
  exact h
theorem zHas {N m lt : Nat} {u v : St} {pl : Nat → Nat} (M : zNum m lt v pl) (Rw : ∀ k, k < m → zRow N m u v (pl k) k) (Cv : zCov N m u v pl) {r : Nat} (hr : r < m) : (rHas u (v 0 r) = 0 ∧ mChd v m r = 0) ∨ (rHas u (v 0 r) = 1 ∧ mChd v m r = 1) := by
  unfold rHas
  rcases mChd_cases (v := v) (m := m) (r := r) with ⟨a, b⟩ | ⟨a, k, hk, b⟩
  · left
    refine ⟨?_, a⟩
    rcases zs_cases (fun j => decide (¬ rChi u j (v 0 r) = 0)) 15 0 with ⟨c, -⟩ | ⟨i, -, c, d, -, -⟩
    · rw [if_pos c]
    · exfalso
      simp only [decide_eq_true_eq, rChi_iff] at d
      obtain ⟨k, hk, e⟩ := Cv.1 i (by omega) d.1
      have g := (Rw k hk).2.2.2.1
      rw [e] at g
      exact b k hk (by rw [← g]; exact d.2)
  · right
    refine ⟨?_, a⟩
    have g := Rw k hk
    rcases zs_cases (fun j => decide (¬ rChi u j (v 0 r) = 0)) 15 0 with ⟨-, c⟩ | ⟨i, -, c, -, d, -⟩
    · exfalso
      have := c (pl k) (Nat.zero_le _) (by have := g.1; omega)
      simp only [decide_eq_false_iff_not, rChi_iff] at this
      exact this ⟨by rw [g.2.2.2.2.2.2.1]; exact mSta_ne _ _ _, by rw [g.2.2.2.1]; exact b⟩
    · rw [if_neg (by rw [d]; exact nI_m1 (by omega))]
theorem zFzc {N m lt : Nat} {u v : St} {pl : Nat → Nat} (M : zNum m lt v pl) (Rw : ∀ k, k < m → zRow N m u v (pl k) k) (Cv : zCov N m u v pl) (hm : m ≤ 15) {r : Nat} (hr : r < m) : (rFzc u (v 0 r) = -1 ∧ mEnd v m r = -1) ∨ ∃ c, c < m ∧ rFzc u (v 0 r) = nI (pl c) ∧ mEnd v m r = nI c ∧ v 2 c = v 0 r ∧ ¬ v 3 c = 0 := by
  have hP : ∀ k, k < m → ((¬ rChi u (pl k) (v 0 r) = 0 ∧ u 1 (pl k) = 4) ↔ (v 2 k = v 0 r ∧ ¬ v 3 k = 0)) := fun k hk => by
    have g := Rw k hk
    rw [rChi_iff, g.2.2.2.1, g.2.2.2.2.2.2.1]
    have e4 : mSta v m k = 4 ↔ ¬ v 3 k = 0 := by rw [mSta_sF]; exact sF_4
    rw [e4]
    exact ⟨fun z => ⟨z.1.2, z.2⟩, fun z => ⟨⟨mSta_ne _ _ _, z.1⟩, z.2⟩⟩
  rcases mEnd_cases (v := v) (r := r) (show m < 2 ^ 31 by omega) with ⟨a, b⟩ | ⟨c, hc, b1, b2, b3, b4⟩
  · left
    refine ⟨?_, a⟩
    unfold rFzc
    rcases zs_cases (fun j => decide (¬ rChi u j (v 0 r) = 0 ∧ u 1 j = 4)) 15 0 with ⟨c, -⟩ | ⟨i, -, c, d, -, -⟩
    · exact c
    · exfalso
      simp only [decide_eq_true_eq] at d
      obtain ⟨k, hk, e⟩ := Cv.1 i (by omega) (by rw [d.2]; decide)
      rw [← e] at d
      have := (hP k hk).mp d
      exact this.2 (b k hk this.1)
  · right
    refine ⟨c, hc, ?_, b3, b1, b2⟩
    unfold rFzc
    have gc := Rw c hc
    rcases zs_cases (fun j => decide (¬ rChi u j (v 0 r) = 0 ∧ u 1 j = 4)) 15 0 with ⟨-, d⟩ | ⟨i, -, c1, d, e, f⟩
    · exfalso
      have := d (pl c) (Nat.zero_le _) (by have := gc.1; omega)
      simp only [decide_eq_false_iff_not] at this
      exact this ((hP c hc).mpr ⟨b1, b2⟩)
    · rw [e]
      simp only [decide_eq_true_eq] at d
      obtain ⟨k, hk, ek⟩ := Cv.1 i (by omega) (by rw [d.2]; decide)
      rw [← ek] at d
      have hk2 := (hP k hk).mp d
      have gk := Rw k hk
      have hle := b4 k hk hk2.1 hk2.2
      rw [gc.2.1, gk.2.1] at hle
      have g1 := gc.1
      have g2 := gk.1
      have hle2 := (nI_leI (show pl c < 2 ^ 31 by omega) (show pl k < 2 ^ 31 by omega)).mp hle
      have : ¬ pl c < i := fun z => by
        have := f (pl c) (Nat.zero_le _) z
        simp only [decide_eq_false_iff_not] at this
        exact this ((hP c hc).mpr ⟨b1, b2⟩)
      have e3 : i = pl c := by omega
      rw [e3]
theorem sim_await {N n m t : Nat} {u v : St} (h : zB N n m t u v) (hn : n < 600) (x : Int32) : (rAwt N u x).1 = (mAwt v m x).1 ∧ zN N (n + 1) (rAwt N u x).2 (mAwt v m x).2 := by
  have h' := h
  obtain ⟨lt, tk, pl, S, M, Rw, Cv⟩ := h
  have hm := S.2.1
  have hN4 : N ≤ 4 := S.2.2.2.2.2.2.2.2.2.1
  rcases zOn S M Rw Cv x with ⟨e1, e2⟩ | ⟨j, r, hj, hr, rfl, e6, e8, e1, e2, z3, z7⟩
  · have a : rAwt N u x = (-1, u) := by simp [rAwt, e1]
    have b : mAwt v m x = (-1, v) := by simp [mAwt, e2, m1_neg]
    rw [a, b]
    exact ⟨rfl, h'.up hn⟩
  · have g := (Rw r hr).1
    have c1 := nI_clamp (show pl r < 2 ^ 31 by omega)
    have c2 := nI_clamp (show r < 2 ^ 31 by omega)
    have c3 := nI_clamp (show j < 2 ^ 31 by omega)
    have n1 := nI_m1 (show pl r < 2 ^ 31 by omega)
    have n2 := nI_pos (show r < 2 ^ 31 by omega)
    have eu0 := (Rw r hr).2.2.1
    rcases zHas M Rw Cv hr with ⟨f1, f2⟩ | ⟨f1, f2⟩
    · have a : rAwt N u (nI j) = (-1, u) := by
        unfold rAwt
        rw [e1, if_neg n1]
        simp only [cl, c1]
        rw [eu0, if_pos f1]
      have b : mAwt v m (nI j) = (-1, v) := by
        unfold mAwt
        rw [e2, if_neg n2]
        simp only [cl, c2]
        rw [if_pos f2]
      rw [a, b]
      exact ⟨rfl, h'.up hn⟩
    · have f1' : ¬ rHas u (v 0 r) = 0 := by rw [f1]; decide
      have f2' : ¬ mChd v m r = 0 := by rw [f2]; decide
      rcases zFzc M Rw Cv hm hr with ⟨k1, k2⟩ | ⟨c, hc, k1, k2, k3, k4⟩
      · have a : rAwt N u (nI j) = (0, up2 (rOff u j (pl r) 3) 5 (pl r) 2) := by
          unfold rAwt
          rw [e1, if_neg n1]
          simp only [cl, c1, c3]
          rw [eu0, if_neg f1', if_pos k1]
        have b : mAwt v m (nI j) = (0, mWts v r 2 0) := by
          unfold mAwt
          rw [e2, if_neg n2]
          simp only [cl, c2]
          rw [if_neg f2', k2, if_neg nn_m1]
        rw [a, b]
        refine ⟨rfl, ?_⟩
        refine zOffB S M Rw Cv hn hr hj e6 z3 2 0 (fun q a b1 b2 b3 b4 b5 => ?_) ?_ ?_ ?_
        · simp only [up2_at, rOff_at]
          rw [if_neg b3, if_neg b2, if_neg b1]
        · simp [up2_at, rOff_at]
        · simp [up2_at, rOff_at, sF, m1_neg, k2]
        · intro _
          simp [up2_at]
      · obtain ⟨a1, a2, a3, a4, a5, a6, a7, a8, a9⟩ := Rw c hc
        have d1 := nI_clamp (show pl c < 2 ^ 31 by omega)
        have d2 := nI_clamp (show c < 2 ^ 31 by omega)
        have d3 := nI_m1 (show pl c < 2 ^ 31 by omega)
        have d4 := nI_pos' (show c < 2 ^ 31 by omega)
        have a : rAwt N u (nI j) = (u 0 (pl c), rClr (up2 u 9 3 (u 4 (pl c))) (pl c)) := by
          unfold rAwt
          rw [e1, if_neg n1]
          simp only [cl, c1]
          rw [eu0, if_neg f1', k1, if_neg d3]
          simp only [d1]
        have b : mAwt v m (nI j) = (v 0 c, mRem (up2 v 9 6 (v 4 c)) (m - 1) c) := by
          unfold mAwt
          rw [e2, if_neg n2]
          simp only [cl, c2]
          rw [if_neg f2', k2, if_pos d4]
          simp only [d2]
        rw [a, b]
        refine ⟨a3, ?_⟩
        obtain ⟨U, eU⟩ : ∃ U, U = rClr (up2 u 9 3 (u 4 (pl c))) (pl c) := ⟨_, rfl⟩
        obtain ⟨V, eV⟩ : ∃ V, V = mRem (up2 v 9 6 (v 4 c)) (m - 1) c := ⟨_, rfl⟩
        show zN N (n + 1) (rClr (up2 u 9 3 (u 4 (pl c))) (pl c)) (mRem (up2 v 9 6 (v 4 c)) (m - 1) c)
        rw [← eU, ← eV]
        have hU : ∀ q a, U q a = if q < 8 ∧ a = pl c then 0 else if q = 9 ∧ a = 3 then u 4 (pl c) else u q a := fun q a => by rw [eU, rClr_at, up2_at]
        have hV9 : ∀ a, V 9 a = if a = 2 then nI (m - 1) else if a = 6 then v 4 c else v 9 a := fun a => by
          rw [eV, mRem_at _ _ _ _ _ (by omega)]
          simp [up2_at]
        obtain ⟨s, es⟩ : ∃ s : Nat → Nat, s = fun k => if k < c then k else k + 1 := ⟨_, rfl⟩
        have hV : ∀ q k, q < 9 → k < m - 1 → V q k = v q (s k) := fun q k hq hk => by
          have h9 : ¬ q = 9 := by omega
          rw [eV, mRem_at _ _ _ _ _ (by omega), es]
          simp only [h9, false_and, if_false, up2_at]
          by_cases z : k < c
          · simp only [z, if_true]
            rw [if_neg (by omega)]
          · simp only [z, if_false]
            rw [if_pos (by omega)]
        have hs : ∀ k, k < m - 1 → s k < m ∧ ¬ s k = c := fun k hk => by
          rw [es]
          show (if k < c then k else k + 1) < m ∧ ¬ (if k < c then k else k + 1) = c
          split <;> omega
        have hsi : ∀ k i, s k = s i → k = i := fun k i => by
          rw [es]
          show (if k < c then k else k + 1) = (if i < c then i else i + 1) → k = i
          split <;> split <;> omega
        have hss : ∀ k, k < m → ¬ k = c → ∃ i, i < m - 1 ∧ s i = k := fun k hk hkc => by
          rw [es]
          by_cases z : k < c
          · exact ⟨k, by omega, by show (if k < c then k else k + 1) = k; rw [if_pos z]⟩
          · exact ⟨k - 1, by omega, by show (if k - 1 < c then k - 1 else k - 1 + 1) = k; rw [if_neg (by omega)]; omega⟩
        have hpc : ∀ k, k < m → ¬ k = c → ¬ pl k = pl c := fun k hk hkc e => hkc (M.2.2.1 k c hk hc e)
        have hU8 : ∀ a, U 8 a = u 8 a := fun a => by rw [hU]; simp
        have hU9 : ∀ a, U 9 a = if a = 3 then u 4 (pl c) else u 9 a := fun a => by rw [hU]; simp
        have hUq : ∀ q a, q < 8 → ¬ a = pl c → U q a = u q a := fun q a hq ha => by
          have h9 : ¬ q = 9 := by omega
          rw [hU, if_neg (fun z => ha z.2), if_neg (fun z => h9 z.1)]
        have hc0 : ¬ pl c = 0 := fun z => by
          have := M.2.2.2.2.1 c hc ((M.2.2.2.1 c hc).mpr z)
          rw [k3] at this
          obtain ⟨qr, q1, q2, q3⟩ := M.1 r hr
          rw [this] at q3
          have q3 : nI 0 = nI qr := q3
          have hlt := S.2.2.2.2.2.2.2.2.2.2.2.2.2.2.2.1
          have := nI_inj q3 (by omega) (by omega)
          omega
        have hst : u 4 (pl c) = v 4 c := by rw [a6, if_neg k4]
        obtain ⟨p1, p2, p3, p4, p5, p6, p7, p8, p9, b1, b2, b3, b4, b5, b6, b7, b8, b9, b0⟩ := S
        refine ⟨m - 1, t, lt, tk, fun k => pl (s k), ?_, ?_, ?_, ?_, ?_, ?_⟩
        · refine ⟨by rw [hV9]; simp, by omega, by rw [hV9]; simpa using p3, by rw [hV9]; simpa using p4, ?_, p6, by rw [hV9]; simpa using p7, by rw [hU9, hV9]; simpa using hst, p9, b1, by rw [hU9, hV9]; simpa using b2, by rw [hU9, hV9]; simpa using b3, by rw [hV9]; simpa using b4, by omega, by rw [hV9]; simpa using b6, by omega, by omega, fun _ => by rw [hU9, hV9]; simpa using b9 (by omega), ?_⟩
          · intro k hk
            have e3 : ∀ q, q < 9 → V q k = v q k ∨ (k + 1 < 16 ∧ V q k = v q (k + 1)) := fun q hq => by
              have h9 : ¬ q = 9 := by omega
              rw [eV, mRem_at _ _ _ _ _ (by omega)]
              simp only [h9, false_and, if_false, up2_at]
              by_cases z : q < 9 ∧ c ≤ k ∧ k < m - 1
              · rw [if_pos z]; exact Or.inr ⟨by omega, rfl⟩
              · rw [if_neg z]; exact Or.inl rfl
            constructor
            · rcases e3 3 (by decide) with z | ⟨z1, z⟩
              · rw [z]; exact (p5 k hk).1
              · rw [z]; exact (p5 (k + 1) z1).1
            · rcases e3 5 (by decide) with z | ⟨z1, z⟩
              · rw [z]; exact (p5 k hk).2
              · rw [z]; exact (p5 (k + 1) z1).2
          · obtain ⟨t0, ht0, et0⟩ := b0
            exact ⟨t0, ht0, by rw [hU9]; simpa using et0⟩
        · obtain ⟨x1, x2, x3, x4, x5, x6, x7⟩ := M
          refine ⟨fun k hk => ?_, fun k i hk hi z => ?_, fun k i hk hi z => ?_, fun k hk => ?_, fun k hk => ?_, fun k hk => ?_, fun hp => ?_⟩
          · rw [hV 0 k (by decide) hk]; exact x1 _ (hs k hk).1
          · rw [hV 0 k (by decide) hk, hV 0 i (by decide) hi] at z
            exact hsi k i (x2 _ _ (hs k hk).1 (hs i hi).1 z)
          · exact hsi k i (x3 _ _ (hs k hk).1 (hs i hi).1 z)
          · rw [hV 0 k (by decide) hk]; exact x4 _ (hs k hk).1
          · rw [hV 0 k (by decide) hk, hV 2 k (by decide) hk]; exact x5 _ (hs k hk).1
          · rw [hV 0 k (by decide) hk, hV 2 k (by decide) hk]; exact x6 _ (hs k hk).1
          · obtain ⟨k, hk, ek⟩ := x7 (by omega)
            obtain ⟨i, hi, ei⟩ := hss k hk (fun z => hc0 (by rw [← z]; exact ek))
            exact ⟨i, hi, by show pl (s i) = 0; rw [ei]; exact ek⟩
        · intro k hk
          have hk2 := hs k hk
          show zRow N (m - 1) U V (pl (s k)) k
          refine zRow_cg (Rw (s k) hk2.1) (fun q hq => hUq q _ hq (hpc _ hk2.1 hk2.2)) (fun q hq => hV q k hq hk) (by rw [hV9]; simp) hm (by omega) (fun h2 => ?_) (fun j' _ z => by rw [hU8]; exact z)
          have hnr : ¬ s k = r := fun z => by
            rw [z, z7] at h2
            exact absurd h2 (by decide)
          have hnc : ¬ v 2 c = v 0 (s k) := fun z => by
            rw [k3] at z
            exact hnr (M.2.1 r (s k) hr hk2.1 z).symm
          unfold zNE
          rw [hV 0 k (by decide) hk]
          constructor
          · intro z d hd e
            by_cases ed : d = c
            · rw [ed] at e; exact absurd e hnc
            · obtain ⟨i, hi, ei⟩ := hss d hd ed
              have := z i hi (by rw [hV 2 i (by decide) hi, ei]; exact e)
              rwa [hV 3 i (by decide) hi, ei] at this
          · intro z d hd e
            rw [hV 2 d (by decide) hd] at e
            rw [hV 3 d (by decide) hd]
            exact z _ (hs d hd).1 e
        · intro i hi z
          have hic : ¬ i = pl c := fun y => by
            rw [hU, if_pos ⟨by decide, y⟩] at z
            exact z rfl
          rw [hUq 1 i (by decide) hic] at z
          obtain ⟨k, hk, ek⟩ := Cv.1 i hi z
          obtain ⟨d, hd, ed⟩ := hss k hk (fun y => hic (by rw [← ek, y]))
          exact ⟨d, hd, by show pl (s d) = i; rw [ed]; exact ek⟩
        · intro i hi z
          by_cases hic : i = pl c
          · rw [hU, hU, if_pos ⟨by decide, hic⟩, if_pos ⟨by decide, hic⟩]
            exact ⟨rfl, rfl⟩
          · rw [hUq 1 i (by decide) hic] at z
            rw [hUq 3 i (by decide) hic, hUq 4 i (by decide) hic]
            exact Cv.2.1 i hi z
        · intro j' hj'
          rw [hU8]
          rcases Cv.2.2 j' hj' with z | ⟨k, hk, y1, y2⟩
          · exact Or.inl z
          · have hkc : ¬ k = c := fun y => by
              rw [y] at y2
              rcases a9 with w | ⟨w, -⟩
              · rw [w] at y2
                exact nI_m1 (show j' < 2 ^ 31 by omega) y2.symm
              · exact k4 w
            obtain ⟨d, hd, ed⟩ := hss k hk hkc
            refine Or.inr ⟨d, hd, ?_, ?_⟩
            · show u 8 j' = nI (pl (s d))
              rw [ed]; exact y1
            · rw [hV 6 d (by decide) hd, ed]; exact y2
