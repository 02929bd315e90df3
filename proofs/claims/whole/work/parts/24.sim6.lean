/-- a loop whose turn i reads and writes at i alone -/
theorem zl_loc {f : Nat → St → St} (h1 : ∀ i w q a, ¬ a = i → f i w q a = w q a) (h2 : ∀ i w w', (∀ q, w q i = w' q i) → ∀ q, f i w q i = f i w' q i) : ∀ (n i : Nat) (w : St) (q a : Nat), zl f n i w q a = if i ≤ a ∧ a < i + n then f a w q a else w q a
  | 0, i, w, q, a => by
    rw [if_neg (by omega)]
    rfl
  | n + 1, i, w, q, a => by
    have h := zl_loc h1 h2 n (i + 1) (f i w) q a
    show zl f n (i + 1) (f i w) q a = _
    rw [h]
    by_cases e : a = i
    · subst e
      rw [if_neg (by omega), if_pos (by omega)]
    · by_cases e2 : i + 1 ≤ a ∧ a < i + 1 + n
      · rw [if_pos e2, if_pos (by omega)]
        exact h2 a (f i w) w (fun q => h1 i w q a e) q
      · rw [if_neg e2, if_neg (by omega)]
        exact h1 i w q a e
theorem rRdy_at (u : St) (i q k : Nat) : rRdy u i q k = if q = 5 ∧ k = i then 0 else if q = 1 ∧ k = i then 1 else u q k := by
  simp only [rRdy, up2_at]
/-- woken by a channel -/
def wP_ (x : Int32) (u : St) (i : Nat) : Bool := decide (u 1 i = 3 ∧ u 5 i = 1 ∧ u 6 i = x)
def wQ_ (x : Int32) (v : St) (k : Nat) : Bool := decide (v 3 k = 0 ∧ ¬ 0 ≤ v 6 k ∧ v 7 k = 1 ∧ v 8 k = x)
theorem rWak1_eq (x : Int32) (i c : Nat) (w : St) : rWak1 x i (c, w) = if wP_ x w i = true then (c + 1, rRdy w i) else (c, w) := by
  unfold rWak1 wP_ rBlk
  by_cases h1 : w 1 i = 3
  · by_cases h2 : w 5 i = 1
    · by_cases h3 : w 6 i = x
      · simp [h1, h2, h3]
      · simp [h1, h2, h3]
    · simp [h1, h2]
  · simp [h1]
theorem mWak1_eq (x : Int32) (i c : Nat) (w : St) : mWak1 x i (c, w) = if wQ_ x w i = true then (c + 1, up2 w 7 i 0) else (c, w) := by
  unfold mWak1 wQ_
  by_cases h1 : w 3 i = 0
  · by_cases h2 : 0 ≤ w 6 i
    · simp [h1, h2]
    · by_cases h3 : w 7 i = 1
      · by_cases h4 : w 8 i = x
        · simp [h1, h2, h3, h4]
        · simp [h1, h2, h3, h4]
      · simp [h1, h2, h3]
  · simp [h1]
/-- a loop that counts, and writes at i alone where P holds -/
theorem zl_cnt {f : Nat → Nat × St → Nat × St} {P : St → Nat → Bool} {g : St → Nat → St} (hf : ∀ i c w, f i (c, w) = if P w i = true then (c + 1, g w i) else (c, w)) (h1 : ∀ i w q a, ¬ a = i → g w i q a = w q a) (h2 : ∀ i w w', (∀ q, w q i = w' q i) → P w i = P w' i ∧ ∀ q, g w i q i = g w' i q i) :
    ∀ (n i c : Nat) (w : St), (zl f n i (c, w)).1 = zk (P w) n i c ∧ ∀ q a, (zl f n i (c, w)).2 q a = if (i ≤ a ∧ a < i + n) ∧ P w a = true then g w a q a else w q a
  | 0, i, c, w => ⟨rfl, fun q a => by rw [if_neg (by omega)]; rfl⟩
  | n + 1, i, c, w => by
    have hs : ∀ w', (∀ q a, ¬ a = i → w' q a = w q a) → ∀ c', zl f (n + 1) i (c, w) = zl f n (i + 1) (c', w') → c' = (if P w i = true then c + 1 else c) → (∀ q, w' q i = if P w i = true then g w i q i else w q i) → (zl f (n + 1) i (c, w)).1 = zk (P w) (n + 1) i c ∧ ∀ q a, (zl f (n + 1) i (c, w)).2 q a = if (i ≤ a ∧ a < i + (n + 1)) ∧ P w a = true then g w a q a else w q a := by
      intro w' hw c' e ec hi
      obtain ⟨a1, a2⟩ := zl_cnt hf h1 h2 n (i + 1) c' w'
      rw [e]
      have hp : ∀ j, ¬ j = i → P w' j = P w j := fun j hj => (h2 j w' w (fun q => hw q j hj)).1
      refine ⟨?_, fun q a => ?_⟩
      · rw [a1, ec]
        show zk (P w') n (i + 1) _ = zk (P w) n (i + 1) _
        exact zk_congr n (i + 1) _ (fun j b1 b2 => hp j (by omega))
      · rw [a2 q a]
        by_cases ea : a = i
        · subst ea
          rw [if_neg (by omega), hi q]
          by_cases hP : P w a = true
          · rw [if_pos hP, if_pos ⟨by omega, hP⟩]
          · rw [if_neg hP, if_neg (fun z => hP z.2)]
        · rw [hp a ea]
          by_cases hc : (i ≤ a ∧ a < i + (n + 1)) ∧ P w a = true
          · rw [if_pos hc, if_pos ⟨by omega, hc.2⟩]
            exact (h2 a w' w (fun q => hw q a ea)).2 q
          · rw [if_neg hc, if_neg (fun z => hc ⟨by omega, z.2⟩)]
            exact hw q a ea
    by_cases hP : P w i = true
    · refine hs (g w i) (fun q a ha => h1 i w q a ha) (c + 1) ?_ ?_ ?_
      · show zl f n (i + 1) (f i (c, w)) = _
        rw [hf, if_pos hP]
      · rw [if_pos hP]
      · intro q
        rw [if_pos hP]
    · refine hs w (fun q a ha => rfl) c ?_ ?_ ?_
      · show zl f n (i + 1) (f i (c, w)) = _
        rw [hf, if_neg hP]
      · rw [if_neg hP]
      · intro q
        rw [if_neg hP]
theorem rWak_at (u : St) (x : Int32) : (rWak u x).1 = zk (wP_ x u) 15 0 0 ∧ ∀ q a, (rWak u x).2 q a = if a < 15 ∧ wP_ x u a = true then (if q = 5 then 0 else if q = 1 then 1 else u q a) else u q a := by
  obtain ⟨a1, a2⟩ := zl_cnt (f := rWak1 x) (P := wP_ x) (g := rRdy) (rWak1_eq x) (fun i w q a ha => by simp [rRdy_at, ha]) (fun i w w' h => ⟨by simp only [wP_, h], fun q => by simp only [rRdy_at, h]⟩) 15 0 0 u
  unfold rWak
  refine ⟨a1, fun q a => ?_⟩
  rw [a2 q a]
  by_cases hc : a < 15 ∧ wP_ x u a = true
  · rw [if_pos hc, if_pos ⟨by omega, hc.2⟩, rRdy_at]
    simp
  · rw [if_neg hc, if_neg (fun z => hc ⟨by omega, z.2⟩)]
theorem mWak_at (v : St) (m : Nat) (x : Int32) : (mWak v m x).1 = zk (wQ_ x v) m 0 0 ∧ ∀ q a, (mWak v m x).2 q a = if (a < m ∧ wQ_ x v a = true) ∧ q = 7 then 0 else v q a := by
  obtain ⟨a1, a2⟩ := zl_cnt (f := mWak1 x) (P := wQ_ x) (g := fun w i => up2 w 7 i 0) (mWak1_eq x) (fun i w q a ha => by simp [up2_at, ha]) (fun i w w' h => ⟨by simp only [wQ_, h], fun q => by simp only [up2_at, h]⟩) m 0 0 v
  unfold mWak
  refine ⟨a1, fun q a => ?_⟩
  rw [a2 q a]
  by_cases hc : a < m ∧ wQ_ x v a = true
  · rw [if_pos ⟨by omega, hc.2⟩]
    simp [up2_at, hc]
  · rw [if_neg (fun z => hc ⟨by omega, z.2⟩), if_neg (fun z => hc z.1)]
theorem i_neg {a : Int32} : ¬ 0 ≤ a ↔ a < 0 := by
  rw [Int32.le_iff_toInt_le, Int32.lt_iff_toInt_lt]
  omega
theorem sF_3 {en on wt wh tk : Int32} {b : Bool} (h : sF en on wt wh tk b = 3) : en = 0 ∧ on < 0 := by
  by_cases h1 : en = 0
  · refine ⟨h1, ?_⟩
    by_cases h2 : on < 0
    · exact h2
    · rw [h1, sF_on h2] at h
      exact absurd h (by decide)
  · rw [sF_4.mpr h1] at h
    exact absurd h (by decide)
theorem zWk {N m : Nat} {u v : St} {i k : Nat} (x : Int32) (R : zRow N m u v i k) : wP_ x u i = wQ_ x v k := by
  obtain ⟨a1, a2, a3, a4, a5, a6, a7, a8, a9⟩ := R
  unfold wP_ wQ_
  rw [decide_eq_decide]
  constructor
  · rintro ⟨h1, h2, h3⟩
    have w := a8 h1
    rw [a7, mSta_sF] at h1
    have s := sF_3 h1
    have e7 : v 7 k = 1 := by rw [← w.1]; exact h2
    exact ⟨s.1, i_neg.mpr s.2, e7, by rw [← w.2.1 e7]; exact h3⟩
  · rintro ⟨h1, h2, h3, h4⟩
    have e1 : u 1 i = 3 := by
      rw [a7, mSta_sF]
      simp [sF, h1, i_neg.mp h2, h3]
    have w := a8 e1
    exact ⟨e1, by rw [w.1]; exact h3, by rw [w.2.1 h3]; exact h4⟩
theorem sim_wake {N n m t : Nat} {u v : St} (h : zB N n m t u v) (hn : n < 600) (x : Int32) : nI (rWak u x).1 = nI (mWak v m x).1 ∧ zN N (n + 1) (rWak u x).2 (mWak v m x).2 := by
  obtain ⟨lt, tk, pl, S, M, Rw, Cv⟩ := h
  have hm := S.2.1
  obtain ⟨c1, c2⟩ := rWak_at u x
  obtain ⟨d1, d2⟩ := mWak_at v m x
  have ec : (rWak u x).1 = (mWak v m x).1 := by
    rw [c1, d1, zk_bij m pl (wP_ x u) (fun k hk => (Rw k hk).1) M.2.2.1 (fun i hi e => Cv.1 i hi (fun z => by simp [wP_, z] at e))]
    exact zk_congr m 0 0 (fun k _ hk => zWk x (Rw k (by omega)))
  refine ⟨by rw [ec], ?_⟩
  generalize (rWak u x).2 = u' at c2
  generalize (mWak v m x).2 = v' at d2
  have hu9 : ∀ a, u' 9 a = u 9 a := fun a => by
    rw [c2]
    split <;> simp
  have hu8 : ∀ a, u' 8 a = u 8 a := fun a => by
    rw [c2]
    split <;> simp
  have hv9 : ∀ q a, ¬ q = 7 → v' q a = v q a := fun q a hq => by
    rw [d2, if_neg (fun z => hq z.2)]
  refine ⟨m, t, lt, tk, pl, ?_, ?_, ?_, ?_, ?_, ?_⟩
  · obtain ⟨p1, p2, p3, p4, p5, p6, p7, p8, p9, b1, b2, b3, b4, b5, b6, b7, b8, b9, b0⟩ := S
    have e9 : ∀ a, v' 9 a = v 9 a := fun a => hv9 9 a (by decide)
    simp only [zSc, hu9, e9]
    refine ⟨p1, p2, p3, p4, fun k hk => ?_, p6, p7, p8, p9, b1, b2, b3, b4, by omega, b6, by omega, by omega, b9, b0⟩
    rw [hv9 3 k (by decide), hv9 5 k (by decide)]
    exact p5 k hk
  · have e0 : ∀ a, v' 0 a = v 0 a := fun a => hv9 0 a (by decide)
    have e2 : ∀ a, v' 2 a = v 2 a := fun a => hv9 2 a (by decide)
    simp only [zNum, e0, e2]
    exact M
  · intro k hk
    have R := Rw k hk
    by_cases hq : wQ_ x v k = true
    · have hp : wP_ x u (pl k) = true := by rw [zWk x R]; exact hq
      obtain ⟨a1, a2, a3, a4, a5, a6, a7, a8, a9⟩ := R
      have hu : ∀ q, u' q (pl k) = if q = 5 then 0 else if q = 1 then 1 else u q (pl k) := fun q => by rw [c2, if_pos ⟨a1, hp⟩]
      have hv7 : v' 7 k = 0 := by rw [d2, if_pos ⟨⟨hk, hq⟩, rfl⟩]
      have hq' := hq
      simp only [wQ_, decide_eq_true_eq] at hq'
      refine ⟨a1, by rw [hv9 1 k (by decide)]; exact a2, ?_, ?_, ?_, ?_, ?_, ?_, ?_⟩
      · rw [hu 0, hv9 0 k (by decide)]; simpa using a3
      · rw [hu 2, hv9 2 k (by decide)]; simpa using a4
      · rw [hu 3, hv9 5 k (by decide)]; simpa using a5
      · rw [hu 4, hv9 3 k (by decide), hv9 4 k (by decide)]; simpa using a6
      · rw [hu 1, mSta_sF, hv9 3 k (by decide), hv9 6 k (by decide), hv7, hq'.1]
        simp [sF, i_neg.mp hq'.2.1]
      · rw [hu 1]
        intro z
        simp at z
      · left
        rw [hv9 6 k (by decide)]
        rcases a9 with z | ⟨-, z, -⟩
        · exact z
        · rw [z] at hq'
          exact absurd hq'.2.2.1 (by decide)
    · have hp : ¬ wP_ x u (pl k) = true := by rw [zWk x R]; exact hq
      refine zRow_cg R (fun q _ => by rw [c2, if_neg (fun z => hp z.2)]) (fun q _ => by rw [d2, if_neg (fun z => hq z.1.2)]) (hv9 9 3 (by decide)) hm hm (fun _ => zNE_cg (fun c _ => ⟨hv9 2 c (by decide), hv9 3 c (by decide)⟩) (hv9 0 k (by decide))) (fun j _ z => by rw [hu8]; exact z)
  · intro i hi z
    refine Cv.1 i hi (fun z0 => z ?_)
    have : ¬ wP_ x u i = true := by simp [wP_, z0]
    rw [c2, if_neg (fun z => this z.2)]
    exact z0
  · intro i hi z
    by_cases hc : i < 15 ∧ wP_ x u i = true
    · rw [c2, if_pos hc] at z
      simp at z
    · rw [c2, if_neg hc] at z
      rw [c2, if_neg hc, c2, if_neg hc]
      exact Cv.2.1 i hi z
  · intro j hj
    rw [hu8]
    rcases Cv.2.2 j hj with z | ⟨k, hk, z1, z2⟩
    · exact Or.inl z
    · exact Or.inr ⟨k, hk, z1, by rw [hv9 6 k (by decide)]; exact z2⟩
