theorem rEmp_at (N : Nat) (u : St) (q a : Nat) : rEmp N u q a = if q = 8 ∧ a < N then -1 else if q < 8 ∧ a < 15 then 0 else u q a := by
  rw [rEmp, zl_8, zl_loc (f := fun i v => rClr v i) (fun i w q a ha => by rw [rClr_at, if_neg (fun z => ha z.2)]) (fun i w w' h q => by rw [rClr_at, rClr_at, h q]) 15 0 u q a]
  by_cases h1 : q = 8 ∧ a < N
  · rw [if_pos h1, if_pos ⟨h1.1, by omega⟩]
  · rw [if_neg h1, if_neg (fun z => h1 ⟨z.1, by omega⟩), rClr_at]
    by_cases h2 : a < 15
    · rw [if_pos (by omega)]
      by_cases h3 : q < 8
      · rw [if_pos ⟨h3, rfl⟩, if_pos ⟨h3, h2⟩]
      · rw [if_neg (fun z => h3 z.1), if_neg (fun z => h3 z.1)]
    · rw [if_neg (by omega), if_neg (fun z => h2 z.2)]
theorem mExt1_at (r k : Nat) (w : St) (q a : Nat) : mExt1 r k w q a = if (q = 2 ∧ a = k) ∧ w 2 k = w 0 r then 1 else w q a := by
  unfold mExt1
  by_cases h : w 2 k = w 0 r
  · rw [if_pos h, up2_at]
    by_cases e : q = 2 ∧ a = k
    · rw [if_pos e, if_pos ⟨e, h⟩]
    · rw [if_neg e, if_neg (fun z => e z.1)]
  · rw [if_neg h, up2_at, if_neg (show ¬ ((q = 2 ∧ a = k) ∧ w 2 k = w 0 r) from fun z => h z.2)]
    by_cases e : q = 2 ∧ a = k
    · rw [if_pos e, e.1, e.2]
    · rw [if_neg e]
theorem zl_ext (r : Nat) : ∀ (n i : Nat) (w : St) (q a : Nat), zl (mExt1 r) n i w q a = if (q = 2 ∧ i ≤ a ∧ a < i + n) ∧ w 2 a = w 0 r then 1 else w q a
  | 0, i, w, q, a => by
    rw [if_neg (by omega)]
    rfl
  | n + 1, i, w, q, a => by
    have h := zl_ext r n (i + 1) (mExt1 r i w) q a
    show zl (mExt1 r) n (i + 1) (mExt1 r i w) q a = _
    have e0 : mExt1 r i w 0 r = w 0 r := by rw [mExt1_at, if_neg (fun z => absurd z.1.1 (by decide))]
    rw [h, e0, mExt1_at, mExt1_at]
    by_cases ea : a = i
    · subst ea
      rw [if_neg (by omega)]
      by_cases z : q = 2 ∧ w 2 a = w 0 r
      · rw [if_pos ⟨⟨z.1, rfl⟩, z.2⟩, if_pos ⟨⟨z.1, by omega⟩, z.2⟩]
      · rw [if_neg (fun y => z ⟨y.1.1, y.2⟩), if_neg (fun y => z ⟨y.1.1, y.2⟩)]
    · have ne : ¬ ((2 = 2 ∧ a = i) ∧ w 2 i = w 0 r) := fun z => ea z.1.2
      have ne2 : ¬ ((q = 2 ∧ a = i) ∧ w 2 i = w 0 r) := fun z => ea z.1.2
      rw [if_neg ne, if_neg ne2]
      by_cases z : (q = 2 ∧ i + 1 ≤ a ∧ a < i + 1 + n) ∧ w 2 a = w 0 r
      · rw [if_pos z, if_pos ⟨⟨z.1.1, by omega⟩, z.2⟩]
      · rw [if_neg z, if_neg (fun y => z ⟨⟨y.1.1, by omega⟩, y.2⟩)]
/-- the places of a state are the rows' -/
def zId (m : Nat) (v : St) (pl : Nat → Nat) (w : St) : Prop := (∀ k, k < m → pl k < 15 ∧ w 0 (pl k) = v 0 k ∧ ¬ w 1 (pl k) = 0) ∧ ∀ a, a < 15 → ¬ w 1 a = 0 → ∃ k, k < m ∧ pl k = a
theorem zTel {m lt : Nat} {v w : St} {pl : Nat → Nat} (M : zNum m lt v pl) (Id : zId m v pl w) (x : Int32) : (rTel w x = w ∧ ∀ k, k < m → v 0 k = x → ¬ (w 1 (pl k) = 3 ∧ w 5 (pl k) = 2)) ∨ ∃ k, k < m ∧ v 0 k = x ∧ w 1 (pl k) = 3 ∧ w 5 (pl k) = 2 ∧ rTel w x = rRdy w (pl k) := by
  rcases zs_cases (fun j => decide (¬ w 1 j = 0 ∧ w 0 j = x)) 15 0 with ⟨a, b⟩ | ⟨i, -, a, b, c, -⟩
  · left
    have a : rPlc w x = -1 := a
    refine ⟨by rw [rTel, if_pos a], fun k hk e => ?_⟩
    have g := Id.1 k hk
    have := b (pl k) (Nat.zero_le _) (by have := g.1; omega)
    simp only [decide_eq_false_iff_not] at this
    exact absurd ⟨g.2.2, by rw [g.2.1]; exact e⟩ this
  · simp only [decide_eq_true_eq] at b
    obtain ⟨k, hk, e⟩ := Id.2 i (by omega) b.1
    have g := Id.1 k hk
    rw [← e] at b
    have hx : v 0 k = x := by rw [← g.2.1]; exact b.2
    have c : rPlc w x = nI (pl k) := by rw [e]; exact c
    have cc := nI_clamp (show pl k < 2 ^ 31 by have := g.1; omega)
    have nm := nI_m1 (show pl k < 2 ^ 31 by have := g.1; omega)
    by_cases h : w 1 (pl k) = 3 ∧ w 5 (pl k) = 2
    · refine Or.inr ⟨k, hk, hx, h.1, h.2, ?_⟩
      have hb : ¬ rBlk w (pl k) 2 = 0 := by
        unfold rBlk
        rw [if_pos h.1, if_pos h.2]
        decide
      rw [rTel, c, if_neg nm, cc, if_neg hb]
    · left
      have hb : rBlk w (pl k) 2 = 0 := by
        unfold rBlk
        by_cases z : w 1 (pl k) = 3
        · rw [if_pos z, if_neg (fun y => h ⟨z, y⟩)]
        · rw [if_neg z]
      refine ⟨by rw [rTel, c, if_neg nm, cc, if_pos hb], fun k' hk' e' => ?_⟩
      have : k' = k := M.2.1 k' k hk' hk (e'.trans hx.symm)
      rw [this]
      exact h
/-- from w0 to w: those of K that were blocked for a child are ready, no one else -/
def zJ (w0 w : St) (K : Nat → Prop) : Prop := ∀ a, (w 1 a = w0 1 a ∧ w 5 a = w0 5 a ∧ (K a → ¬ (w0 1 a = 3 ∧ w0 5 a = 2))) ∨ (w 1 a = 1 ∧ w 5 a = 0 ∧ w0 1 a = 3 ∧ w0 5 a = 2 ∧ K a)
theorem zJ.mono {w0 w : St} {K K' : Nat → Prop} (h : zJ w0 w K) (e : ∀ a, K' a ↔ K a) : zJ w0 w K' := fun a => by
  rcases h a with ⟨a1, a2, a3⟩ | ⟨a1, a2, a3, a4, a5⟩
  · exact Or.inl ⟨a1, a2, fun z => a3 ((e a).mp z)⟩
  · exact Or.inr ⟨a1, a2, a3, a4, (e a).mpr a5⟩
theorem zJ.z {w0 w : St} {K : Nat → Prop} (h : zJ w0 w K) (a : Nat) : w 1 a = 0 ↔ w0 1 a = 0 := by
  rcases h a with ⟨a1, -⟩ | ⟨a1, -, a3, -⟩
  · rw [a1]
  · rw [a1, a3]
    decide
theorem zJ.id {m : Nat} {v w0 w : St} {pl : Nat → Nat} {K : Nat → Prop} (h : zJ w0 w K) (Id : zId m v pl w0) (h0 : ∀ a, w 0 a = w0 0 a) : zId m v pl w :=
  ⟨fun k hk => ⟨(Id.1 k hk).1, by rw [h0]; exact (Id.1 k hk).2.1, fun z => (Id.1 k hk).2.2 ((h.z _).mp z)⟩, fun a ha z => Id.2 a ha (fun y => z ((h.z a).mpr y))⟩
theorem zJ.tel {m lt : Nat} {v w0 w : St} {pl : Nat → Nat} {K : Nat → Prop} (h : zJ w0 w K) (M : zNum m lt v pl) (Id : zId m v pl w) (x : Int32) : zJ w0 (rTel w x) (fun a => K a ∨ ∃ k, k < m ∧ v 0 k = x ∧ a = pl k) ∧ ∀ q a, ¬ q = 1 → ¬ q = 5 → rTel w x q a = w q a := by
  rcases zTel M Id x with ⟨e, hno⟩ | ⟨k, hk, ex, h1, h5, e⟩
  · rw [e]
    refine ⟨fun a => ?_, fun _ _ _ _ => rfl⟩
    rcases h a with ⟨p1, p2, p3⟩ | ⟨p1, p2, p3, p4, p5⟩
    · refine Or.inl ⟨p1, p2, fun z => ?_⟩
      rcases z with z | ⟨k, hk, ex, ea⟩
      · exact p3 z
      · have := hno k hk ex
        rw [← ea, p1, p2] at this
        exact this
    · exact Or.inr ⟨p1, p2, p3, p4, Or.inl p5⟩
  · rw [e]
    refine ⟨fun a => ?_, fun q a q1 q5 => by rw [rRdy_at, if_neg (fun z => q5 z.1), if_neg (fun z => q1 z.1)]⟩
    by_cases ea : a = pl k
    · rcases h a with ⟨p1, p2, p3⟩ | ⟨p1, p2, p3, p4, p5⟩
      · refine Or.inr ⟨by rw [rRdy_at]; simp [ea], by rw [rRdy_at]; simp [ea], ?_, ?_, Or.inr ⟨k, hk, ex, ea⟩⟩
        · rw [← p1, ea]; exact h1
        · rw [← p2, ea]; exact h5
      · rw [ea, h1] at p1
        exact absurd p1 (by decide)
    · have r1 : rRdy w (pl k) 1 a = w 1 a := by rw [rRdy_at]; simp [ea]
      have r5 : rRdy w (pl k) 5 a = w 5 a := by rw [rRdy_at]; simp [ea]
      rw [r1, r5]
      rcases h a with ⟨p1, p2, p3⟩ | ⟨p1, p2, p3, p4, p5⟩
      · refine Or.inl ⟨p1, p2, fun z => ?_⟩
        rcases z with z | ⟨k', hk', ex', ea'⟩
        · exact p3 z
        · have : k' = k := M.2.1 k' k hk' hk (ex'.trans ex.symm)
          rw [this] at ea'
          exact absurd ea' ea
      · exact Or.inr ⟨p1, p2, p3, p4, Or.inl p5⟩
/-- who is woken by ended children that are handed on -/
def zK (m : Nat) (v w0 : St) (pl : Nat → Nat) (x : Int32) (i a : Nat) : Prop := (∃ k, k < m ∧ v 0 k = 1 ∧ a = pl k) ∧ ∃ b, b < i ∧ w0 1 b = 4 ∧ w0 2 b = x
theorem zHnd {m lt : Nat} {v w0 : St} {pl : Nat → Nat} (M : zNum m lt v pl) (Id : zId m v pl w0) (x : Int32) : zJ w0 (rHnd w0 x) (zK m v w0 pl x 15) ∧ (∀ q a, ¬ q = 1 → ¬ q = 2 → ¬ q = 5 → rHnd w0 x q a = w0 q a) ∧ ∀ a, rHnd w0 x 2 a = if a < 15 ∧ ¬ w0 1 a = 0 ∧ w0 2 a = x then 1 else w0 2 a := by
  have h := zl_inv (f := rHnd1 x) (I := fun i (w : St) => zJ w0 w (zK m v w0 pl x i) ∧ (∀ q a, ¬ q = 1 → ¬ q = 2 → ¬ q = 5 → w q a = w0 q a) ∧ ∀ a, w 2 a = if a < i ∧ ¬ w0 1 a = 0 ∧ w0 2 a = x then 1 else w0 2 a) 15 0 w0 (fun i w _ hi hr => by
    obtain ⟨J, hq, h2⟩ := hr
    have e2 : w 2 i = w0 2 i := by rw [h2, if_neg (by omega)]
    by_cases hc : ¬ w0 1 i = 0 ∧ w0 2 i = x
    · have hch : ¬ rChi w i x = 0 := rChi_iff.mpr ⟨fun z => hc.1 ((J.z i).mp z), by rw [e2]; exact hc.2⟩
      have J1 : zJ w0 (up2 w 2 i 1) (zK m v w0 pl x i) := fun a => by
        have r1 : up2 w 2 i 1 1 a = w 1 a := by rw [up2_at, if_neg (by omega)]
        have r5 : up2 w 2 i 1 5 a = w 5 a := by rw [up2_at, if_neg (by omega)]
        rw [r1, r5]
        exact J a
      have hq1 : ∀ q a, ¬ q = 1 → ¬ q = 2 → ¬ q = 5 → up2 w 2 i 1 q a = w0 q a := fun q a q1 q2 q5 => by
        rw [up2_at, if_neg (fun z => q2 z.1)]
        exact hq q a q1 q2 q5
      have h21 : ∀ a, up2 w 2 i 1 2 a = if a < i + 1 ∧ ¬ w0 1 a = 0 ∧ w0 2 a = x then 1 else w0 2 a := fun a => by
        rw [up2_at]
        by_cases ea : a = i
        · rw [if_pos ⟨rfl, ea⟩, if_pos ⟨by omega, by rw [ea]; exact hc⟩]
        · rw [if_neg (fun z => ea z.2), h2]
          by_cases z : a < i ∧ ¬ w0 1 a = 0 ∧ w0 2 a = x
          · rw [if_pos z, if_pos ⟨by omega, z.2⟩]
          · rw [if_neg z, if_neg (fun y => z ⟨by omega, y.2⟩)]
      have r1 : up2 w 2 i 1 1 i = w 1 i := by rw [up2_at, if_neg (by omega)]
      by_cases h4 : up2 w 2 i 1 1 i = 4
      · have e : rHnd1 x i w = rTel (up2 w 2 i 1) 1 := by rw [rHnd1, if_neg hch, if_pos h4]
        rw [e]
        obtain ⟨t1, t2⟩ := J1.tel M (J1.id Id (fun a => hq1 0 a (by decide) (by decide) (by decide))) 1
        refine ⟨t1.mono (fun a => ?_), fun q a q1 q2 q5 => ?_, fun a => ?_⟩
        · have w4 : w0 1 i = 4 := by
            rw [r1] at h4
            rcases J i with ⟨p1, -⟩ | ⟨p1, -⟩
            · rw [← p1]; exact h4
            · rw [h4] at p1
              exact absurd p1 (by decide)
          constructor
          · rintro ⟨z, -⟩
            exact Or.inr z
          · rintro (⟨z, b, hb, z2⟩ | z)
            · exact ⟨z, b, by omega, z2⟩
            · exact ⟨z, i, by omega, w4, hc.2⟩
        · rw [t2 q a q1 q5]
          exact hq1 q a q1 q2 q5
        · rw [t2 2 a (by decide) (by decide)]
          exact h21 a
      · have e : rHnd1 x i w = up2 w 2 i 1 := by rw [rHnd1, if_neg hch, if_neg h4]
        rw [e]
        refine ⟨J1.mono (fun a => ?_), hq1, h21⟩
        constructor
        · rintro ⟨z, b, hb, z4, z2⟩
          refine ⟨z, b, ?_, z4, z2⟩
          rcases Nat.lt_or_eq_of_le (Nat.le_of_lt_succ hb) with y | y
          · exact y
          · exfalso
            rw [y] at z4
            rcases J i with ⟨p1, -⟩ | ⟨-, -, p1, -⟩
            · exact h4 (by rw [r1, p1]; exact z4)
            · rw [z4] at p1
              exact absurd p1 (by decide)
        · rintro ⟨z, b, hb, z2⟩
          exact ⟨z, b, by omega, z2⟩
    · have hch : rChi w i x = 0 := by
        by_cases z : rChi w i x = 0
        · exact z
        · have := rChi_iff.mp z
          rw [e2] at this
          exact absurd ⟨fun y => this.1 ((J.z i).mpr y), this.2⟩ hc
      have e : rHnd1 x i w = w := by rw [rHnd1, if_pos hch]
      rw [e]
      refine ⟨J.mono (fun a => ?_), hq, fun a => ?_⟩
      · constructor
        · rintro ⟨z, b, hb, z4, z2⟩
          refine ⟨z, b, ?_, z4, z2⟩
          rcases Nat.lt_or_eq_of_le (Nat.le_of_lt_succ hb) with y | y
          · exact y
          · exfalso
            rw [y] at z4 z2
            exact hc ⟨by rw [z4]; decide, z2⟩
        · rintro ⟨z, b, hb, z2⟩
          exact ⟨z, b, by omega, z2⟩
      · rw [h2]
        by_cases z : a < i ∧ ¬ w0 1 a = 0 ∧ w0 2 a = x
        · rw [if_pos z, if_pos ⟨by omega, z.2⟩]
        · rw [if_neg z, if_neg (fun y => z ⟨by
            rcases Nat.lt_or_eq_of_le (Nat.le_of_lt_succ y.1) with k | k
            · exact k
            · rw [k] at y
              exact absurd y.2 hc, y.2⟩)]) ⟨fun a => Or.inl ⟨rfl, rfl, fun z => absurd z.2.choose_spec.1 (by omega)⟩, fun _ _ _ _ _ => rfl, fun a => by rw [if_neg (by omega)]⟩
  exact h
theorem sF_b {en on wt wh tk : Int32} {b b' : Bool} (h : ¬ wt = 2) : sF en on wt wh tk b = sF en on wt wh tk b' := by
  unfold sF
  simp only [h, if_false]
