/-! THE CLASS'S STATE AS A NUMBER TABLE: rows 0..8 are its arrays, row 9 its four numbers (taken last, number last, ticks, status). -/
abbrev St : Type := Nat → Nat → Int32
def up2 (u : St) (k i : Nat) (x : Int32) : St := fun k' => bif Nat.beq k' k then upd (u k') i x else u k'
/-- the first place from i on, of n places, with P; -1 if none -/
def zs (P : Nat → Bool) : Nat → Nat → Int32
  | 0, _ => -1
  | n + 1, i => if P i = true then nI i else zs P n (i + 1)
/-- the same, places counted round from behind t -/
def zn (P : Nat → Bool) (t : Nat) : Nat → Nat → Int32
  | 0, _ => -1
  | n + 1, i => if P ((t + i) % 15) = true then nI ((t + i) % 15) else zn P t n (i + 1)
/-- how many of n places from i on have P, beside c -/
def zk (P : Nat → Bool) : Nat → Nat → Nat → Nat
  | 0, _, c => c
  | n + 1, i, c => zk P n (i + 1) (if P i = true then c + 1 else c)
/-- f at n places from i on -/
def zl {α : Type} (f : Nat → α → α) : Nat → Nat → α → α
  | 0, _, u => u
  | n + 1, i, u => zl f n (i + 1) (f i u)
theorem zs_cases (P : Nat → Bool) : ∀ (n i : Nat), (zs P n i = -1 ∧ ∀ j, i ≤ j → j < i + n → P j = false) ∨ ∃ j, i ≤ j ∧ j < i + n ∧ P j = true ∧ zs P n i = nI j ∧ ∀ k, i ≤ k → k < j → P k = false
  | 0, i => Or.inl ⟨rfl, fun j h1 h2 => absurd h2 (by omega)⟩
  | n + 1, i => by
    by_cases h : P i = true
    · exact Or.inr ⟨i, Nat.le_refl i, by omega, h, by simp [zs, h], fun k h1 h2 => absurd h2 (by omega)⟩
    · have hf : P i = false := by simpa using h
      have e : zs P (n + 1) i = zs P n (i + 1) := by simp [zs, hf]
      rcases zs_cases P n (i + 1) with ⟨h1, h2⟩ | ⟨j, h1, h2, h3, h4, h5⟩
      · refine Or.inl ⟨e.trans h1, fun j a b => ?_⟩
        rcases Nat.eq_or_lt_of_le a with q | q
        · rw [← q]; exact hf
        · exact h2 j (by omega) (by omega)
      · refine Or.inr ⟨j, by omega, by omega, h3, e.trans h4, fun k a b => ?_⟩
        rcases Nat.eq_or_lt_of_le a with q | q
        · rw [← q]; exact hf
        · exact h5 k (by omega) b
theorem zn_cases (P : Nat → Bool) (t : Nat) : ∀ (n i : Nat), (zn P t n i = -1 ∧ ∀ j, i ≤ j → j < i + n → P ((t + j) % 15) = false) ∨ ∃ j, i ≤ j ∧ j < i + n ∧ P ((t + j) % 15) = true ∧ zn P t n i = nI ((t + j) % 15) ∧ ∀ k, i ≤ k → k < j → P ((t + k) % 15) = false
  | 0, i => Or.inl ⟨rfl, fun j h1 h2 => absurd h2 (by omega)⟩
  | n + 1, i => by
    by_cases h : P ((t + i) % 15) = true
    · exact Or.inr ⟨i, Nat.le_refl i, by omega, h, by simp [zn, h], fun k h1 h2 => absurd h2 (by omega)⟩
    · have hf : P ((t + i) % 15) = false := by simpa using h
      have e : zn P t (n + 1) i = zn P t n (i + 1) := by simp [zn, hf]
      rcases zn_cases P t n (i + 1) with ⟨h1, h2⟩ | ⟨j, h1, h2, h3, h4, h5⟩
      · refine Or.inl ⟨e.trans h1, fun j a b => ?_⟩
        rcases Nat.eq_or_lt_of_le a with q | q
        · rw [← q]; exact hf
        · exact h2 j (by omega) (by omega)
      · refine Or.inr ⟨j, by omega, by omega, h3, e.trans h4, fun k a b => ?_⟩
        rcases Nat.eq_or_lt_of_le a with q | q
        · rw [← q]; exact hf
        · exact h5 k (by omega) b
theorem zn_P_in {P : Nat → Bool} {t : Nat} (h : ¬ zn P t 15 1 = -1) : ∃ j, j < 15 ∧ P j = true ∧ zn P t 15 1 = nI j := by
  rcases zn_cases P t 15 1 with ⟨a, -⟩ | ⟨j, -, b, c, d, -⟩
  · exact absurd a h
  · exact ⟨(t + j) % 15, Nat.mod_lt _ (by decide), c, d⟩
theorem zz_six {y : Int32} (a : 0 ≤ y.toInt) (b : y.toInt ≤ 5) : y = 0 ∨ y = 1 ∨ y = 2 ∨ y = 3 ∨ y = 4 ∨ y = 5 := by
  have h : y.toInt = 0 ∨ y.toInt = 1 ∨ y.toInt = 2 ∨ y.toInt = 3 ∨ y.toInt = 4 ∨ y.toInt = 5 := by omega
  rcases h with q | q | q | q | q | q
  · exact Or.inl (Int32.toInt_inj.mp q)
  · exact Or.inr (Or.inl (Int32.toInt_inj.mp q))
  · exact Or.inr (Or.inr (Or.inl (Int32.toInt_inj.mp q)))
  · exact Or.inr (Or.inr (Or.inr (Or.inl (Int32.toInt_inj.mp q))))
  · exact Or.inr (Or.inr (Or.inr (Or.inr (Or.inl (Int32.toInt_inj.mp q)))))
  · exact Or.inr (Or.inr (Or.inr (Or.inr (Or.inr (Int32.toInt_inj.mp q)))))
theorem nI_m1 {j : Nat} (h : j < 2 ^ 31) : ¬ nI j = -1 := fun e => by
  have h1 := nI_toInt h
  rw [e] at h1
  have h2 : (-1 : Int32).toInt = -1 := by decide
  omega
def rIsE (u : St) : Int32 := if u 1 0 = 0 then 1 else 0
def rIsP (N : Nat) (x : Int32) : Int32 := if x < 0 then 0 else if nI N ≤ x then 0 else 1
def rBlk (u : St) (i : Nat) (r : Int32) : Int32 := if u 1 i = 3 then (if u 5 i = r then 1 else 0) else 0
def rChi (u : St) (i : Nat) (x : Int32) : Int32 := if u 1 i = 0 then 0 else if u 2 i = x then 1 else 0
def rOn (N : Nat) (u : St) (x : Int32) : Int32 := if rIsP N x = 0 then -1 else u 8 x.toNatClampNeg
def rPrc (N : Nat) (u : St) (x : Int32) : Int32 := zs (fun j => decide (u 8 j = x)) N 0
def rPlc (u : St) (x : Int32) : Int32 := zs (fun j => decide (¬ u 1 j = 0 ∧ u 0 j = x)) 15 0
def rFre (u : St) : Int32 := zs (fun j => decide (u 1 j = 0)) 15 0
def rHas (u : St) (x : Int32) : Int32 := if zs (fun j => decide (¬ rChi u j x = 0)) 15 0 = -1 then 0 else 1
def rFzc (u : St) (x : Int32) : Int32 := zs (fun j => decide (¬ rChi u j x = 0 ∧ u 1 j = 4)) 15 0
def rNxt (u : St) (t : Nat) : Int32 := zn (fun j => decide (u 1 j = 1)) t 15 1
def rSet (u : St) (i : Nat) (x y : Int32) : St := up2 (up2 (up2 u 0 i x) 2 i y) 1 i 1
def rClr (u : St) (i : Nat) : St := up2 (up2 (up2 (up2 (up2 (up2 (up2 (up2 u 0 i 0) 1 i 0) 2 i 0) 3 i 0) 4 i 0) 5 i 0) 6 i 0) 7 i 0
def rEmp (N : Nat) (u : St) : St := zl (fun i v => up2 v 8 i (-1)) N 0 (zl (fun i v => rClr v i) 15 0 u)
def rOff (u : St) (j i : Nat) (x : Int32) : St := up2 (up2 u 8 j (-1)) 1 i x
def rRdy (u : St) (i : Nat) : St := up2 (up2 u 1 i 1) 5 i 0
def rDwn (u : St) (i : Nat) : St := if 0 < (up2 u 7 i (u 7 i - 1)) 7 i then up2 u 7 i (u 7 i - 1) else rRdy (up2 u 7 i (u 7 i - 1)) i
def rTel (u : St) (x : Int32) : St := if rPlc u x = -1 then u else if rBlk u (rPlc u x).toNatClampNeg 2 = 0 then u else rRdy u (rPlc u x).toNatClampNeg
def rHnd1 (x : Int32) (i : Nat) (u : St) : St := if rChi u i x = 0 then u else if (up2 u 2 i 1) 1 i = 4 then rTel (up2 u 2 i 1) 1 else up2 u 2 i 1
def rHnd (u : St) (x : Int32) : St := zl (rHnd1 x) 15 0 u
theorem rIsP_ix {N : Nat} {x : Int32} (hN : N < 2 ^ 31) (h : ¬ rIsP N x = 0) : ∃ j, j < N ∧ x = nI j := by
  unfold rIsP at h
  rcases pk_ix x hN with q | q | q
  · rw [if_pos q] at h
    exact absurd rfl h
  · by_cases z : x < 0
    · rw [if_pos z] at h
      exact absurd rfl h
    · rw [if_neg z, if_pos q] at h
      exact absurd rfl h
  · exact q
theorem rIsP_in {N j : Nat} (hN : N < 2 ^ 31) (h : j < N) : rIsP N (nI j) = 1 := by
  unfold rIsP
  rw [if_neg (nI_pos (by omega)), if_neg (nI_ge h hN)]
theorem rOn_in {N j : Nat} {u : St} (hN : N < 2 ^ 31) (h : j < N) : rOn N u (nI j) = u 8 j := by
  unfold rOn
  rw [rIsP_in hN h, if_neg (by decide), nI_clamp (by omega)]
theorem zs_P_in {P : Nat → Bool} {n : Nat} (h : ¬ zs P n 0 = -1) : ∃ j, j < n ∧ P j = true ∧ zs P n 0 = nI j := by
  rcases zs_cases P n 0 with ⟨a, -⟩ | ⟨j, -, b, c, d, -⟩
  · exact absurd a h
  · exact ⟨j, by omega, c, d⟩
/-- what the walks need of a state: a processor holds a place or none; the place taken last is one -/
def rI (N : Nat) (u : St) : Prop := (∀ j, j < N → u 8 j = -1 ∨ ∃ i, i < 15 ∧ u 8 j = nI i) ∧ ∃ t, t < 15 ∧ u 9 0 = nI t
abbrev cl (x : Int32) : Nat := x.toNatClampNeg
theorem rOn_ix {N : Nat} {u : St} {x : Int32} (hN : N < 2 ^ 31) (hI : rI N u) (h : ¬ rOn N u x = -1) : ∃ j i, j < N ∧ i < 15 ∧ x = nI j ∧ rOn N u x = nI i := by
  by_cases hp : rIsP N x = 0
  · exact absurd (by unfold rOn; rw [if_pos hp]) h
  · obtain ⟨j, hj, rfl⟩ := rIsP_ix hN hp
    have e := rOn_in (u := u) hN hj
    rcases hI.1 j hj with q | ⟨i, hi, q⟩
    · exact absurd (e.trans q) h
    · exact ⟨j, i, hj, hi, rfl, e.trans q⟩
def rFst (u : St) : Int32 × St := if rIsE u = 0 then (0, u) else (1, rSet (up2 (up2 (up2 u 9 2 0) 9 0 14) 9 1 1) 0 1 0)
def rPck (N : Nat) (u : St) (x : Int32) : Int32 × St := if rIsP N x = 0 then (-1, u) else if u 8 (cl x) = -1 then (if rNxt u (cl (u 9 0)) = -1 then (-1, u) else (rNxt u (cl (u 9 0)), up2 (up2 (up2 u 1 (cl (rNxt u (cl (u 9 0)))) 2) 8 (cl x) (rNxt u (cl (u 9 0)))) 9 0 (rNxt u (cl (u 9 0))))) else (u 8 (cl x), u)
def rFrk (N : Nat) (u : St) (x : Int32) : Int32 × St := if rOn N u x = -1 then (-1, u) else if rFre u = -1 then (-1, u) else (rFre u, rSet (up2 u 9 1 (u 9 1 + 1)) (cl (rFre u)) ((up2 u 9 1 (u 9 1 + 1)) 9 1) ((up2 u 9 1 (u 9 1 + 1)) 0 (cl (rOn N u x))))
def rExt1 (u : St) (j i : Nat) (y : Int32) : St := up2 (rOff u j i 4) 4 i y
def rExt2 (u : St) (i : Nat) : St := rTel (rHnd u (u 0 i)) ((rHnd u (u 0 i)) 2 i)
def rExt (N : Nat) (u : St) (x y : Int32) : Int32 × St := if rOn N u x = -1 then (-1, u) else if rOn N u x = 0 then (rOn N u x, rEmp N (up2 u 9 3 y)) else (rOn N u x, rExt2 (rExt1 u (cl x) (cl (rOn N u x)) y) (cl (rOn N u x)))
def rAwt (N : Nat) (u : St) (x : Int32) : Int32 × St := if rOn N u x = -1 then (-1, u) else if rHas u (u 0 (cl (rOn N u x))) = 0 then (-1, u) else if rFzc u (u 0 (cl (rOn N u x))) = -1 then (0, up2 (rOff u (cl x) (cl (rOn N u x)) 3) 5 (cl (rOn N u x)) 2) else (u 0 (cl (rFzc u (u 0 (cl (rOn N u x))))), rClr (up2 u 9 3 (u 4 (cl (rFzc u (u 0 (cl (rOn N u x))))))) (cl (rFzc u (u 0 (cl (rOn N u x))))))
def rBlo (N : Nat) (u : St) (x y : Int32) : Int32 × St := if rOn N u x = -1 then (-1, u) else (rOn N u x, up2 (up2 (rOff u (cl x) (cl (rOn N u x)) 3) 5 (cl (rOn N u x)) 1) 6 (cl (rOn N u x)) y)
def rSlp (N : Nat) (u : St) (x y : Int32) : Int32 × St := if rOn N u x = -1 then (-1, u) else if 1 ≤ y then (rOn N u x, up2 (up2 (rOff u (cl x) (cl (rOn N u x)) 3) 5 (cl (rOn N u x)) 3) 7 (cl (rOn N u x)) y) else (rOn N u x, u)
def rWak1 (x : Int32) (i : Nat) (q : Nat × St) : Nat × St := if rBlk q.2 i 1 = 0 then q else if q.2 6 i = x then (q.1 + 1, rRdy q.2 i) else q
def rWak (u : St) (x : Int32) : Nat × St := zl (rWak1 x) 15 0 (0, u)
def rRst (N : Nat) (u : St) (x : Int32) : Int32 × St := if rOn N u x = -1 then (-1, u) else (rOn N u x, rOff u (cl x) (cl (rOn N u x)) 1)
def rTck1 (i : Nat) (v : St) : St := if rBlk v i 3 = 0 then v else rDwn v i
def rTck2 (N : Nat) (u : St) : St := zl (fun j v => (rRst N v (nI j)).2) N 0 (up2 u 9 2 (u 9 2 + 1))
def rTck (N : Nat) (u : St) : Int32 × St := if rIsE u = 0 then ((zl rTck1 15 0 (rTck2 N u)) 9 2, zl rTck1 15 0 (rTck2 N u)) else (-1, u)
def rKil (u : St) (x : Int32) : Int32 × St := if rPlc u x = -1 then (0, u) else if u 1 (cl (rPlc u x)) = 4 then (0, u) else if (up2 u 3 (cl (rPlc u x)) 1) 1 (cl (rPlc u x)) = 3 then (1, rRdy (up2 u 3 (cl (rPlc u x)) 1) (cl (rPlc u x))) else (1, up2 u 3 (cl (rPlc u x)) 1)
def rAbt (N : Nat) (u : St) (x y : Int32) : Int32 := if x < 0 then -1 else if x < 15 then (if u 1 (cl x) = 0 then (if y = 1 then 0 else -1) else if y = 0 then u 0 (cl x) else if y = 1 then u 1 (cl x) else if y = 2 then u 2 (cl x) else if y = 3 then (if u 3 (cl x) = 0 then 0 else 1) else if y = 4 then u 4 (cl x) else if y = 5 then rPrc N u x else -1) else -1
def rCnt (u : St) (x : Int32) : Int32 := if x < 0 then -1 else if x ≤ 4 then nI (zk (fun j => if x = 0 then decide (¬ u 1 j = 0) else decide (u 1 j = x)) 15 0 0) else -1
theorem rOff_I {N : Nat} {u : St} {j i : Nat} {x : Int32} (hI : rI N u) : rI N (rOff u j i x) := by
  refine ⟨fun k hk => ?_, hI.2⟩
  show upd (u 8) j (-1) k = -1 ∨ ∃ i, i < 15 ∧ upd (u 8) j (-1) k = nI i
  unfold upd
  by_cases e : k = j
  · exact Or.inl (if_pos e)
  · rw [if_neg e]
    exact hI.1 k hk
theorem rRst_I {N : Nat} {u : St} {x : Int32} (hI : rI N u) : rI N (rRst N u x).2 := by
  unfold rRst
  split
  · exact hI
  · exact rOff_I hI
def mk9 {α : Type} (x0 x1 x2 x3 x4 x5 x6 x7 x8 : α) : Nat → α := fun k => match k with
  | 0 => x0
  | 1 => x1
  | 2 => x2
  | 3 => x3
  | 4 => x4
  | 5 => x5
  | 6 => x6
  | 7 => x7
  | _ => x8
def rZ : St := fun _ _ => 0
def rNv (x : Int32) : Int32 := if 1 < (if x < 4 then x else 4) then (if x < 4 then x else 4) else 1
def rN (x : Int32) : Nat := cl (rNv x)
def rU0 (N : Nat) : St := up2 (up2 (up2 (up2 (zl (fun i v => up2 v 8 i (-1)) N 0 rZ) 9 0 14) 9 1 0) 9 2 0) 9 3 0
theorem rN_eq (x : Int32) : rNv x = nI (rN x) ∧ 1 ≤ rN x ∧ rN x ≤ 4 := by
  have h : 1 ≤ (rNv x).toInt ∧ (rNv x).toInt ≤ 4 := by
    unfold rNv
    have h4 : (4 : Int32).toInt = 4 := by decide
    have h1 : (1 : Int32).toInt = 1 := by decide
    by_cases a : x < 4
    · rw [if_pos a]
      by_cases b : 1 < x
      · rw [if_pos b]
        rw [Int32.lt_iff_toInt_lt] at a b
        omega
      · rw [if_neg b]
        omega
    · rw [if_neg a, if_pos (by decide)]
      omega
  have hp : ¬ rNv x < 0 := by
    rw [Int32.lt_iff_toInt_lt]
    have h0 : (0 : Int32).toInt = 0 := by decide
    omega
  obtain ⟨j, hj, e⟩ := nI_of hp
  have ej : rN x = j := by
    unfold rN cl
    rw [e, nI_clamp hj]
  rw [ej]
  refine ⟨e, ?_⟩
  rw [e, nI_toInt hj] at h
  omega
theorem up2_at (u : St) (k i : Nat) (x : Int32) (k' i' : Nat) : up2 u k i x k' i' = if k' = k ∧ i' = i then x else u k' i' := by
  unfold up2
  by_cases e : k' = k
  · subst e
    have : Nat.beq k' k' = true := Nat.beq_refl k'
    rw [this]
    simp [upd]
  · have : Nat.beq k' k = false := by
      rcases h : Nat.beq k' k with _ | _
      · rfl
      · exact absurd (Nat.eq_of_beq_eq_true h) e
    rw [this]
    simp [e]
theorem zs_congr {P Q : Nat → Bool} : ∀ (n i : Nat), (∀ j, i ≤ j → j < i + n → P j = Q j) → zs P n i = zs Q n i
  | 0, i, _ => rfl
  | n + 1, i, h => by
    have h0 := h i (Nat.le_refl i) (by omega)
    have h1 := zs_congr n (i + 1) (fun j a b => h j (by omega) (by omega))
    simp only [zs, h0, h1]
theorem zn_congr {P Q : Nat → Bool} {t : Nat} (h : ∀ j, j < 15 → P j = Q j) : ∀ (n i : Nat), zn P t n i = zn Q t n i
  | 0, i => rfl
  | n + 1, i => by
    have h0 := h ((t + i) % 15) (Nat.mod_lt _ (by decide))
    have h1 := zn_congr (t := t) h n (i + 1)
    simp only [zn, h0, h1]
theorem zk_congr {P Q : Nat → Bool} : ∀ (n i c : Nat), (∀ j, i ≤ j → j < i + n → P j = Q j) → zk P n i c = zk Q n i c
  | 0, i, c, _ => rfl
  | n + 1, i, c, h => by
    have h0 := h i (Nat.le_refl i) (by omega)
    simp only [zk, h0]
    exact zk_congr n (i + 1) _ (fun j a b => h j (by omega) (by omega))
theorem zl_rel {α β : Type} {f : Nat → α → α} {g : Nat → β → β} {Rel : α → β → Prop} : ∀ (n i : Nat) (u : α) (v : β), (∀ j x y, i ≤ j → j < i + n → Rel x y → Rel (f j x) (g j y)) → Rel u v → Rel (zl f n i u) (zl g n i v)
  | 0, i, u, v, _, h => h
  | n + 1, i, u, v, hs, h => zl_rel n (i + 1) _ _ (fun j x y a b r => hs j x y (by omega) (by omega) r) (hs i u v (Nat.le_refl i) (by omega) h)
theorem zl_inv {α : Type} {f : Nat → α → α} {I : Nat → α → Prop} : ∀ (n i : Nat) (u : α), (∀ j x, i ≤ j → j < i + n → I j x → I (j + 1) (f j x)) → I i u → I (i + n) (zl f n i u)
  | 0, i, u, _, h => h
  | n + 1, i, u, hs, h => by
    have := zl_inv (I := I) n (i + 1) (f i u) (fun j x a b r => hs j x (by omega) (by omega) r) (hs i u (Nat.le_refl i) (by omega) h)
    rw [show i + 1 + n = i + (n + 1) by omega] at this
    exact this
