/-! THE REFERENCE'S STATE AS A NUMBER TABLE: rows 0..8 are its arrays (number, place, parent, ended, result, killed, on, waits, which), row 9 its numbers (thrown, processors, many, ticks, latest, taken, status). -/
def mFnd (f : Nat → Int32) (x : Int32) (m : Nat) : Int32 := zl (fun k r => if f k = x then nI k else r) m 0 (-1)
def mRun (v : St) (m : Nat) (x : Int32) : Int32 := if x < 0 then -1 else if v 9 1 ≤ x then -1 else mFnd (v 6) x m
/-- the first number from i on, of n, that has not P -/
def zv (P : Nat → Bool) : Nat → Nat → Nat
  | 0, i => i
  | n + 1, i => if P i = true then zv P n (i + 1) else i
def mVac (v : St) (m : Nat) : Nat := zv (fun j => decide (¬ mFnd (v 1) (nI j) m < 0)) 15 0
def mEnd1 (v : St) (r k : Nat) (f : Int32) : Int32 := if v 2 k = v 0 r then (if v 3 k = 0 then f else if f < 0 then nI k else if v 1 (cl f) ≤ v 1 k then f else nI k) else f
def mEnd (v : St) (m r : Nat) : Int32 := zl (mEnd1 v r) m 0 (-1)
def mSta (v : St) (m r : Nat) : Int32 := if v 3 r = 0 then (if v 6 r < 0 then (if v 7 r = 1 then 3 else if v 7 r = 2 then (if mEnd v m r < 0 then 3 else 1) else if v 7 r = 3 then (if v 8 r ≤ v 9 3 then 1 else 3) else 1) else 2) else 4
def mAdd1 (v : St) (m : Nat) (x y : Int32) : St := up2 (up2 (up2 (up2 v 9 4 (v 9 4 + 1)) 0 m ((up2 v 9 4 (v 9 4 + 1)) 9 4)) 1 m x) 2 m y
def mAdd (v : St) (m : Nat) (x y : Int32) : St := up2 (up2 (up2 (up2 (up2 (up2 (mAdd1 v m x y) 3 m 0) 4 m 0) 5 m 0) 6 m (-1)) 7 m 0) 9 2 (nI (m + 1))
def mS (q k : Nat) (v : St) : St := up2 v q k (v q (k + 1))
def mShf (k : Nat) (v : St) : St := mS 8 k (mS 7 k (mS 6 k (mS 5 k (mS 4 k (mS 3 k (mS 2 k (mS 1 k (mS 0 k v))))))))
/-- row r is gone; m is how many are left -/
def mRem (v : St) (m r : Nat) : St := zl mShf (m - r) r (up2 v 9 2 (nI m))
def mWts (v : St) (r : Nat) (x y : Int32) : St := up2 (up2 (up2 v 6 r (-1)) 7 r x) 8 r y
/-- the flags are 0 or 1 -/
def mB (v : St) : Prop := ∀ k, k < 16 → (v 3 k = 0 ∨ v 3 k = 1) ∧ (v 5 k = 0 ∨ v 5 k = 1)
theorem zz_nb {x : Int32} (h : x = 0 ∨ x = 1) : vp_nar .boolean x = x := by
  rcases h with rfl | rfl <;> decide
def mFst (v : St) (m : Nat) : Int32 × St := if nI m ≤ 0 then (1, mAdd (up2 (up2 (up2 v 9 3 0) 9 4 0) 9 5 14) m 0 0) else (0, v)
/-- the row that is picked: from the row found so far, places counted round from behind t -/
def mPk1 (v : St) (m t : Nat) : Nat → Nat → Int32 → Int32
  | 0, _, r => r
  | n + 1, i, r => if 0 ≤ r then r else mPk1 v m t n (i + 1) (if mFnd (v 1) (nI ((t + i) % 15)) m < 0 then -1 else if mSta v m (cl (mFnd (v 1) (nI ((t + i) % 15)) m)) = 1 then mFnd (v 1) (nI ((t + i) % 15)) m else -1)
def mPk2 (v : St) (r : Nat) (x : Int32) : St := up2 (up2 (up2 v 6 r x) 7 r 0) 9 5 ((up2 (up2 v 6 r x) 7 r 0) 1 r)
def mPck (v : St) (m t : Nat) (x : Int32) : Int32 × St := if x < 0 then (-1, v) else if x < v 9 1 then (if 0 ≤ mPk1 v m t 15 1 (mRun v m x) then (if v 6 (cl (mPk1 v m t 15 1 (mRun v m x))) = x then (v 1 (cl (mPk1 v m t 15 1 (mRun v m x))), v) else ((mPk2 v (cl (mPk1 v m t 15 1 (mRun v m x))) x) 1 (cl (mPk1 v m t 15 1 (mRun v m x))), mPk2 v (cl (mPk1 v m t 15 1 (mRun v m x))) x)) else (-1, v)) else (-1, v)
def mFrk (v : St) (m : Nat) (x : Int32) : Int32 × St := if mRun v m x < 0 then (-1, v) else if nI (mVac v m) = 15 then (-1, v) else (nI (mVac v m), mAdd v m (nI (mVac v m)) (v 0 (cl (mRun v m x))))
def mExt1 (r k : Nat) (v : St) : St := if v 2 k = v 0 r then up2 v 2 k 1 else up2 v 2 k (v 2 k)
def mExt2 (v : St) (r : Nat) (y : Int32) : St := up2 (up2 (up2 v 3 r 1) 4 r y) 6 r (-1)
def mExt (v : St) (m : Nat) (x y : Int32) : Int32 × St := if 0 ≤ mRun v m x then (if v 0 (cl (mRun v m x)) = 1 then (v 1 (cl (mRun v m x)), up2 (up2 v 9 6 y) 9 2 0) else (v 1 (cl (mRun v m x)), mExt2 (zl (mExt1 (cl (mRun v m x))) m 0 v) (cl (mRun v m x)) y)) else (-1, v)
def mChd (v : St) (m r : Nat) : Int32 := zl (fun k f => if f = 0 then (if v 2 k = v 0 r then 1 else 0) else 1) m 0 0
def mAwt (v : St) (m : Nat) (x : Int32) : Int32 × St := if mRun v m x < 0 then (-1, v) else if mChd v m (cl (mRun v m x)) = 0 then (-1, v) else if 0 ≤ mEnd v m (cl (mRun v m x)) then (v 0 (cl (mEnd v m (cl (mRun v m x)))), mRem (up2 v 9 6 (v 4 (cl (mEnd v m (cl (mRun v m x)))))) (m - 1) (cl (mEnd v m (cl (mRun v m x))))) else (0, mWts v (cl (mRun v m x)) 2 0)
def mBlo (v : St) (m : Nat) (x y : Int32) : Int32 × St := if 0 ≤ mRun v m x then ((mWts v (cl (mRun v m x)) 1 y) 1 (cl (mRun v m x)), mWts v (cl (mRun v m x)) 1 y) else (-1, v)
def mSlpW (v : St) (y : Int32) : Int32 := if v 9 3 ≤ 2147483647 - y then v 9 3 + y else 2147483647
def mSlp (v : St) (m : Nat) (x y : Int32) : Int32 × St := if 0 ≤ mRun v m x then (if 1 ≤ y then ((mWts v (cl (mRun v m x)) 3 (mSlpW v y)) 1 (cl (mRun v m x)), mWts v (cl (mRun v m x)) 3 (mSlpW v y)) else (v 1 (cl (mRun v m x)), v)) else (-1, v)
def mWak1 (x : Int32) (k : Nat) (q : Nat × St) : Nat × St := if q.2 3 k = 0 then (if 0 ≤ q.2 6 k then q else if q.2 7 k = 1 then (if q.2 8 k = x then (q.1 + 1, up2 q.2 7 k 0) else q) else q) else q
def mWak (v : St) (m : Nat) (x : Int32) : Nat × St := zl (mWak1 x) m 0 (0, v)
def mRst (v : St) (m : Nat) (x : Int32) : Int32 × St := if 0 ≤ mRun v m x then ((mWts v (cl (mRun v m x)) 0 0) 1 (cl (mRun v m x)), mWts v (cl (mRun v m x)) 0 0) else (-1, v)
def mTck1 (m : Nat) (v : St) : St := zl (fun k w => up2 w 6 k (-1)) m 0 (up2 v 9 3 (v 9 3 + 1))
def mTck (v : St) (m : Nat) : Int32 × St := if nI m = 0 then (-1, v) else ((mTck1 m v) 9 3, mTck1 m v)
def mKil (v : St) (m : Nat) (x : Int32) : Int32 × St := if mFnd (v 0) x m < 0 then (0, v) else if v 3 (cl (mFnd (v 0) x m)) = 0 then (1, up2 (up2 v 5 (cl (mFnd (v 0) x m)) 1) 7 (cl (mFnd (v 0) x m)) 0) else (0, v)
def mAbtR (v : St) (m : Nat) (x : Int32) : Int32 := if x < 0 then -1 else if 15 ≤ x then -1 else mFnd (v 1) x m
def mAbt (v : St) (m : Nat) (x y : Int32) : Int32 := if 0 ≤ mAbtR v m x then (if y = 0 then v 0 (cl (mAbtR v m x)) else if y = 1 then mSta v m (cl (mAbtR v m x)) else if y = 2 then v 2 (cl (mAbtR v m x)) else if y = 3 then (if v 5 (cl (mAbtR v m x)) = 0 then 0 else 1) else if y = 4 then (if v 3 (cl (mAbtR v m x)) = 0 then 0 else v 4 (cl (mAbtR v m x))) else if y = 5 then v 6 (cl (mAbtR v m x)) else -1) else (if x < 0 then -1 else if 15 ≤ x then -1 else if y = 1 then 0 else -1)
def mCnt1 (v : St) (m : Nat) (x : Int32) : Nat := zk (fun k => if x = 0 then true else decide (mSta v m k = x)) m 0 0
def mCnt (v : St) (m : Nat) (x : Int32) : Int32 := if x < 0 then -1 else if x ≤ 4 then nI (mCnt1 v m x) else -1
theorem mFnd_in {f : Nat → Int32} {x : Int32} {m : Nat} : mFnd f x m = -1 ∨ ∃ k, k < m ∧ f k = x ∧ mFnd f x m = nI k := by
  have h := zl_inv (f := fun k (r : Int32) => if f k = x then nI k else r) (I := fun i r => r = -1 ∨ ∃ k, k < i ∧ f k = x ∧ r = nI k) m 0 (-1) (fun j r _ _ hr => by
    show (if f j = x then nI j else r) = -1 ∨ _
    by_cases e : f j = x
    · rw [if_pos e]
      exact Or.inr ⟨j, by omega, e, rfl⟩
    · rw [if_neg e]
      rcases hr with q | ⟨k, a, b, c⟩
      · exact Or.inl q
      · exact Or.inr ⟨k, by omega, b, c⟩) (Or.inl rfl)
  rw [Nat.zero_add] at h
  exact h
theorem mEnd_in {v : St} {r m : Nat} : mEnd v m r = -1 ∨ ∃ k, k < m ∧ mEnd v m r = nI k := by
  have h := zl_inv (f := mEnd1 v r) (I := fun i q => q = -1 ∨ ∃ k, k < i ∧ q = nI k) m 0 (-1) (fun j q _ _ hr => by
    have hk : q = -1 ∨ ∃ k, k < j + 1 ∧ q = nI k := by
      rcases hr with a | ⟨k, a, b⟩
      · exact Or.inl a
      · exact Or.inr ⟨k, by omega, b⟩
    have hj : nI j = -1 ∨ ∃ k, k < j + 1 ∧ nI j = nI k := Or.inr ⟨j, by omega, rfl⟩
    unfold mEnd1
    split
    · split
      · exact hk
      · split
        · exact hj
        · split
          · exact hk
          · exact hj
    · exact hk) (Or.inl rfl)
  rw [Nat.zero_add] at h
  exact h
theorem m1_neg : (-1 : Int32) < 0 := by decide
theorem nI_nn {k : Nat} (h : k < 2 ^ 31) : (0 : Int32) ≤ nI k := nI_pos' h
theorem nn_m1 : ¬ (0 : Int32) ≤ -1 := by decide
theorem up2_0 {v : St} (h : v 9 0 = 0) : up2 v 9 0 0 = v := by
  funext k i
  rw [up2_at]
  split
  · rename_i q
    rw [q.1, q.2, h]
  · rfl
theorem mRun_in {v : St} {x : Int32} {m : Nat} : mRun v m x = -1 ∨ ∃ k, k < m ∧ v 6 k = x ∧ mRun v m x = nI k := by
  unfold mRun
  split
  · exact Or.inl rfl
  · split
    · exact Or.inl rfl
    · exact mFnd_in
theorem mB_shf {w : St} {i : Nat} (hi : i + 1 < 16) (h : mB w) : mB (mShf i w) := by
  intro k hk
  show (upd (w 3) i (w 3 (i + 1)) k = 0 ∨ upd (w 3) i (w 3 (i + 1)) k = 1) ∧ (upd (w 5) i (w 5 (i + 1)) k = 0 ∨ upd (w 5) i (w 5 (i + 1)) k = 1)
  unfold upd
  by_cases e : k = i
  · rw [if_pos e, if_pos e]
    exact h (i + 1) hi
  · rw [if_neg e, if_neg e]
    exact h k hk
