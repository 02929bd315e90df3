theorem sim_new {N : Nat} (h1 : 1 ≤ N) (h4 : N ≤ 4) : zN N 0 (rU0 N) (mU0 N) := sorry
theorem sim_first {N n m t : Nat} {u v : St} (h : zB N n m t u v) (hn : n < 600) : (rFst u).1 = (mFst v m).1 ∧ zN N (n + 1) (rFst u).2 (mFst v m).2 := sorry
theorem sim_pick {N n m t : Nat} {u v : St} (h : zB N n m t u v) (hn : n < 600) (x : Int32) : (rPck N u x).1 = (mPck v m t x).1 ∧ zN N (n + 1) (rPck N u x).2 (mPck v m t x).2 := sorry
theorem sim_fork {N n m t : Nat} {u v : St} (h : zB N n m t u v) (hn : n < 600) (x : Int32) : (rFrk N u x).1 = (mFrk v m x).1 ∧ zN N (n + 1) (rFrk N u x).2 (mFrk v m x).2 := sorry
theorem sim_exit {N n m t : Nat} {u v : St} (h : zB N n m t u v) (hn : n < 600) (x y : Int32) : (rExt N u x y).1 = (mExt v m x y).1 ∧ zN N (n + 1) (rExt N u x y).2 (mExt v m x y).2 := sorry
theorem sim_await {N n m t : Nat} {u v : St} (h : zB N n m t u v) (hn : n < 600) (x : Int32) : (rAwt N u x).1 = (mAwt v m x).1 ∧ zN N (n + 1) (rAwt N u x).2 (mAwt v m x).2 := sorry
theorem sim_status {N n m t : Nat} {u v : St} (h : zB N n m t u v) (hn : n < 600) : u 9 3 = v 9 6 ∧ zN N (n + 1) u v := sorry
theorem sim_block {N n m t : Nat} {u v : St} (h : zB N n m t u v) (hn : n < 600) (x y : Int32) : (rBlo N u x y).1 = (mBlo v m x y).1 ∧ zN N (n + 1) (rBlo N u x y).2 (mBlo v m x y).2 := sorry
theorem sim_sleep {N n m t : Nat} {u v : St} (h : zB N n m t u v) (hn : n < 600) (x y : Int32) : (rSlp N u x y).1 = (mSlp v m x y).1 ∧ zN N (n + 1) (rSlp N u x y).2 (mSlp v m x y).2 := sorry
theorem sim_wake {N n m t : Nat} {u v : St} (h : zB N n m t u v) (hn : n < 600) (x : Int32) : nI (rWak u x).1 = nI (mWak v m x).1 ∧ zN N (n + 1) (rWak u x).2 (mWak v m x).2 := sorry
theorem sim_rest {N n m t : Nat} {u v : St} (h : zB N n m t u v) (hn : n < 600) (x : Int32) : (rRst N u x).1 = (mRst v m x).1 ∧ zN N (n + 1) (rRst N u x).2 (mRst v m x).2 := sorry
theorem sim_tick {N n m t : Nat} {u v : St} (h : zB N n m t u v) (hn : n < 600) : (rTck N u).1 = (mTck v m).1 ∧ zN N (n + 1) (rTck N u).2 (mTck v m).2 := sorry
theorem sim_kill {N n m t : Nat} {u v : St} (h : zB N n m t u v) (hn : n < 600) (x : Int32) : (rKil u x).1 = (mKil v m x).1 ∧ zN N (n + 1) (rKil u x).2 (mKil v m x).2 := sorry
theorem sim_about {N n m t : Nat} {u v : St} (h : zB N n m t u v) (hn : n < 600) (x y : Int32) : rAbt N u x y = mAbt v m x y ∧ zN N (n + 1) u v := sorry
theorem sim_count {N n m t : Nat} {u v : St} (h : zB N n m t u v) (hn : n < 600) (x : Int32) : rCnt u x = mCnt v m x ∧ zN N (n + 1) u v := sorry
