set_option maxHeartbeats 4000000 in
set_option maxRecDepth 100000 in
theorem m_ofPlace {l : Launch} {D : va_G} {h : Nat} {a : Nat → Nat} {ca : Nat → ClassId} (v : St) (m : Nat) (hm : v 9 2 = nI m) (h16 : m ≤ 15) (x : Int32) : cM l D h a ca yX1_ofPlace wsX1_ofPlace { frames := 0, cells := 0, slots := 0, locals := 0 } [.int x] v (some (.int (mFnd (v 1) x m))) v := by
  refine zz_C.of (bytes := cX1_ofPlace) (maxL := 4) (ret := (some .int)) (lv0 := [some (.ref h), some (.int x), none, none]) (by decide) rfl (Nat.le_of_ble_eq_true rfl) rfl rfl ?_
  intro p e s m' below meth c A Q X Ei Ev
  refine zz_iconst (v := -1) X dX1_ofPlace_0 (by decide) ?_
  refine zz_istore_n (lv' := [some (.ref h), some (.int x), some (.int (-1)), none]) X dX1_ofPlace_1 rfl (by decide) rfl ?_
  refine zz_iconst (v := 0) X dX1_ofPlace_2 (by decide) ?_
  refine zz_istore_n (lv' := [some (.ref h), some (.int x), some (.int (-1)), some (.int 0)]) X dX1_ofPlace_3 rfl (by decide) rfl ?_
  have loop : ∀ (n i : Nat) (f : Int32), i + n = m → zl (fun k r => if v 1 k = x then nI k else r) n i f = mFnd (v 1) x m → zz_V p l e { frames := 0, cells := 0, slots := 0, locals := 0 } s m' [.ref h, .int x].toArray below meth c 0 0 Q 4 D vwCl A (wM h a ca v) [some (.ref h), some (.int x), some (.int f), some (.int (nI i))] 4 [] := by
    intro n
    induction n with
    | zero =>
      intro i f hi hz
      refine zz_iload_n X dX1_ofPlace_4 rfl rfl ?_
      refine zz_aload_n X dX1_ofPlace_5 rfl rfl ?_
      refine qq_get (k0 := 2) (v := .int (v 9 2)) X imX1 (by decide) (mc flX1_45) rfl dX1_ofPlace_6 ?_
      refine zz_top (show v 9 2 = nI m from hm) ?_
      refine zz_icmp_ge (tgt := 34) X dX1_ofPlace_9 (by decide) (fun hq => ?_) (fun hq => absurd (nI_le (a := m) (by omega) (by omega)) hq)
      refine zz_iload_n X dX1_ofPlace_34 rfl rfl ?_
      exact Ei _ _ _ _ _ rfl rfl dX1_ofPlace_35 (by rw [← hz]; rfl) rfl
    | succ n ih =>
      intro i f hi hz
      have hlt : i < m := by omega
      refine zz_iload_n X dX1_ofPlace_4 rfl rfl ?_
      refine zz_aload_n X dX1_ofPlace_5 rfl rfl ?_
      refine qq_get (k0 := 2) (v := .int (v 9 2)) X imX1 (by decide) (mc flX1_45) rfl dX1_ofPlace_6 ?_
      refine zz_top (show v 9 2 = nI m from hm) ?_
      refine zz_icmp_ge (tgt := 34) X dX1_ofPlace_9 (by decide) (fun hq => absurd hq (nI_ge (b := m) hlt (by omega))) (fun hq => ?_)
      refine zz_aload_n X dX1_ofPlace_12 rfl rfl ?_
      refine qq_get (k0 := 8) (v := .ref (a 1)) X imX1 (by decide) (mc flX1_13) rfl dX1_ofPlace_13 ?_
      refine zz_iload_n X dX1_ofPlace_16 rfl rfl ?_
      refine zz_iald (q0 := 2) (t0 := 1) (j := i) X rfl rfl rfl (show i < 16 by omega) (by decide) dX1_ofPlace_17 ?_
      refine zz_iload_n X dX1_ofPlace_18 rfl rfl ?_
      refine zz_icmp_ne (tgt := 26) X dX1_ofPlace_19 (by decide) (fun h1 => ?_) (fun h1 => ?_)
      · refine zz_iload_n X dX1_ofPlace_26 rfl rfl ?_
        refine zz_istore_n (lv' := [some (.ref h), some (.int x), some (.int f), some (.int (nI i))]) X dX1_ofPlace_27 rfl (by decide) rfl ?_
        refine zz_iinc (v := (nI (i + 1))) (lv' := [some (.ref h), some (.int x), some (.int f), some (.int (nI (i + 1)))]) X dX1_ofPlace_28 rfl (nI_1 _) (by decide) rfl ?_
        refine zz_goto (tgt := 4) X dX1_ofPlace_31 (by decide) ?_
        exact ih (i + 1) _ (by omega) (by rw [← hz]; simp [zl, h1])
      · refine zz_iload_n X dX1_ofPlace_22 rfl rfl ?_
        refine zz_goto (tgt := 27) X dX1_ofPlace_23 (by decide) ?_
        refine zz_istore_n (lv' := [some (.ref h), some (.int x), some (.int (nI i)), some (.int (nI i))]) X dX1_ofPlace_27 rfl (by decide) rfl ?_
        refine zz_iinc (v := (nI (i + 1))) (lv' := [some (.ref h), some (.int x), some (.int (nI i)), some (.int (nI (i + 1)))]) X dX1_ofPlace_28 rfl (nI_1 _) (by decide) rfl ?_
        refine zz_goto (tgt := 4) X dX1_ofPlace_31 (by decide) ?_
        exact ih (i + 1) _ (by omega) (by rw [← hz]; simp [zl, h1])
  exact loop m 0 (-1) (Nat.zero_add _) rfl
set_option maxHeartbeats 4000000 in
set_option maxRecDepth 100000 in
theorem m_ofNumber {l : Launch} {D : va_G} {h : Nat} {a : Nat → Nat} {ca : Nat → ClassId} (v : St) (m : Nat) (hm : v 9 2 = nI m) (h16 : m ≤ 15) (x : Int32) : cM l D h a ca yX1_ofNumber wsX1_ofNumber { frames := 0, cells := 0, slots := 0, locals := 0 } [.int x] v (some (.int (mFnd (v 0) x m))) v := by
  refine zz_C.of (bytes := cX1_ofNumber) (maxL := 4) (ret := (some .int)) (lv0 := [some (.ref h), some (.int x), none, none]) (by decide) rfl (Nat.le_of_ble_eq_true rfl) rfl rfl ?_
  intro p e s m' below meth c A Q X Ei Ev
  refine zz_iconst (v := -1) X dX1_ofNumber_0 (by decide) ?_
  refine zz_istore_n (lv' := [some (.ref h), some (.int x), some (.int (-1)), none]) X dX1_ofNumber_1 rfl (by decide) rfl ?_
  refine zz_iconst (v := 0) X dX1_ofNumber_2 (by decide) ?_
  refine zz_istore_n (lv' := [some (.ref h), some (.int x), some (.int (-1)), some (.int 0)]) X dX1_ofNumber_3 rfl (by decide) rfl ?_
  have loop : ∀ (n i : Nat) (f : Int32), i + n = m → zl (fun k r => if v 0 k = x then nI k else r) n i f = mFnd (v 0) x m → zz_V p l e { frames := 0, cells := 0, slots := 0, locals := 0 } s m' [.ref h, .int x].toArray below meth c 0 0 Q 4 D vwCl A (wM h a ca v) [some (.ref h), some (.int x), some (.int f), some (.int (nI i))] 4 [] := by
    intro n
    induction n with
    | zero =>
      intro i f hi hz
      refine zz_iload_n X dX1_ofNumber_4 rfl rfl ?_
      refine zz_aload_n X dX1_ofNumber_5 rfl rfl ?_
      refine qq_get (k0 := 2) (v := .int (v 9 2)) X imX1 (by decide) (mc flX1_45) rfl dX1_ofNumber_6 ?_
      refine zz_top (show v 9 2 = nI m from hm) ?_
      refine zz_icmp_ge (tgt := 34) X dX1_ofNumber_9 (by decide) (fun hq => ?_) (fun hq => absurd (nI_le (a := m) (by omega) (by omega)) hq)
      refine zz_iload_n X dX1_ofNumber_34 rfl rfl ?_
      exact Ei _ _ _ _ _ rfl rfl dX1_ofNumber_35 (by rw [← hz]; rfl) rfl
    | succ n ih =>
      intro i f hi hz
      have hlt : i < m := by omega
      refine zz_iload_n X dX1_ofNumber_4 rfl rfl ?_
      refine zz_aload_n X dX1_ofNumber_5 rfl rfl ?_
      refine qq_get (k0 := 2) (v := .int (v 9 2)) X imX1 (by decide) (mc flX1_45) rfl dX1_ofNumber_6 ?_
      refine zz_top (show v 9 2 = nI m from hm) ?_
      refine zz_icmp_ge (tgt := 34) X dX1_ofNumber_9 (by decide) (fun hq => absurd hq (nI_ge (b := m) hlt (by omega))) (fun hq => ?_)
      refine zz_aload_n X dX1_ofNumber_12 rfl rfl ?_
      refine qq_get (k0 := 7) (v := .ref (a 0)) X imX1 (by decide) (mc flX1_7) rfl dX1_ofNumber_13 ?_
      refine zz_iload_n X dX1_ofNumber_16 rfl rfl ?_
      refine zz_iald (q0 := 1) (t0 := 0) (j := i) X rfl rfl rfl (show i < 16 by omega) (by decide) dX1_ofNumber_17 ?_
      refine zz_iload_n X dX1_ofNumber_18 rfl rfl ?_
      refine zz_icmp_ne (tgt := 26) X dX1_ofNumber_19 (by decide) (fun h1 => ?_) (fun h1 => ?_)
      · refine zz_iload_n X dX1_ofNumber_26 rfl rfl ?_
        refine zz_istore_n (lv' := [some (.ref h), some (.int x), some (.int f), some (.int (nI i))]) X dX1_ofNumber_27 rfl (by decide) rfl ?_
        refine zz_iinc (v := (nI (i + 1))) (lv' := [some (.ref h), some (.int x), some (.int f), some (.int (nI (i + 1)))]) X dX1_ofNumber_28 rfl (nI_1 _) (by decide) rfl ?_
        refine zz_goto (tgt := 4) X dX1_ofNumber_31 (by decide) ?_
        exact ih (i + 1) _ (by omega) (by rw [← hz]; simp [zl, h1])
      · refine zz_iload_n X dX1_ofNumber_22 rfl rfl ?_
        refine zz_goto (tgt := 27) X dX1_ofNumber_23 (by decide) ?_
        refine zz_istore_n (lv' := [some (.ref h), some (.int x), some (.int (nI i)), some (.int (nI i))]) X dX1_ofNumber_27 rfl (by decide) rfl ?_
        refine zz_iinc (v := (nI (i + 1))) (lv' := [some (.ref h), some (.int x), some (.int (nI i)), some (.int (nI (i + 1)))]) X dX1_ofNumber_28 rfl (nI_1 _) (by decide) rfl ?_
        refine zz_goto (tgt := 4) X dX1_ofNumber_31 (by decide) ?_
        exact ih (i + 1) _ (by omega) (by rw [← hz]; simp [zl, h1])
  exact loop m 0 (-1) (Nat.zero_add _) rfl
set_option maxHeartbeats 4000000 in
set_option maxRecDepth 100000 in
theorem m_running {l : Launch} {D : va_G} {h : Nat} {a : Nat → Nat} {ca : Nat → ClassId} (v : St) (m : Nat) (hm : v 9 2 = nI m) (h16 : m ≤ 15) (x : Int32) : cM l D h a ca yX1_running wsX1_running { frames := 0, cells := 0, slots := 0, locals := 0 } [.int x] v (some (.int (mRun v m x))) v := by
  refine zz_C.of (bytes := cX1_running) (maxL := 4) (ret := (some .int)) (lv0 := [some (.ref h), some (.int x), none, none]) (by decide) rfl (Nat.le_of_ble_eq_true rfl) rfl rfl ?_
  intro p e s m' below meth c A Q X Ei Ev
  refine zz_iconst (v := -1) X dX1_running_0 (by decide) ?_
  refine zz_istore_n (lv' := [some (.ref h), some (.int x), some (.int (-1)), none]) X dX1_running_1 rfl (by decide) rfl ?_
  refine zz_iconst (v := 0) X dX1_running_2 (by decide) ?_
  refine zz_istore_n (lv' := [some (.ref h), some (.int x), some (.int (-1)), some (.int 0)]) X dX1_running_3 rfl (by decide) rfl ?_
  by_cases hx : x < 0
  · refine zz_iload_n X dX1_running_4 rfl rfl ?_
    refine zz_aload_n X dX1_running_5 rfl rfl ?_
    refine qq_get (k0 := 2) (v := .int (v 9 2)) X imX1 (by decide) (mc flX1_45) rfl dX1_running_6 ?_
    refine zz_top (show v 9 2 = nI m from hm) ?_
    refine zz_icmp_ge (tgt := 46) X dX1_running_9 (by decide) (fun h1 => ?_) (fun h1 => ?_)
    · refine zz_iload_n X dX1_running_46 rfl rfl ?_
      exact Ei _ _ _ _ _ rfl rfl dX1_running_47 (by simp [mRun, hx]) rfl
    · refine zz_iload_n X dX1_running_12 rfl rfl ?_
      refine zz_if_lt (tgt := 46) X dX1_running_13 (by decide) (fun hq => ?_) (fun hq => absurd hx hq)
      refine zz_iload_n X dX1_running_46 rfl rfl ?_
      exact Ei _ _ _ _ _ rfl rfl dX1_running_47 (by simp [mRun, hx]) rfl
  by_cases hy : v 9 1 ≤ x
  · refine zz_iload_n X dX1_running_4 rfl rfl ?_
    refine zz_aload_n X dX1_running_5 rfl rfl ?_
    refine qq_get (k0 := 2) (v := .int (v 9 2)) X imX1 (by decide) (mc flX1_45) rfl dX1_running_6 ?_
    refine zz_top (show v 9 2 = nI m from hm) ?_
    refine zz_icmp_ge (tgt := 46) X dX1_running_9 (by decide) (fun h1 => ?_) (fun h1 => ?_)
    · refine zz_iload_n X dX1_running_46 rfl rfl ?_
      exact Ei _ _ _ _ _ rfl rfl dX1_running_47 (by simp [mRun, hx, hy]) rfl
    · refine zz_iload_n X dX1_running_12 rfl rfl ?_
      refine zz_if_lt (tgt := 46) X dX1_running_13 (by decide) (fun hq => absurd hq hx) (fun hq => ?_)
      refine zz_iload_n X dX1_running_16 rfl rfl ?_
      refine zz_aload_n X dX1_running_17 rfl rfl ?_
      refine qq_get (k0 := 1) (v := .int (v 9 1)) X imX1 (by decide) (mc flX1_38) rfl dX1_running_18 ?_
      refine zz_icmp_ge (tgt := 46) X dX1_running_21 (by decide) (fun hq => ?_) (fun hq => absurd hy hq)
      refine zz_iload_n X dX1_running_46 rfl rfl ?_
      exact Ei _ _ _ _ _ rfl rfl dX1_running_47 (by simp [mRun, hx, hy]) rfl
  have loop : ∀ (n i : Nat) (f : Int32), i + n = m → zl (fun k r => if v 6 k = x then nI k else r) n i f = mRun v m x → zz_V p l e { frames := 0, cells := 0, slots := 0, locals := 0 } s m' [.ref h, .int x].toArray below meth c 0 0 Q 4 D vwCl A (wM h a ca v) [some (.ref h), some (.int x), some (.int f), some (.int (nI i))] 4 [] := by
    intro n
    induction n with
    | zero =>
      intro i f hi hz
      refine zz_iload_n X dX1_running_4 rfl rfl ?_
      refine zz_aload_n X dX1_running_5 rfl rfl ?_
      refine qq_get (k0 := 2) (v := .int (v 9 2)) X imX1 (by decide) (mc flX1_45) rfl dX1_running_6 ?_
      refine zz_top (show v 9 2 = nI m from hm) ?_
      refine zz_icmp_ge (tgt := 46) X dX1_running_9 (by decide) (fun hq => ?_) (fun hq => absurd (nI_le (a := m) (by omega) (by omega)) hq)
      refine zz_iload_n X dX1_running_46 rfl rfl ?_
      exact Ei _ _ _ _ _ rfl rfl dX1_running_47 (by rw [← hz]; rfl) rfl
    | succ n ih =>
      intro i f hi hz
      have hlt : i < m := by omega
      refine zz_iload_n X dX1_running_4 rfl rfl ?_
      refine zz_aload_n X dX1_running_5 rfl rfl ?_
      refine qq_get (k0 := 2) (v := .int (v 9 2)) X imX1 (by decide) (mc flX1_45) rfl dX1_running_6 ?_
      refine zz_top (show v 9 2 = nI m from hm) ?_
      refine zz_icmp_ge (tgt := 46) X dX1_running_9 (by decide) (fun hq => absurd hq (nI_ge (b := m) hlt (by omega))) (fun hq => ?_)
      refine zz_iload_n X dX1_running_12 rfl rfl ?_
      refine zz_if_lt (tgt := 46) X dX1_running_13 (by decide) (fun hq => absurd hq hx) (fun hq => ?_)
      refine zz_iload_n X dX1_running_16 rfl rfl ?_
      refine zz_aload_n X dX1_running_17 rfl rfl ?_
      refine qq_get (k0 := 1) (v := .int (v 9 1)) X imX1 (by decide) (mc flX1_38) rfl dX1_running_18 ?_
      refine zz_icmp_ge (tgt := 46) X dX1_running_21 (by decide) (fun hq => absurd hq hy) (fun hq => ?_)
      refine zz_aload_n X dX1_running_24 rfl rfl ?_
      refine qq_get (k0 := 13) (v := .ref (a 6)) X imX1 (by decide) (mc flX1_29) rfl dX1_running_25 ?_
      refine zz_iload_n X dX1_running_28 rfl rfl ?_
      refine zz_iald (q0 := 7) (t0 := 6) (j := i) X rfl rfl rfl (show i < 16 by omega) (by decide) dX1_running_29 ?_
      refine zz_iload_n X dX1_running_30 rfl rfl ?_
      refine zz_icmp_ne (tgt := 38) X dX1_running_31 (by decide) (fun h1 => ?_) (fun h1 => ?_)
      · refine zz_iload_n X dX1_running_38 rfl rfl ?_
        refine zz_istore_n (lv' := [some (.ref h), some (.int x), some (.int f), some (.int (nI i))]) X dX1_running_39 rfl (by decide) rfl ?_
        refine zz_iinc (v := (nI (i + 1))) (lv' := [some (.ref h), some (.int x), some (.int f), some (.int (nI (i + 1)))]) X dX1_running_40 rfl (nI_1 _) (by decide) rfl ?_
        refine zz_goto (tgt := 4) X dX1_running_43 (by decide) ?_
        exact ih (i + 1) _ (by omega) (by rw [← hz]; simp [zl, h1])
      · refine zz_iload_n X dX1_running_34 rfl rfl ?_
        refine zz_goto (tgt := 39) X dX1_running_35 (by decide) ?_
        refine zz_istore_n (lv' := [some (.ref h), some (.int x), some (.int (nI i)), some (.int (nI i))]) X dX1_running_39 rfl (by decide) rfl ?_
        refine zz_iinc (v := (nI (i + 1))) (lv' := [some (.ref h), some (.int x), some (.int (nI i)), some (.int (nI (i + 1)))]) X dX1_running_40 rfl (nI_1 _) (by decide) rfl ?_
        refine zz_goto (tgt := 4) X dX1_running_43 (by decide) ?_
        exact ih (i + 1) _ (by omega) (by rw [← hz]; simp [zl, h1])
  exact loop m 0 (-1) (Nat.zero_add _) (by rw [mRun, if_neg hx, if_neg hy]; rfl)
set_option maxHeartbeats 4000000 in
set_option maxRecDepth 100000 in
theorem m_vacant {l : Launch} {D : va_G} {h : Nat} {a : Nat → Nat} {ca : Nat → ClassId} (v : St) (m : Nat) (hm : v 9 2 = nI m) (h16 : m ≤ 15) : cM l D h a ca yX1_vacant wsX1_vacant { frames := 1, cells := 0, slots := 0, locals := 23 } [] v (some (.int (nI (mVac v m)))) v := by
  refine zz_C.of (bytes := cX1_vacant) (maxL := 2) (ret := (some .int)) (lv0 := [some (.ref h), none]) (by decide) rfl (Nat.le_of_ble_eq_true rfl) rfl rfl ?_
  intro p e s m' below meth c A Q X Ei Ev
  refine zz_iconst (v := 0) X dX1_vacant_0 (by decide) ?_
  refine zz_istore_n (lv' := [some (.ref h), some (.int 0)]) X dX1_vacant_1 rfl (by decide) rfl ?_
  have loop : ∀ (n i : Nat), i + n = 15 → zv (fun j => decide (¬ mFnd (v 1) (nI j) m < 0)) n i = mVac v m → zz_V p l e { frames := 1, cells := 0, slots := 0, locals := 23 } s m' [.ref h].toArray below meth c 0 0 Q 2 D vwCl A (wM h a ca v) [some (.ref h), some (.int (nI i))] 2 [] := by
    intro n
    induction n with
    | zero =>
      intro i hi hz
      refine zz_iload_n X dX1_vacant_2 rfl rfl ?_
      refine zz_bipush (v := 15) X dX1_vacant_3 (by decide) ?_
      refine zz_icmp_ge (tgt := 22) X dX1_vacant_5 (by decide) (fun hq => ?_) (fun hq => absurd (nI_le (a := 15) (by omega) (by omega)) hq)
      refine zz_iload_n X dX1_vacant_22 rfl rfl ?_
      exact Ei _ _ _ _ _ rfl rfl dX1_vacant_23 (by rw [← hz]; rfl) rfl
    | succ n ih =>
      intro i hi hz
      have hlt : i < 15 := by omega
      refine zz_iload_n X dX1_vacant_2 rfl rfl ?_
      refine zz_bipush (v := 15) X dX1_vacant_3 (by decide) ?_
      refine zz_icmp_ge (tgt := 22) X dX1_vacant_5 (by decide) (fun hq => absurd hq (nI_ge (b := 15) hlt (by decide))) (fun hq => ?_)
      refine zz_aload_n X dX1_vacant_8 rfl rfl ?_
      refine zz_iload_n X dX1_vacant_9 rfl rfl ?_
      refine qq_calli (rest := []) X (m_ofPlace v m hm h16 (nI i)) (cwV 1 X.1.2.2.2.2 (gw lkX1_48 imX1_ofPlace seX1_ofPlace itX1 cdX1_ofPlace) rfl rfl rfl hdX1_ofPlace ⟨Nat.le_of_ble_eq_true rfl, Nat.le_of_ble_eq_true rfl⟩) rfl rfl (Nat.le_of_ble_eq_true rfl) dX1_vacant_10 ⟨Nat.zero_le _, Nat.zero_le _⟩ ?_
      refine zz_if_lt (tgt := 22) X dX1_vacant_13 (by decide) (fun h1 => ?_) (fun h1 => ?_)
      · refine zz_iload_n X dX1_vacant_22 rfl rfl ?_
        exact Ei _ _ _ _ _ rfl rfl dX1_vacant_23 (by rw [← hz]; simp [zv, h1]) rfl
      · refine zz_iinc (v := (nI (i + 1))) (lv' := [some (.ref h), some (.int (nI (i + 1)))]) X dX1_vacant_16 rfl (nI_1 _) (by decide) rfl ?_
        refine zz_goto (tgt := 2) X dX1_vacant_19 (by decide) ?_
        exact ih (i + 1) (by omega) (by rw [← hz]; simp [zv, h1])
  exact loop 15 0 rfl rfl
set_option maxHeartbeats 4000000 in
set_option maxRecDepth 100000 in
theorem m_endedChild {l : Launch} {D : va_G} {h : Nat} {a : Nat → Nat} {ca : Nat → ClassId} (v : St) (m : Nat) (hm : v 9 2 = nI m) (h16 : m ≤ 15) (r : Nat) (hr : r < 16) : cM l D h a ca yX1_endedChild wsX1_endedChild { frames := 0, cells := 0, slots := 0, locals := 0 } [.int (nI r)] v (some (.int (mEnd v m r))) v := by
  refine zz_C.of (bytes := cX1_endedChild) (maxL := 4) (ret := (some .int)) (lv0 := [some (.ref h), some (.int (nI r)), none, none]) (by decide) rfl (Nat.le_of_ble_eq_true rfl) rfl rfl ?_
  intro p e s m' below meth c A Q X Ei Ev
  refine zz_iconst (v := -1) X dX1_endedChild_0 (by decide) ?_
  refine zz_istore_n (lv' := [some (.ref h), some (.int (nI r)), some (.int (-1)), none]) X dX1_endedChild_1 rfl (by decide) rfl ?_
  refine zz_iconst (v := 0) X dX1_endedChild_2 (by decide) ?_
  refine zz_istore_n (lv' := [some (.ref h), some (.int (nI r)), some (.int (-1)), some (.int 0)]) X dX1_endedChild_3 rfl (by decide) rfl ?_
  have loop : ∀ (n i : Nat) (f : Int32), i + n = m → (f = -1 ∨ ∃ j, j < 16 ∧ f = nI j) → zl (mEnd1 v r) n i f = mEnd v m r → zz_V p l e { frames := 0, cells := 0, slots := 0, locals := 0 } s m' [.ref h, .int (nI r)].toArray below meth c 0 0 Q 4 D vwCl A (wM h a ca v) [some (.ref h), some (.int (nI r)), some (.int f), some (.int (nI i))] 4 [] := by
    intro n
    induction n with
    | zero =>
      intro i f hi hf hz
      refine zz_iload_n X dX1_endedChild_4 rfl rfl ?_
      refine zz_aload_n X dX1_endedChild_5 rfl rfl ?_
      refine qq_get (k0 := 2) (v := .int (v 9 2)) X imX1 (by decide) (mc flX1_45) rfl dX1_endedChild_6 ?_
      refine zz_top (show v 9 2 = nI m from hm) ?_
      refine zz_icmp_ge (tgt := 63) X dX1_endedChild_9 (by decide) (fun hq => ?_) (fun hq => absurd (nI_le (a := m) (by omega) (by omega)) hq)
      refine zz_iload_n X dX1_endedChild_63 rfl rfl ?_
      exact Ei _ _ _ _ _ rfl rfl dX1_endedChild_64 (by rw [← hz]; rfl) rfl
    | succ n ih =>
      intro i f hi hf hz
      have hlt : i < m := by omega
      have hi16 : i < 16 := by omega
      refine zz_iload_n X dX1_endedChild_4 rfl rfl ?_
      refine zz_aload_n X dX1_endedChild_5 rfl rfl ?_
      refine qq_get (k0 := 2) (v := .int (v 9 2)) X imX1 (by decide) (mc flX1_45) rfl dX1_endedChild_6 ?_
      refine zz_top (show v 9 2 = nI m from hm) ?_
      refine zz_icmp_ge (tgt := 63) X dX1_endedChild_9 (by decide) (fun hq => absurd hq (nI_ge (b := m) hlt (by omega))) (fun hq => ?_)
      refine zz_aload_n X dX1_endedChild_12 rfl rfl ?_
      refine qq_get (k0 := 9) (v := .ref (a 2)) X imX1 (by decide) (mc flX1_16) rfl dX1_endedChild_13 ?_
      refine zz_iload_n X dX1_endedChild_16 rfl rfl ?_
      refine zz_iald (q0 := 3) (t0 := 2) (j := i) X rfl rfl rfl hi16 (by decide) dX1_endedChild_17 ?_
      refine zz_aload_n X dX1_endedChild_18 rfl rfl ?_
      refine qq_get (k0 := 7) (v := .ref (a 0)) X imX1 (by decide) (mc flX1_7) rfl dX1_endedChild_19 ?_
      refine zz_iload_n X dX1_endedChild_22 rfl rfl ?_
      refine zz_iald (q0 := 1) (t0 := 0) (j := r) X rfl rfl rfl hr (by decide) dX1_endedChild_23 ?_
      refine zz_icmp_ne (tgt := 57) X dX1_endedChild_24 (by decide) (fun h1 => ?_) (fun h1 => ?_)
      · refine zz_iinc (v := (nI (i + 1))) (lv' := [some (.ref h), some (.int (nI r)), some (.int f), some (.int (nI (i + 1)))]) X dX1_endedChild_57 rfl (nI_1 _) (by decide) rfl ?_
        refine zz_goto (tgt := 4) X dX1_endedChild_60 (by decide) ?_
        exact ih (i + 1) _ (by omega) hf (by rw [← hz]; simp [zl, mEnd1, h1])
      · refine zz_aload_n X dX1_endedChild_27 rfl rfl ?_
        refine qq_get (k0 := 10) (v := .ref (a 3)) X imX1 (by decide) (mc flX1_19) rfl dX1_endedChild_28 ?_
        refine zz_iload_n X dX1_endedChild_31 rfl rfl ?_
        refine zz_zald (q0 := 4) (t0 := 3) (j := i) X rfl rfl rfl hi16 (by decide) dX1_endedChild_32 ?_
        refine zz_if_eq (tgt := 57) X dX1_endedChild_33 (by decide) (fun h2 => ?_) (fun h2 => ?_)
        · refine zz_iinc (v := (nI (i + 1))) (lv' := [some (.ref h), some (.int (nI r)), some (.int f), some (.int (nI (i + 1)))]) X dX1_endedChild_57 rfl (nI_1 _) (by decide) rfl ?_
          refine zz_goto (tgt := 4) X dX1_endedChild_60 (by decide) ?_
          exact ih (i + 1) _ (by omega) hf (by rw [← hz]; simp [zl, mEnd1, h1, h2])
        · refine zz_iload_n X dX1_endedChild_36 rfl rfl ?_
          refine zz_if_lt (tgt := 55) X dX1_endedChild_37 (by decide) (fun h3 => ?_) (fun h3 => ?_)
          · refine zz_iload_n X dX1_endedChild_55 rfl rfl ?_
            refine zz_istore_n (lv' := [some (.ref h), some (.int (nI r)), some (.int (nI i)), some (.int (nI i))]) X dX1_endedChild_56 rfl (by decide) rfl ?_
            refine zz_iinc (v := (nI (i + 1))) (lv' := [some (.ref h), some (.int (nI r)), some (.int (nI i)), some (.int (nI (i + 1)))]) X dX1_endedChild_57 rfl (nI_1 _) (by decide) rfl ?_
            refine zz_goto (tgt := 4) X dX1_endedChild_60 (by decide) ?_
            exact ih (i + 1) _ (by omega) (Or.inr ⟨i, hi16, rfl⟩) (by rw [← hz]; simp [zl, mEnd1, h1, h2, h3])
          · obtain ⟨j, hj, rfl⟩ := hf.resolve_left (fun e9 => h3 (by rw [e9]; decide))
            have cj := nI_clamp (show j < 2 ^ 31 by omega)
            refine zz_aload_n X dX1_endedChild_40 rfl rfl ?_
            refine qq_get (k0 := 8) (v := .ref (a 1)) X imX1 (by decide) (mc flX1_13) rfl dX1_endedChild_41 ?_
            refine zz_iload_n X dX1_endedChild_44 rfl rfl ?_
            refine zz_iald (q0 := 2) (t0 := 1) (j := i) X rfl rfl rfl hi16 (by decide) dX1_endedChild_45 ?_
            refine zz_aload_n X dX1_endedChild_46 rfl rfl ?_
            refine qq_get (k0 := 8) (v := .ref (a 1)) X imX1 (by decide) (mc flX1_13) rfl dX1_endedChild_47 ?_
            refine zz_iload_n X dX1_endedChild_50 rfl rfl ?_
            refine zz_iald (q0 := 2) (t0 := 1) (j := j) X rfl rfl rfl hj (by decide) dX1_endedChild_51 ?_
            refine zz_icmp_ge (tgt := 57) X dX1_endedChild_52 (by decide) (fun h4 => ?_) (fun h4 => ?_)
            · refine zz_iinc (v := (nI (i + 1))) (lv' := [some (.ref h), some (.int (nI r)), some (.int (nI j)), some (.int (nI (i + 1)))]) X dX1_endedChild_57 rfl (nI_1 _) (by decide) rfl ?_
              refine zz_goto (tgt := 4) X dX1_endedChild_60 (by decide) ?_
              exact ih (i + 1) _ (by omega) hf (by rw [← hz]; simp [zl, mEnd1, h1, h2, h3, cl, cj, h4])
            · refine zz_iload_n X dX1_endedChild_55 rfl rfl ?_
              refine zz_istore_n (lv' := [some (.ref h), some (.int (nI r)), some (.int (nI i)), some (.int (nI i))]) X dX1_endedChild_56 rfl (by decide) rfl ?_
              refine zz_iinc (v := (nI (i + 1))) (lv' := [some (.ref h), some (.int (nI r)), some (.int (nI i)), some (.int (nI (i + 1)))]) X dX1_endedChild_57 rfl (nI_1 _) (by decide) rfl ?_
              refine zz_goto (tgt := 4) X dX1_endedChild_60 (by decide) ?_
              exact ih (i + 1) _ (by omega) (Or.inr ⟨i, hi16, rfl⟩) (by rw [← hz]; simp [zl, mEnd1, h1, h2, h3, cl, cj, h4])
  exact loop m 0 (-1) (Nat.zero_add _) (Or.inl rfl) rfl
set_option maxHeartbeats 4000000 in
set_option maxRecDepth 100000 in
theorem m_state {l : Launch} {D : va_G} {h : Nat} {a : Nat → Nat} {ca : Nat → ClassId} (v : St) (m : Nat) (hm : v 9 2 = nI m) (h16 : m ≤ 15) (r : Nat) (hr : r < 16) : cM l D h a ca yX1_state wsX1_state { frames := 1, cells := 0, slots := 0, locals := 23 } [.int (nI r)] v (some (.int (mSta v m r))) v := by
  refine zz_C.of (bytes := cX1_state) (maxL := 3) (ret := (some .int)) (lv0 := [some (.ref h), some (.int (nI r)), none]) (by decide) rfl (Nat.le_of_ble_eq_true rfl) rfl rfl ?_
  intro p e s m' below meth c A Q X Ei Ev
  refine zz_aload_n X dX1_state_0 rfl rfl ?_
  refine qq_get (k0 := 10) (v := .ref (a 3)) X imX1 (by decide) (mc flX1_19) rfl dX1_state_1 ?_
  refine zz_iload_n X dX1_state_4 rfl rfl ?_
  refine zz_zald (q0 := 4) (t0 := 3) (j := r) X rfl rfl rfl hr (by decide) dX1_state_5 ?_
  refine zz_if_eq (tgt := 11) X dX1_state_6 (by decide) (fun h1 => ?_) (fun h1 => ?_)
  · refine zz_aload_n X dX1_state_11 rfl rfl ?_
    refine qq_get (k0 := 13) (v := .ref (a 6)) X imX1 (by decide) (mc flX1_29) rfl dX1_state_12 ?_
    refine zz_iload_n X dX1_state_15 rfl rfl ?_
    refine zz_iald (q0 := 7) (t0 := 6) (j := r) X rfl rfl rfl hr (by decide) dX1_state_16 ?_
    refine zz_if_lt (tgt := 22) X dX1_state_17 (by decide) (fun h2 => ?_) (fun h2 => ?_)
    · refine zz_aload_n X dX1_state_22 rfl rfl ?_
      refine qq_get (k0 := 14) (v := .ref (a 7)) X imX1 (by decide) (mc flX1_32) rfl dX1_state_23 ?_
      refine zz_iload_n X dX1_state_26 rfl rfl ?_
      refine zz_iald (q0 := 8) (t0 := 7) (j := r) X rfl rfl rfl hr (by decide) dX1_state_27 ?_
      refine zz_iconst (v := 1) X dX1_state_28 (by decide) ?_
      refine zz_icmp_eq (tgt := 73) X dX1_state_29 (by decide) (fun h3 => ?_) (fun h3 => ?_)
      · refine zz_iconst (v := 1) X dX1_state_73 (by decide) ?_
        refine zz_goto (tgt := 78) X dX1_state_74 (by decide) ?_
        refine zz_istore_n (lv' := [some (.ref h), some (.int (nI r)), some (.int 1)]) X dX1_state_78 rfl (by decide) rfl ?_
        refine zz_iload_n X dX1_state_79 rfl rfl ?_
        refine zz_if_eq (tgt := 87) X dX1_state_80 (by decide) (fun hq => absurd hq (by decide)) (fun hq => ?_)
        refine zz_iconst (v := 3) X dX1_state_83 (by decide) ?_
        refine zz_goto (tgt := 88) X dX1_state_84 (by decide) ?_
        exact Ei _ _ _ _ _ rfl rfl dX1_state_88 (by first | (simp [mSta, h1, h2, h3]; done) | exact absurd (h4.symm.trans h6) (by decide)) rfl
      · refine zz_aload_n X dX1_state_32 rfl rfl ?_
        refine qq_get (k0 := 14) (v := .ref (a 7)) X imX1 (by decide) (mc flX1_32) rfl dX1_state_33 ?_
        refine zz_iload_n X dX1_state_36 rfl rfl ?_
        refine zz_iald (q0 := 8) (t0 := 7) (j := r) X rfl rfl rfl hr (by decide) dX1_state_37 ?_
        refine zz_iconst (v := 2) X dX1_state_38 (by decide) ?_
        refine zz_icmp_ne (tgt := 50) X dX1_state_39 (by decide) (fun h4 => ?_) (fun h4 => ?_)
        · refine zz_aload_n X dX1_state_50 rfl rfl ?_
          refine qq_get (k0 := 14) (v := .ref (a 7)) X imX1 (by decide) (mc flX1_32) rfl dX1_state_51 ?_
          refine zz_iload_n X dX1_state_54 rfl rfl ?_
          refine zz_iald (q0 := 8) (t0 := 7) (j := r) X rfl rfl rfl hr (by decide) dX1_state_55 ?_
          refine zz_iconst (v := 3) X dX1_state_56 (by decide) ?_
          refine zz_icmp_ne (tgt := 77) X dX1_state_57 (by decide) (fun h5 => ?_) (fun h5 => ?_)
          · refine zz_iconst (v := 0) X dX1_state_77 (by decide) ?_
            refine zz_istore_n (lv' := [some (.ref h), some (.int (nI r)), some (.int 0)]) X dX1_state_78 rfl (by decide) rfl ?_
            refine zz_iload_n X dX1_state_79 rfl rfl ?_
            refine zz_if_eq (tgt := 87) X dX1_state_80 (by decide) (fun hq => ?_) (fun hq => absurd rfl hq)
            refine zz_iconst (v := 1) X dX1_state_87 (by decide) ?_
            exact Ei _ _ _ _ _ rfl rfl dX1_state_88 (by first | (simp [mSta, h1, h2, h3, h4, h5]; done) | exact absurd (h4.symm.trans h6) (by decide)) rfl
          · refine zz_aload_n X dX1_state_60 rfl rfl ?_
            refine qq_get (k0 := 3) (v := .int (v 9 3)) X imX1 (by decide) (mc flX1_55) rfl dX1_state_61 ?_
            refine zz_aload_n X dX1_state_64 rfl rfl ?_
            refine qq_get (k0 := 15) (v := .ref (a 8)) X imX1 (by decide) (mc flX1_35) rfl dX1_state_65 ?_
            refine zz_iload_n X dX1_state_68 rfl rfl ?_
            refine zz_iald (q0 := 9) (t0 := 8) (j := r) X rfl rfl rfl hr (by decide) dX1_state_69 ?_
            refine zz_icmp_ge (tgt := 77) X dX1_state_70 (by decide) (fun h6 => ?_) (fun h6 => ?_)
            · refine zz_iconst (v := 0) X dX1_state_77 (by decide) ?_
              refine zz_istore_n (lv' := [some (.ref h), some (.int (nI r)), some (.int 0)]) X dX1_state_78 rfl (by decide) rfl ?_
              refine zz_iload_n X dX1_state_79 rfl rfl ?_
              refine zz_if_eq (tgt := 87) X dX1_state_80 (by decide) (fun hq => ?_) (fun hq => absurd rfl hq)
              refine zz_iconst (v := 1) X dX1_state_87 (by decide) ?_
              exact Ei _ _ _ _ _ rfl rfl dX1_state_88 (by first | (simp [mSta, h1, h2, h3, h4, h5, h6]; done) | exact absurd (h4.symm.trans h6) (by decide)) rfl
            · refine zz_iconst (v := 1) X dX1_state_73 (by decide) ?_
              refine zz_goto (tgt := 78) X dX1_state_74 (by decide) ?_
              refine zz_istore_n (lv' := [some (.ref h), some (.int (nI r)), some (.int 1)]) X dX1_state_78 rfl (by decide) rfl ?_
              refine zz_iload_n X dX1_state_79 rfl rfl ?_
              refine zz_if_eq (tgt := 87) X dX1_state_80 (by decide) (fun hq => absurd hq (by decide)) (fun hq => ?_)
              refine zz_iconst (v := 3) X dX1_state_83 (by decide) ?_
              refine zz_goto (tgt := 88) X dX1_state_84 (by decide) ?_
              exact Ei _ _ _ _ _ rfl rfl dX1_state_88 (by first | (simp [mSta, h1, h2, h3, h4, h5, h6]; done) | exact absurd (h4.symm.trans h6) (by decide)) rfl
        · refine zz_aload_n X dX1_state_42 rfl rfl ?_
          refine zz_iload_n X dX1_state_43 rfl rfl ?_
          refine qq_calli (rest := []) X (m_endedChild v m hm h16 r hr) (cwV 1 X.1.2.2.2.2 (gw lkX1_52 imX1_endedChild seX1_endedChild itX1 cdX1_endedChild) rfl rfl rfl hdX1_endedChild ⟨Nat.le_of_ble_eq_true rfl, Nat.le_of_ble_eq_true rfl⟩) rfl rfl (Nat.le_of_ble_eq_true rfl) dX1_state_44 ⟨Nat.zero_le _, Nat.zero_le _⟩ ?_
          refine zz_if_lt (tgt := 73) X dX1_state_47 (by decide) (fun h5 => ?_) (fun h5 => ?_)
          · refine zz_iconst (v := 1) X dX1_state_73 (by decide) ?_
            refine zz_goto (tgt := 78) X dX1_state_74 (by decide) ?_
            refine zz_istore_n (lv' := [some (.ref h), some (.int (nI r)), some (.int 1)]) X dX1_state_78 rfl (by decide) rfl ?_
            refine zz_iload_n X dX1_state_79 rfl rfl ?_
            refine zz_if_eq (tgt := 87) X dX1_state_80 (by decide) (fun hq => absurd hq (by decide)) (fun hq => ?_)
            refine zz_iconst (v := 3) X dX1_state_83 (by decide) ?_
            refine zz_goto (tgt := 88) X dX1_state_84 (by decide) ?_
            exact Ei _ _ _ _ _ rfl rfl dX1_state_88 (by first | (simp [mSta, h1, h2, h3, h4, h5]; done) | exact absurd (h4.symm.trans h6) (by decide)) rfl
          · refine zz_aload_n X dX1_state_50 rfl rfl ?_
            refine qq_get (k0 := 14) (v := .ref (a 7)) X imX1 (by decide) (mc flX1_32) rfl dX1_state_51 ?_
            refine zz_iload_n X dX1_state_54 rfl rfl ?_
            refine zz_iald (q0 := 8) (t0 := 7) (j := r) X rfl rfl rfl hr (by decide) dX1_state_55 ?_
            refine zz_iconst (v := 3) X dX1_state_56 (by decide) ?_
            refine zz_icmp_ne (tgt := 77) X dX1_state_57 (by decide) (fun h6 => ?_) (fun h6 => ?_)
            · refine zz_iconst (v := 0) X dX1_state_77 (by decide) ?_
              refine zz_istore_n (lv' := [some (.ref h), some (.int (nI r)), some (.int 0)]) X dX1_state_78 rfl (by decide) rfl ?_
              refine zz_iload_n X dX1_state_79 rfl rfl ?_
              refine zz_if_eq (tgt := 87) X dX1_state_80 (by decide) (fun hq => ?_) (fun hq => absurd rfl hq)
              refine zz_iconst (v := 1) X dX1_state_87 (by decide) ?_
              exact Ei _ _ _ _ _ rfl rfl dX1_state_88 (by first | (simp [mSta, h1, h2, h3, h4, h5, h6]; done) | exact absurd (h4.symm.trans h6) (by decide)) rfl
            · refine zz_aload_n X dX1_state_60 rfl rfl ?_
              refine qq_get (k0 := 3) (v := .int (v 9 3)) X imX1 (by decide) (mc flX1_55) rfl dX1_state_61 ?_
              refine zz_aload_n X dX1_state_64 rfl rfl ?_
              refine qq_get (k0 := 15) (v := .ref (a 8)) X imX1 (by decide) (mc flX1_35) rfl dX1_state_65 ?_
              refine zz_iload_n X dX1_state_68 rfl rfl ?_
              refine zz_iald (q0 := 9) (t0 := 8) (j := r) X rfl rfl rfl hr (by decide) dX1_state_69 ?_
              refine zz_icmp_ge (tgt := 77) X dX1_state_70 (by decide) (fun h7 => ?_) (fun h7 => ?_)
              · refine zz_iconst (v := 0) X dX1_state_77 (by decide) ?_
                refine zz_istore_n (lv' := [some (.ref h), some (.int (nI r)), some (.int 0)]) X dX1_state_78 rfl (by decide) rfl ?_
                refine zz_iload_n X dX1_state_79 rfl rfl ?_
                refine zz_if_eq (tgt := 87) X dX1_state_80 (by decide) (fun hq => ?_) (fun hq => absurd rfl hq)
                refine zz_iconst (v := 1) X dX1_state_87 (by decide) ?_
                exact Ei _ _ _ _ _ rfl rfl dX1_state_88 (by first | (simp [mSta, h1, h2, h3, h4, h5, h6, h7]; done) | exact absurd (h4.symm.trans h6) (by decide)) rfl
              · refine zz_iconst (v := 1) X dX1_state_73 (by decide) ?_
                refine zz_goto (tgt := 78) X dX1_state_74 (by decide) ?_
                refine zz_istore_n (lv' := [some (.ref h), some (.int (nI r)), some (.int 1)]) X dX1_state_78 rfl (by decide) rfl ?_
                refine zz_iload_n X dX1_state_79 rfl rfl ?_
                refine zz_if_eq (tgt := 87) X dX1_state_80 (by decide) (fun hq => absurd hq (by decide)) (fun hq => ?_)
                refine zz_iconst (v := 3) X dX1_state_83 (by decide) ?_
                refine zz_goto (tgt := 88) X dX1_state_84 (by decide) ?_
                exact Ei _ _ _ _ _ rfl rfl dX1_state_88 (by first | (simp [mSta, h1, h2, h3, h4, h5, h6, h7]; done) | exact absurd (h4.symm.trans h6) (by decide)) rfl
    · refine zz_iconst (v := 2) X dX1_state_20 (by decide) ?_
      exact Ei _ _ _ _ _ rfl rfl dX1_state_21 (by first | (simp [mSta, h1, h2]; done) | exact absurd (h4.symm.trans h6) (by decide)) rfl
  · refine zz_iconst (v := 4) X dX1_state_9 (by decide) ?_
    exact Ei _ _ _ _ _ rfl rfl dX1_state_10 (by first | (simp [mSta, h1]; done) | exact absurd (h4.symm.trans h6) (by decide)) rfl
set_option maxHeartbeats 4000000 in
set_option maxRecDepth 100000 in
theorem m_add {l : Launch} {D : va_G} {h : Nat} {a : Nat → Nat} {ca : Nat → ClassId} (v : St) (m : Nat) (hm : v 9 2 = nI m) (h16 : m ≤ 15) (x y : Int32) : cM l D h a ca yX1_add wsX1_add { frames := 0, cells := 0, slots := 0, locals := 0 } [.int x, .int y] v (some (.int x)) (mAdd v m x y) := by
  refine zz_C.of (bytes := cX1_add) (maxL := 3) (ret := (some .int)) (lv0 := [some (.ref h), some (.int x), some (.int y)]) (by decide) rfl (Nat.le_of_ble_eq_true rfl) rfl rfl ?_
  intro p e s m' below meth c A Q X Ei Ev
  refine zz_aload_n X dX1_add_0 rfl rfl ?_
  refine zz_dup X dX1_add_1 rfl ?_
  refine qq_get (k0 := 4) (v := .int (v 9 4)) X imX1 (by decide) (mc flX1_58) rfl dX1_add_2 ?_
  refine zz_iconst (v := 1) X dX1_add_5 (by decide) ?_
  refine zz_iadd X dX1_add_6 ?_
  refine qq_put (k0 := 4) (u2 := (up2 v 9 4 ((v 9 4) + 1))) X imX1 (by decide) (mc flX1_58) (by decide) (by decide +kernel) dX1_add_7 rfl ?_
  refine zz_aload_n X dX1_add_10 rfl rfl ?_
  refine qq_get (k0 := 7) (v := .ref (a 0)) X imX1 (by decide) (mc flX1_7) rfl dX1_add_11 ?_
  refine zz_aload_n X dX1_add_14 rfl rfl ?_
  refine qq_get (k0 := 2) (v := .int ((up2 v 9 4 ((v 9 4) + 1)) 9 2)) X imX1 (by decide) (mc flX1_45) rfl dX1_add_15 ?_
  refine zz_top (show (up2 v 9 4 ((v 9 4) + 1)) 9 2 = nI m from hm) ?_
  refine zz_aload_n X dX1_add_18 rfl rfl ?_
  refine qq_get (k0 := 4) (v := .int ((up2 v 9 4 ((v 9 4) + 1)) 9 4)) X imX1 (by decide) (mc flX1_58) rfl dX1_add_19 ?_
  refine zz_iast (q0 := 1) (t0 := 0) (j := m) (ws' := wM h a ca ((up2 (up2 v 9 4 ((v 9 4) + 1)) 0 m ((up2 v 9 4 ((v 9 4) + 1)) 9 4)))) X rfl rfl rfl (show m < 16 by omega) (by decide) dX1_add_22 rfl ?_
  refine zz_aload_n X dX1_add_23 rfl rfl ?_
  refine qq_get (k0 := 8) (v := .ref (a 1)) X imX1 (by decide) (mc flX1_13) rfl dX1_add_24 ?_
  refine zz_aload_n X dX1_add_27 rfl rfl ?_
  refine qq_get (k0 := 2) (v := .int ((up2 (up2 v 9 4 ((v 9 4) + 1)) 0 m ((up2 v 9 4 ((v 9 4) + 1)) 9 4)) 9 2)) X imX1 (by decide) (mc flX1_45) rfl dX1_add_28 ?_
  refine zz_top (show (up2 (up2 v 9 4 ((v 9 4) + 1)) 0 m ((up2 v 9 4 ((v 9 4) + 1)) 9 4)) 9 2 = nI m from hm) ?_
  refine zz_iload_n X dX1_add_31 rfl rfl ?_
  refine zz_iast (q0 := 2) (t0 := 1) (j := m) (ws' := wM h a ca ((up2 (up2 (up2 v 9 4 ((v 9 4) + 1)) 0 m ((up2 v 9 4 ((v 9 4) + 1)) 9 4)) 1 m x))) X rfl rfl rfl (show m < 16 by omega) (by decide) dX1_add_32 rfl ?_
  refine zz_aload_n X dX1_add_33 rfl rfl ?_
  refine qq_get (k0 := 9) (v := .ref (a 2)) X imX1 (by decide) (mc flX1_16) rfl dX1_add_34 ?_
  refine zz_aload_n X dX1_add_37 rfl rfl ?_
  refine qq_get (k0 := 2) (v := .int ((up2 (up2 (up2 v 9 4 ((v 9 4) + 1)) 0 m ((up2 v 9 4 ((v 9 4) + 1)) 9 4)) 1 m x) 9 2)) X imX1 (by decide) (mc flX1_45) rfl dX1_add_38 ?_
  refine zz_top (show (up2 (up2 (up2 v 9 4 ((v 9 4) + 1)) 0 m ((up2 v 9 4 ((v 9 4) + 1)) 9 4)) 1 m x) 9 2 = nI m from hm) ?_
  refine zz_iload_n X dX1_add_41 rfl rfl ?_
  refine zz_iast (q0 := 3) (t0 := 2) (j := m) (ws' := wM h a ca ((up2 (up2 (up2 (up2 v 9 4 ((v 9 4) + 1)) 0 m ((up2 v 9 4 ((v 9 4) + 1)) 9 4)) 1 m x) 2 m y))) X rfl rfl rfl (show m < 16 by omega) (by decide) dX1_add_42 rfl ?_
  refine zz_aload_n X dX1_add_43 rfl rfl ?_
  refine qq_get (k0 := 10) (v := .ref (a 3)) X imX1 (by decide) (mc flX1_19) rfl dX1_add_44 ?_
  refine zz_aload_n X dX1_add_47 rfl rfl ?_
  refine qq_get (k0 := 2) (v := .int ((up2 (up2 (up2 (up2 v 9 4 ((v 9 4) + 1)) 0 m ((up2 v 9 4 ((v 9 4) + 1)) 9 4)) 1 m x) 2 m y) 9 2)) X imX1 (by decide) (mc flX1_45) rfl dX1_add_48 ?_
  refine zz_top (show (up2 (up2 (up2 (up2 v 9 4 ((v 9 4) + 1)) 0 m ((up2 v 9 4 ((v 9 4) + 1)) 9 4)) 1 m x) 2 m y) 9 2 = nI m from hm) ?_
  refine zz_iconst (v := 0) X dX1_add_51 (by decide) ?_
  refine zz_zast (q0 := 4) (t0 := 3) (j := m) (ws' := wM h a ca ((up2 (up2 (up2 (up2 (up2 v 9 4 ((v 9 4) + 1)) 0 m ((up2 v 9 4 ((v 9 4) + 1)) 9 4)) 1 m x) 2 m y) 3 m 0))) X rfl rfl rfl (show m < 16 by omega) (by decide) rfl dX1_add_52 rfl ?_
  refine zz_aload_n X dX1_add_53 rfl rfl ?_
  refine qq_get (k0 := 11) (v := .ref (a 4)) X imX1 (by decide) (mc flX1_23) rfl dX1_add_54 ?_
  refine zz_aload_n X dX1_add_57 rfl rfl ?_
  refine qq_get (k0 := 2) (v := .int ((up2 (up2 (up2 (up2 (up2 v 9 4 ((v 9 4) + 1)) 0 m ((up2 v 9 4 ((v 9 4) + 1)) 9 4)) 1 m x) 2 m y) 3 m 0) 9 2)) X imX1 (by decide) (mc flX1_45) rfl dX1_add_58 ?_
  refine zz_top (show (up2 (up2 (up2 (up2 (up2 v 9 4 ((v 9 4) + 1)) 0 m ((up2 v 9 4 ((v 9 4) + 1)) 9 4)) 1 m x) 2 m y) 3 m 0) 9 2 = nI m from hm) ?_
  refine zz_iconst (v := 0) X dX1_add_61 (by decide) ?_
  refine zz_iast (q0 := 5) (t0 := 4) (j := m) (ws' := wM h a ca ((up2 (up2 (up2 (up2 (up2 (up2 v 9 4 ((v 9 4) + 1)) 0 m ((up2 v 9 4 ((v 9 4) + 1)) 9 4)) 1 m x) 2 m y) 3 m 0) 4 m 0))) X rfl rfl rfl (show m < 16 by omega) (by decide) dX1_add_62 rfl ?_
  refine zz_aload_n X dX1_add_63 rfl rfl ?_
  refine qq_get (k0 := 12) (v := .ref (a 5)) X imX1 (by decide) (mc flX1_26) rfl dX1_add_64 ?_
  refine zz_aload_n X dX1_add_67 rfl rfl ?_
  refine qq_get (k0 := 2) (v := .int ((up2 (up2 (up2 (up2 (up2 (up2 v 9 4 ((v 9 4) + 1)) 0 m ((up2 v 9 4 ((v 9 4) + 1)) 9 4)) 1 m x) 2 m y) 3 m 0) 4 m 0) 9 2)) X imX1 (by decide) (mc flX1_45) rfl dX1_add_68 ?_
  refine zz_top (show (up2 (up2 (up2 (up2 (up2 (up2 v 9 4 ((v 9 4) + 1)) 0 m ((up2 v 9 4 ((v 9 4) + 1)) 9 4)) 1 m x) 2 m y) 3 m 0) 4 m 0) 9 2 = nI m from hm) ?_
  refine zz_iconst (v := 0) X dX1_add_71 (by decide) ?_
  refine zz_zast (q0 := 6) (t0 := 5) (j := m) (ws' := wM h a ca ((up2 (up2 (up2 (up2 (up2 (up2 (up2 v 9 4 ((v 9 4) + 1)) 0 m ((up2 v 9 4 ((v 9 4) + 1)) 9 4)) 1 m x) 2 m y) 3 m 0) 4 m 0) 5 m 0))) X rfl rfl rfl (show m < 16 by omega) (by decide) rfl dX1_add_72 rfl ?_
  refine zz_aload_n X dX1_add_73 rfl rfl ?_
  refine qq_get (k0 := 13) (v := .ref (a 6)) X imX1 (by decide) (mc flX1_29) rfl dX1_add_74 ?_
  refine zz_aload_n X dX1_add_77 rfl rfl ?_
  refine qq_get (k0 := 2) (v := .int ((up2 (up2 (up2 (up2 (up2 (up2 (up2 v 9 4 ((v 9 4) + 1)) 0 m ((up2 v 9 4 ((v 9 4) + 1)) 9 4)) 1 m x) 2 m y) 3 m 0) 4 m 0) 5 m 0) 9 2)) X imX1 (by decide) (mc flX1_45) rfl dX1_add_78 ?_
  refine zz_top (show (up2 (up2 (up2 (up2 (up2 (up2 (up2 v 9 4 ((v 9 4) + 1)) 0 m ((up2 v 9 4 ((v 9 4) + 1)) 9 4)) 1 m x) 2 m y) 3 m 0) 4 m 0) 5 m 0) 9 2 = nI m from hm) ?_
  refine zz_iconst (v := -1) X dX1_add_81 (by decide) ?_
  refine zz_iast (q0 := 7) (t0 := 6) (j := m) (ws' := wM h a ca ((up2 (up2 (up2 (up2 (up2 (up2 (up2 (up2 v 9 4 ((v 9 4) + 1)) 0 m ((up2 v 9 4 ((v 9 4) + 1)) 9 4)) 1 m x) 2 m y) 3 m 0) 4 m 0) 5 m 0) 6 m (-1)))) X rfl rfl rfl (show m < 16 by omega) (by decide) dX1_add_82 rfl ?_
  refine zz_aload_n X dX1_add_83 rfl rfl ?_
  refine qq_get (k0 := 14) (v := .ref (a 7)) X imX1 (by decide) (mc flX1_32) rfl dX1_add_84 ?_
  refine zz_aload_n X dX1_add_87 rfl rfl ?_
  refine qq_get (k0 := 2) (v := .int ((up2 (up2 (up2 (up2 (up2 (up2 (up2 (up2 v 9 4 ((v 9 4) + 1)) 0 m ((up2 v 9 4 ((v 9 4) + 1)) 9 4)) 1 m x) 2 m y) 3 m 0) 4 m 0) 5 m 0) 6 m (-1)) 9 2)) X imX1 (by decide) (mc flX1_45) rfl dX1_add_88 ?_
  refine zz_top (show (up2 (up2 (up2 (up2 (up2 (up2 (up2 (up2 v 9 4 ((v 9 4) + 1)) 0 m ((up2 v 9 4 ((v 9 4) + 1)) 9 4)) 1 m x) 2 m y) 3 m 0) 4 m 0) 5 m 0) 6 m (-1)) 9 2 = nI m from hm) ?_
  refine zz_iconst (v := 0) X dX1_add_91 (by decide) ?_
  refine zz_iast (q0 := 8) (t0 := 7) (j := m) (ws' := wM h a ca ((up2 (up2 (up2 (up2 (up2 (up2 (up2 (up2 (up2 v 9 4 ((v 9 4) + 1)) 0 m ((up2 v 9 4 ((v 9 4) + 1)) 9 4)) 1 m x) 2 m y) 3 m 0) 4 m 0) 5 m 0) 6 m (-1)) 7 m 0))) X rfl rfl rfl (show m < 16 by omega) (by decide) dX1_add_92 rfl ?_
  refine zz_aload_n X dX1_add_93 rfl rfl ?_
  refine zz_dup X dX1_add_94 rfl ?_
  refine qq_get (k0 := 2) (v := .int ((up2 (up2 (up2 (up2 (up2 (up2 (up2 (up2 (up2 v 9 4 ((v 9 4) + 1)) 0 m ((up2 v 9 4 ((v 9 4) + 1)) 9 4)) 1 m x) 2 m y) 3 m 0) 4 m 0) 5 m 0) 6 m (-1)) 7 m 0) 9 2)) X imX1 (by decide) (mc flX1_45) rfl dX1_add_95 ?_
  refine zz_top (show (up2 (up2 (up2 (up2 (up2 (up2 (up2 (up2 (up2 v 9 4 ((v 9 4) + 1)) 0 m ((up2 v 9 4 ((v 9 4) + 1)) 9 4)) 1 m x) 2 m y) 3 m 0) 4 m 0) 5 m 0) 6 m (-1)) 7 m 0) 9 2 = nI m from hm) ?_
  refine zz_iconst (v := 1) X dX1_add_98 (by decide) ?_
  refine zz_iadd X dX1_add_99 ?_
  refine zz_top (nI_1 _) ?_
  refine qq_put (k0 := 2) (u2 := (up2 (up2 (up2 (up2 (up2 (up2 (up2 (up2 (up2 (up2 v 9 4 ((v 9 4) + 1)) 0 m ((up2 v 9 4 ((v 9 4) + 1)) 9 4)) 1 m x) 2 m y) 3 m 0) 4 m 0) 5 m 0) 6 m (-1)) 7 m 0) 9 2 (nI (m + 1)))) X imX1 (by decide) (mc flX1_45) (by decide) (by decide +kernel) dX1_add_100 rfl ?_
  refine zz_iload_n X dX1_add_103 rfl rfl ?_
  exact Ei _ _ _ _ _ rfl rfl dX1_add_104 rfl rfl
set_option maxHeartbeats 4000000 in
set_option maxRecDepth 100000 in
theorem m_remove {l : Launch} {D : va_G} {h : Nat} {a : Nat → Nat} {ca : Nat → ClassId} (v : St) (m : Nat) (hm : v 9 2 = nI (m + 1)) (h16 : m + 1 ≤ 15) (hb : mB v) (r : Nat) (hr : r ≤ m) : cM l D h a ca yX1_remove wsX1_remove { frames := 0, cells := 0, slots := 0, locals := 0 } [.int (nI r)] v none (mRem v m r) := by
  refine zz_C.of (bytes := cX1_remove) (maxL := 3) (ret := none) (lv0 := [some (.ref h), some (.int (nI r)), none]) (by decide) rfl (Nat.le_of_ble_eq_true rfl) rfl rfl ?_
  intro p e s m' below meth c A Q X Ei Ev
  refine zz_aload_n X dX1_remove_0 rfl rfl ?_
  refine zz_dup X dX1_remove_1 rfl ?_
  refine qq_get (k0 := 2) (v := .int (v 9 2)) X imX1 (by decide) (mc flX1_45) rfl dX1_remove_2 ?_
  refine zz_top (show v 9 2 = nI (m + 1) from hm) ?_
  refine zz_iconst (v := 1) X dX1_remove_5 (by decide) ?_
  refine zz_isub X dX1_remove_6 ?_
  refine zz_top (nI_pred m) ?_
  refine qq_put (k0 := 2) (u2 := (up2 v 9 2 (nI m))) X imX1 (by decide) (mc flX1_45) (by decide) (by decide +kernel) dX1_remove_7 rfl ?_
  refine zz_iload_n X dX1_remove_10 rfl rfl ?_
  refine zz_istore_n (lv' := [some (.ref h), some (.int (nI r)), some (.int (nI r))]) X dX1_remove_11 rfl (by decide) rfl ?_
  have loop : ∀ (n i : Nat) (w : St), i + n = m → w 9 2 = nI m → mB w → zl mShf n i w = mRem v m r → zz_V p l e { frames := 0, cells := 0, slots := 0, locals := 0 } s m' [.ref h, .int (nI r)].toArray below meth c 0 0 Q 3 D vwCl A (wM h a ca w) [some (.ref h), some (.int (nI r)), some (.int (nI i))] 12 [] := by
    intro n
    induction n with
    | zero =>
      intro i w hi hw hb hz
      refine zz_iload_n X dX1_remove_12 rfl rfl ?_
      refine zz_aload_n X dX1_remove_13 rfl rfl ?_
      refine qq_get (k0 := 2) (v := .int (w 9 2)) X imX1 (by decide) (mc flX1_45) rfl dX1_remove_14 ?_
      refine zz_top (show w 9 2 = nI m from hw) ?_
      refine zz_icmp_ge (tgt := 152) X dX1_remove_17 (by decide) (fun hq => ?_) (fun hq => absurd (nI_le (a := m) (by omega) (by omega)) hq)
      exact Ev _ _ _ rfl dX1_remove_152 rfl (by rw [← hz]; rfl)
    | succ n ih =>
      intro i w hi hw hb hz
      have hlt : i < m := by omega
      refine zz_iload_n X dX1_remove_12 rfl rfl ?_
      refine zz_aload_n X dX1_remove_13 rfl rfl ?_
      refine qq_get (k0 := 2) (v := .int (w 9 2)) X imX1 (by decide) (mc flX1_45) rfl dX1_remove_14 ?_
      refine zz_top (show w 9 2 = nI m from hw) ?_
      refine zz_icmp_ge (tgt := 152) X dX1_remove_17 (by decide) (fun hq => absurd hq (nI_ge (b := m) hlt (by omega))) (fun hq => ?_)
      refine zz_aload_n X dX1_remove_20 rfl rfl ?_
      refine qq_get (k0 := 7) (v := .ref (a 0)) X imX1 (by decide) (mc flX1_7) rfl dX1_remove_21 ?_
      refine zz_iload_n X dX1_remove_24 rfl rfl ?_
      refine zz_aload_n X dX1_remove_25 rfl rfl ?_
      refine qq_get (k0 := 7) (v := .ref (a 0)) X imX1 (by decide) (mc flX1_7) rfl dX1_remove_26 ?_
      refine zz_iload_n X dX1_remove_29 rfl rfl ?_
      refine zz_iconst (v := 1) X dX1_remove_30 (by decide) ?_
      refine zz_iadd X dX1_remove_31 ?_
      refine zz_top (nI_1 _) ?_
      refine zz_iald (q0 := 1) (t0 := 0) (j := i + 1) X rfl rfl rfl (show i + 1 < 16 by omega) (by decide) dX1_remove_32 ?_
      refine zz_iast (q0 := 1) (t0 := 0) (j := i) (ws' := wM h a ca (up2 w 0 i (w 0 (i + 1)))) X rfl rfl rfl (show i < 16 by omega) (by decide) dX1_remove_33 rfl ?_
      refine zz_aload_n X dX1_remove_34 rfl rfl ?_
      refine qq_get (k0 := 8) (v := .ref (a 1)) X imX1 (by decide) (mc flX1_13) rfl dX1_remove_35 ?_
      refine zz_iload_n X dX1_remove_38 rfl rfl ?_
      refine zz_aload_n X dX1_remove_39 rfl rfl ?_
      refine qq_get (k0 := 8) (v := .ref (a 1)) X imX1 (by decide) (mc flX1_13) rfl dX1_remove_40 ?_
      refine zz_iload_n X dX1_remove_43 rfl rfl ?_
      refine zz_iconst (v := 1) X dX1_remove_44 (by decide) ?_
      refine zz_iadd X dX1_remove_45 ?_
      refine zz_top (nI_1 _) ?_
      refine zz_iald (q0 := 2) (t0 := 1) (j := i + 1) X rfl rfl rfl (show i + 1 < 16 by omega) (by decide) dX1_remove_46 ?_
      refine zz_iast (q0 := 2) (t0 := 1) (j := i) (ws' := wM h a ca ((up2 (up2 w 0 i (w 0 (i + 1))) 1 i (((up2 w 0 i (w 0 (i + 1))) 1 (i + 1)))))) X rfl rfl rfl (show i < 16 by omega) (by decide) dX1_remove_47 rfl ?_
      refine zz_aload_n X dX1_remove_48 rfl rfl ?_
      refine qq_get (k0 := 9) (v := .ref (a 2)) X imX1 (by decide) (mc flX1_16) rfl dX1_remove_49 ?_
      refine zz_iload_n X dX1_remove_52 rfl rfl ?_
      refine zz_aload_n X dX1_remove_53 rfl rfl ?_
      refine qq_get (k0 := 9) (v := .ref (a 2)) X imX1 (by decide) (mc flX1_16) rfl dX1_remove_54 ?_
      refine zz_iload_n X dX1_remove_57 rfl rfl ?_
      refine zz_iconst (v := 1) X dX1_remove_58 (by decide) ?_
      refine zz_iadd X dX1_remove_59 ?_
      refine zz_top (nI_1 _) ?_
      refine zz_iald (q0 := 3) (t0 := 2) (j := i + 1) X rfl rfl rfl (show i + 1 < 16 by omega) (by decide) dX1_remove_60 ?_
      refine zz_iast (q0 := 3) (t0 := 2) (j := i) (ws' := wM h a ca ((up2 (up2 (up2 w 0 i (w 0 (i + 1))) 1 i (((up2 w 0 i (w 0 (i + 1))) 1 (i + 1)))) 2 i (((up2 (up2 w 0 i (w 0 (i + 1))) 1 i (((up2 w 0 i (w 0 (i + 1))) 1 (i + 1)))) 2 (i + 1)))))) X rfl rfl rfl (show i < 16 by omega) (by decide) dX1_remove_61 rfl ?_
      refine zz_aload_n X dX1_remove_62 rfl rfl ?_
      refine qq_get (k0 := 10) (v := .ref (a 3)) X imX1 (by decide) (mc flX1_19) rfl dX1_remove_63 ?_
      refine zz_iload_n X dX1_remove_66 rfl rfl ?_
      refine zz_aload_n X dX1_remove_67 rfl rfl ?_
      refine qq_get (k0 := 10) (v := .ref (a 3)) X imX1 (by decide) (mc flX1_19) rfl dX1_remove_68 ?_
      refine zz_iload_n X dX1_remove_71 rfl rfl ?_
      refine zz_iconst (v := 1) X dX1_remove_72 (by decide) ?_
      refine zz_iadd X dX1_remove_73 ?_
      refine zz_top (nI_1 _) ?_
      refine zz_zald (q0 := 4) (t0 := 3) (j := i + 1) X rfl rfl rfl (show i + 1 < 16 by omega) (by decide) dX1_remove_74 ?_
      refine zz_zast (q0 := 4) (t0 := 3) (j := i) (ws' := wM h a ca ((up2 (up2 (up2 (up2 w 0 i (w 0 (i + 1))) 1 i (((up2 w 0 i (w 0 (i + 1))) 1 (i + 1)))) 2 i (((up2 (up2 w 0 i (w 0 (i + 1))) 1 i (((up2 w 0 i (w 0 (i + 1))) 1 (i + 1)))) 2 (i + 1)))) 3 i (((up2 (up2 (up2 w 0 i (w 0 (i + 1))) 1 i (((up2 w 0 i (w 0 (i + 1))) 1 (i + 1)))) 2 i (((up2 (up2 w 0 i (w 0 (i + 1))) 1 i (((up2 w 0 i (w 0 (i + 1))) 1 (i + 1)))) 2 (i + 1)))) 3 (i + 1)))))) X rfl rfl rfl (show i < 16 by omega) (by decide) (zz_nb (show (up2 (up2 (up2 w 0 i (w 0 (i + 1))) 1 i (((up2 w 0 i (w 0 (i + 1))) 1 (i + 1)))) 2 i (((up2 (up2 w 0 i (w 0 (i + 1))) 1 i (((up2 w 0 i (w 0 (i + 1))) 1 (i + 1)))) 2 (i + 1)))) 3 (i + 1) = 0 ∨ (up2 (up2 (up2 w 0 i (w 0 (i + 1))) 1 i (((up2 w 0 i (w 0 (i + 1))) 1 (i + 1)))) 2 i (((up2 (up2 w 0 i (w 0 (i + 1))) 1 i (((up2 w 0 i (w 0 (i + 1))) 1 (i + 1)))) 2 (i + 1)))) 3 (i + 1) = 1 from (hb (i + 1) (by omega)).1)) dX1_remove_75 rfl ?_
      refine zz_aload_n X dX1_remove_76 rfl rfl ?_
      refine qq_get (k0 := 11) (v := .ref (a 4)) X imX1 (by decide) (mc flX1_23) rfl dX1_remove_77 ?_
      refine zz_iload_n X dX1_remove_80 rfl rfl ?_
      refine zz_aload_n X dX1_remove_81 rfl rfl ?_
      refine qq_get (k0 := 11) (v := .ref (a 4)) X imX1 (by decide) (mc flX1_23) rfl dX1_remove_82 ?_
      refine zz_iload_n X dX1_remove_85 rfl rfl ?_
      refine zz_iconst (v := 1) X dX1_remove_86 (by decide) ?_
      refine zz_iadd X dX1_remove_87 ?_
      refine zz_top (nI_1 _) ?_
      refine zz_iald (q0 := 5) (t0 := 4) (j := i + 1) X rfl rfl rfl (show i + 1 < 16 by omega) (by decide) dX1_remove_88 ?_
      refine zz_iast (q0 := 5) (t0 := 4) (j := i) (ws' := wM h a ca ((up2 (up2 (up2 (up2 (up2 w 0 i (w 0 (i + 1))) 1 i (((up2 w 0 i (w 0 (i + 1))) 1 (i + 1)))) 2 i (((up2 (up2 w 0 i (w 0 (i + 1))) 1 i (((up2 w 0 i (w 0 (i + 1))) 1 (i + 1)))) 2 (i + 1)))) 3 i (((up2 (up2 (up2 w 0 i (w 0 (i + 1))) 1 i (((up2 w 0 i (w 0 (i + 1))) 1 (i + 1)))) 2 i (((up2 (up2 w 0 i (w 0 (i + 1))) 1 i (((up2 w 0 i (w 0 (i + 1))) 1 (i + 1)))) 2 (i + 1)))) 3 (i + 1)))) 4 i (((up2 (up2 (up2 (up2 w 0 i (w 0 (i + 1))) 1 i (((up2 w 0 i (w 0 (i + 1))) 1 (i + 1)))) 2 i (((up2 (up2 w 0 i (w 0 (i + 1))) 1 i (((up2 w 0 i (w 0 (i + 1))) 1 (i + 1)))) 2 (i + 1)))) 3 i (((up2 (up2 (up2 w 0 i (w 0 (i + 1))) 1 i (((up2 w 0 i (w 0 (i + 1))) 1 (i + 1)))) 2 i (((up2 (up2 w 0 i (w 0 (i + 1))) 1 i (((up2 w 0 i (w 0 (i + 1))) 1 (i + 1)))) 2 (i + 1)))) 3 (i + 1)))) 4 (i + 1)))))) X rfl rfl rfl (show i < 16 by omega) (by decide) dX1_remove_89 rfl ?_
      refine zz_aload_n X dX1_remove_90 rfl rfl ?_
      refine qq_get (k0 := 12) (v := .ref (a 5)) X imX1 (by decide) (mc flX1_26) rfl dX1_remove_91 ?_
      refine zz_iload_n X dX1_remove_94 rfl rfl ?_
      refine zz_aload_n X dX1_remove_95 rfl rfl ?_
      refine qq_get (k0 := 12) (v := .ref (a 5)) X imX1 (by decide) (mc flX1_26) rfl dX1_remove_96 ?_
      refine zz_iload_n X dX1_remove_99 rfl rfl ?_
      refine zz_iconst (v := 1) X dX1_remove_100 (by decide) ?_
      refine zz_iadd X dX1_remove_101 ?_
      refine zz_top (nI_1 _) ?_
      refine zz_zald (q0 := 6) (t0 := 5) (j := i + 1) X rfl rfl rfl (show i + 1 < 16 by omega) (by decide) dX1_remove_102 ?_
      refine zz_zast (q0 := 6) (t0 := 5) (j := i) (ws' := wM h a ca ((up2 (up2 (up2 (up2 (up2 (up2 w 0 i (w 0 (i + 1))) 1 i (((up2 w 0 i (w 0 (i + 1))) 1 (i + 1)))) 2 i (((up2 (up2 w 0 i (w 0 (i + 1))) 1 i (((up2 w 0 i (w 0 (i + 1))) 1 (i + 1)))) 2 (i + 1)))) 3 i (((up2 (up2 (up2 w 0 i (w 0 (i + 1))) 1 i (((up2 w 0 i (w 0 (i + 1))) 1 (i + 1)))) 2 i (((up2 (up2 w 0 i (w 0 (i + 1))) 1 i (((up2 w 0 i (w 0 (i + 1))) 1 (i + 1)))) 2 (i + 1)))) 3 (i + 1)))) 4 i (((up2 (up2 (up2 (up2 w 0 i (w 0 (i + 1))) 1 i (((up2 w 0 i (w 0 (i + 1))) 1 (i + 1)))) 2 i (((up2 (up2 w 0 i (w 0 (i + 1))) 1 i (((up2 w 0 i (w 0 (i + 1))) 1 (i + 1)))) 2 (i + 1)))) 3 i (((up2 (up2 (up2 w 0 i (w 0 (i + 1))) 1 i (((up2 w 0 i (w 0 (i + 1))) 1 (i + 1)))) 2 i (((up2 (up2 w 0 i (w 0 (i + 1))) 1 i (((up2 w 0 i (w 0 (i + 1))) 1 (i + 1)))) 2 (i + 1)))) 3 (i + 1)))) 4 (i + 1)))) 5 i (((up2 (up2 (up2 (up2 (up2 w 0 i (w 0 (i + 1))) 1 i (((up2 w 0 i (w 0 (i + 1))) 1 (i + 1)))) 2 i (((up2 (up2 w 0 i (w 0 (i + 1))) 1 i (((up2 w 0 i (w 0 (i + 1))) 1 (i + 1)))) 2 (i + 1)))) 3 i (((up2 (up2 (up2 w 0 i (w 0 (i + 1))) 1 i (((up2 w 0 i (w 0 (i + 1))) 1 (i + 1)))) 2 i (((up2 (up2 w 0 i (w 0 (i + 1))) 1 i (((up2 w 0 i (w 0 (i + 1))) 1 (i + 1)))) 2 (i + 1)))) 3 (i + 1)))) 4 i (((up2 (up2 (up2 (up2 w 0 i (w 0 (i + 1))) 1 i (((up2 w 0 i (w 0 (i + 1))) 1 (i + 1)))) 2 i (((up2 (up2 w 0 i (w 0 (i + 1))) 1 i (((up2 w 0 i (w 0 (i + 1))) 1 (i + 1)))) 2 (i + 1)))) 3 i (((up2 (up2 (up2 w 0 i (w 0 (i + 1))) 1 i (((up2 w 0 i (w 0 (i + 1))) 1 (i + 1)))) 2 i (((up2 (up2 w 0 i (w 0 (i + 1))) 1 i (((up2 w 0 i (w 0 (i + 1))) 1 (i + 1)))) 2 (i + 1)))) 3 (i + 1)))) 4 (i + 1)))) 5 (i + 1)))))) X rfl rfl rfl (show i < 16 by omega) (by decide) (zz_nb (show (up2 (up2 (up2 (up2 (up2 w 0 i (w 0 (i + 1))) 1 i (((up2 w 0 i (w 0 (i + 1))) 1 (i + 1)))) 2 i (((up2 (up2 w 0 i (w 0 (i + 1))) 1 i (((up2 w 0 i (w 0 (i + 1))) 1 (i + 1)))) 2 (i + 1)))) 3 i (((up2 (up2 (up2 w 0 i (w 0 (i + 1))) 1 i (((up2 w 0 i (w 0 (i + 1))) 1 (i + 1)))) 2 i (((up2 (up2 w 0 i (w 0 (i + 1))) 1 i (((up2 w 0 i (w 0 (i + 1))) 1 (i + 1)))) 2 (i + 1)))) 3 (i + 1)))) 4 i (((up2 (up2 (up2 (up2 w 0 i (w 0 (i + 1))) 1 i (((up2 w 0 i (w 0 (i + 1))) 1 (i + 1)))) 2 i (((up2 (up2 w 0 i (w 0 (i + 1))) 1 i (((up2 w 0 i (w 0 (i + 1))) 1 (i + 1)))) 2 (i + 1)))) 3 i (((up2 (up2 (up2 w 0 i (w 0 (i + 1))) 1 i (((up2 w 0 i (w 0 (i + 1))) 1 (i + 1)))) 2 i (((up2 (up2 w 0 i (w 0 (i + 1))) 1 i (((up2 w 0 i (w 0 (i + 1))) 1 (i + 1)))) 2 (i + 1)))) 3 (i + 1)))) 4 (i + 1)))) 5 (i + 1) = 0 ∨ (up2 (up2 (up2 (up2 (up2 w 0 i (w 0 (i + 1))) 1 i (((up2 w 0 i (w 0 (i + 1))) 1 (i + 1)))) 2 i (((up2 (up2 w 0 i (w 0 (i + 1))) 1 i (((up2 w 0 i (w 0 (i + 1))) 1 (i + 1)))) 2 (i + 1)))) 3 i (((up2 (up2 (up2 w 0 i (w 0 (i + 1))) 1 i (((up2 w 0 i (w 0 (i + 1))) 1 (i + 1)))) 2 i (((up2 (up2 w 0 i (w 0 (i + 1))) 1 i (((up2 w 0 i (w 0 (i + 1))) 1 (i + 1)))) 2 (i + 1)))) 3 (i + 1)))) 4 i (((up2 (up2 (up2 (up2 w 0 i (w 0 (i + 1))) 1 i (((up2 w 0 i (w 0 (i + 1))) 1 (i + 1)))) 2 i (((up2 (up2 w 0 i (w 0 (i + 1))) 1 i (((up2 w 0 i (w 0 (i + 1))) 1 (i + 1)))) 2 (i + 1)))) 3 i (((up2 (up2 (up2 w 0 i (w 0 (i + 1))) 1 i (((up2 w 0 i (w 0 (i + 1))) 1 (i + 1)))) 2 i (((up2 (up2 w 0 i (w 0 (i + 1))) 1 i (((up2 w 0 i (w 0 (i + 1))) 1 (i + 1)))) 2 (i + 1)))) 3 (i + 1)))) 4 (i + 1)))) 5 (i + 1) = 1 from (hb (i + 1) (by omega)).2)) dX1_remove_103 rfl ?_
      refine zz_aload_n X dX1_remove_104 rfl rfl ?_
      refine qq_get (k0 := 13) (v := .ref (a 6)) X imX1 (by decide) (mc flX1_29) rfl dX1_remove_105 ?_
      refine zz_iload_n X dX1_remove_108 rfl rfl ?_
      refine zz_aload_n X dX1_remove_109 rfl rfl ?_
      refine qq_get (k0 := 13) (v := .ref (a 6)) X imX1 (by decide) (mc flX1_29) rfl dX1_remove_110 ?_
      refine zz_iload_n X dX1_remove_113 rfl rfl ?_
      refine zz_iconst (v := 1) X dX1_remove_114 (by decide) ?_
      refine zz_iadd X dX1_remove_115 ?_
      refine zz_top (nI_1 _) ?_
      refine zz_iald (q0 := 7) (t0 := 6) (j := i + 1) X rfl rfl rfl (show i + 1 < 16 by omega) (by decide) dX1_remove_116 ?_
      refine zz_iast (q0 := 7) (t0 := 6) (j := i) (ws' := wM h a ca ((up2 (up2 (up2 (up2 (up2 (up2 (up2 w 0 i (w 0 (i + 1))) 1 i (((up2 w 0 i (w 0 (i + 1))) 1 (i + 1)))) 2 i (((up2 (up2 w 0 i (w 0 (i + 1))) 1 i (((up2 w 0 i (w 0 (i + 1))) 1 (i + 1)))) 2 (i + 1)))) 3 i (((up2 (up2 (up2 w 0 i (w 0 (i + 1))) 1 i (((up2 w 0 i (w 0 (i + 1))) 1 (i + 1)))) 2 i (((up2 (up2 w 0 i (w 0 (i + 1))) 1 i (((up2 w 0 i (w 0 (i + 1))) 1 (i + 1)))) 2 (i + 1)))) 3 (i + 1)))) 4 i (((up2 (up2 (up2 (up2 w 0 i (w 0 (i + 1))) 1 i (((up2 w 0 i (w 0 (i + 1))) 1 (i + 1)))) 2 i (((up2 (up2 w 0 i (w 0 (i + 1))) 1 i (((up2 w 0 i (w 0 (i + 1))) 1 (i + 1)))) 2 (i + 1)))) 3 i (((up2 (up2 (up2 w 0 i (w 0 (i + 1))) 1 i (((up2 w 0 i (w 0 (i + 1))) 1 (i + 1)))) 2 i (((up2 (up2 w 0 i (w 0 (i + 1))) 1 i (((up2 w 0 i (w 0 (i + 1))) 1 (i + 1)))) 2 (i + 1)))) 3 (i + 1)))) 4 (i + 1)))) 5 i (((up2 (up2 (up2 (up2 (up2 w 0 i (w 0 (i + 1))) 1 i (((up2 w 0 i (w 0 (i + 1))) 1 (i + 1)))) 2 i (((up2 (up2 w 0 i (w 0 (i + 1))) 1 i (((up2 w 0 i (w 0 (i + 1))) 1 (i + 1)))) 2 (i + 1)))) 3 i (((up2 (up2 (up2 w 0 i (w 0 (i + 1))) 1 i (((up2 w 0 i (w 0 (i + 1))) 1 (i + 1)))) 2 i (((up2 (up2 w 0 i (w 0 (i + 1))) 1 i (((up2 w 0 i (w 0 (i + 1))) 1 (i + 1)))) 2 (i + 1)))) 3 (i + 1)))) 4 i (((up2 (up2 (up2 (up2 w 0 i (w 0 (i + 1))) 1 i (((up2 w 0 i (w 0 (i + 1))) 1 (i + 1)))) 2 i (((up2 (up2 w 0 i (w 0 (i + 1))) 1 i (((up2 w 0 i (w 0 (i + 1))) 1 (i + 1)))) 2 (i + 1)))) 3 i (((up2 (up2 (up2 w 0 i (w 0 (i + 1))) 1 i (((up2 w 0 i (w 0 (i + 1))) 1 (i + 1)))) 2 i (((up2 (up2 w 0 i (w 0 (i + 1))) 1 i (((up2 w 0 i (w 0 (i + 1))) 1 (i + 1)))) 2 (i + 1)))) 3 (i + 1)))) 4 (i + 1)))) 5 (i + 1)))) 6 i (((up2 (up2 (up2 (up2 (up2 (up2 w 0 i (w 0 (i + 1))) 1 i (((up2 w 0 i (w 0 (i + 1))) 1 (i + 1)))) 2 i (((up2 (up2 w 0 i (w 0 (i + 1))) 1 i (((up2 w 0 i (w 0 (i + 1))) 1 (i + 1)))) 2 (i + 1)))) 3 i (((up2 (up2 (up2 w 0 i (w 0 (i + 1))) 1 i (((up2 w 0 i (w 0 (i + 1))) 1 (i + 1)))) 2 i (((up2 (up2 w 0 i (w 0 (i + 1))) 1 i (((up2 w 0 i (w 0 (i + 1))) 1 (i + 1)))) 2 (i + 1)))) 3 (i + 1)))) 4 i (((up2 (up2 (up2 (up2 w 0 i (w 0 (i + 1))) 1 i (((up2 w 0 i (w 0 (i + 1))) 1 (i + 1)))) 2 i (((up2 (up2 w 0 i (w 0 (i + 1))) 1 i (((up2 w 0 i (w 0 (i + 1))) 1 (i + 1)))) 2 (i + 1)))) 3 i (((up2 (up2 (up2 w 0 i (w 0 (i + 1))) 1 i (((up2 w 0 i (w 0 (i + 1))) 1 (i + 1)))) 2 i (((up2 (up2 w 0 i (w 0 (i + 1))) 1 i (((up2 w 0 i (w 0 (i + 1))) 1 (i + 1)))) 2 (i + 1)))) 3 (i + 1)))) 4 (i + 1)))) 5 i (((up2 (up2 (up2 (up2 (up2 w 0 i (w 0 (i + 1))) 1 i (((up2 w 0 i (w 0 (i + 1))) 1 (i + 1)))) 2 i (((up2 (up2 w 0 i (w 0 (i + 1))) 1 i (((up2 w 0 i (w 0 (i + 1))) 1 (i + 1)))) 2 (i + 1)))) 3 i (((up2 (up2 (up2 w 0 i (w 0 (i + 1))) 1 i (((up2 w 0 i (w 0 (i + 1))) 1 (i + 1)))) 2 i (((up2 (up2 w 0 i (w 0 (i + 1))) 1 i (((up2 w 0 i (w 0 (i + 1))) 1 (i + 1)))) 2 (i + 1)))) 3 (i + 1)))) 4 i (((up2 (up2 (up2 (up2 w 0 i (w 0 (i + 1))) 1 i (((up2 w 0 i (w 0 (i + 1))) 1 (i + 1)))) 2 i (((up2 (up2 w 0 i (w 0 (i + 1))) 1 i (((up2 w 0 i (w 0 (i + 1))) 1 (i + 1)))) 2 (i + 1)))) 3 i (((up2 (up2 (up2 w 0 i (w 0 (i + 1))) 1 i (((up2 w 0 i (w 0 (i + 1))) 1 (i + 1)))) 2 i (((up2 (up2 w 0 i (w 0 (i + 1))) 1 i (((up2 w 0 i (w 0 (i + 1))) 1 (i + 1)))) 2 (i + 1)))) 3 (i + 1)))) 4 (i + 1)))) 5 (i + 1)))) 6 (i + 1)))))) X rfl rfl rfl (show i < 16 by omega) (by decide) dX1_remove_117 rfl ?_
      refine zz_aload_n X dX1_remove_118 rfl rfl ?_
      refine qq_get (k0 := 14) (v := .ref (a 7)) X imX1 (by decide) (mc flX1_32) rfl dX1_remove_119 ?_
      refine zz_iload_n X dX1_remove_122 rfl rfl ?_
      refine zz_aload_n X dX1_remove_123 rfl rfl ?_
      refine qq_get (k0 := 14) (v := .ref (a 7)) X imX1 (by decide) (mc flX1_32) rfl dX1_remove_124 ?_
      refine zz_iload_n X dX1_remove_127 rfl rfl ?_
      refine zz_iconst (v := 1) X dX1_remove_128 (by decide) ?_
      refine zz_iadd X dX1_remove_129 ?_
      refine zz_top (nI_1 _) ?_
      refine zz_iald (q0 := 8) (t0 := 7) (j := i + 1) X rfl rfl rfl (show i + 1 < 16 by omega) (by decide) dX1_remove_130 ?_
      refine zz_iast (q0 := 8) (t0 := 7) (j := i) (ws' := wM h a ca ((up2 (up2 (up2 (up2 (up2 (up2 (up2 (up2 w 0 i (w 0 (i + 1))) 1 i (((up2 w 0 i (w 0 (i + 1))) 1 (i + 1)))) 2 i (((up2 (up2 w 0 i (w 0 (i + 1))) 1 i (((up2 w 0 i (w 0 (i + 1))) 1 (i + 1)))) 2 (i + 1)))) 3 i (((up2 (up2 (up2 w 0 i (w 0 (i + 1))) 1 i (((up2 w 0 i (w 0 (i + 1))) 1 (i + 1)))) 2 i (((up2 (up2 w 0 i (w 0 (i + 1))) 1 i (((up2 w 0 i (w 0 (i + 1))) 1 (i + 1)))) 2 (i + 1)))) 3 (i + 1)))) 4 i (((up2 (up2 (up2 (up2 w 0 i (w 0 (i + 1))) 1 i (((up2 w 0 i (w 0 (i + 1))) 1 (i + 1)))) 2 i (((up2 (up2 w 0 i (w 0 (i + 1))) 1 i (((up2 w 0 i (w 0 (i + 1))) 1 (i + 1)))) 2 (i + 1)))) 3 i (((up2 (up2 (up2 w 0 i (w 0 (i + 1))) 1 i (((up2 w 0 i (w 0 (i + 1))) 1 (i + 1)))) 2 i (((up2 (up2 w 0 i (w 0 (i + 1))) 1 i (((up2 w 0 i (w 0 (i + 1))) 1 (i + 1)))) 2 (i + 1)))) 3 (i + 1)))) 4 (i + 1)))) 5 i (((up2 (up2 (up2 (up2 (up2 w 0 i (w 0 (i + 1))) 1 i (((up2 w 0 i (w 0 (i + 1))) 1 (i + 1)))) 2 i (((up2 (up2 w 0 i (w 0 (i + 1))) 1 i (((up2 w 0 i (w 0 (i + 1))) 1 (i + 1)))) 2 (i + 1)))) 3 i (((up2 (up2 (up2 w 0 i (w 0 (i + 1))) 1 i (((up2 w 0 i (w 0 (i + 1))) 1 (i + 1)))) 2 i (((up2 (up2 w 0 i (w 0 (i + 1))) 1 i (((up2 w 0 i (w 0 (i + 1))) 1 (i + 1)))) 2 (i + 1)))) 3 (i + 1)))) 4 i (((up2 (up2 (up2 (up2 w 0 i (w 0 (i + 1))) 1 i (((up2 w 0 i (w 0 (i + 1))) 1 (i + 1)))) 2 i (((up2 (up2 w 0 i (w 0 (i + 1))) 1 i (((up2 w 0 i (w 0 (i + 1))) 1 (i + 1)))) 2 (i + 1)))) 3 i (((up2 (up2 (up2 w 0 i (w 0 (i + 1))) 1 i (((up2 w 0 i (w 0 (i + 1))) 1 (i + 1)))) 2 i (((up2 (up2 w 0 i (w 0 (i + 1))) 1 i (((up2 w 0 i (w 0 (i + 1))) 1 (i + 1)))) 2 (i + 1)))) 3 (i + 1)))) 4 (i + 1)))) 5 (i + 1)))) 6 i (((up2 (up2 (up2 (up2 (up2 (up2 w 0 i (w 0 (i + 1))) 1 i (((up2 w 0 i (w 0 (i + 1))) 1 (i + 1)))) 2 i (((up2 (up2 w 0 i (w 0 (i + 1))) 1 i (((up2 w 0 i (w 0 (i + 1))) 1 (i + 1)))) 2 (i + 1)))) 3 i (((up2 (up2 (up2 w 0 i (w 0 (i + 1))) 1 i (((up2 w 0 i (w 0 (i + 1))) 1 (i + 1)))) 2 i (((up2 (up2 w 0 i (w 0 (i + 1))) 1 i (((up2 w 0 i (w 0 (i + 1))) 1 (i + 1)))) 2 (i + 1)))) 3 (i + 1)))) 4 i (((up2 (up2 (up2 (up2 w 0 i (w 0 (i + 1))) 1 i (((up2 w 0 i (w 0 (i + 1))) 1 (i + 1)))) 2 i (((up2 (up2 w 0 i (w 0 (i + 1))) 1 i (((up2 w 0 i (w 0 (i + 1))) 1 (i + 1)))) 2 (i + 1)))) 3 i (((up2 (up2 (up2 w 0 i (w 0 (i + 1))) 1 i (((up2 w 0 i (w 0 (i + 1))) 1 (i + 1)))) 2 i (((up2 (up2 w 0 i (w 0 (i + 1))) 1 i (((up2 w 0 i (w 0 (i + 1))) 1 (i + 1)))) 2 (i + 1)))) 3 (i + 1)))) 4 (i + 1)))) 5 i (((up2 (up2 (up2 (up2 (up2 w 0 i (w 0 (i + 1))) 1 i (((up2 w 0 i (w 0 (i + 1))) 1 (i + 1)))) 2 i (((up2 (up2 w 0 i (w 0 (i + 1))) 1 i (((up2 w 0 i (w 0 (i + 1))) 1 (i + 1)))) 2 (i + 1)))) 3 i (((up2 (up2 (up2 w 0 i (w 0 (i + 1))) 1 i (((up2 w 0 i (w 0 (i + 1))) 1 (i + 1)))) 2 i (((up2 (up2 w 0 i (w 0 (i + 1))) 1 i (((up2 w 0 i (w 0 (i + 1))) 1 (i + 1)))) 2 (i + 1)))) 3 (i + 1)))) 4 i (((up2 (up2 (up2 (up2 w 0 i (w 0 (i + 1))) 1 i (((up2 w 0 i (w 0 (i + 1))) 1 (i + 1)))) 2 i (((up2 (up2 w 0 i (w 0 (i + 1))) 1 i (((up2 w 0 i (w 0 (i + 1))) 1 (i + 1)))) 2 (i + 1)))) 3 i (((up2 (up2 (up2 w 0 i (w 0 (i + 1))) 1 i (((up2 w 0 i (w 0 (i + 1))) 1 (i + 1)))) 2 i (((up2 (up2 w 0 i (w 0 (i + 1))) 1 i (((up2 w 0 i (w 0 (i + 1))) 1 (i + 1)))) 2 (i + 1)))) 3 (i + 1)))) 4 (i + 1)))) 5 (i + 1)))) 6 (i + 1)))) 7 i (((up2 (up2 (up2 (up2 (up2 (up2 (up2 w 0 i (w 0 (i + 1))) 1 i (((up2 w 0 i (w 0 (i + 1))) 1 (i + 1)))) 2 i (((up2 (up2 w 0 i (w 0 (i + 1))) 1 i (((up2 w 0 i (w 0 (i + 1))) 1 (i + 1)))) 2 (i + 1)))) 3 i (((up2 (up2 (up2 w 0 i (w 0 (i + 1))) 1 i (((up2 w 0 i (w 0 (i + 1))) 1 (i + 1)))) 2 i (((up2 (up2 w 0 i (w 0 (i + 1))) 1 i (((up2 w 0 i (w 0 (i + 1))) 1 (i + 1)))) 2 (i + 1)))) 3 (i + 1)))) 4 i (((up2 (up2 (up2 (up2 w 0 i (w 0 (i + 1))) 1 i (((up2 w 0 i (w 0 (i + 1))) 1 (i + 1)))) 2 i (((up2 (up2 w 0 i (w 0 (i + 1))) 1 i (((up2 w 0 i (w 0 (i + 1))) 1 (i + 1)))) 2 (i + 1)))) 3 i (((up2 (up2 (up2 w 0 i (w 0 (i + 1))) 1 i (((up2 w 0 i (w 0 (i + 1))) 1 (i + 1)))) 2 i (((up2 (up2 w 0 i (w 0 (i + 1))) 1 i (((up2 w 0 i (w 0 (i + 1))) 1 (i + 1)))) 2 (i + 1)))) 3 (i + 1)))) 4 (i + 1)))) 5 i (((up2 (up2 (up2 (up2 (up2 w 0 i (w 0 (i + 1))) 1 i (((up2 w 0 i (w 0 (i + 1))) 1 (i + 1)))) 2 i (((up2 (up2 w 0 i (w 0 (i + 1))) 1 i (((up2 w 0 i (w 0 (i + 1))) 1 (i + 1)))) 2 (i + 1)))) 3 i (((up2 (up2 (up2 w 0 i (w 0 (i + 1))) 1 i (((up2 w 0 i (w 0 (i + 1))) 1 (i + 1)))) 2 i (((up2 (up2 w 0 i (w 0 (i + 1))) 1 i (((up2 w 0 i (w 0 (i + 1))) 1 (i + 1)))) 2 (i + 1)))) 3 (i + 1)))) 4 i (((up2 (up2 (up2 (up2 w 0 i (w 0 (i + 1))) 1 i (((up2 w 0 i (w 0 (i + 1))) 1 (i + 1)))) 2 i (((up2 (up2 w 0 i (w 0 (i + 1))) 1 i (((up2 w 0 i (w 0 (i + 1))) 1 (i + 1)))) 2 (i + 1)))) 3 i (((up2 (up2 (up2 w 0 i (w 0 (i + 1))) 1 i (((up2 w 0 i (w 0 (i + 1))) 1 (i + 1)))) 2 i (((up2 (up2 w 0 i (w 0 (i + 1))) 1 i (((up2 w 0 i (w 0 (i + 1))) 1 (i + 1)))) 2 (i + 1)))) 3 (i + 1)))) 4 (i + 1)))) 5 (i + 1)))) 6 i (((up2 (up2 (up2 (up2 (up2 (up2 w 0 i (w 0 (i + 1))) 1 i (((up2 w 0 i (w 0 (i + 1))) 1 (i + 1)))) 2 i (((up2 (up2 w 0 i (w 0 (i + 1))) 1 i (((up2 w 0 i (w 0 (i + 1))) 1 (i + 1)))) 2 (i + 1)))) 3 i (((up2 (up2 (up2 w 0 i (w 0 (i + 1))) 1 i (((up2 w 0 i (w 0 (i + 1))) 1 (i + 1)))) 2 i (((up2 (up2 w 0 i (w 0 (i + 1))) 1 i (((up2 w 0 i (w 0 (i + 1))) 1 (i + 1)))) 2 (i + 1)))) 3 (i + 1)))) 4 i (((up2 (up2 (up2 (up2 w 0 i (w 0 (i + 1))) 1 i (((up2 w 0 i (w 0 (i + 1))) 1 (i + 1)))) 2 i (((up2 (up2 w 0 i (w 0 (i + 1))) 1 i (((up2 w 0 i (w 0 (i + 1))) 1 (i + 1)))) 2 (i + 1)))) 3 i (((up2 (up2 (up2 w 0 i (w 0 (i + 1))) 1 i (((up2 w 0 i (w 0 (i + 1))) 1 (i + 1)))) 2 i (((up2 (up2 w 0 i (w 0 (i + 1))) 1 i (((up2 w 0 i (w 0 (i + 1))) 1 (i + 1)))) 2 (i + 1)))) 3 (i + 1)))) 4 (i + 1)))) 5 i (((up2 (up2 (up2 (up2 (up2 w 0 i (w 0 (i + 1))) 1 i (((up2 w 0 i (w 0 (i + 1))) 1 (i + 1)))) 2 i (((up2 (up2 w 0 i (w 0 (i + 1))) 1 i (((up2 w 0 i (w 0 (i + 1))) 1 (i + 1)))) 2 (i + 1)))) 3 i (((up2 (up2 (up2 w 0 i (w 0 (i + 1))) 1 i (((up2 w 0 i (w 0 (i + 1))) 1 (i + 1)))) 2 i (((up2 (up2 w 0 i (w 0 (i + 1))) 1 i (((up2 w 0 i (w 0 (i + 1))) 1 (i + 1)))) 2 (i + 1)))) 3 (i + 1)))) 4 i (((up2 (up2 (up2 (up2 w 0 i (w 0 (i + 1))) 1 i (((up2 w 0 i (w 0 (i + 1))) 1 (i + 1)))) 2 i (((up2 (up2 w 0 i (w 0 (i + 1))) 1 i (((up2 w 0 i (w 0 (i + 1))) 1 (i + 1)))) 2 (i + 1)))) 3 i (((up2 (up2 (up2 w 0 i (w 0 (i + 1))) 1 i (((up2 w 0 i (w 0 (i + 1))) 1 (i + 1)))) 2 i (((up2 (up2 w 0 i (w 0 (i + 1))) 1 i (((up2 w 0 i (w 0 (i + 1))) 1 (i + 1)))) 2 (i + 1)))) 3 (i + 1)))) 4 (i + 1)))) 5 (i + 1)))) 6 (i + 1)))) 7 (i + 1)))))) X rfl rfl rfl (show i < 16 by omega) (by decide) dX1_remove_131 rfl ?_
      refine zz_aload_n X dX1_remove_132 rfl rfl ?_
      refine qq_get (k0 := 15) (v := .ref (a 8)) X imX1 (by decide) (mc flX1_35) rfl dX1_remove_133 ?_
      refine zz_iload_n X dX1_remove_136 rfl rfl ?_
      refine zz_aload_n X dX1_remove_137 rfl rfl ?_
      refine qq_get (k0 := 15) (v := .ref (a 8)) X imX1 (by decide) (mc flX1_35) rfl dX1_remove_138 ?_
      refine zz_iload_n X dX1_remove_141 rfl rfl ?_
      refine zz_iconst (v := 1) X dX1_remove_142 (by decide) ?_
      refine zz_iadd X dX1_remove_143 ?_
      refine zz_top (nI_1 _) ?_
      refine zz_iald (q0 := 9) (t0 := 8) (j := i + 1) X rfl rfl rfl (show i + 1 < 16 by omega) (by decide) dX1_remove_144 ?_
      refine zz_iast (q0 := 9) (t0 := 8) (j := i) (ws' := wM h a ca ((up2 (up2 (up2 (up2 (up2 (up2 (up2 (up2 (up2 w 0 i (w 0 (i + 1))) 1 i (((up2 w 0 i (w 0 (i + 1))) 1 (i + 1)))) 2 i (((up2 (up2 w 0 i (w 0 (i + 1))) 1 i (((up2 w 0 i (w 0 (i + 1))) 1 (i + 1)))) 2 (i + 1)))) 3 i (((up2 (up2 (up2 w 0 i (w 0 (i + 1))) 1 i (((up2 w 0 i (w 0 (i + 1))) 1 (i + 1)))) 2 i (((up2 (up2 w 0 i (w 0 (i + 1))) 1 i (((up2 w 0 i (w 0 (i + 1))) 1 (i + 1)))) 2 (i + 1)))) 3 (i + 1)))) 4 i (((up2 (up2 (up2 (up2 w 0 i (w 0 (i + 1))) 1 i (((up2 w 0 i (w 0 (i + 1))) 1 (i + 1)))) 2 i (((up2 (up2 w 0 i (w 0 (i + 1))) 1 i (((up2 w 0 i (w 0 (i + 1))) 1 (i + 1)))) 2 (i + 1)))) 3 i (((up2 (up2 (up2 w 0 i (w 0 (i + 1))) 1 i (((up2 w 0 i (w 0 (i + 1))) 1 (i + 1)))) 2 i (((up2 (up2 w 0 i (w 0 (i + 1))) 1 i (((up2 w 0 i (w 0 (i + 1))) 1 (i + 1)))) 2 (i + 1)))) 3 (i + 1)))) 4 (i + 1)))) 5 i (((up2 (up2 (up2 (up2 (up2 w 0 i (w 0 (i + 1))) 1 i (((up2 w 0 i (w 0 (i + 1))) 1 (i + 1)))) 2 i (((up2 (up2 w 0 i (w 0 (i + 1))) 1 i (((up2 w 0 i (w 0 (i + 1))) 1 (i + 1)))) 2 (i + 1)))) 3 i (((up2 (up2 (up2 w 0 i (w 0 (i + 1))) 1 i (((up2 w 0 i (w 0 (i + 1))) 1 (i + 1)))) 2 i (((up2 (up2 w 0 i (w 0 (i + 1))) 1 i (((up2 w 0 i (w 0 (i + 1))) 1 (i + 1)))) 2 (i + 1)))) 3 (i + 1)))) 4 i (((up2 (up2 (up2 (up2 w 0 i (w 0 (i + 1))) 1 i (((up2 w 0 i (w 0 (i + 1))) 1 (i + 1)))) 2 i (((up2 (up2 w 0 i (w 0 (i + 1))) 1 i (((up2 w 0 i (w 0 (i + 1))) 1 (i + 1)))) 2 (i + 1)))) 3 i (((up2 (up2 (up2 w 0 i (w 0 (i + 1))) 1 i (((up2 w 0 i (w 0 (i + 1))) 1 (i + 1)))) 2 i (((up2 (up2 w 0 i (w 0 (i + 1))) 1 i (((up2 w 0 i (w 0 (i + 1))) 1 (i + 1)))) 2 (i + 1)))) 3 (i + 1)))) 4 (i + 1)))) 5 (i + 1)))) 6 i (((up2 (up2 (up2 (up2 (up2 (up2 w 0 i (w 0 (i + 1))) 1 i (((up2 w 0 i (w 0 (i + 1))) 1 (i + 1)))) 2 i (((up2 (up2 w 0 i (w 0 (i + 1))) 1 i (((up2 w 0 i (w 0 (i + 1))) 1 (i + 1)))) 2 (i + 1)))) 3 i (((up2 (up2 (up2 w 0 i (w 0 (i + 1))) 1 i (((up2 w 0 i (w 0 (i + 1))) 1 (i + 1)))) 2 i (((up2 (up2 w 0 i (w 0 (i + 1))) 1 i (((up2 w 0 i (w 0 (i + 1))) 1 (i + 1)))) 2 (i + 1)))) 3 (i + 1)))) 4 i (((up2 (up2 (up2 (up2 w 0 i (w 0 (i + 1))) 1 i (((up2 w 0 i (w 0 (i + 1))) 1 (i + 1)))) 2 i (((up2 (up2 w 0 i (w 0 (i + 1))) 1 i (((up2 w 0 i (w 0 (i + 1))) 1 (i + 1)))) 2 (i + 1)))) 3 i (((up2 (up2 (up2 w 0 i (w 0 (i + 1))) 1 i (((up2 w 0 i (w 0 (i + 1))) 1 (i + 1)))) 2 i (((up2 (up2 w 0 i (w 0 (i + 1))) 1 i (((up2 w 0 i (w 0 (i + 1))) 1 (i + 1)))) 2 (i + 1)))) 3 (i + 1)))) 4 (i + 1)))) 5 i (((up2 (up2 (up2 (up2 (up2 w 0 i (w 0 (i + 1))) 1 i (((up2 w 0 i (w 0 (i + 1))) 1 (i + 1)))) 2 i (((up2 (up2 w 0 i (w 0 (i + 1))) 1 i (((up2 w 0 i (w 0 (i + 1))) 1 (i + 1)))) 2 (i + 1)))) 3 i (((up2 (up2 (up2 w 0 i (w 0 (i + 1))) 1 i (((up2 w 0 i (w 0 (i + 1))) 1 (i + 1)))) 2 i (((up2 (up2 w 0 i (w 0 (i + 1))) 1 i (((up2 w 0 i (w 0 (i + 1))) 1 (i + 1)))) 2 (i + 1)))) 3 (i + 1)))) 4 i (((up2 (up2 (up2 (up2 w 0 i (w 0 (i + 1))) 1 i (((up2 w 0 i (w 0 (i + 1))) 1 (i + 1)))) 2 i (((up2 (up2 w 0 i (w 0 (i + 1))) 1 i (((up2 w 0 i (w 0 (i + 1))) 1 (i + 1)))) 2 (i + 1)))) 3 i (((up2 (up2 (up2 w 0 i (w 0 (i + 1))) 1 i (((up2 w 0 i (w 0 (i + 1))) 1 (i + 1)))) 2 i (((up2 (up2 w 0 i (w 0 (i + 1))) 1 i (((up2 w 0 i (w 0 (i + 1))) 1 (i + 1)))) 2 (i + 1)))) 3 (i + 1)))) 4 (i + 1)))) 5 (i + 1)))) 6 (i + 1)))) 7 i (((up2 (up2 (up2 (up2 (up2 (up2 (up2 w 0 i (w 0 (i + 1))) 1 i (((up2 w 0 i (w 0 (i + 1))) 1 (i + 1)))) 2 i (((up2 (up2 w 0 i (w 0 (i + 1))) 1 i (((up2 w 0 i (w 0 (i + 1))) 1 (i + 1)))) 2 (i + 1)))) 3 i (((up2 (up2 (up2 w 0 i (w 0 (i + 1))) 1 i (((up2 w 0 i (w 0 (i + 1))) 1 (i + 1)))) 2 i (((up2 (up2 w 0 i (w 0 (i + 1))) 1 i (((up2 w 0 i (w 0 (i + 1))) 1 (i + 1)))) 2 (i + 1)))) 3 (i + 1)))) 4 i (((up2 (up2 (up2 (up2 w 0 i (w 0 (i + 1))) 1 i (((up2 w 0 i (w 0 (i + 1))) 1 (i + 1)))) 2 i (((up2 (up2 w 0 i (w 0 (i + 1))) 1 i (((up2 w 0 i (w 0 (i + 1))) 1 (i + 1)))) 2 (i + 1)))) 3 i (((up2 (up2 (up2 w 0 i (w 0 (i + 1))) 1 i (((up2 w 0 i (w 0 (i + 1))) 1 (i + 1)))) 2 i (((up2 (up2 w 0 i (w 0 (i + 1))) 1 i (((up2 w 0 i (w 0 (i + 1))) 1 (i + 1)))) 2 (i + 1)))) 3 (i + 1)))) 4 (i + 1)))) 5 i (((up2 (up2 (up2 (up2 (up2 w 0 i (w 0 (i + 1))) 1 i (((up2 w 0 i (w 0 (i + 1))) 1 (i + 1)))) 2 i (((up2 (up2 w 0 i (w 0 (i + 1))) 1 i (((up2 w 0 i (w 0 (i + 1))) 1 (i + 1)))) 2 (i + 1)))) 3 i (((up2 (up2 (up2 w 0 i (w 0 (i + 1))) 1 i (((up2 w 0 i (w 0 (i + 1))) 1 (i + 1)))) 2 i (((up2 (up2 w 0 i (w 0 (i + 1))) 1 i (((up2 w 0 i (w 0 (i + 1))) 1 (i + 1)))) 2 (i + 1)))) 3 (i + 1)))) 4 i (((up2 (up2 (up2 (up2 w 0 i (w 0 (i + 1))) 1 i (((up2 w 0 i (w 0 (i + 1))) 1 (i + 1)))) 2 i (((up2 (up2 w 0 i (w 0 (i + 1))) 1 i (((up2 w 0 i (w 0 (i + 1))) 1 (i + 1)))) 2 (i + 1)))) 3 i (((up2 (up2 (up2 w 0 i (w 0 (i + 1))) 1 i (((up2 w 0 i (w 0 (i + 1))) 1 (i + 1)))) 2 i (((up2 (up2 w 0 i (w 0 (i + 1))) 1 i (((up2 w 0 i (w 0 (i + 1))) 1 (i + 1)))) 2 (i + 1)))) 3 (i + 1)))) 4 (i + 1)))) 5 (i + 1)))) 6 i (((up2 (up2 (up2 (up2 (up2 (up2 w 0 i (w 0 (i + 1))) 1 i (((up2 w 0 i (w 0 (i + 1))) 1 (i + 1)))) 2 i (((up2 (up2 w 0 i (w 0 (i + 1))) 1 i (((up2 w 0 i (w 0 (i + 1))) 1 (i + 1)))) 2 (i + 1)))) 3 i (((up2 (up2 (up2 w 0 i (w 0 (i + 1))) 1 i (((up2 w 0 i (w 0 (i + 1))) 1 (i + 1)))) 2 i (((up2 (up2 w 0 i (w 0 (i + 1))) 1 i (((up2 w 0 i (w 0 (i + 1))) 1 (i + 1)))) 2 (i + 1)))) 3 (i + 1)))) 4 i (((up2 (up2 (up2 (up2 w 0 i (w 0 (i + 1))) 1 i (((up2 w 0 i (w 0 (i + 1))) 1 (i + 1)))) 2 i (((up2 (up2 w 0 i (w 0 (i + 1))) 1 i (((up2 w 0 i (w 0 (i + 1))) 1 (i + 1)))) 2 (i + 1)))) 3 i (((up2 (up2 (up2 w 0 i (w 0 (i + 1))) 1 i (((up2 w 0 i (w 0 (i + 1))) 1 (i + 1)))) 2 i (((up2 (up2 w 0 i (w 0 (i + 1))) 1 i (((up2 w 0 i (w 0 (i + 1))) 1 (i + 1)))) 2 (i + 1)))) 3 (i + 1)))) 4 (i + 1)))) 5 i (((up2 (up2 (up2 (up2 (up2 w 0 i (w 0 (i + 1))) 1 i (((up2 w 0 i (w 0 (i + 1))) 1 (i + 1)))) 2 i (((up2 (up2 w 0 i (w 0 (i + 1))) 1 i (((up2 w 0 i (w 0 (i + 1))) 1 (i + 1)))) 2 (i + 1)))) 3 i (((up2 (up2 (up2 w 0 i (w 0 (i + 1))) 1 i (((up2 w 0 i (w 0 (i + 1))) 1 (i + 1)))) 2 i (((up2 (up2 w 0 i (w 0 (i + 1))) 1 i (((up2 w 0 i (w 0 (i + 1))) 1 (i + 1)))) 2 (i + 1)))) 3 (i + 1)))) 4 i (((up2 (up2 (up2 (up2 w 0 i (w 0 (i + 1))) 1 i (((up2 w 0 i (w 0 (i + 1))) 1 (i + 1)))) 2 i (((up2 (up2 w 0 i (w 0 (i + 1))) 1 i (((up2 w 0 i (w 0 (i + 1))) 1 (i + 1)))) 2 (i + 1)))) 3 i (((up2 (up2 (up2 w 0 i (w 0 (i + 1))) 1 i (((up2 w 0 i (w 0 (i + 1))) 1 (i + 1)))) 2 i (((up2 (up2 w 0 i (w 0 (i + 1))) 1 i (((up2 w 0 i (w 0 (i + 1))) 1 (i + 1)))) 2 (i + 1)))) 3 (i + 1)))) 4 (i + 1)))) 5 (i + 1)))) 6 (i + 1)))) 7 (i + 1)))) 8 i (((up2 (up2 (up2 (up2 (up2 (up2 (up2 (up2 w 0 i (w 0 (i + 1))) 1 i (((up2 w 0 i (w 0 (i + 1))) 1 (i + 1)))) 2 i (((up2 (up2 w 0 i (w 0 (i + 1))) 1 i (((up2 w 0 i (w 0 (i + 1))) 1 (i + 1)))) 2 (i + 1)))) 3 i (((up2 (up2 (up2 w 0 i (w 0 (i + 1))) 1 i (((up2 w 0 i (w 0 (i + 1))) 1 (i + 1)))) 2 i (((up2 (up2 w 0 i (w 0 (i + 1))) 1 i (((up2 w 0 i (w 0 (i + 1))) 1 (i + 1)))) 2 (i + 1)))) 3 (i + 1)))) 4 i (((up2 (up2 (up2 (up2 w 0 i (w 0 (i + 1))) 1 i (((up2 w 0 i (w 0 (i + 1))) 1 (i + 1)))) 2 i (((up2 (up2 w 0 i (w 0 (i + 1))) 1 i (((up2 w 0 i (w 0 (i + 1))) 1 (i + 1)))) 2 (i + 1)))) 3 i (((up2 (up2 (up2 w 0 i (w 0 (i + 1))) 1 i (((up2 w 0 i (w 0 (i + 1))) 1 (i + 1)))) 2 i (((up2 (up2 w 0 i (w 0 (i + 1))) 1 i (((up2 w 0 i (w 0 (i + 1))) 1 (i + 1)))) 2 (i + 1)))) 3 (i + 1)))) 4 (i + 1)))) 5 i (((up2 (up2 (up2 (up2 (up2 w 0 i (w 0 (i + 1))) 1 i (((up2 w 0 i (w 0 (i + 1))) 1 (i + 1)))) 2 i (((up2 (up2 w 0 i (w 0 (i + 1))) 1 i (((up2 w 0 i (w 0 (i + 1))) 1 (i + 1)))) 2 (i + 1)))) 3 i (((up2 (up2 (up2 w 0 i (w 0 (i + 1))) 1 i (((up2 w 0 i (w 0 (i + 1))) 1 (i + 1)))) 2 i (((up2 (up2 w 0 i (w 0 (i + 1))) 1 i (((up2 w 0 i (w 0 (i + 1))) 1 (i + 1)))) 2 (i + 1)))) 3 (i + 1)))) 4 i (((up2 (up2 (up2 (up2 w 0 i (w 0 (i + 1))) 1 i (((up2 w 0 i (w 0 (i + 1))) 1 (i + 1)))) 2 i (((up2 (up2 w 0 i (w 0 (i + 1))) 1 i (((up2 w 0 i (w 0 (i + 1))) 1 (i + 1)))) 2 (i + 1)))) 3 i (((up2 (up2 (up2 w 0 i (w 0 (i + 1))) 1 i (((up2 w 0 i (w 0 (i + 1))) 1 (i + 1)))) 2 i (((up2 (up2 w 0 i (w 0 (i + 1))) 1 i (((up2 w 0 i (w 0 (i + 1))) 1 (i + 1)))) 2 (i + 1)))) 3 (i + 1)))) 4 (i + 1)))) 5 (i + 1)))) 6 i (((up2 (up2 (up2 (up2 (up2 (up2 w 0 i (w 0 (i + 1))) 1 i (((up2 w 0 i (w 0 (i + 1))) 1 (i + 1)))) 2 i (((up2 (up2 w 0 i (w 0 (i + 1))) 1 i (((up2 w 0 i (w 0 (i + 1))) 1 (i + 1)))) 2 (i + 1)))) 3 i (((up2 (up2 (up2 w 0 i (w 0 (i + 1))) 1 i (((up2 w 0 i (w 0 (i + 1))) 1 (i + 1)))) 2 i (((up2 (up2 w 0 i (w 0 (i + 1))) 1 i (((up2 w 0 i (w 0 (i + 1))) 1 (i + 1)))) 2 (i + 1)))) 3 (i + 1)))) 4 i (((up2 (up2 (up2 (up2 w 0 i (w 0 (i + 1))) 1 i (((up2 w 0 i (w 0 (i + 1))) 1 (i + 1)))) 2 i (((up2 (up2 w 0 i (w 0 (i + 1))) 1 i (((up2 w 0 i (w 0 (i + 1))) 1 (i + 1)))) 2 (i + 1)))) 3 i (((up2 (up2 (up2 w 0 i (w 0 (i + 1))) 1 i (((up2 w 0 i (w 0 (i + 1))) 1 (i + 1)))) 2 i (((up2 (up2 w 0 i (w 0 (i + 1))) 1 i (((up2 w 0 i (w 0 (i + 1))) 1 (i + 1)))) 2 (i + 1)))) 3 (i + 1)))) 4 (i + 1)))) 5 i (((up2 (up2 (up2 (up2 (up2 w 0 i (w 0 (i + 1))) 1 i (((up2 w 0 i (w 0 (i + 1))) 1 (i + 1)))) 2 i (((up2 (up2 w 0 i (w 0 (i + 1))) 1 i (((up2 w 0 i (w 0 (i + 1))) 1 (i + 1)))) 2 (i + 1)))) 3 i (((up2 (up2 (up2 w 0 i (w 0 (i + 1))) 1 i (((up2 w 0 i (w 0 (i + 1))) 1 (i + 1)))) 2 i (((up2 (up2 w 0 i (w 0 (i + 1))) 1 i (((up2 w 0 i (w 0 (i + 1))) 1 (i + 1)))) 2 (i + 1)))) 3 (i + 1)))) 4 i (((up2 (up2 (up2 (up2 w 0 i (w 0 (i + 1))) 1 i (((up2 w 0 i (w 0 (i + 1))) 1 (i + 1)))) 2 i (((up2 (up2 w 0 i (w 0 (i + 1))) 1 i (((up2 w 0 i (w 0 (i + 1))) 1 (i + 1)))) 2 (i + 1)))) 3 i (((up2 (up2 (up2 w 0 i (w 0 (i + 1))) 1 i (((up2 w 0 i (w 0 (i + 1))) 1 (i + 1)))) 2 i (((up2 (up2 w 0 i (w 0 (i + 1))) 1 i (((up2 w 0 i (w 0 (i + 1))) 1 (i + 1)))) 2 (i + 1)))) 3 (i + 1)))) 4 (i + 1)))) 5 (i + 1)))) 6 (i + 1)))) 7 i (((up2 (up2 (up2 (up2 (up2 (up2 (up2 w 0 i (w 0 (i + 1))) 1 i (((up2 w 0 i (w 0 (i + 1))) 1 (i + 1)))) 2 i (((up2 (up2 w 0 i (w 0 (i + 1))) 1 i (((up2 w 0 i (w 0 (i + 1))) 1 (i + 1)))) 2 (i + 1)))) 3 i (((up2 (up2 (up2 w 0 i (w 0 (i + 1))) 1 i (((up2 w 0 i (w 0 (i + 1))) 1 (i + 1)))) 2 i (((up2 (up2 w 0 i (w 0 (i + 1))) 1 i (((up2 w 0 i (w 0 (i + 1))) 1 (i + 1)))) 2 (i + 1)))) 3 (i + 1)))) 4 i (((up2 (up2 (up2 (up2 w 0 i (w 0 (i + 1))) 1 i (((up2 w 0 i (w 0 (i + 1))) 1 (i + 1)))) 2 i (((up2 (up2 w 0 i (w 0 (i + 1))) 1 i (((up2 w 0 i (w 0 (i + 1))) 1 (i + 1)))) 2 (i + 1)))) 3 i (((up2 (up2 (up2 w 0 i (w 0 (i + 1))) 1 i (((up2 w 0 i (w 0 (i + 1))) 1 (i + 1)))) 2 i (((up2 (up2 w 0 i (w 0 (i + 1))) 1 i (((up2 w 0 i (w 0 (i + 1))) 1 (i + 1)))) 2 (i + 1)))) 3 (i + 1)))) 4 (i + 1)))) 5 i (((up2 (up2 (up2 (up2 (up2 w 0 i (w 0 (i + 1))) 1 i (((up2 w 0 i (w 0 (i + 1))) 1 (i + 1)))) 2 i (((up2 (up2 w 0 i (w 0 (i + 1))) 1 i (((up2 w 0 i (w 0 (i + 1))) 1 (i + 1)))) 2 (i + 1)))) 3 i (((up2 (up2 (up2 w 0 i (w 0 (i + 1))) 1 i (((up2 w 0 i (w 0 (i + 1))) 1 (i + 1)))) 2 i (((up2 (up2 w 0 i (w 0 (i + 1))) 1 i (((up2 w 0 i (w 0 (i + 1))) 1 (i + 1)))) 2 (i + 1)))) 3 (i + 1)))) 4 i (((up2 (up2 (up2 (up2 w 0 i (w 0 (i + 1))) 1 i (((up2 w 0 i (w 0 (i + 1))) 1 (i + 1)))) 2 i (((up2 (up2 w 0 i (w 0 (i + 1))) 1 i (((up2 w 0 i (w 0 (i + 1))) 1 (i + 1)))) 2 (i + 1)))) 3 i (((up2 (up2 (up2 w 0 i (w 0 (i + 1))) 1 i (((up2 w 0 i (w 0 (i + 1))) 1 (i + 1)))) 2 i (((up2 (up2 w 0 i (w 0 (i + 1))) 1 i (((up2 w 0 i (w 0 (i + 1))) 1 (i + 1)))) 2 (i + 1)))) 3 (i + 1)))) 4 (i + 1)))) 5 (i + 1)))) 6 i (((up2 (up2 (up2 (up2 (up2 (up2 w 0 i (w 0 (i + 1))) 1 i (((up2 w 0 i (w 0 (i + 1))) 1 (i + 1)))) 2 i (((up2 (up2 w 0 i (w 0 (i + 1))) 1 i (((up2 w 0 i (w 0 (i + 1))) 1 (i + 1)))) 2 (i + 1)))) 3 i (((up2 (up2 (up2 w 0 i (w 0 (i + 1))) 1 i (((up2 w 0 i (w 0 (i + 1))) 1 (i + 1)))) 2 i (((up2 (up2 w 0 i (w 0 (i + 1))) 1 i (((up2 w 0 i (w 0 (i + 1))) 1 (i + 1)))) 2 (i + 1)))) 3 (i + 1)))) 4 i (((up2 (up2 (up2 (up2 w 0 i (w 0 (i + 1))) 1 i (((up2 w 0 i (w 0 (i + 1))) 1 (i + 1)))) 2 i (((up2 (up2 w 0 i (w 0 (i + 1))) 1 i (((up2 w 0 i (w 0 (i + 1))) 1 (i + 1)))) 2 (i + 1)))) 3 i (((up2 (up2 (up2 w 0 i (w 0 (i + 1))) 1 i (((up2 w 0 i (w 0 (i + 1))) 1 (i + 1)))) 2 i (((up2 (up2 w 0 i (w 0 (i + 1))) 1 i (((up2 w 0 i (w 0 (i + 1))) 1 (i + 1)))) 2 (i + 1)))) 3 (i + 1)))) 4 (i + 1)))) 5 i (((up2 (up2 (up2 (up2 (up2 w 0 i (w 0 (i + 1))) 1 i (((up2 w 0 i (w 0 (i + 1))) 1 (i + 1)))) 2 i (((up2 (up2 w 0 i (w 0 (i + 1))) 1 i (((up2 w 0 i (w 0 (i + 1))) 1 (i + 1)))) 2 (i + 1)))) 3 i (((up2 (up2 (up2 w 0 i (w 0 (i + 1))) 1 i (((up2 w 0 i (w 0 (i + 1))) 1 (i + 1)))) 2 i (((up2 (up2 w 0 i (w 0 (i + 1))) 1 i (((up2 w 0 i (w 0 (i + 1))) 1 (i + 1)))) 2 (i + 1)))) 3 (i + 1)))) 4 i (((up2 (up2 (up2 (up2 w 0 i (w 0 (i + 1))) 1 i (((up2 w 0 i (w 0 (i + 1))) 1 (i + 1)))) 2 i (((up2 (up2 w 0 i (w 0 (i + 1))) 1 i (((up2 w 0 i (w 0 (i + 1))) 1 (i + 1)))) 2 (i + 1)))) 3 i (((up2 (up2 (up2 w 0 i (w 0 (i + 1))) 1 i (((up2 w 0 i (w 0 (i + 1))) 1 (i + 1)))) 2 i (((up2 (up2 w 0 i (w 0 (i + 1))) 1 i (((up2 w 0 i (w 0 (i + 1))) 1 (i + 1)))) 2 (i + 1)))) 3 (i + 1)))) 4 (i + 1)))) 5 (i + 1)))) 6 (i + 1)))) 7 (i + 1)))) 8 (i + 1)))))) X rfl rfl rfl (show i < 16 by omega) (by decide) dX1_remove_145 rfl ?_
      refine zz_iinc (v := (nI (i + 1))) (lv' := [some (.ref h), some (.int (nI r)), some (.int (nI (i + 1)))]) X dX1_remove_146 rfl (nI_1 _) (by decide) rfl ?_
      refine zz_goto (tgt := 12) X dX1_remove_149 (by decide) ?_
      exact ih (i + 1) (mShf i w) (by omega) hw (mB_shf (by omega) hb) hz
  exact loop (m - r) r _ (by omega) rfl hb rfl
set_option maxHeartbeats 4000000 in
set_option maxRecDepth 100000 in
theorem m_waitsFor {l : Launch} {D : va_G} {h : Nat} {a : Nat → Nat} {ca : Nat → ClassId} (v : St) (r : Nat) (hr : r < 16) (x y : Int32) : cM l D h a ca yX1_waitsFor wsX1_waitsFor { frames := 0, cells := 0, slots := 0, locals := 0 } [.int (nI r), .int x, .int y] v (some (.int ((mWts v r x y) 1 r))) (mWts v r x y) := by
  refine zz_C.of (bytes := cX1_waitsFor) (maxL := 4) (ret := (some .int)) (lv0 := [some (.ref h), some (.int (nI r)), some (.int x), some (.int y)]) (by decide) rfl (Nat.le_of_ble_eq_true rfl) rfl rfl ?_
  intro p e s m' below meth c A Q X Ei Ev
  refine zz_aload_n X dX1_waitsFor_0 rfl rfl ?_
  refine qq_get (k0 := 13) (v := .ref (a 6)) X imX1 (by decide) (mc flX1_29) rfl dX1_waitsFor_1 ?_
  refine zz_iload_n X dX1_waitsFor_4 rfl rfl ?_
  refine zz_iconst (v := -1) X dX1_waitsFor_5 (by decide) ?_
  refine zz_iast (q0 := 7) (t0 := 6) (j := r) (ws' := wM h a ca (up2 v 6 r (-1))) X rfl rfl rfl hr (by decide) dX1_waitsFor_6 rfl ?_
  refine zz_aload_n X dX1_waitsFor_7 rfl rfl ?_
  refine qq_get (k0 := 14) (v := .ref (a 7)) X imX1 (by decide) (mc flX1_32) rfl dX1_waitsFor_8 ?_
  refine zz_iload_n X dX1_waitsFor_11 rfl rfl ?_
  refine zz_iload_n X dX1_waitsFor_12 rfl rfl ?_
  refine zz_iast (q0 := 8) (t0 := 7) (j := r) (ws' := wM h a ca (up2 (up2 v 6 r (-1)) 7 r x)) X rfl rfl rfl hr (by decide) dX1_waitsFor_13 rfl ?_
  refine zz_aload_n X dX1_waitsFor_14 rfl rfl ?_
  refine qq_get (k0 := 15) (v := .ref (a 8)) X imX1 (by decide) (mc flX1_35) rfl dX1_waitsFor_15 ?_
  refine zz_iload_n X dX1_waitsFor_18 rfl rfl ?_
  refine zz_iload_n X dX1_waitsFor_19 rfl rfl ?_
  refine zz_iast (q0 := 9) (t0 := 8) (j := r) (ws' := wM h a ca (up2 (up2 (up2 v 6 r (-1)) 7 r x) 8 r y)) X rfl rfl rfl hr (by decide) dX1_waitsFor_20 rfl ?_
  refine zz_aload_n X dX1_waitsFor_21 rfl rfl ?_
  refine qq_get (k0 := 8) (v := .ref (a 1)) X imX1 (by decide) (mc flX1_13) rfl dX1_waitsFor_22 ?_
  refine zz_iload_n X dX1_waitsFor_25 rfl rfl ?_
  refine zz_iald (q0 := 2) (t0 := 1) (j := r) X rfl rfl rfl hr (by decide) dX1_waitsFor_26 ?_
  exact Ei _ _ _ _ _ rfl rfl dX1_waitsFor_27 rfl rfl
