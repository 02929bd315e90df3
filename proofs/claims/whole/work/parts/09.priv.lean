set_option maxHeartbeats 4000000 in
set_option maxRecDepth 100000 in
theorem c_isEmptyRing {l : Launch} {D : va_G} {h : Nat} {a : Nat → Nat} {ca : Nat → ClassId} {N : Nat} (hN : N < 2 ^ 31) (u : St) : cP l D h a ca N yX0_isEmptyRing wsX0_isEmptyRing { frames := 0, cells := 0, slots := 0, locals := 0 } [] u (some (.int (rIsE u))) u := by
  refine zz_C.of (bytes := cX0_isEmptyRing) (maxL := 1) (ret := (some .boolean)) (lv0 := [some (.ref h)]) (by decide) rfl (Nat.le_of_ble_eq_true rfl) rfl rfl ?_
  intro p e s m below meth c A Q X Ei Ev
  refine zz_aload_n X dX0_isEmptyRing_0 rfl rfl ?_
  refine pp_get (k0 := 1) (v := .ref (a 1)) X imX0 (by decide) (mc flX0_22) rfl dX0_isEmptyRing_1 ?_
  refine zz_iconst (v := 0) X dX0_isEmptyRing_4 (by decide) ?_
  refine zz_iald (q0 := 2) (t0 := 1) (j := 0) X rfl rfl (by decide) (by decide) (by decide) dX0_isEmptyRing_5 ?_
  refine zz_if_ne (tgt := 13) X dX0_isEmptyRing_6 (by decide) (fun h1 => ?_) (fun h1 => ?_)
  · refine zz_iconst (v := 0) X dX0_isEmptyRing_13 (by decide) ?_
    exact Ei _ _ _ _ _ rfl rfl dX0_isEmptyRing_14 (by simp [rIsE, h1]) rfl
  · refine zz_iconst (v := 1) X dX0_isEmptyRing_9 (by decide) ?_
    refine zz_goto (tgt := 14) X dX0_isEmptyRing_10 (by decide) ?_
    exact Ei _ _ _ _ _ rfl rfl dX0_isEmptyRing_14 (by simp [rIsE, h1]) rfl
set_option maxHeartbeats 4000000 in
set_option maxRecDepth 100000 in
theorem c_isProcessor {l : Launch} {D : va_G} {h : Nat} {a : Nat → Nat} {ca : Nat → ClassId} {N : Nat} (hN : N < 2 ^ 31) (u : St) (x : Int32) : cP l D h a ca N yX0_isProcessor wsX0_isProcessor { frames := 0, cells := 0, slots := 0, locals := 0 } [.int x] u (some (.int (rIsP N x))) u := by
  refine zz_C.of (bytes := cX0_isProcessor) (maxL := 2) (ret := (some .boolean)) (lv0 := [some (.ref h), some (.int x)]) (by decide) rfl (Nat.le_of_ble_eq_true rfl) rfl rfl ?_
  intro p e s m below meth c A Q X Ei Ev
  refine zz_iload_n X dX0_isProcessor_0 rfl rfl ?_
  refine zz_if_lt (tgt := 17) X dX0_isProcessor_1 (by decide) (fun h1 => ?_) (fun h1 => ?_)
  · refine zz_iconst (v := 0) X dX0_isProcessor_17 (by decide) ?_
    exact Ei _ _ _ _ _ rfl rfl dX0_isProcessor_18 (by simp [rIsP, h1]) rfl
  · refine zz_iload_n X dX0_isProcessor_4 rfl rfl ?_
    refine zz_aload_n X dX0_isProcessor_5 rfl rfl ?_
    refine pp_get (k0 := 8) (v := .ref (a 8)) X imX0 (by decide) (mc flX0_44) rfl dX0_isProcessor_6 ?_
    refine zz_alen (q0 := 9) (t0 := 8) X rfl rfl dX0_isProcessor_9 ?_
    refine zz_icmp_ge (tgt := 17) X dX0_isProcessor_10 (by decide) (fun h2 => ?_) (fun h2 => ?_)
    · refine zz_iconst (v := 0) X dX0_isProcessor_17 (by decide) ?_
      exact Ei _ _ _ _ _ rfl rfl dX0_isProcessor_18 (by simp [rIsP, h1, h2]) rfl
    · refine zz_iconst (v := 1) X dX0_isProcessor_13 (by decide) ?_
      refine zz_goto (tgt := 18) X dX0_isProcessor_14 (by decide) ?_
      exact Ei _ _ _ _ _ rfl rfl dX0_isProcessor_18 (by simp [rIsP, h1, h2]) rfl
set_option maxHeartbeats 4000000 in
set_option maxRecDepth 100000 in
theorem c_isBlockedFor {l : Launch} {D : va_G} {h : Nat} {a : Nat → Nat} {ca : Nat → ClassId} {N : Nat} (hN : N < 2 ^ 31) (u : St) (i : Nat) (hi : i < 15) (r : Int32) : cP l D h a ca N yX0_isBlockedFor wsX0_isBlockedFor { frames := 0, cells := 0, slots := 0, locals := 0 } [.int (nI i), .int r] u (some (.int (rBlk u i r))) u := by
  refine zz_C.of (bytes := cX0_isBlockedFor) (maxL := 3) (ret := (some .boolean)) (lv0 := [some (.ref h), some (.int (nI i)), some (.int r)]) (by decide) rfl (Nat.le_of_ble_eq_true rfl) rfl rfl ?_
  intro p e s m below meth c A Q X Ei Ev
  refine zz_aload_n X dX0_isBlockedFor_0 rfl rfl ?_
  refine pp_get (k0 := 1) (v := .ref (a 1)) X imX0 (by decide) (mc flX0_22) rfl dX0_isBlockedFor_1 ?_
  refine zz_iload_n X dX0_isBlockedFor_4 rfl rfl ?_
  refine zz_iald (q0 := 2) (t0 := 1) (j := i) X rfl rfl rfl hi (by decide) dX0_isBlockedFor_5 ?_
  refine zz_iconst (v := 3) X dX0_isBlockedFor_6 (by decide) ?_
  refine zz_icmp_ne (tgt := 24) X dX0_isBlockedFor_7 (by decide) (fun h1 => ?_) (fun h1 => ?_)
  · refine zz_iconst (v := 0) X dX0_isBlockedFor_24 (by decide) ?_
    exact Ei _ _ _ _ _ rfl rfl dX0_isBlockedFor_25 (by simp [rBlk, h1]) rfl
  · refine zz_aload_n X dX0_isBlockedFor_10 rfl rfl ?_
    refine pp_get (k0 := 5) (v := .ref (a 5)) X imX0 (by decide) (mc flX0_35) rfl dX0_isBlockedFor_11 ?_
    refine zz_iload_n X dX0_isBlockedFor_14 rfl rfl ?_
    refine zz_iald (q0 := 6) (t0 := 5) (j := i) X rfl rfl rfl hi (by decide) dX0_isBlockedFor_15 ?_
    refine zz_iload_n X dX0_isBlockedFor_16 rfl rfl ?_
    refine zz_icmp_ne (tgt := 24) X dX0_isBlockedFor_17 (by decide) (fun h2 => ?_) (fun h2 => ?_)
    · refine zz_iconst (v := 0) X dX0_isBlockedFor_24 (by decide) ?_
      exact Ei _ _ _ _ _ rfl rfl dX0_isBlockedFor_25 (by simp [rBlk, h1, h2]) rfl
    · refine zz_iconst (v := 1) X dX0_isBlockedFor_20 (by decide) ?_
      refine zz_goto (tgt := 25) X dX0_isBlockedFor_21 (by decide) ?_
      exact Ei _ _ _ _ _ rfl rfl dX0_isBlockedFor_25 (by simp [rBlk, h1, h2]) rfl
set_option maxHeartbeats 4000000 in
set_option maxRecDepth 100000 in
theorem c_isChild {l : Launch} {D : va_G} {h : Nat} {a : Nat → Nat} {ca : Nat → ClassId} {N : Nat} (hN : N < 2 ^ 31) (u : St) (i : Nat) (hi : i < 15) (x : Int32) : cP l D h a ca N yX0_isChild wsX0_isChild { frames := 0, cells := 0, slots := 0, locals := 0 } [.int (nI i), .int x] u (some (.int (rChi u i x))) u := by
  refine zz_C.of (bytes := cX0_isChild) (maxL := 3) (ret := (some .boolean)) (lv0 := [some (.ref h), some (.int (nI i)), some (.int x)]) (by decide) rfl (Nat.le_of_ble_eq_true rfl) rfl rfl ?_
  intro p e s m below meth c A Q X Ei Ev
  refine zz_aload_n X dX0_isChild_0 rfl rfl ?_
  refine pp_get (k0 := 1) (v := .ref (a 1)) X imX0 (by decide) (mc flX0_22) rfl dX0_isChild_1 ?_
  refine zz_iload_n X dX0_isChild_4 rfl rfl ?_
  refine zz_iald (q0 := 2) (t0 := 1) (j := i) X rfl rfl rfl hi (by decide) dX0_isChild_5 ?_
  refine zz_if_eq (tgt := 23) X dX0_isChild_6 (by decide) (fun h1 => ?_) (fun h1 => ?_)
  · refine zz_iconst (v := 0) X dX0_isChild_23 (by decide) ?_
    exact Ei _ _ _ _ _ rfl rfl dX0_isChild_24 (by simp [rChi, h1]) rfl
  · refine zz_aload_n X dX0_isChild_9 rfl rfl ?_
    refine pp_get (k0 := 2) (v := .ref (a 2)) X imX0 (by decide) (mc flX0_25) rfl dX0_isChild_10 ?_
    refine zz_iload_n X dX0_isChild_13 rfl rfl ?_
    refine zz_iald (q0 := 3) (t0 := 2) (j := i) X rfl rfl rfl hi (by decide) dX0_isChild_14 ?_
    refine zz_iload_n X dX0_isChild_15 rfl rfl ?_
    refine zz_icmp_ne (tgt := 23) X dX0_isChild_16 (by decide) (fun h2 => ?_) (fun h2 => ?_)
    · refine zz_iconst (v := 0) X dX0_isChild_23 (by decide) ?_
      exact Ei _ _ _ _ _ rfl rfl dX0_isChild_24 (by simp [rChi, h1, h2]) rfl
    · refine zz_iconst (v := 1) X dX0_isChild_19 (by decide) ?_
      refine zz_goto (tgt := 24) X dX0_isChild_20 (by decide) ?_
      exact Ei _ _ _ _ _ rfl rfl dX0_isChild_24 (by simp [rChi, h1, h2]) rfl
set_option maxHeartbeats 4000000 in
set_option maxRecDepth 100000 in
theorem c_placeOn {l : Launch} {D : va_G} {h : Nat} {a : Nat → Nat} {ca : Nat → ClassId} {N : Nat} (hN : N < 2 ^ 31) (u : St) (x : Int32) : cP l D h a ca N yX0_placeOn wsX0_placeOn { frames := 1, cells := 0, slots := 0, locals := 21 } [.int x] u (some (.int (rOn N u x))) u := by
  refine zz_C.of (bytes := cX0_placeOn) (maxL := 2) (ret := (some .int)) (lv0 := [some (.ref h), some (.int x)]) (by decide) rfl (Nat.le_of_ble_eq_true rfl) rfl rfl ?_
  intro p e s m below meth c A Q X Ei Ev
  refine zz_aload_n X dX0_placeOn_0 rfl rfl ?_
  refine zz_iload_n X dX0_placeOn_1 rfl rfl ?_
  refine pp_calli (rest := []) X (c_isProcessor hN u x) (cwV 1 X.1.2.2.2.2 (gw lkX0_68 imX0_isProcessor seX0_isProcessor itX0 cdX0_isProcessor) rfl rfl rfl hdX0_isProcessor ⟨Nat.le_of_ble_eq_true rfl, Nat.le_of_ble_eq_true rfl⟩) rfl rfl (Nat.le_of_ble_eq_true rfl) dX0_placeOn_2 ⟨Nat.zero_le _, Nat.zero_le _⟩ ?_
  refine zz_if_eq (tgt := 17) X dX0_placeOn_5 (by decide) (fun h1 => ?_) (fun h1 => ?_)
  · refine zz_iconst (v := -1) X dX0_placeOn_17 (by decide) ?_
    exact Ei _ _ _ _ _ rfl rfl dX0_placeOn_18 (by simp [rOn, h1]) rfl
  · obtain ⟨j, hj, rfl⟩ := rIsP_ix hN h1
    refine zz_aload_n X dX0_placeOn_8 rfl rfl ?_
    refine pp_get (k0 := 8) (v := .ref (a 8)) X imX0 (by decide) (mc flX0_44) rfl dX0_placeOn_9 ?_
    refine zz_iload_n X dX0_placeOn_12 rfl rfl ?_
    refine zz_iald (q0 := 9) (t0 := 8) (j := j) X rfl rfl rfl hj hN dX0_placeOn_13 ?_
    refine zz_goto (tgt := 18) X dX0_placeOn_14 (by decide) ?_
    exact Ei _ _ _ _ _ rfl rfl dX0_placeOn_18 (by rw [rOn_in hN hj]) rfl
set_option maxHeartbeats 4000000 in
set_option maxRecDepth 100000 in
theorem c_processorOf {l : Launch} {D : va_G} {h : Nat} {a : Nat → Nat} {ca : Nat → ClassId} {N : Nat} (hN : N < 2 ^ 31) (u : St) (x : Int32) : cP l D h a ca N yX0_processorOf wsX0_processorOf { frames := 0, cells := 0, slots := 0, locals := 0 } [.int x] u (some (.int (rPrc N u x))) u := by
  refine zz_C.of (bytes := cX0_processorOf) (maxL := 3) (ret := (some .int)) (lv0 := [some (.ref h), some (.int x), none]) (by decide) rfl (Nat.le_of_ble_eq_true rfl) rfl rfl ?_
  intro p e s m below meth c A Q X Ei Ev
  refine zz_iconst (v := 0) X dX0_processorOf_0 (by decide) ?_
  refine zz_istore_n (lv' := [some (.ref h), some (.int x), some (.int 0)]) X dX0_processorOf_1 rfl (by decide) rfl ?_
  have loop : ∀ (n i : Nat), i + n = N → zs (fun j => decide (u 8 j = x)) N 0 = zs (fun j => decide (u 8 j = x)) n i → zz_V p l e { frames := 0, cells := 0, slots := 0, locals := 0 } s m [.ref h, .int x].toArray below meth c 0 0 Q 3 D vwCl A (wP h a ca N u) [some (.ref h), some (.int x), some (.int (nI i))] 2 [] := by
    intro n
    induction n with
    | zero =>
      intro i hi hz
      refine zz_iload_n X dX0_processorOf_2 rfl rfl ?_
      refine zz_aload_n X dX0_processorOf_3 rfl rfl ?_
      refine pp_get (k0 := 8) (v := .ref (a 8)) X imX0 (by decide) (mc flX0_44) rfl dX0_processorOf_4 ?_
      refine zz_alen (q0 := 9) (t0 := 8) X rfl rfl dX0_processorOf_7 ?_
      refine zz_icmp_ge (tgt := 29) X dX0_processorOf_8 (by decide) (fun hq => ?_) (fun hq => absurd (nI_le (a := N) (by omega) (by omega)) hq)
      refine zz_iconst (v := -1) X dX0_processorOf_29 (by decide) ?_
      exact Ei _ _ _ _ _ rfl rfl dX0_processorOf_30 (by rw [rPrc, hz]; rfl) rfl
    | succ n ih =>
      intro i hi hz
      have hlt : i < N := by omega
      refine zz_iload_n X dX0_processorOf_2 rfl rfl ?_
      refine zz_aload_n X dX0_processorOf_3 rfl rfl ?_
      refine pp_get (k0 := 8) (v := .ref (a 8)) X imX0 (by decide) (mc flX0_44) rfl dX0_processorOf_4 ?_
      refine zz_alen (q0 := 9) (t0 := 8) X rfl rfl dX0_processorOf_7 ?_
      refine zz_icmp_ge (tgt := 29) X dX0_processorOf_8 (by decide) (fun hq => absurd hq (nI_ge hlt hN)) (fun hq => ?_)
      refine zz_aload_n X dX0_processorOf_11 rfl rfl ?_
      refine pp_get (k0 := 8) (v := .ref (a 8)) X imX0 (by decide) (mc flX0_44) rfl dX0_processorOf_12 ?_
      refine zz_iload_n X dX0_processorOf_15 rfl rfl ?_
      refine zz_iald (q0 := 9) (t0 := 8) (j := i) X rfl rfl rfl hlt hN dX0_processorOf_16 ?_
      refine zz_iload_n X dX0_processorOf_17 rfl rfl ?_
      refine zz_icmp_ne (tgt := 23) X dX0_processorOf_18 (by decide) (fun h1 => ?_) (fun h1 => ?_)
      · refine zz_iinc (v := (nI (i + 1))) (lv' := [some (.ref h), some (.int x), some (.int (nI (i + 1)))]) X dX0_processorOf_23 rfl (nI_1 _) (by decide) rfl ?_
        refine zz_goto (tgt := 2) X dX0_processorOf_26 (by decide) ?_
        exact ih (i + 1) (by omega) (by rw [hz]; simp [zs, h1])
      · refine zz_iload_n X dX0_processorOf_21 rfl rfl ?_
        exact Ei _ _ _ _ _ rfl rfl dX0_processorOf_22 (by rw [rPrc, hz]; simp [zs, h1]) rfl
  exact loop N 0 (Nat.zero_add _) rfl
set_option maxHeartbeats 4000000 in
set_option maxRecDepth 100000 in
theorem c_placeOf {l : Launch} {D : va_G} {h : Nat} {a : Nat → Nat} {ca : Nat → ClassId} {N : Nat} (hN : N < 2 ^ 31) (u : St) (x : Int32) : cP l D h a ca N yX0_placeOf wsX0_placeOf { frames := 0, cells := 0, slots := 0, locals := 0 } [.int x] u (some (.int (rPlc u x))) u := by
  refine zz_C.of (bytes := cX0_placeOf) (maxL := 3) (ret := (some .int)) (lv0 := [some (.ref h), some (.int x), none]) (by decide) rfl (Nat.le_of_ble_eq_true rfl) rfl rfl ?_
  intro p e s m below meth c A Q X Ei Ev
  refine zz_iconst (v := 0) X dX0_placeOf_0 (by decide) ?_
  refine zz_istore_n (lv' := [some (.ref h), some (.int x), some (.int 0)]) X dX0_placeOf_1 rfl (by decide) rfl ?_
  have loop : ∀ (n i : Nat), i + n = 15 → zs (fun j => decide (¬ u 1 j = 0 ∧ u 0 j = x)) 15 0 = zs (fun j => decide (¬ u 1 j = 0 ∧ u 0 j = x)) n i → zz_V p l e { frames := 0, cells := 0, slots := 0, locals := 0 } s m [.ref h, .int x].toArray below meth c 0 0 Q 3 D vwCl A (wP h a ca N u) [some (.ref h), some (.int x), some (.int (nI i))] 2 [] := by
    intro n
    induction n with
    | zero =>
      intro i hi hz
      refine zz_iload_n X dX0_placeOf_2 rfl rfl ?_
      refine zz_bipush (v := 15) X dX0_placeOf_3 (by decide) ?_
      refine zz_icmp_ge (tgt := 35) X dX0_placeOf_5 (by decide) (fun hq => ?_) (fun hq => absurd (nI_le (a := 15) (by omega) (by omega)) hq)
      refine zz_iconst (v := -1) X dX0_placeOf_35 (by decide) ?_
      exact Ei _ _ _ _ _ rfl rfl dX0_placeOf_36 (by rw [rPlc, hz]; rfl) rfl
    | succ n ih =>
      intro i hi hz
      have hlt : i < 15 := by omega
      refine zz_iload_n X dX0_placeOf_2 rfl rfl ?_
      refine zz_bipush (v := 15) X dX0_placeOf_3 (by decide) ?_
      refine zz_icmp_ge (tgt := 35) X dX0_placeOf_5 (by decide) (fun hq => absurd hq (nI_ge (b := 15) hlt (by decide))) (fun hq => ?_)
      refine zz_aload_n X dX0_placeOf_8 rfl rfl ?_
      refine pp_get (k0 := 1) (v := .ref (a 1)) X imX0 (by decide) (mc flX0_22) rfl dX0_placeOf_9 ?_
      refine zz_iload_n X dX0_placeOf_12 rfl rfl ?_
      refine zz_iald (q0 := 2) (t0 := 1) (j := i) X rfl rfl rfl hlt (by decide) dX0_placeOf_13 ?_
      refine zz_if_eq (tgt := 29) X dX0_placeOf_14 (by decide) (fun h1 => ?_) (fun h1 => ?_)
      · refine zz_iinc (v := (nI (i + 1))) (lv' := [some (.ref h), some (.int x), some (.int (nI (i + 1)))]) X dX0_placeOf_29 rfl (nI_1 _) (by decide) rfl ?_
        refine zz_goto (tgt := 2) X dX0_placeOf_32 (by decide) ?_
        exact ih (i + 1) (by omega) (by rw [hz]; simp [zs, h1])
      · refine zz_aload_n X dX0_placeOf_17 rfl rfl ?_
        refine pp_get (k0 := 0) (v := .ref (a 0)) X imX0 (by decide) (mc flX0_18) rfl dX0_placeOf_18 ?_
        refine zz_iload_n X dX0_placeOf_21 rfl rfl ?_
        refine zz_iald (q0 := 1) (t0 := 0) (j := i) X rfl rfl rfl hlt (by decide) dX0_placeOf_22 ?_
        refine zz_iload_n X dX0_placeOf_23 rfl rfl ?_
        refine zz_icmp_ne (tgt := 29) X dX0_placeOf_24 (by decide) (fun h2 => ?_) (fun h2 => ?_)
        · refine zz_iinc (v := (nI (i + 1))) (lv' := [some (.ref h), some (.int x), some (.int (nI (i + 1)))]) X dX0_placeOf_29 rfl (nI_1 _) (by decide) rfl ?_
          refine zz_goto (tgt := 2) X dX0_placeOf_32 (by decide) ?_
          exact ih (i + 1) (by omega) (by rw [hz]; simp [zs, h1, h2])
        · refine zz_iload_n X dX0_placeOf_27 rfl rfl ?_
          exact Ei _ _ _ _ _ rfl rfl dX0_placeOf_28 (by rw [rPlc, hz]; simp [zs, h1, h2]) rfl
  exact loop 15 0 (Nat.zero_add _) rfl
set_option maxHeartbeats 4000000 in
set_option maxRecDepth 100000 in
theorem c_firstFree {l : Launch} {D : va_G} {h : Nat} {a : Nat → Nat} {ca : Nat → ClassId} {N : Nat} (hN : N < 2 ^ 31) (u : St) : cP l D h a ca N yX0_firstFree wsX0_firstFree { frames := 0, cells := 0, slots := 0, locals := 0 } [] u (some (.int (rFre u))) u := by
  refine zz_C.of (bytes := cX0_firstFree) (maxL := 2) (ret := (some .int)) (lv0 := [some (.ref h), none]) (by decide) rfl (Nat.le_of_ble_eq_true rfl) rfl rfl ?_
  intro p e s m below meth c A Q X Ei Ev
  refine zz_iconst (v := 0) X dX0_firstFree_0 (by decide) ?_
  refine zz_istore_n (lv' := [some (.ref h), some (.int 0)]) X dX0_firstFree_1 rfl (by decide) rfl ?_
  have loop : ∀ (n i : Nat), i + n = 15 → zs (fun j => decide (u 1 j = 0)) 15 0 = zs (fun j => decide (u 1 j = 0)) n i → zz_V p l e { frames := 0, cells := 0, slots := 0, locals := 0 } s m [.ref h].toArray below meth c 0 0 Q 2 D vwCl A (wP h a ca N u) [some (.ref h), some (.int (nI i))] 2 [] := by
    intro n
    induction n with
    | zero =>
      intro i hi hz
      refine zz_iload_n X dX0_firstFree_2 rfl rfl ?_
      refine zz_bipush (v := 15) X dX0_firstFree_3 (by decide) ?_
      refine zz_icmp_ge (tgt := 25) X dX0_firstFree_5 (by decide) (fun hq => ?_) (fun hq => absurd (nI_le (a := 15) (by omega) (by omega)) hq)
      refine zz_iconst (v := -1) X dX0_firstFree_25 (by decide) ?_
      exact Ei _ _ _ _ _ rfl rfl dX0_firstFree_26 (by rw [rFre, hz]; rfl) rfl
    | succ n ih =>
      intro i hi hz
      have hlt : i < 15 := by omega
      refine zz_iload_n X dX0_firstFree_2 rfl rfl ?_
      refine zz_bipush (v := 15) X dX0_firstFree_3 (by decide) ?_
      refine zz_icmp_ge (tgt := 25) X dX0_firstFree_5 (by decide) (fun hq => absurd hq (nI_ge (b := 15) hlt (by decide))) (fun hq => ?_)
      refine zz_aload_n X dX0_firstFree_8 rfl rfl ?_
      refine pp_get (k0 := 1) (v := .ref (a 1)) X imX0 (by decide) (mc flX0_22) rfl dX0_firstFree_9 ?_
      refine zz_iload_n X dX0_firstFree_12 rfl rfl ?_
      refine zz_iald (q0 := 2) (t0 := 1) (j := i) X rfl rfl rfl hlt (by decide) dX0_firstFree_13 ?_
      refine zz_if_ne (tgt := 19) X dX0_firstFree_14 (by decide) (fun h1 => ?_) (fun h1 => ?_)
      · refine zz_iinc (v := (nI (i + 1))) (lv' := [some (.ref h), some (.int (nI (i + 1)))]) X dX0_firstFree_19 rfl (nI_1 _) (by decide) rfl ?_
        refine zz_goto (tgt := 2) X dX0_firstFree_22 (by decide) ?_
        exact ih (i + 1) (by omega) (by rw [hz]; simp [zs, h1])
      · refine zz_iload_n X dX0_firstFree_17 rfl rfl ?_
        exact Ei _ _ _ _ _ rfl rfl dX0_firstFree_18 (by rw [rFre, hz]; simp [zs, h1]) rfl
  exact loop 15 0 (Nat.zero_add _) rfl
set_option maxHeartbeats 4000000 in
set_option maxRecDepth 100000 in
theorem c_hasChild {l : Launch} {D : va_G} {h : Nat} {a : Nat → Nat} {ca : Nat → ClassId} {N : Nat} (hN : N < 2 ^ 31) (u : St) (x : Int32) : cP l D h a ca N yX0_hasChild wsX0_hasChild { frames := 1, cells := 0, slots := 0, locals := 22 } [.int x] u (some (.int (rHas u x))) u := by
  refine zz_C.of (bytes := cX0_hasChild) (maxL := 3) (ret := (some .boolean)) (lv0 := [some (.ref h), some (.int x), none]) (by decide) rfl (Nat.le_of_ble_eq_true rfl) rfl rfl ?_
  intro p e s m below meth c A Q X Ei Ev
  refine zz_iconst (v := 0) X dX0_hasChild_0 (by decide) ?_
  refine zz_istore_n (lv' := [some (.ref h), some (.int x), some (.int 0)]) X dX0_hasChild_1 rfl (by decide) rfl ?_
  have loop : ∀ (n i : Nat), i + n = 15 → zs (fun j => decide (¬ rChi u j x = 0)) 15 0 = zs (fun j => decide (¬ rChi u j x = 0)) n i → zz_V p l e { frames := 1, cells := 0, slots := 0, locals := 22 } s m [.ref h, .int x].toArray below meth c 0 0 Q 3 D vwCl A (wP h a ca N u) [some (.ref h), some (.int x), some (.int (nI i))] 2 [] := by
    intro n
    induction n with
    | zero =>
      intro i hi hz
      refine zz_iload_n X dX0_hasChild_2 rfl rfl ?_
      refine zz_bipush (v := 15) X dX0_hasChild_3 (by decide) ?_
      refine zz_icmp_ge (tgt := 25) X dX0_hasChild_5 (by decide) (fun hq => ?_) (fun hq => absurd (nI_le (a := 15) (by omega) (by omega)) hq)
      refine zz_iconst (v := 0) X dX0_hasChild_25 (by decide) ?_
      exact Ei _ _ _ _ _ rfl rfl dX0_hasChild_26 (by rw [rHas, hz]; rfl) rfl
    | succ n ih =>
      intro i hi hz
      have hlt : i < 15 := by omega
      refine zz_iload_n X dX0_hasChild_2 rfl rfl ?_
      refine zz_bipush (v := 15) X dX0_hasChild_3 (by decide) ?_
      refine zz_icmp_ge (tgt := 25) X dX0_hasChild_5 (by decide) (fun hq => absurd hq (nI_ge (b := 15) hlt (by decide))) (fun hq => ?_)
      refine zz_aload_n X dX0_hasChild_8 rfl rfl ?_
      refine zz_iload_n X dX0_hasChild_9 rfl rfl ?_
      refine zz_iload_n X dX0_hasChild_10 rfl rfl ?_
      refine pp_calli (rest := []) X (c_isChild hN u i hlt x) (cwV 2 X.1.2.2.2.2 (gw lkX0_124 imX0_isChild seX0_isChild itX0 cdX0_isChild) rfl rfl rfl hdX0_isChild ⟨Nat.le_of_ble_eq_true rfl, Nat.le_of_ble_eq_true rfl⟩) rfl rfl (Nat.le_of_ble_eq_true rfl) dX0_hasChild_11 ⟨Nat.zero_le _, Nat.zero_le _⟩ ?_
      refine zz_if_eq (tgt := 19) X dX0_hasChild_14 (by decide) (fun h1 => ?_) (fun h1 => ?_)
      · refine zz_iinc (v := (nI (i + 1))) (lv' := [some (.ref h), some (.int x), some (.int (nI (i + 1)))]) X dX0_hasChild_19 rfl (nI_1 _) (by decide) rfl ?_
        refine zz_goto (tgt := 2) X dX0_hasChild_22 (by decide) ?_
        exact ih (i + 1) (by omega) (by rw [hz]; simp [zs, h1])
      · refine zz_iconst (v := 1) X dX0_hasChild_17 (by decide) ?_
        exact Ei _ _ _ _ _ rfl rfl dX0_hasChild_18 (by rw [rHas, hz]; simp [zs, h1, nI_m1 (show i < 2 ^ 31 by omega)]) rfl
  exact loop 15 0 (Nat.zero_add _) rfl
set_option maxHeartbeats 4000000 in
set_option maxRecDepth 100000 in
theorem c_firstZombieChild {l : Launch} {D : va_G} {h : Nat} {a : Nat → Nat} {ca : Nat → ClassId} {N : Nat} (hN : N < 2 ^ 31) (u : St) (x : Int32) : cP l D h a ca N yX0_firstZombieChild wsX0_firstZombieChild { frames := 1, cells := 0, slots := 0, locals := 22 } [.int x] u (some (.int (rFzc u x))) u := by
  refine zz_C.of (bytes := cX0_firstZombieChild) (maxL := 3) (ret := (some .int)) (lv0 := [some (.ref h), some (.int x), none]) (by decide) rfl (Nat.le_of_ble_eq_true rfl) rfl rfl ?_
  intro p e s m below meth c A Q X Ei Ev
  refine zz_iconst (v := 0) X dX0_firstZombieChild_0 (by decide) ?_
  refine zz_istore_n (lv' := [some (.ref h), some (.int x), some (.int 0)]) X dX0_firstZombieChild_1 rfl (by decide) rfl ?_
  have loop : ∀ (n i : Nat), i + n = 15 → zs (fun j => decide (¬ rChi u j x = 0 ∧ u 1 j = 4)) 15 0 = zs (fun j => decide (¬ rChi u j x = 0 ∧ u 1 j = 4)) n i → zz_V p l e { frames := 1, cells := 0, slots := 0, locals := 22 } s m [.ref h, .int x].toArray below meth c 0 0 Q 3 D vwCl A (wP h a ca N u) [some (.ref h), some (.int x), some (.int (nI i))] 2 [] := by
    intro n
    induction n with
    | zero =>
      intro i hi hz
      refine zz_iload_n X dX0_firstZombieChild_2 rfl rfl ?_
      refine zz_bipush (v := 15) X dX0_firstZombieChild_3 (by decide) ?_
      refine zz_icmp_ge (tgt := 35) X dX0_firstZombieChild_5 (by decide) (fun hq => ?_) (fun hq => absurd (nI_le (a := 15) (by omega) (by omega)) hq)
      refine zz_iconst (v := -1) X dX0_firstZombieChild_35 (by decide) ?_
      exact Ei _ _ _ _ _ rfl rfl dX0_firstZombieChild_36 (by rw [rFzc, hz]; rfl) rfl
    | succ n ih =>
      intro i hi hz
      have hlt : i < 15 := by omega
      refine zz_iload_n X dX0_firstZombieChild_2 rfl rfl ?_
      refine zz_bipush (v := 15) X dX0_firstZombieChild_3 (by decide) ?_
      refine zz_icmp_ge (tgt := 35) X dX0_firstZombieChild_5 (by decide) (fun hq => absurd hq (nI_ge (b := 15) hlt (by decide))) (fun hq => ?_)
      refine zz_aload_n X dX0_firstZombieChild_8 rfl rfl ?_
      refine zz_iload_n X dX0_firstZombieChild_9 rfl rfl ?_
      refine zz_iload_n X dX0_firstZombieChild_10 rfl rfl ?_
      refine pp_calli (rest := []) X (c_isChild hN u i hlt x) (cwV 2 X.1.2.2.2.2 (gw lkX0_124 imX0_isChild seX0_isChild itX0 cdX0_isChild) rfl rfl rfl hdX0_isChild ⟨Nat.le_of_ble_eq_true rfl, Nat.le_of_ble_eq_true rfl⟩) rfl rfl (Nat.le_of_ble_eq_true rfl) dX0_firstZombieChild_11 ⟨Nat.zero_le _, Nat.zero_le _⟩ ?_
      refine zz_if_eq (tgt := 29) X dX0_firstZombieChild_14 (by decide) (fun h1 => ?_) (fun h1 => ?_)
      · refine zz_iinc (v := (nI (i + 1))) (lv' := [some (.ref h), some (.int x), some (.int (nI (i + 1)))]) X dX0_firstZombieChild_29 rfl (nI_1 _) (by decide) rfl ?_
        refine zz_goto (tgt := 2) X dX0_firstZombieChild_32 (by decide) ?_
        exact ih (i + 1) (by omega) (by rw [hz]; simp [zs, h1])
      · refine zz_aload_n X dX0_firstZombieChild_17 rfl rfl ?_
        refine pp_get (k0 := 1) (v := .ref (a 1)) X imX0 (by decide) (mc flX0_22) rfl dX0_firstZombieChild_18 ?_
        refine zz_iload_n X dX0_firstZombieChild_21 rfl rfl ?_
        refine zz_iald (q0 := 2) (t0 := 1) (j := i) X rfl rfl rfl hlt (by decide) dX0_firstZombieChild_22 ?_
        refine zz_iconst (v := 4) X dX0_firstZombieChild_23 (by decide) ?_
        refine zz_icmp_ne (tgt := 29) X dX0_firstZombieChild_24 (by decide) (fun h2 => ?_) (fun h2 => ?_)
        · refine zz_iinc (v := (nI (i + 1))) (lv' := [some (.ref h), some (.int x), some (.int (nI (i + 1)))]) X dX0_firstZombieChild_29 rfl (nI_1 _) (by decide) rfl ?_
          refine zz_goto (tgt := 2) X dX0_firstZombieChild_32 (by decide) ?_
          exact ih (i + 1) (by omega) (by rw [hz]; simp [zs, h1, h2])
        · refine zz_iload_n X dX0_firstZombieChild_27 rfl rfl ?_
          exact Ei _ _ _ _ _ rfl rfl dX0_firstZombieChild_28 (by rw [rFzc, hz]; simp [zs, h1, h2]) rfl
  exact loop 15 0 (Nat.zero_add _) rfl
set_option maxHeartbeats 4000000 in
set_option maxRecDepth 100000 in
theorem c_nextReady {l : Launch} {D : va_G} {h : Nat} {a : Nat → Nat} {ca : Nat → ClassId} {N : Nat} (hN : N < 2 ^ 31) (u : St) (t : Nat) (htl : t < 15) (ht : u 9 0 = nI t) : cP l D h a ca N yX0_nextReady wsX0_nextReady { frames := 0, cells := 0, slots := 0, locals := 0 } [] u (some (.int (rNxt u t))) u := by
  refine zz_C.of (bytes := cX0_nextReady) (maxL := 3) (ret := (some .int)) (lv0 := [some (.ref h), none, none]) (by decide) rfl (Nat.le_of_ble_eq_true rfl) rfl rfl ?_
  intro p e s m below meth c A Q X Ei Ev
  refine zz_iconst (v := 1) X dX0_nextReady_0 (by decide) ?_
  refine zz_istore_n (lv' := [some (.ref h), some (.int 1), none]) X dX0_nextReady_1 rfl (by decide) rfl ?_
  have loop : ∀ (n i : Nat) (lw : Option Value), i + n = 16 → zn (fun j => decide (u 1 j = 1)) t 15 1 = zn (fun j => decide (u 1 j = 1)) t n i → zz_V p l e { frames := 0, cells := 0, slots := 0, locals := 0 } s m [.ref h].toArray below meth c 0 0 Q 3 D vwCl A (wP h a ca N u) [some (.ref h), some (.int (nI i)), lw] 2 [] := by
    intro n
    induction n with
    | zero =>
      intro i lw hi hz
      refine zz_iload_n X dX0_nextReady_2 rfl rfl ?_
      refine zz_bipush (v := 15) X dX0_nextReady_3 (by decide) ?_
      refine zz_icmp_gt (tgt := 36) X dX0_nextReady_5 (by decide) (fun hq => ?_) (fun hq => absurd (nI_lt (a := 15) (by omega) (by omega)) hq)
      refine zz_iconst (v := -1) X dX0_nextReady_36 (by decide) ?_
      exact Ei _ _ _ _ _ rfl rfl dX0_nextReady_37 (by rw [rNxt, hz]; rfl) rfl
    | succ n ih =>
      intro i lw hi hz
      refine zz_iload_n X dX0_nextReady_2 rfl rfl ?_
      refine zz_bipush (v := 15) X dX0_nextReady_3 (by decide) ?_
      refine zz_icmp_gt (tgt := 36) X dX0_nextReady_5 (by decide) (fun hq => absurd hq (nI_nlt (a := 15) (by omega) (by omega))) (fun hq => ?_)
      refine zz_aload_n X dX0_nextReady_8 rfl rfl ?_
      refine pp_get (k0 := 9) (v := .int (u 9 0)) X imX0 (by decide) (mc flX0_47) rfl dX0_nextReady_9 ?_
      refine zz_top ht ?_
      refine zz_iload_n X dX0_nextReady_12 rfl rfl ?_
      refine zz_iadd X dX0_nextReady_13 ?_
      refine zz_bipush (v := 15) X dX0_nextReady_14 (by decide) ?_
      refine zz_irem X dX0_nextReady_16 (by decide) ?_
      refine zz_top (show nI t + nI i - (nI t + nI i) / 15 * 15 = nI ((t + i) % 15) by rw [nI_add]; exact pk_rem (d := 15) (by omega) (by omega) (by omega)) ?_
      refine zz_istore_n (lv' := [some (.ref h), some (.int (nI i)), some (.int (nI ((t + i) % 15)))]) X dX0_nextReady_17 rfl (by decide) rfl ?_
      refine zz_aload_n X dX0_nextReady_18 rfl rfl ?_
      refine pp_get (k0 := 1) (v := .ref (a 1)) X imX0 (by decide) (mc flX0_22) rfl dX0_nextReady_19 ?_
      refine zz_iload_n X dX0_nextReady_22 rfl rfl ?_
      refine zz_iald (q0 := 2) (t0 := 1) (j := (t + i) % 15) X rfl rfl rfl (Nat.mod_lt _ (by decide)) (by decide) dX0_nextReady_23 ?_
      refine zz_iconst (v := 1) X dX0_nextReady_24 (by decide) ?_
      refine zz_icmp_ne (tgt := 30) X dX0_nextReady_25 (by decide) (fun h1 => ?_) (fun h1 => ?_)
      · refine zz_iinc (v := (nI (i + 1))) (lv' := [some (.ref h), some (.int (nI (i + 1))), some (.int (nI ((t + i) % 15)))]) X dX0_nextReady_30 rfl (nI_1 _) (by decide) rfl ?_
        refine zz_goto (tgt := 2) X dX0_nextReady_33 (by decide) ?_
        exact ih (i + 1) _ (by omega) (by rw [hz]; simp [zn, h1])
      · refine zz_iload_n X dX0_nextReady_28 rfl rfl ?_
        exact Ei _ _ _ _ _ rfl rfl dX0_nextReady_29 (by rw [rNxt, hz]; simp [zn, h1]) rfl
  exact loop 15 1 none rfl rfl
set_option maxHeartbeats 4000000 in
set_option maxRecDepth 100000 in
theorem c_settle {l : Launch} {D : va_G} {h : Nat} {a : Nat → Nat} {ca : Nat → ClassId} {N : Nat} (hN : N < 2 ^ 31) (u : St) (i : Nat) (hi : i < 15) (x y : Int32) : cP l D h a ca N yX0_settle wsX0_settle { frames := 0, cells := 0, slots := 0, locals := 0 } [.int (nI i), .int x, .int y] u none (rSet u i x y) := by
  refine zz_C.of (bytes := cX0_settle) (maxL := 4) (ret := none) (lv0 := [some (.ref h), some (.int (nI i)), some (.int x), some (.int y)]) (by decide) rfl (Nat.le_of_ble_eq_true rfl) rfl rfl ?_
  intro p e s m below meth c A Q X Ei Ev
  refine zz_aload_n X dX0_settle_0 rfl rfl ?_
  refine pp_get (k0 := 0) (v := .ref (a 0)) X imX0 (by decide) (mc flX0_18) rfl dX0_settle_1 ?_
  refine zz_iload_n X dX0_settle_4 rfl rfl ?_
  refine zz_iload_n X dX0_settle_5 rfl rfl ?_
  refine zz_iast (q0 := 1) (t0 := 0) (j := i) (ws' := wP h a ca N (up2 u 0 i x)) X rfl rfl rfl hi (by decide) dX0_settle_6 rfl ?_
  refine zz_aload_n X dX0_settle_7 rfl rfl ?_
  refine pp_get (k0 := 2) (v := .ref (a 2)) X imX0 (by decide) (mc flX0_25) rfl dX0_settle_8 ?_
  refine zz_iload_n X dX0_settle_11 rfl rfl ?_
  refine zz_iload_n X dX0_settle_12 rfl rfl ?_
  refine zz_iast (q0 := 3) (t0 := 2) (j := i) (ws' := wP h a ca N (up2 (up2 u 0 i x) 2 i y)) X rfl rfl rfl hi (by decide) dX0_settle_13 rfl ?_
  refine zz_aload_n X dX0_settle_14 rfl rfl ?_
  refine pp_get (k0 := 1) (v := .ref (a 1)) X imX0 (by decide) (mc flX0_22) rfl dX0_settle_15 ?_
  refine zz_iload_n X dX0_settle_18 rfl rfl ?_
  refine zz_iconst (v := 1) X dX0_settle_19 (by decide) ?_
  refine zz_iast (q0 := 2) (t0 := 1) (j := i) (ws' := wP h a ca N (up2 (up2 (up2 u 0 i x) 2 i y) 1 i 1)) X rfl rfl rfl hi (by decide) dX0_settle_20 rfl ?_
  exact Ev _ _ _ rfl dX0_settle_21 rfl rfl
set_option maxHeartbeats 4000000 in
set_option maxRecDepth 100000 in
theorem c_clearPlace {l : Launch} {D : va_G} {h : Nat} {a : Nat → Nat} {ca : Nat → ClassId} {N : Nat} (hN : N < 2 ^ 31) (u : St) (i : Nat) (hi : i < 15) : cP l D h a ca N yX0_clearPlace wsX0_clearPlace { frames := 0, cells := 0, slots := 0, locals := 0 } [.int (nI i)] u none (rClr u i) := by
  refine zz_C.of (bytes := cX0_clearPlace) (maxL := 2) (ret := none) (lv0 := [some (.ref h), some (.int (nI i))]) (by decide) rfl (Nat.le_of_ble_eq_true rfl) rfl rfl ?_
  intro p e s m below meth c A Q X Ei Ev
  refine zz_aload_n X dX0_clearPlace_0 rfl rfl ?_
  refine pp_get (k0 := 0) (v := .ref (a 0)) X imX0 (by decide) (mc flX0_18) rfl dX0_clearPlace_1 ?_
  refine zz_iload_n X dX0_clearPlace_4 rfl rfl ?_
  refine zz_iconst (v := 0) X dX0_clearPlace_5 (by decide) ?_
  refine zz_iast (q0 := 1) (t0 := 0) (j := i) (ws' := wP h a ca N (up2 u 0 i 0)) X rfl rfl rfl hi (by decide) dX0_clearPlace_6 rfl ?_
  refine zz_aload_n X dX0_clearPlace_7 rfl rfl ?_
  refine pp_get (k0 := 1) (v := .ref (a 1)) X imX0 (by decide) (mc flX0_22) rfl dX0_clearPlace_8 ?_
  refine zz_iload_n X dX0_clearPlace_11 rfl rfl ?_
  refine zz_iconst (v := 0) X dX0_clearPlace_12 (by decide) ?_
  refine zz_iast (q0 := 2) (t0 := 1) (j := i) (ws' := wP h a ca N (up2 (up2 u 0 i 0) 1 i 0)) X rfl rfl rfl hi (by decide) dX0_clearPlace_13 rfl ?_
  refine zz_aload_n X dX0_clearPlace_14 rfl rfl ?_
  refine pp_get (k0 := 2) (v := .ref (a 2)) X imX0 (by decide) (mc flX0_25) rfl dX0_clearPlace_15 ?_
  refine zz_iload_n X dX0_clearPlace_18 rfl rfl ?_
  refine zz_iconst (v := 0) X dX0_clearPlace_19 (by decide) ?_
  refine zz_iast (q0 := 3) (t0 := 2) (j := i) (ws' := wP h a ca N (up2 (up2 (up2 u 0 i 0) 1 i 0) 2 i 0)) X rfl rfl rfl hi (by decide) dX0_clearPlace_20 rfl ?_
  refine zz_aload_n X dX0_clearPlace_21 rfl rfl ?_
  refine pp_get (k0 := 3) (v := .ref (a 3)) X imX0 (by decide) (mc flX0_28) rfl dX0_clearPlace_22 ?_
  refine zz_iload_n X dX0_clearPlace_25 rfl rfl ?_
  refine zz_iconst (v := 0) X dX0_clearPlace_26 (by decide) ?_
  refine zz_zast (q0 := 4) (t0 := 3) (j := i) (ws' := wP h a ca N (up2 (up2 (up2 (up2 u 0 i 0) 1 i 0) 2 i 0) 3 i 0)) X rfl rfl rfl hi (by decide) rfl dX0_clearPlace_27 rfl ?_
  refine zz_aload_n X dX0_clearPlace_28 rfl rfl ?_
  refine pp_get (k0 := 4) (v := .ref (a 4)) X imX0 (by decide) (mc flX0_32) rfl dX0_clearPlace_29 ?_
  refine zz_iload_n X dX0_clearPlace_32 rfl rfl ?_
  refine zz_iconst (v := 0) X dX0_clearPlace_33 (by decide) ?_
  refine zz_iast (q0 := 5) (t0 := 4) (j := i) (ws' := wP h a ca N (up2 (up2 (up2 (up2 (up2 u 0 i 0) 1 i 0) 2 i 0) 3 i 0) 4 i 0)) X rfl rfl rfl hi (by decide) dX0_clearPlace_34 rfl ?_
  refine zz_aload_n X dX0_clearPlace_35 rfl rfl ?_
  refine pp_get (k0 := 5) (v := .ref (a 5)) X imX0 (by decide) (mc flX0_35) rfl dX0_clearPlace_36 ?_
  refine zz_iload_n X dX0_clearPlace_39 rfl rfl ?_
  refine zz_iconst (v := 0) X dX0_clearPlace_40 (by decide) ?_
  refine zz_iast (q0 := 6) (t0 := 5) (j := i) (ws' := wP h a ca N (up2 (up2 (up2 (up2 (up2 (up2 u 0 i 0) 1 i 0) 2 i 0) 3 i 0) 4 i 0) 5 i 0)) X rfl rfl rfl hi (by decide) dX0_clearPlace_41 rfl ?_
  refine zz_aload_n X dX0_clearPlace_42 rfl rfl ?_
  refine pp_get (k0 := 6) (v := .ref (a 6)) X imX0 (by decide) (mc flX0_38) rfl dX0_clearPlace_43 ?_
  refine zz_iload_n X dX0_clearPlace_46 rfl rfl ?_
  refine zz_iconst (v := 0) X dX0_clearPlace_47 (by decide) ?_
  refine zz_iast (q0 := 7) (t0 := 6) (j := i) (ws' := wP h a ca N (up2 (up2 (up2 (up2 (up2 (up2 (up2 u 0 i 0) 1 i 0) 2 i 0) 3 i 0) 4 i 0) 5 i 0) 6 i 0)) X rfl rfl rfl hi (by decide) dX0_clearPlace_48 rfl ?_
  refine zz_aload_n X dX0_clearPlace_49 rfl rfl ?_
  refine pp_get (k0 := 7) (v := .ref (a 7)) X imX0 (by decide) (mc flX0_41) rfl dX0_clearPlace_50 ?_
  refine zz_iload_n X dX0_clearPlace_53 rfl rfl ?_
  refine zz_iconst (v := 0) X dX0_clearPlace_54 (by decide) ?_
  refine zz_iast (q0 := 8) (t0 := 7) (j := i) (ws' := wP h a ca N (up2 (up2 (up2 (up2 (up2 (up2 (up2 (up2 u 0 i 0) 1 i 0) 2 i 0) 3 i 0) 4 i 0) 5 i 0) 6 i 0) 7 i 0)) X rfl rfl rfl hi (by decide) dX0_clearPlace_55 rfl ?_
  exact Ev _ _ _ rfl dX0_clearPlace_56 rfl rfl
set_option maxHeartbeats 4000000 in
set_option maxRecDepth 100000 in
theorem c_takeOff {l : Launch} {D : va_G} {h : Nat} {a : Nat → Nat} {ca : Nat → ClassId} {N : Nat} (hN : N < 2 ^ 31) (u : St) (j i : Nat) (hj : j < N) (hi : i < 15) (x : Int32) : cP l D h a ca N yX0_takeOff wsX0_takeOff { frames := 0, cells := 0, slots := 0, locals := 0 } [.int (nI j), .int (nI i), .int x] u none (rOff u j i x) := by
  refine zz_C.of (bytes := cX0_takeOff) (maxL := 4) (ret := none) (lv0 := [some (.ref h), some (.int (nI j)), some (.int (nI i)), some (.int x)]) (by decide) rfl (Nat.le_of_ble_eq_true rfl) rfl rfl ?_
  intro p e s m below meth c A Q X Ei Ev
  refine zz_aload_n X dX0_takeOff_0 rfl rfl ?_
  refine pp_get (k0 := 8) (v := .ref (a 8)) X imX0 (by decide) (mc flX0_44) rfl dX0_takeOff_1 ?_
  refine zz_iload_n X dX0_takeOff_4 rfl rfl ?_
  refine zz_iconst (v := -1) X dX0_takeOff_5 (by decide) ?_
  refine zz_iast (q0 := 9) (t0 := 8) (j := j) (ws' := wP h a ca N (up2 u 8 j (-1))) X rfl rfl rfl hj hN dX0_takeOff_6 rfl ?_
  refine zz_aload_n X dX0_takeOff_7 rfl rfl ?_
  refine pp_get (k0 := 1) (v := .ref (a 1)) X imX0 (by decide) (mc flX0_22) rfl dX0_takeOff_8 ?_
  refine zz_iload_n X dX0_takeOff_11 rfl rfl ?_
  refine zz_iload_n X dX0_takeOff_12 rfl rfl ?_
  refine zz_iast (q0 := 2) (t0 := 1) (j := i) (ws' := wP h a ca N (up2 (up2 u 8 j (-1)) 1 i x)) X rfl rfl rfl hi (by decide) dX0_takeOff_13 rfl ?_
  exact Ev _ _ _ rfl dX0_takeOff_14 rfl rfl
set_option maxHeartbeats 4000000 in
set_option maxRecDepth 100000 in
theorem c_makeReady {l : Launch} {D : va_G} {h : Nat} {a : Nat → Nat} {ca : Nat → ClassId} {N : Nat} (hN : N < 2 ^ 31) (u : St) (i : Nat) (hi : i < 15) : cP l D h a ca N yX0_makeReady wsX0_makeReady { frames := 0, cells := 0, slots := 0, locals := 0 } [.int (nI i)] u none (rRdy u i) := by
  refine zz_C.of (bytes := cX0_makeReady) (maxL := 2) (ret := none) (lv0 := [some (.ref h), some (.int (nI i))]) (by decide) rfl (Nat.le_of_ble_eq_true rfl) rfl rfl ?_
  intro p e s m below meth c A Q X Ei Ev
  refine zz_aload_n X dX0_makeReady_0 rfl rfl ?_
  refine pp_get (k0 := 1) (v := .ref (a 1)) X imX0 (by decide) (mc flX0_22) rfl dX0_makeReady_1 ?_
  refine zz_iload_n X dX0_makeReady_4 rfl rfl ?_
  refine zz_iconst (v := 1) X dX0_makeReady_5 (by decide) ?_
  refine zz_iast (q0 := 2) (t0 := 1) (j := i) (ws' := wP h a ca N (up2 u 1 i 1)) X rfl rfl rfl hi (by decide) dX0_makeReady_6 rfl ?_
  refine zz_aload_n X dX0_makeReady_7 rfl rfl ?_
  refine pp_get (k0 := 5) (v := .ref (a 5)) X imX0 (by decide) (mc flX0_35) rfl dX0_makeReady_8 ?_
  refine zz_iload_n X dX0_makeReady_11 rfl rfl ?_
  refine zz_iconst (v := 0) X dX0_makeReady_12 (by decide) ?_
  refine zz_iast (q0 := 6) (t0 := 5) (j := i) (ws' := wP h a ca N (up2 (up2 u 1 i 1) 5 i 0)) X rfl rfl rfl hi (by decide) dX0_makeReady_13 rfl ?_
  exact Ev _ _ _ rfl dX0_makeReady_14 rfl rfl
set_option maxHeartbeats 4000000 in
set_option maxRecDepth 100000 in
theorem c_countDown {l : Launch} {D : va_G} {h : Nat} {a : Nat → Nat} {ca : Nat → ClassId} {N : Nat} (hN : N < 2 ^ 31) (u : St) (i : Nat) (hi : i < 15) : cP l D h a ca N yX0_countDown wsX0_countDown { frames := 1, cells := 0, slots := 0, locals := 21 } [.int (nI i)] u none (rDwn u i) := by
  refine zz_C.of (bytes := cX0_countDown) (maxL := 2) (ret := none) (lv0 := [some (.ref h), some (.int (nI i))]) (by decide) rfl (Nat.le_of_ble_eq_true rfl) rfl rfl ?_
  intro p e s m below meth c A Q X Ei Ev
  refine zz_aload_n X dX0_countDown_0 rfl rfl ?_
  refine pp_get (k0 := 7) (v := .ref (a 7)) X imX0 (by decide) (mc flX0_41) rfl dX0_countDown_1 ?_
  refine zz_iload_n X dX0_countDown_4 rfl rfl ?_
  refine zz_dup2 X dX0_countDown_5 rfl rfl ?_
  refine zz_iald (q0 := 8) (t0 := 7) (j := i) X rfl rfl rfl hi (by decide) dX0_countDown_6 ?_
  refine zz_iconst (v := 1) X dX0_countDown_7 (by decide) ?_
  refine zz_isub X dX0_countDown_8 ?_
  refine zz_iast (q0 := 8) (t0 := 7) (j := i) (ws' := wP h a ca N (up2 u 7 i ((u 7 i) - 1))) X rfl rfl rfl hi (by decide) dX0_countDown_9 rfl ?_
  refine zz_aload_n X dX0_countDown_10 rfl rfl ?_
  refine pp_get (k0 := 7) (v := .ref (a 7)) X imX0 (by decide) (mc flX0_41) rfl dX0_countDown_11 ?_
  refine zz_iload_n X dX0_countDown_14 rfl rfl ?_
  refine zz_iald (q0 := 8) (t0 := 7) (j := i) X rfl rfl rfl hi (by decide) dX0_countDown_15 ?_
  refine zz_if_gt (tgt := 24) X dX0_countDown_16 (by decide) (fun h1 => ?_) (fun h1 => ?_)
  · exact Ev _ _ _ rfl dX0_countDown_24 rfl (by rw [rDwn, if_pos h1])
  · refine zz_aload_n X dX0_countDown_19 rfl rfl ?_
    refine zz_iload_n X dX0_countDown_20 rfl rfl ?_
    refine pp_callv (rest := []) X (c_makeReady hN (up2 u 7 i ((u 7 i) - 1)) i hi) (cwV 1 X.1.2.2.2.2 (gw lkX0_109 imX0_makeReady seX0_makeReady itX0 cdX0_makeReady) rfl rfl rfl hdX0_makeReady ⟨Nat.le_of_ble_eq_true rfl, Nat.le_of_ble_eq_true rfl⟩) rfl rfl (Nat.le_of_ble_eq_true rfl) dX0_countDown_21 ⟨Nat.zero_le _, Nat.zero_le _⟩ ?_
    exact Ev _ _ _ rfl dX0_countDown_24 rfl (by rw [rDwn, if_neg h1])
set_option maxHeartbeats 4000000 in
set_option maxRecDepth 100000 in
theorem c_tellOfZombie {l : Launch} {D : va_G} {h : Nat} {a : Nat → Nat} {ca : Nat → ClassId} {N : Nat} (hN : N < 2 ^ 31) (u : St) (x : Int32) : cP l D h a ca N yX0_tellOfZombie wsX0_tellOfZombie { frames := 1, cells := 0, slots := 0, locals := 22 } [.int x] u none (rTel u x) := by
  refine zz_C.of (bytes := cX0_tellOfZombie) (maxL := 3) (ret := none) (lv0 := [some (.ref h), some (.int x), none]) (by decide) rfl (Nat.le_of_ble_eq_true rfl) rfl rfl ?_
  intro p e s m below meth c A Q X Ei Ev
  refine zz_aload_n X dX0_tellOfZombie_0 rfl rfl ?_
  refine zz_iload_n X dX0_tellOfZombie_1 rfl rfl ?_
  refine pp_calli (rest := []) X (c_placeOf hN u x) (cwV 1 X.1.2.2.2.2 (gw lkX0_118 imX0_placeOf seX0_placeOf itX0 cdX0_placeOf) rfl rfl rfl hdX0_placeOf ⟨Nat.le_of_ble_eq_true rfl, Nat.le_of_ble_eq_true rfl⟩) rfl rfl (Nat.le_of_ble_eq_true rfl) dX0_tellOfZombie_2 ⟨Nat.zero_le _, Nat.zero_le _⟩ ?_
  refine zz_istore_n (lv' := [some (.ref h), some (.int x), some (.int (rPlc u x))]) X dX0_tellOfZombie_5 rfl (by decide) rfl ?_
  refine zz_iload_n X dX0_tellOfZombie_6 rfl rfl ?_
  refine zz_iconst (v := -1) X dX0_tellOfZombie_7 (by decide) ?_
  refine zz_icmp_eq (tgt := 25) X dX0_tellOfZombie_8 (by decide) (fun h1 => ?_) (fun h1 => ?_)
  · exact Ev _ _ _ rfl dX0_tellOfZombie_25 rfl (by rw [rTel, if_pos h1])
  · obtain ⟨i, hi, -, ei⟩ := zs_P_in h1
    have ei : rPlc u x = nI i := ei
    have ec : (rPlc u x).toNatClampNeg = i := by rw [ei, nI_clamp (by omega)]
    refine zz_lv (lv' := [some (.ref h), some (.int x), some (.int (nI i))]) (by rw [ei]) ?_
    refine zz_aload_n X dX0_tellOfZombie_11 rfl rfl ?_
    refine zz_iload_n X dX0_tellOfZombie_12 rfl rfl ?_
    refine zz_iconst (v := 2) X dX0_tellOfZombie_13 (by decide) ?_
    refine pp_calli (rest := []) X (c_isBlockedFor hN u i hi 2) (cwV 2 X.1.2.2.2.2 (gw lkX0_105 imX0_isBlockedFor seX0_isBlockedFor itX0 cdX0_isBlockedFor) rfl rfl rfl hdX0_isBlockedFor ⟨Nat.le_of_ble_eq_true rfl, Nat.le_of_ble_eq_true rfl⟩) rfl rfl (Nat.le_of_ble_eq_true rfl) dX0_tellOfZombie_14 ⟨Nat.zero_le _, Nat.zero_le _⟩ ?_
    refine zz_if_eq (tgt := 25) X dX0_tellOfZombie_17 (by decide) (fun h2 => ?_) (fun h2 => ?_)
    · exact Ev _ _ _ rfl dX0_tellOfZombie_25 rfl (by rw [rTel, if_neg h1, ec, if_pos h2])
    · refine zz_aload_n X dX0_tellOfZombie_20 rfl rfl ?_
      refine zz_iload_n X dX0_tellOfZombie_21 rfl rfl ?_
      refine pp_callv (rest := []) X (c_makeReady hN u i hi) (cwV 1 X.1.2.2.2.2 (gw lkX0_109 imX0_makeReady seX0_makeReady itX0 cdX0_makeReady) rfl rfl rfl hdX0_makeReady ⟨Nat.le_of_ble_eq_true rfl, Nat.le_of_ble_eq_true rfl⟩) rfl rfl (Nat.le_of_ble_eq_true rfl) dX0_tellOfZombie_22 ⟨Nat.zero_le _, Nat.zero_le _⟩ ?_
      exact Ev _ _ _ rfl dX0_tellOfZombie_25 rfl (by rw [rTel, if_neg h1, ec, if_neg h2])
set_option maxHeartbeats 4000000 in
set_option maxRecDepth 100000 in
theorem c_emptyRing {l : Launch} {D : va_G} {h : Nat} {a : Nat → Nat} {ca : Nat → ClassId} {N : Nat} (hN : N < 2 ^ 31) (u : St) : cP l D h a ca N yX0_emptyRing wsX0_emptyRing { frames := 1, cells := 0, slots := 0, locals := 21 } [] u none (rEmp N u) := by
  refine zz_C.of (bytes := cX0_emptyRing) (maxL := 2) (ret := none) (lv0 := [some (.ref h), none]) (by decide) rfl (Nat.le_of_ble_eq_true rfl) rfl rfl ?_
  intro p e s m below meth c A Q X Ei Ev
  refine zz_iconst (v := 0) X dX0_emptyRing_0 (by decide) ?_
  refine zz_istore_n (lv' := [some (.ref h), some (.int 0)]) X dX0_emptyRing_1 rfl (by decide) rfl ?_
  have loop2 : ∀ (n i : Nat) (v : St), i + n = N → zl (fun i v => up2 v 8 i (-1)) n i v = rEmp N u → zz_V p l e { frames := 1, cells := 0, slots := 0, locals := 21 } s m [.ref h].toArray below meth c 0 0 Q 2 D vwCl A (wP h a ca N v) [some (.ref h), some (.int (nI i))] 21 [] := by
    intro n
    induction n with
    | zero =>
      intro i v hi hz
      refine zz_iload_n X dX0_emptyRing_21 rfl rfl ?_
      refine zz_aload_n X dX0_emptyRing_22 rfl rfl ?_
      refine pp_get (k0 := 8) (v := .ref (a 8)) X imX0 (by decide) (mc flX0_44) rfl dX0_emptyRing_23 ?_
      refine zz_alen (q0 := 9) (t0 := 8) X rfl rfl dX0_emptyRing_26 ?_
      refine zz_icmp_ge (tgt := 43) X dX0_emptyRing_27 (by decide) (fun hq => ?_) (fun hq => absurd (nI_le (by omega) (by omega)) hq)
      exact Ev _ _ _ rfl dX0_emptyRing_43 rfl (by rw [← hz]; rfl)
    | succ n ih =>
      intro i v hi hz
      have hlt : i < N := by omega
      refine zz_iload_n X dX0_emptyRing_21 rfl rfl ?_
      refine zz_aload_n X dX0_emptyRing_22 rfl rfl ?_
      refine pp_get (k0 := 8) (v := .ref (a 8)) X imX0 (by decide) (mc flX0_44) rfl dX0_emptyRing_23 ?_
      refine zz_alen (q0 := 9) (t0 := 8) X rfl rfl dX0_emptyRing_26 ?_
      refine zz_icmp_ge (tgt := 43) X dX0_emptyRing_27 (by decide) (fun hq => absurd hq (nI_ge hlt (by omega))) (fun hq => ?_)
      refine zz_aload_n X dX0_emptyRing_30 rfl rfl ?_
      refine pp_get (k0 := 8) (v := .ref (a 8)) X imX0 (by decide) (mc flX0_44) rfl dX0_emptyRing_31 ?_
      refine zz_iload_n X dX0_emptyRing_34 rfl rfl ?_
      refine zz_iconst (v := -1) X dX0_emptyRing_35 (by decide) ?_
      refine zz_iast (q0 := 9) (t0 := 8) (j := i) (ws' := wP h a ca N (up2 v 8 i (-1))) X rfl rfl rfl hlt hN dX0_emptyRing_36 rfl ?_
      refine zz_iinc (v := (nI (i + 1))) (lv' := [some (.ref h), some (.int (nI (i + 1)))]) X dX0_emptyRing_37 rfl (nI_1 _) (by decide) rfl ?_
      refine zz_goto (tgt := 21) X dX0_emptyRing_40 (by decide) ?_
      exact ih (i + 1) _ (by omega) hz
  have loop : ∀ (n i : Nat) (v : St), i + n = 15 → zl (fun i v => rClr v i) n i v = zl (fun i v => rClr v i) 15 0 u → zz_V p l e { frames := 1, cells := 0, slots := 0, locals := 21 } s m [.ref h].toArray below meth c 0 0 Q 2 D vwCl A (wP h a ca N v) [some (.ref h), some (.int (nI i))] 2 [] := by
    intro n
    induction n with
    | zero =>
      intro i v hi hz
      refine zz_iload_n X dX0_emptyRing_2 rfl rfl ?_
      refine zz_bipush (v := 15) X dX0_emptyRing_3 (by decide) ?_
      refine zz_icmp_ge (tgt := 19) X dX0_emptyRing_5 (by decide) (fun hq => ?_) (fun hq => absurd (nI_le (a := 15) (by omega) (by omega)) hq)
      refine zz_iconst (v := 0) X dX0_emptyRing_19 (by decide) ?_
      refine zz_istore_n (lv' := [some (.ref h), some (.int 0)]) X dX0_emptyRing_20 rfl (by decide) rfl ?_
      exact loop2 N 0 v (Nat.zero_add _) (by rw [rEmp, ← hz]; rfl)
    | succ n ih =>
      intro i v hi hz
      have hlt : i < 15 := by omega
      refine zz_iload_n X dX0_emptyRing_2 rfl rfl ?_
      refine zz_bipush (v := 15) X dX0_emptyRing_3 (by decide) ?_
      refine zz_icmp_ge (tgt := 19) X dX0_emptyRing_5 (by decide) (fun hq => absurd hq (nI_ge (b := 15) hlt (by decide))) (fun hq => ?_)
      refine zz_aload_n X dX0_emptyRing_8 rfl rfl ?_
      refine zz_iload_n X dX0_emptyRing_9 rfl rfl ?_
      refine pp_callv (rest := []) X (c_clearPlace hN v i hlt) (cwV 1 X.1.2.2.2.2 (gw lkX0_102 imX0_clearPlace seX0_clearPlace itX0 cdX0_clearPlace) rfl rfl rfl hdX0_clearPlace ⟨Nat.le_of_ble_eq_true rfl, Nat.le_of_ble_eq_true rfl⟩) rfl rfl (Nat.le_of_ble_eq_true rfl) dX0_emptyRing_10 ⟨Nat.zero_le _, Nat.zero_le _⟩ ?_
      refine zz_iinc (v := (nI (i + 1))) (lv' := [some (.ref h), some (.int (nI (i + 1)))]) X dX0_emptyRing_13 rfl (nI_1 _) (by decide) rfl ?_
      refine zz_goto (tgt := 2) X dX0_emptyRing_16 (by decide) ?_
      exact ih (i + 1) _ (by omega) hz
  exact loop 15 0 u rfl rfl
set_option maxHeartbeats 4000000 in
set_option maxRecDepth 100000 in
theorem c_handOnChildren {l : Launch} {D : va_G} {h : Nat} {a : Nat → Nat} {ca : Nat → ClassId} {N : Nat} (hN : N < 2 ^ 31) (u : St) (x : Int32) : cP l D h a ca N yX0_handOnChildren wsX0_handOnChildren { frames := 2, cells := 0, slots := 0, locals := 44 } [.int x] u none (rHnd u x) := by
  refine zz_C.of (bytes := cX0_handOnChildren) (maxL := 3) (ret := none) (lv0 := [some (.ref h), some (.int x), none]) (by decide) rfl (Nat.le_of_ble_eq_true rfl) rfl rfl ?_
  intro p e s m below meth c A Q X Ei Ev
  refine zz_iconst (v := 0) X dX0_handOnChildren_0 (by decide) ?_
  refine zz_istore_n (lv' := [some (.ref h), some (.int x), some (.int 0)]) X dX0_handOnChildren_1 rfl (by decide) rfl ?_
  have loop : ∀ (n i : Nat) (v : St), i + n = 15 → zl (rHnd1 x) n i v = rHnd u x → zz_V p l e { frames := 2, cells := 0, slots := 0, locals := 44 } s m [.ref h, .int x].toArray below meth c 0 0 Q 3 D vwCl A (wP h a ca N v) [some (.ref h), some (.int x), some (.int (nI i))] 2 [] := by
    intro n
    induction n with
    | zero =>
      intro i v hi hz
      refine zz_iload_n X dX0_handOnChildren_2 rfl rfl ?_
      refine zz_bipush (v := 15) X dX0_handOnChildren_3 (by decide) ?_
      refine zz_icmp_ge (tgt := 45) X dX0_handOnChildren_5 (by decide) (fun hq => ?_) (fun hq => absurd (nI_le (a := 15) (by omega) (by omega)) hq)
      exact Ev _ _ _ rfl dX0_handOnChildren_45 rfl (by rw [← hz]; rfl)
    | succ n ih =>
      intro i v hi hz
      have hlt : i < 15 := by omega
      refine zz_iload_n X dX0_handOnChildren_2 rfl rfl ?_
      refine zz_bipush (v := 15) X dX0_handOnChildren_3 (by decide) ?_
      refine zz_icmp_ge (tgt := 45) X dX0_handOnChildren_5 (by decide) (fun hq => absurd hq (nI_ge (b := 15) hlt (by decide))) (fun hq => ?_)
      refine zz_aload_n X dX0_handOnChildren_8 rfl rfl ?_
      refine zz_iload_n X dX0_handOnChildren_9 rfl rfl ?_
      refine zz_iload_n X dX0_handOnChildren_10 rfl rfl ?_
      refine pp_calli (rest := []) X (c_isChild hN v i hlt x) (cwV 2 X.1.2.2.2.2 (gw lkX0_124 imX0_isChild seX0_isChild itX0 cdX0_isChild) rfl rfl rfl hdX0_isChild ⟨Nat.le_of_ble_eq_true rfl, Nat.le_of_ble_eq_true rfl⟩) rfl rfl (Nat.le_of_ble_eq_true rfl) dX0_handOnChildren_11 ⟨Nat.zero_le _, Nat.zero_le _⟩ ?_
      refine zz_if_eq (tgt := 39) X dX0_handOnChildren_14 (by decide) (fun h1 => ?_) (fun h1 => ?_)
      · refine zz_iinc (v := (nI (i + 1))) (lv' := [some (.ref h), some (.int x), some (.int (nI (i + 1)))]) X dX0_handOnChildren_39 rfl (nI_1 _) (by decide) rfl ?_
        refine zz_goto (tgt := 2) X dX0_handOnChildren_42 (by decide) ?_
        exact ih (i + 1) _ (by omega) (by rw [← hz, zl, rHnd1, if_pos h1])
      · refine zz_aload_n X dX0_handOnChildren_17 rfl rfl ?_
        refine pp_get (k0 := 2) (v := .ref (a 2)) X imX0 (by decide) (mc flX0_25) rfl dX0_handOnChildren_18 ?_
        refine zz_iload_n X dX0_handOnChildren_21 rfl rfl ?_
        refine zz_iconst (v := 1) X dX0_handOnChildren_22 (by decide) ?_
        refine zz_iast (q0 := 3) (t0 := 2) (j := i) (ws' := wP h a ca N (up2 v 2 i 1)) X rfl rfl rfl hlt (by decide) dX0_handOnChildren_23 rfl ?_
        refine zz_aload_n X dX0_handOnChildren_24 rfl rfl ?_
        refine pp_get (k0 := 1) (v := .ref (a 1)) X imX0 (by decide) (mc flX0_22) rfl dX0_handOnChildren_25 ?_
        refine zz_iload_n X dX0_handOnChildren_28 rfl rfl ?_
        refine zz_iald (q0 := 2) (t0 := 1) (j := i) X rfl rfl rfl hlt (by decide) dX0_handOnChildren_29 ?_
        refine zz_iconst (v := 4) X dX0_handOnChildren_30 (by decide) ?_
        refine zz_icmp_ne (tgt := 39) X dX0_handOnChildren_31 (by decide) (fun h2 => ?_) (fun h2 => ?_)
        · refine zz_iinc (v := (nI (i + 1))) (lv' := [some (.ref h), some (.int x), some (.int (nI (i + 1)))]) X dX0_handOnChildren_39 rfl (nI_1 _) (by decide) rfl ?_
          refine zz_goto (tgt := 2) X dX0_handOnChildren_42 (by decide) ?_
          exact ih (i + 1) _ (by omega) (by rw [← hz, zl, rHnd1, if_neg h1, if_neg h2])
        · refine zz_aload_n X dX0_handOnChildren_34 rfl rfl ?_
          refine zz_iconst (v := 1) X dX0_handOnChildren_35 (by decide) ?_
          refine pp_callv (rest := []) X (c_tellOfZombie hN (up2 v 2 i 1) 1) (cwV 1 X.1.2.2.2.2 (gw lkX0_93 imX0_tellOfZombie seX0_tellOfZombie itX0 cdX0_tellOfZombie) rfl rfl rfl hdX0_tellOfZombie ⟨Nat.le_of_ble_eq_true rfl, Nat.le_of_ble_eq_true rfl⟩) rfl rfl (Nat.le_of_ble_eq_true rfl) dX0_handOnChildren_36 ⟨Nat.zero_le _, Nat.zero_le _⟩ ?_
          refine zz_iinc (v := (nI (i + 1))) (lv' := [some (.ref h), some (.int x), some (.int (nI (i + 1)))]) X dX0_handOnChildren_39 rfl (nI_1 _) (by decide) rfl ?_
          refine zz_goto (tgt := 2) X dX0_handOnChildren_42 (by decide) ?_
          exact ih (i + 1) _ (by omega) (by rw [← hz, zl, rHnd1, if_neg h1, if_pos h2])
  exact loop 15 0 u rfl rfl
