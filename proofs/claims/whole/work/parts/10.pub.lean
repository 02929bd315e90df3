set_option maxHeartbeats 4000000 in
set_option maxRecDepth 100000 in
theorem c_first {l : Launch} {D : va_G} {h : Nat} {a : Nat → Nat} {ca : Nat → ClassId} {N : Nat} (hN : N < 2 ^ 31) (u : St) : cP l D h a ca N yX0_first wsX0_first { frames := 1, cells := 0, slots := 0, locals := 23 } [] u (some (.int (rFst u).1)) (rFst u).2 := by
  refine zz_C.of (bytes := cX0_first) (maxL := 1) (ret := (some .boolean)) (lv0 := [some (.ref h)]) (by decide) rfl (Nat.le_of_ble_eq_true rfl) rfl rfl ?_
  intro p e s m below meth c A Q X Ei Ev
  refine zz_aload_n X dX0_first_0 rfl rfl ?_
  refine pp_calli (rest := []) X (c_isEmptyRing hN u) (cwV 0 X.1.2.2.2.2 (gw lkX0_60 imX0_isEmptyRing seX0_isEmptyRing itX0 cdX0_isEmptyRing) rfl rfl rfl hdX0_isEmptyRing ⟨Nat.le_of_ble_eq_true rfl, Nat.le_of_ble_eq_true rfl⟩) rfl rfl (Nat.le_of_ble_eq_true rfl) dX0_first_1 ⟨Nat.zero_le _, Nat.zero_le _⟩ ?_
  refine zz_if_ne (tgt := 9) X dX0_first_4 (by decide) (fun h1 => ?_) (fun h1 => ?_)
  · refine zz_aload_n X dX0_first_9 rfl rfl ?_
    refine zz_iconst (v := 0) X dX0_first_10 (by decide) ?_
    refine pp_put (k0 := 11) (u2 := (up2 u 9 2 0)) X imX0 (by decide) (mc flX0_54) (by decide) (by decide +kernel) dX0_first_11 rfl ?_
    refine zz_aload_n X dX0_first_14 rfl rfl ?_
    refine zz_bipush (v := 14) X dX0_first_15 (by decide) ?_
    refine pp_put (k0 := 9) (u2 := (up2 (up2 u 9 2 0) 9 0 14)) X imX0 (by decide) (mc flX0_47) (by decide) (by decide +kernel) dX0_first_17 rfl ?_
    refine zz_aload_n X dX0_first_20 rfl rfl ?_
    refine zz_iconst (v := 1) X dX0_first_21 (by decide) ?_
    refine pp_put (k0 := 10) (u2 := (up2 (up2 (up2 u 9 2 0) 9 0 14) 9 1 1)) X imX0 (by decide) (mc flX0_51) (by decide) (by decide +kernel) dX0_first_22 rfl ?_
    refine zz_aload_n X dX0_first_25 rfl rfl ?_
    refine zz_iconst (v := 0) X dX0_first_26 (by decide) ?_
    refine zz_iconst (v := 1) X dX0_first_27 (by decide) ?_
    refine zz_iconst (v := 0) X dX0_first_28 (by decide) ?_
    refine pp_callv (rest := []) X (c_settle hN (up2 (up2 (up2 u 9 2 0) 9 0 14) 9 1 1) 0 (by decide) 1 0) (cwV 3 X.1.2.2.2.2 (gw lkX0_64 imX0_settle seX0_settle itX0 cdX0_settle) rfl rfl rfl hdX0_settle ⟨Nat.le_of_ble_eq_true rfl, Nat.le_of_ble_eq_true rfl⟩) rfl rfl (Nat.le_of_ble_eq_true rfl) dX0_first_29 ⟨Nat.zero_le _, Nat.zero_le _⟩ ?_
    refine zz_iconst (v := 1) X dX0_first_32 (by decide) ?_
    have e1 : rFst u = (1, (rSet (up2 (up2 (up2 u 9 2 0) 9 0 14) 9 1 1) 0 1 0)) := by simp [rFst, h1]
    exact Ei _ _ _ _ _ rfl rfl dX0_first_33 (by rw [e1]) (by rw [e1])
  · refine zz_iconst (v := 0) X dX0_first_7 (by decide) ?_
    have e1 : rFst u = (0, u) := by simp [rFst, h1]
    exact Ei _ _ _ _ _ rfl rfl dX0_first_8 (by rw [e1]) (by rw [e1])
set_option maxHeartbeats 4000000 in
set_option maxRecDepth 100000 in
theorem c_pick {l : Launch} {D : va_G} {h : Nat} {a : Nat → Nat} {ca : Nat → ClassId} {N : Nat} (hN : N < 2 ^ 31) (u : St) (hI : rI N u) (x : Int32) : cP l D h a ca N yX0_pick wsX0_pick { frames := 1, cells := 0, slots := 0, locals := 22 } [.int x] u (some (.int (rPck N u x).1)) (rPck N u x).2 := by
  refine zz_C.of (bytes := cX0_pick) (maxL := 3) (ret := (some .int)) (lv0 := [some (.ref h), some (.int x), none]) (by decide) rfl (Nat.le_of_ble_eq_true rfl) rfl rfl ?_
  intro p e s m below meth c A Q X Ei Ev
  refine zz_aload_n X dX0_pick_0 rfl rfl ?_
  refine zz_iload_n X dX0_pick_1 rfl rfl ?_
  refine pp_calli (rest := []) X (c_isProcessor hN u x) (cwV 1 X.1.2.2.2.2 (gw lkX0_68 imX0_isProcessor seX0_isProcessor itX0 cdX0_isProcessor) rfl rfl rfl hdX0_isProcessor ⟨Nat.le_of_ble_eq_true rfl, Nat.le_of_ble_eq_true rfl⟩) rfl rfl (Nat.le_of_ble_eq_true rfl) dX0_pick_2 ⟨Nat.zero_le _, Nat.zero_le _⟩ ?_
  refine zz_if_ne (tgt := 10) X dX0_pick_5 (by decide) (fun h1 => ?_) (fun h1 => ?_)
  · obtain ⟨j, hj, rfl⟩ := rIsP_ix hN h1
    obtain ⟨t, ht, et⟩ := hI.2
    have cj := nI_clamp (show j < 2 ^ 31 by omega)
    have ct := nI_clamp (show t < 2 ^ 31 by omega)
    refine zz_aload_n X dX0_pick_10 rfl rfl ?_
    refine pp_get (k0 := 8) (v := .ref (a 8)) X imX0 (by decide) (mc flX0_44) rfl dX0_pick_11 ?_
    refine zz_iload_n X dX0_pick_14 rfl rfl ?_
    refine zz_iald (q0 := 9) (t0 := 8) (j := j) X rfl rfl rfl hj hN dX0_pick_15 ?_
    refine zz_iconst (v := -1) X dX0_pick_16 (by decide) ?_
    refine zz_icmp_eq (tgt := 27) X dX0_pick_17 (by decide) (fun h2 => ?_) (fun h2 => ?_)
    · refine zz_aload_n X dX0_pick_27 rfl rfl ?_
      refine pp_calli (rest := []) X (c_nextReady hN u t ht et) (cwV 0 X.1.2.2.2.2 (gw lkX0_72 imX0_nextReady seX0_nextReady itX0 cdX0_nextReady) rfl rfl rfl hdX0_nextReady ⟨Nat.le_of_ble_eq_true rfl, Nat.le_of_ble_eq_true rfl⟩) rfl rfl (Nat.le_of_ble_eq_true rfl) dX0_pick_28 ⟨Nat.zero_le _, Nat.zero_le _⟩ ?_
      refine zz_istore_n (lv' := [some (.ref h), some (.int (nI j)), some (.int (rNxt u t))]) X dX0_pick_31 rfl (by decide) rfl ?_
      refine zz_iload_n X dX0_pick_32 rfl rfl ?_
      refine zz_iconst (v := -1) X dX0_pick_33 (by decide) ?_
      refine zz_icmp_ne (tgt := 39) X dX0_pick_34 (by decide) (fun h3 => ?_) (fun h3 => ?_)
      · obtain ⟨i, hi, -, ei⟩ := zn_P_in h3
        have ei : rNxt u t = nI i := ei
        have hm := nI_m1 (show i < 2 ^ 31 by omega)
        have ci := nI_clamp (show i < 2 ^ 31 by omega)
        refine zz_lv (lv' := [some (.ref h), some (.int (nI j)), some (.int (nI i))]) (by rw [ei]) ?_
        refine zz_aload_n X dX0_pick_39 rfl rfl ?_
        refine pp_get (k0 := 1) (v := .ref (a 1)) X imX0 (by decide) (mc flX0_22) rfl dX0_pick_40 ?_
        refine zz_iload_n X dX0_pick_43 rfl rfl ?_
        refine zz_iconst (v := 2) X dX0_pick_44 (by decide) ?_
        refine zz_iast (q0 := 2) (t0 := 1) (j := i) (ws' := wP h a ca N (up2 u 1 i 2)) X rfl rfl rfl hi (by decide) dX0_pick_45 rfl ?_
        refine zz_aload_n X dX0_pick_46 rfl rfl ?_
        refine pp_get (k0 := 8) (v := .ref (a 8)) X imX0 (by decide) (mc flX0_44) rfl dX0_pick_47 ?_
        refine zz_iload_n X dX0_pick_50 rfl rfl ?_
        refine zz_iload_n X dX0_pick_51 rfl rfl ?_
        refine zz_iast (q0 := 9) (t0 := 8) (j := j) (ws' := wP h a ca N ((up2 (up2 u 1 i 2) 8 j (nI i)))) X rfl rfl rfl hj hN dX0_pick_52 rfl ?_
        refine zz_aload_n X dX0_pick_53 rfl rfl ?_
        refine zz_iload_n X dX0_pick_54 rfl rfl ?_
        refine pp_put (k0 := 9) (u2 := (up2 (up2 (up2 u 1 i 2) 8 j (nI i)) 9 0 (nI i))) X imX0 (by decide) (mc flX0_47) (by decide) (by decide +kernel) dX0_pick_55 rfl ?_
        refine zz_iload_n X dX0_pick_58 rfl rfl ?_
        have e1 : rPck N u (nI j) = (nI i, (up2 (up2 (up2 u 1 i 2) 8 j (nI i)) 9 0 (nI i))) := by simp [rPck, h1, cl, cj, h2, et, ct, ei, hm, ci]
        exact Ei _ _ _ _ _ rfl rfl dX0_pick_59 (by rw [e1]) (by rw [e1])
      · refine zz_iconst (v := -1) X dX0_pick_37 (by decide) ?_
        have e1 : rPck N u (nI j) = (-1, u) := by simp [rPck, h1, cl, cj, h2, et, ct, h3]
        exact Ei _ _ _ _ _ rfl rfl dX0_pick_38 (by rw [e1]) (by rw [e1])
    · refine zz_aload_n X dX0_pick_20 rfl rfl ?_
      refine pp_get (k0 := 8) (v := .ref (a 8)) X imX0 (by decide) (mc flX0_44) rfl dX0_pick_21 ?_
      refine zz_iload_n X dX0_pick_24 rfl rfl ?_
      refine zz_iald (q0 := 9) (t0 := 8) (j := j) X rfl rfl rfl hj hN dX0_pick_25 ?_
      have e1 : rPck N u (nI j) = (u 8 j, u) := by simp [rPck, h1, cl, cj, h2]
      exact Ei _ _ _ _ _ rfl rfl dX0_pick_26 (by rw [e1]) (by rw [e1])
  · refine zz_iconst (v := -1) X dX0_pick_8 (by decide) ?_
    have e1 : rPck N u x = (-1, u) := by simp [rPck, h1]
    exact Ei _ _ _ _ _ rfl rfl dX0_pick_9 (by rw [e1]) (by rw [e1])
set_option maxHeartbeats 4000000 in
set_option maxRecDepth 100000 in
theorem c_fork {l : Launch} {D : va_G} {h : Nat} {a : Nat → Nat} {ca : Nat → ClassId} {N : Nat} (hN : N < 2 ^ 31) (u : St) (hI : rI N u) (x : Int32) : cP l D h a ca N yX0_fork wsX0_fork { frames := 2, cells := 0, slots := 0, locals := 42 } [.int x] u (some (.int (rFrk N u x).1)) (rFrk N u x).2 := by
  refine zz_C.of (bytes := cX0_fork) (maxL := 4) (ret := (some .int)) (lv0 := [some (.ref h), some (.int x), none, none]) (by decide) rfl (Nat.le_of_ble_eq_true rfl) rfl rfl ?_
  intro p e s m below meth c A Q X Ei Ev
  refine zz_aload_n X dX0_fork_0 rfl rfl ?_
  refine zz_iload_n X dX0_fork_1 rfl rfl ?_
  refine pp_calli (rest := []) X (c_placeOn hN u x) (cwV 1 X.1.2.2.2.2 (gw lkX0_76 imX0_placeOn seX0_placeOn itX0 cdX0_placeOn) rfl rfl rfl hdX0_placeOn ⟨Nat.le_of_ble_eq_true rfl, Nat.le_of_ble_eq_true rfl⟩) rfl rfl (Nat.le_of_ble_eq_true rfl) dX0_fork_2 ⟨Nat.zero_le _, Nat.zero_le _⟩ ?_
  refine zz_istore_n (lv' := [some (.ref h), some (.int x), some (.int (rOn N u x)), none]) X dX0_fork_5 rfl (by decide) rfl ?_
  refine zz_iload_n X dX0_fork_6 rfl rfl ?_
  refine zz_iconst (v := -1) X dX0_fork_7 (by decide) ?_
  refine zz_icmp_ne (tgt := 13) X dX0_fork_8 (by decide) (fun h1 => ?_) (fun h1 => ?_)
  · obtain ⟨j, i, hj, hi, rfl, ei⟩ := rOn_ix hN hI h1
    have hm := nI_m1 (show i < 2 ^ 31 by omega)
    have ci := nI_clamp (show i < 2 ^ 31 by omega)
    have cj := nI_clamp (show j < 2 ^ 31 by omega)
    refine zz_lv (lv' := [some (.ref h), some (.int (nI j)), some (.int (nI i)), none]) (by rw [ei]) ?_
    refine zz_aload_n X dX0_fork_13 rfl rfl ?_
    refine pp_calli (rest := []) X (c_firstFree hN u) (cwV 0 X.1.2.2.2.2 (gw lkX0_80 imX0_firstFree seX0_firstFree itX0 cdX0_firstFree) rfl rfl rfl hdX0_firstFree ⟨Nat.le_of_ble_eq_true rfl, Nat.le_of_ble_eq_true rfl⟩) rfl rfl (Nat.le_of_ble_eq_true rfl) dX0_fork_14 ⟨Nat.zero_le _, Nat.zero_le _⟩ ?_
    refine zz_istore_n (lv' := [some (.ref h), some (.int (nI j)), some (.int (nI i)), some (.int (rFre u))]) X dX0_fork_17 rfl (by decide) rfl ?_
    refine zz_iload_n X dX0_fork_18 rfl rfl ?_
    refine zz_iconst (v := -1) X dX0_fork_19 (by decide) ?_
    refine zz_icmp_ne (tgt := 25) X dX0_fork_20 (by decide) (fun h2 => ?_) (fun h2 => ?_)
    · obtain ⟨k, hk, -, ek⟩ := zs_P_in h2
      have ek : rFre u = nI k := ek
      have hm2 := nI_m1 (show k < 2 ^ 31 by omega)
      have ck := nI_clamp (show k < 2 ^ 31 by omega)
      refine zz_lv (lv' := [some (.ref h), some (.int (nI j)), some (.int (nI i)), some (.int (nI k))]) (by rw [ek]) ?_
      refine zz_aload_n X dX0_fork_25 rfl rfl ?_
      refine zz_dup X dX0_fork_26 rfl ?_
      refine pp_get (k0 := 10) (v := .int (u 9 1)) X imX0 (by decide) (mc flX0_51) rfl dX0_fork_27 ?_
      refine zz_iconst (v := 1) X dX0_fork_30 (by decide) ?_
      refine zz_iadd X dX0_fork_31 ?_
      refine pp_put (k0 := 10) (u2 := (up2 u 9 1 ((u 9 1) + 1))) X imX0 (by decide) (mc flX0_51) (by decide) (by decide +kernel) dX0_fork_32 rfl ?_
      refine zz_aload_n X dX0_fork_35 rfl rfl ?_
      refine zz_iload_n X dX0_fork_36 rfl rfl ?_
      refine zz_aload_n X dX0_fork_37 rfl rfl ?_
      refine pp_get (k0 := 10) (v := .int ((up2 u 9 1 ((u 9 1) + 1)) 9 1)) X imX0 (by decide) (mc flX0_51) rfl dX0_fork_38 ?_
      refine zz_aload_n X dX0_fork_41 rfl rfl ?_
      refine pp_get (k0 := 0) (v := .ref (a 0)) X imX0 (by decide) (mc flX0_18) rfl dX0_fork_42 ?_
      refine zz_iload_n X dX0_fork_45 rfl rfl ?_
      refine zz_iald (q0 := 1) (t0 := 0) (j := i) X rfl rfl rfl hi (by decide) dX0_fork_46 ?_
      refine pp_callv (rest := []) X (c_settle hN (up2 u 9 1 ((u 9 1) + 1)) k hk ((up2 u 9 1 ((u 9 1) + 1)) 9 1) ((up2 u 9 1 ((u 9 1) + 1)) 0 i)) (cwV 3 X.1.2.2.2.2 (gw lkX0_64 imX0_settle seX0_settle itX0 cdX0_settle) rfl rfl rfl hdX0_settle ⟨Nat.le_of_ble_eq_true rfl, Nat.le_of_ble_eq_true rfl⟩) rfl rfl (Nat.le_of_ble_eq_true rfl) dX0_fork_47 ⟨Nat.zero_le _, Nat.zero_le _⟩ ?_
      refine zz_iload_n X dX0_fork_50 rfl rfl ?_
      have e1 : rFrk N u (nI j) = (nI k, (rSet (up2 u 9 1 ((u 9 1) + 1)) k ((up2 u 9 1 ((u 9 1) + 1)) 9 1) ((up2 u 9 1 ((u 9 1) + 1)) 0 i))) := by simp [rFrk, ei, hm, ek, hm2, cl, ci, ck]
      exact Ei _ _ _ _ _ rfl rfl dX0_fork_51 (by rw [e1]) (by rw [e1])
    · refine zz_iconst (v := -1) X dX0_fork_23 (by decide) ?_
      have e1 : rFrk N u (nI j) = (-1, u) := by simp [rFrk, ei, hm, h2]
      exact Ei _ _ _ _ _ rfl rfl dX0_fork_24 (by rw [e1]) (by rw [e1])
  · refine zz_iconst (v := -1) X dX0_fork_11 (by decide) ?_
    have e1 : rFrk N u x = (-1, u) := by simp [rFrk, h1]
    exact Ei _ _ _ _ _ rfl rfl dX0_fork_12 (by rw [e1]) (by rw [e1])
set_option maxHeartbeats 4000000 in
set_option maxRecDepth 100000 in
theorem c_exit {l : Launch} {D : va_G} {h : Nat} {a : Nat → Nat} {ca : Nat → ClassId} {N : Nat} (hN : N < 2 ^ 31) (u : St) (hI : rI N u) (x y : Int32) : cP l D h a ca N yX0_exit wsX0_exit { frames := 3, cells := 0, slots := 0, locals := 66 } [.int x, .int y] u (some (.int (rExt N u x y).1)) (rExt N u x y).2 := by
  refine zz_C.of (bytes := cX0_exit) (maxL := 4) (ret := (some .int)) (lv0 := [some (.ref h), some (.int x), some (.int y), none]) (by decide) rfl (Nat.le_of_ble_eq_true rfl) rfl rfl ?_
  intro p e s m below meth c A Q X Ei Ev
  refine zz_aload_n X dX0_exit_0 rfl rfl ?_
  refine zz_iload_n X dX0_exit_1 rfl rfl ?_
  refine pp_calli (rest := []) X (c_placeOn hN u x) (cwV 1 X.1.2.2.2.2 (gw lkX0_76 imX0_placeOn seX0_placeOn itX0 cdX0_placeOn) rfl rfl rfl hdX0_placeOn ⟨Nat.le_of_ble_eq_true rfl, Nat.le_of_ble_eq_true rfl⟩) rfl rfl (Nat.le_of_ble_eq_true rfl) dX0_exit_2 ⟨Nat.zero_le _, Nat.zero_le _⟩ ?_
  refine zz_istore_n (lv' := [some (.ref h), some (.int x), some (.int y), some (.int (rOn N u x))]) X dX0_exit_5 rfl (by decide) rfl ?_
  refine zz_iload_n X dX0_exit_6 rfl rfl ?_
  refine zz_iconst (v := -1) X dX0_exit_7 (by decide) ?_
  refine zz_icmp_ne (tgt := 13) X dX0_exit_8 (by decide) (fun h1 => ?_) (fun h1 => ?_)
  · obtain ⟨j, i, hj, hi, rfl, ei⟩ := rOn_ix hN hI h1
    have hm := nI_m1 (show i < 2 ^ 31 by omega)
    have ci := nI_clamp (show i < 2 ^ 31 by omega)
    have cj := nI_clamp (show j < 2 ^ 31 by omega)
    refine zz_lv (lv' := [some (.ref h), some (.int (nI j)), some (.int y), some (.int (nI i))]) (by rw [ei]) ?_
    refine zz_iload_n X dX0_exit_13 rfl rfl ?_
    refine zz_if_ne (tgt := 28) X dX0_exit_14 (by decide) (fun h2 => ?_) (fun h2 => ?_)
    · refine zz_aload_n X dX0_exit_28 rfl rfl ?_
      refine zz_iload_n X dX0_exit_29 rfl rfl ?_
      refine zz_iload_n X dX0_exit_30 rfl rfl ?_
      refine zz_iconst (v := 4) X dX0_exit_31 (by decide) ?_
      refine pp_callv (rest := []) X (c_takeOff hN u j i hj hi 4) (cwV 3 X.1.2.2.2.2 (gw lkX0_86 imX0_takeOff seX0_takeOff itX0 cdX0_takeOff) rfl rfl rfl hdX0_takeOff ⟨Nat.le_of_ble_eq_true rfl, Nat.le_of_ble_eq_true rfl⟩) rfl rfl (Nat.le_of_ble_eq_true rfl) dX0_exit_32 ⟨Nat.zero_le _, Nat.zero_le _⟩ ?_
      refine zz_aload_n X dX0_exit_35 rfl rfl ?_
      refine pp_get (k0 := 4) (v := .ref (a 4)) X imX0 (by decide) (mc flX0_32) rfl dX0_exit_36 ?_
      refine zz_iload_n X dX0_exit_39 rfl rfl ?_
      refine zz_iload_n X dX0_exit_40 rfl rfl ?_
      refine zz_iast (q0 := 5) (t0 := 4) (j := i) (ws' := wP h a ca N (up2 (rOff u j i 4) 4 i y)) X rfl rfl rfl hi (by decide) dX0_exit_41 rfl ?_
      refine zz_aload_n X dX0_exit_42 rfl rfl ?_
      refine zz_aload_n X dX0_exit_43 rfl rfl ?_
      refine pp_get (k0 := 0) (v := .ref (a 0)) X imX0 (by decide) (mc flX0_18) rfl dX0_exit_44 ?_
      refine zz_iload_n X dX0_exit_47 rfl rfl ?_
      refine zz_iald (q0 := 1) (t0 := 0) (j := i) X rfl rfl rfl hi (by decide) dX0_exit_48 ?_
      refine pp_callv (rest := []) X (c_handOnChildren hN (up2 (rOff u j i 4) 4 i y) ((up2 (rOff u j i 4) 4 i y) 0 i)) (cwV 1 X.1.2.2.2.2 (gw lkX0_89 imX0_handOnChildren seX0_handOnChildren itX0 cdX0_handOnChildren) rfl rfl rfl hdX0_handOnChildren ⟨Nat.le_of_ble_eq_true rfl, Nat.le_of_ble_eq_true rfl⟩) rfl rfl (Nat.le_of_ble_eq_true rfl) dX0_exit_49 ⟨Nat.zero_le _, Nat.zero_le _⟩ ?_
      refine zz_aload_n X dX0_exit_52 rfl rfl ?_
      refine zz_aload_n X dX0_exit_53 rfl rfl ?_
      refine pp_get (k0 := 2) (v := .ref (a 2)) X imX0 (by decide) (mc flX0_25) rfl dX0_exit_54 ?_
      refine zz_iload_n X dX0_exit_57 rfl rfl ?_
      refine zz_iald (q0 := 3) (t0 := 2) (j := i) X rfl rfl rfl hi (by decide) dX0_exit_58 ?_
      refine pp_callv (rest := []) X (c_tellOfZombie hN (rHnd (up2 (rOff u j i 4) 4 i y) ((up2 (rOff u j i 4) 4 i y) 0 i)) ((rHnd (up2 (rOff u j i 4) 4 i y) ((up2 (rOff u j i 4) 4 i y) 0 i)) 2 i)) (cwV 1 X.1.2.2.2.2 (gw lkX0_93 imX0_tellOfZombie seX0_tellOfZombie itX0 cdX0_tellOfZombie) rfl rfl rfl hdX0_tellOfZombie ⟨Nat.le_of_ble_eq_true rfl, Nat.le_of_ble_eq_true rfl⟩) rfl rfl (Nat.le_of_ble_eq_true rfl) dX0_exit_59 ⟨Nat.zero_le _, Nat.zero_le _⟩ ?_
      refine zz_iload_n X dX0_exit_62 rfl rfl ?_
      have e1 : rExt N u (nI j) y = (nI i, (rTel (rHnd (up2 (rOff u j i 4) 4 i y) ((up2 (rOff u j i 4) 4 i y) 0 i)) ((rHnd (up2 (rOff u j i 4) 4 i y) ((up2 (rOff u j i 4) 4 i y) 0 i)) 2 i))) := by unfold rExt; rw [ei, if_neg hm, if_neg h2]; simp only [cl, ci, cj]; rfl
      exact Ei _ _ _ _ _ rfl rfl dX0_exit_63 (by rw [e1]) (by rw [e1])
    · refine zz_aload_n X dX0_exit_17 rfl rfl ?_
      refine zz_iload_n X dX0_exit_18 rfl rfl ?_
      refine pp_put (k0 := 12) (u2 := (up2 u 9 3 y)) X imX0 (by decide) (mc flX0_57) (by decide) (by decide +kernel) dX0_exit_19 rfl ?_
      refine zz_aload_n X dX0_exit_22 rfl rfl ?_
      refine pp_callv (rest := []) X (c_emptyRing hN (up2 u 9 3 y)) (cwV 0 X.1.2.2.2.2 (gw lkX0_83 imX0_emptyRing seX0_emptyRing itX0 cdX0_emptyRing) rfl rfl rfl hdX0_emptyRing ⟨Nat.le_of_ble_eq_true rfl, Nat.le_of_ble_eq_true rfl⟩) rfl rfl (Nat.le_of_ble_eq_true rfl) dX0_exit_23 ⟨Nat.zero_le _, Nat.zero_le _⟩ ?_
      refine zz_iload_n X dX0_exit_26 rfl rfl ?_
      have e1 : rExt N u (nI j) y = (nI i, (rEmp N (up2 u 9 3 y))) := by unfold rExt; rw [ei, if_neg hm, if_pos h2]
      exact Ei _ _ _ _ _ rfl rfl dX0_exit_27 (by rw [e1]) (by rw [e1])
  · refine zz_iconst (v := -1) X dX0_exit_11 (by decide) ?_
    have e1 : rExt N u x y = (-1, u) := by simp [rExt, h1]
    exact Ei _ _ _ _ _ rfl rfl dX0_exit_12 (by rw [e1]) (by rw [e1])
set_option maxHeartbeats 4000000 in
set_option maxRecDepth 100000 in
theorem c_await {l : Launch} {D : va_G} {h : Nat} {a : Nat → Nat} {ca : Nat → ClassId} {N : Nat} (hN : N < 2 ^ 31) (u : St) (hI : rI N u) (x : Int32) : cP l D h a ca N yX0_await wsX0_await { frames := 2, cells := 0, slots := 0, locals := 44 } [.int x] u (some (.int (rAwt N u x).1)) (rAwt N u x).2 := by
  refine zz_C.of (bytes := cX0_await) (maxL := 5) (ret := (some .int)) (lv0 := [some (.ref h), some (.int x), none, none, none]) (by decide) rfl (Nat.le_of_ble_eq_true rfl) rfl rfl ?_
  intro p e s m below meth c A Q X Ei Ev
  refine zz_aload_n X dX0_await_0 rfl rfl ?_
  refine zz_iload_n X dX0_await_1 rfl rfl ?_
  refine pp_calli (rest := []) X (c_placeOn hN u x) (cwV 1 X.1.2.2.2.2 (gw lkX0_76 imX0_placeOn seX0_placeOn itX0 cdX0_placeOn) rfl rfl rfl hdX0_placeOn ⟨Nat.le_of_ble_eq_true rfl, Nat.le_of_ble_eq_true rfl⟩) rfl rfl (Nat.le_of_ble_eq_true rfl) dX0_await_2 ⟨Nat.zero_le _, Nat.zero_le _⟩ ?_
  refine zz_istore_n (lv' := [some (.ref h), some (.int x), some (.int (rOn N u x)), none, none]) X dX0_await_5 rfl (by decide) rfl ?_
  refine zz_iload_n X dX0_await_6 rfl rfl ?_
  refine zz_iconst (v := -1) X dX0_await_7 (by decide) ?_
  refine zz_icmp_eq (tgt := 24) X dX0_await_8 (by decide) (fun h1 => ?_) (fun h1 => ?_)
  · refine zz_iconst (v := -1) X dX0_await_24 (by decide) ?_
    have e1 : rAwt N u x = (-1, u) := by simp [rAwt, h1]
    exact Ei _ _ _ _ _ rfl rfl dX0_await_25 (by rw [e1]) (by rw [e1])
  · obtain ⟨j, i, hj, hi, rfl, ei⟩ := rOn_ix hN hI h1
    have hm := nI_m1 (show i < 2 ^ 31 by omega)
    have ci := nI_clamp (show i < 2 ^ 31 by omega)
    have cj := nI_clamp (show j < 2 ^ 31 by omega)
    refine zz_lv (lv' := [some (.ref h), some (.int (nI j)), some (.int (nI i)), none, none]) (by rw [ei]) ?_
    refine zz_aload_n X dX0_await_11 rfl rfl ?_
    refine zz_aload_n X dX0_await_12 rfl rfl ?_
    refine pp_get (k0 := 0) (v := .ref (a 0)) X imX0 (by decide) (mc flX0_18) rfl dX0_await_13 ?_
    refine zz_iload_n X dX0_await_16 rfl rfl ?_
    refine zz_iald (q0 := 1) (t0 := 0) (j := i) X rfl rfl rfl hi (by decide) dX0_await_17 ?_
    refine pp_calli (rest := []) X (c_hasChild hN u (u 0 i)) (cwV 1 X.1.2.2.2.2 (gw lkX0_96 imX0_hasChild seX0_hasChild itX0 cdX0_hasChild) rfl rfl rfl hdX0_hasChild ⟨Nat.le_of_ble_eq_true rfl, Nat.le_of_ble_eq_true rfl⟩) rfl rfl (Nat.le_of_ble_eq_true rfl) dX0_await_18 ⟨Nat.zero_le _, Nat.zero_le _⟩ ?_
    refine zz_if_ne (tgt := 26) X dX0_await_21 (by decide) (fun h2 => ?_) (fun h2 => ?_)
    · refine zz_aload_n X dX0_await_26 rfl rfl ?_
      refine zz_aload_n X dX0_await_27 rfl rfl ?_
      refine pp_get (k0 := 0) (v := .ref (a 0)) X imX0 (by decide) (mc flX0_18) rfl dX0_await_28 ?_
      refine zz_iload_n X dX0_await_31 rfl rfl ?_
      refine zz_iald (q0 := 1) (t0 := 0) (j := i) X rfl rfl rfl hi (by decide) dX0_await_32 ?_
      refine pp_calli (rest := []) X (c_firstZombieChild hN u (u 0 i)) (cwV 1 X.1.2.2.2.2 (gw lkX0_99 imX0_firstZombieChild seX0_firstZombieChild itX0 cdX0_firstZombieChild) rfl rfl rfl hdX0_firstZombieChild ⟨Nat.le_of_ble_eq_true rfl, Nat.le_of_ble_eq_true rfl⟩) rfl rfl (Nat.le_of_ble_eq_true rfl) dX0_await_33 ⟨Nat.zero_le _, Nat.zero_le _⟩ ?_
      refine zz_istore_n (lv' := [some (.ref h), some (.int (nI j)), some (.int (nI i)), some (.int (rFzc u (u 0 i))), none]) X dX0_await_36 rfl (by decide) rfl ?_
      refine zz_iload_n X dX0_await_37 rfl rfl ?_
      refine zz_iconst (v := -1) X dX0_await_38 (by decide) ?_
      refine zz_icmp_ne (tgt := 58) X dX0_await_39 (by decide) (fun h3 => ?_) (fun h3 => ?_)
      · obtain ⟨k, hk, -, ek⟩ := zs_P_in h3
        have ek : rFzc u (u 0 i) = nI k := ek
        have hm2 := nI_m1 (show k < 2 ^ 31 by omega)
        have ck := nI_clamp (show k < 2 ^ 31 by omega)
        refine zz_lv (lv' := [some (.ref h), some (.int (nI j)), some (.int (nI i)), some (.int (nI k)), none]) (by rw [ek]) ?_
        refine zz_aload_n X dX0_await_58 rfl rfl ?_
        refine pp_get (k0 := 0) (v := .ref (a 0)) X imX0 (by decide) (mc flX0_18) rfl dX0_await_59 ?_
        refine zz_iload_n X dX0_await_62 rfl rfl ?_
        refine zz_iald (q0 := 1) (t0 := 0) (j := k) X rfl rfl rfl hk (by decide) dX0_await_63 ?_
        refine zz_istore (lv' := [some (.ref h), some (.int (nI j)), some (.int (nI i)), some (.int (nI k)), some (.int (u 0 k))]) X dX0_await_64 (by decide) rfl ?_
        refine zz_aload_n X dX0_await_66 rfl rfl ?_
        refine zz_aload_n X dX0_await_67 rfl rfl ?_
        refine pp_get (k0 := 4) (v := .ref (a 4)) X imX0 (by decide) (mc flX0_32) rfl dX0_await_68 ?_
        refine zz_iload_n X dX0_await_71 rfl rfl ?_
        refine zz_iald (q0 := 5) (t0 := 4) (j := k) X rfl rfl rfl hk (by decide) dX0_await_72 ?_
        refine pp_put (k0 := 12) (u2 := (up2 u 9 3 (u 4 k))) X imX0 (by decide) (mc flX0_57) (by decide) (by decide +kernel) dX0_await_73 rfl ?_
        refine zz_aload_n X dX0_await_76 rfl rfl ?_
        refine zz_iload_n X dX0_await_77 rfl rfl ?_
        refine pp_callv (rest := []) X (c_clearPlace hN (up2 u 9 3 (u 4 k)) k hk) (cwV 1 X.1.2.2.2.2 (gw lkX0_102 imX0_clearPlace seX0_clearPlace itX0 cdX0_clearPlace) rfl rfl rfl hdX0_clearPlace ⟨Nat.le_of_ble_eq_true rfl, Nat.le_of_ble_eq_true rfl⟩) rfl rfl (Nat.le_of_ble_eq_true rfl) dX0_await_78 ⟨Nat.zero_le _, Nat.zero_le _⟩ ?_
        refine zz_iload X dX0_await_81 rfl ?_
        have e1 : rAwt N u (nI j) = (u 0 k, (rClr (up2 u 9 3 (u 4 k)) k)) := by simp [rAwt, ei, hm, cl, ci, h2, ek, hm2, ck]
        exact Ei _ _ _ _ _ rfl rfl dX0_await_83 (by rw [e1]) (by rw [e1])
      · refine zz_aload_n X dX0_await_42 rfl rfl ?_
        refine zz_iload_n X dX0_await_43 rfl rfl ?_
        refine zz_iload_n X dX0_await_44 rfl rfl ?_
        refine zz_iconst (v := 3) X dX0_await_45 (by decide) ?_
        refine pp_callv (rest := []) X (c_takeOff hN u j i hj hi 3) (cwV 3 X.1.2.2.2.2 (gw lkX0_86 imX0_takeOff seX0_takeOff itX0 cdX0_takeOff) rfl rfl rfl hdX0_takeOff ⟨Nat.le_of_ble_eq_true rfl, Nat.le_of_ble_eq_true rfl⟩) rfl rfl (Nat.le_of_ble_eq_true rfl) dX0_await_46 ⟨Nat.zero_le _, Nat.zero_le _⟩ ?_
        refine zz_aload_n X dX0_await_49 rfl rfl ?_
        refine pp_get (k0 := 5) (v := .ref (a 5)) X imX0 (by decide) (mc flX0_35) rfl dX0_await_50 ?_
        refine zz_iload_n X dX0_await_53 rfl rfl ?_
        refine zz_iconst (v := 2) X dX0_await_54 (by decide) ?_
        refine zz_iast (q0 := 6) (t0 := 5) (j := i) (ws' := wP h a ca N (up2 (rOff u j i 3) 5 i 2)) X rfl rfl rfl hi (by decide) dX0_await_55 rfl ?_
        refine zz_iconst (v := 0) X dX0_await_56 (by decide) ?_
        have e1 : rAwt N u (nI j) = (0, (up2 (rOff u j i 3) 5 i 2)) := by simp [rAwt, ei, hm, cl, ci, cj, h2, h3]
        exact Ei _ _ _ _ _ rfl rfl dX0_await_57 (by rw [e1]) (by rw [e1])
    · refine zz_iconst (v := -1) X dX0_await_24 (by decide) ?_
      have e1 : rAwt N u (nI j) = (-1, u) := by simp [rAwt, ei, hm, cl, ci, h2]
      exact Ei _ _ _ _ _ rfl rfl dX0_await_25 (by rw [e1]) (by rw [e1])
set_option maxHeartbeats 4000000 in
set_option maxRecDepth 100000 in
theorem c_status {l : Launch} {D : va_G} {h : Nat} {a : Nat → Nat} {ca : Nat → ClassId} {N : Nat} (hN : N < 2 ^ 31) (u : St) : cP l D h a ca N yX0_status wsX0_status { frames := 0, cells := 0, slots := 0, locals := 0 } [] u (some (.int (u 9 3))) u := by
  refine zz_C.of (bytes := cX0_status) (maxL := 1) (ret := (some .int)) (lv0 := [some (.ref h)]) (by decide) rfl (Nat.le_of_ble_eq_true rfl) rfl rfl ?_
  intro p e s m below meth c A Q X Ei Ev
  refine zz_aload_n X dX0_status_0 rfl rfl ?_
  refine pp_get (k0 := 12) (v := .int (u 9 3)) X imX0 (by decide) (mc flX0_57) rfl dX0_status_1 ?_
  exact Ei _ _ _ _ _ rfl rfl dX0_status_4 rfl rfl
set_option maxHeartbeats 4000000 in
set_option maxRecDepth 100000 in
theorem c_block {l : Launch} {D : va_G} {h : Nat} {a : Nat → Nat} {ca : Nat → ClassId} {N : Nat} (hN : N < 2 ^ 31) (u : St) (hI : rI N u) (x y : Int32) : cP l D h a ca N yX0_block wsX0_block { frames := 2, cells := 0, slots := 0, locals := 42 } [.int x, .int y] u (some (.int (rBlo N u x y).1)) (rBlo N u x y).2 := by
  refine zz_C.of (bytes := cX0_block) (maxL := 4) (ret := (some .int)) (lv0 := [some (.ref h), some (.int x), some (.int y), none]) (by decide) rfl (Nat.le_of_ble_eq_true rfl) rfl rfl ?_
  intro p e s m below meth c A Q X Ei Ev
  refine zz_aload_n X dX0_block_0 rfl rfl ?_
  refine zz_iload_n X dX0_block_1 rfl rfl ?_
  refine pp_calli (rest := []) X (c_placeOn hN u x) (cwV 1 X.1.2.2.2.2 (gw lkX0_76 imX0_placeOn seX0_placeOn itX0 cdX0_placeOn) rfl rfl rfl hdX0_placeOn ⟨Nat.le_of_ble_eq_true rfl, Nat.le_of_ble_eq_true rfl⟩) rfl rfl (Nat.le_of_ble_eq_true rfl) dX0_block_2 ⟨Nat.zero_le _, Nat.zero_le _⟩ ?_
  refine zz_istore_n (lv' := [some (.ref h), some (.int x), some (.int y), some (.int (rOn N u x))]) X dX0_block_5 rfl (by decide) rfl ?_
  refine zz_iload_n X dX0_block_6 rfl rfl ?_
  refine zz_iconst (v := -1) X dX0_block_7 (by decide) ?_
  refine zz_icmp_ne (tgt := 13) X dX0_block_8 (by decide) (fun h1 => ?_) (fun h1 => ?_)
  · obtain ⟨j, i, hj, hi, rfl, ei⟩ := rOn_ix hN hI h1
    have hm := nI_m1 (show i < 2 ^ 31 by omega)
    have ci := nI_clamp (show i < 2 ^ 31 by omega)
    have cj := nI_clamp (show j < 2 ^ 31 by omega)
    refine zz_lv (lv' := [some (.ref h), some (.int (nI j)), some (.int y), some (.int (nI i))]) (by rw [ei]) ?_
    refine zz_aload_n X dX0_block_13 rfl rfl ?_
    refine zz_iload_n X dX0_block_14 rfl rfl ?_
    refine zz_iload_n X dX0_block_15 rfl rfl ?_
    refine zz_iconst (v := 3) X dX0_block_16 (by decide) ?_
    refine pp_callv (rest := []) X (c_takeOff hN u j i hj hi 3) (cwV 3 X.1.2.2.2.2 (gw lkX0_86 imX0_takeOff seX0_takeOff itX0 cdX0_takeOff) rfl rfl rfl hdX0_takeOff ⟨Nat.le_of_ble_eq_true rfl, Nat.le_of_ble_eq_true rfl⟩) rfl rfl (Nat.le_of_ble_eq_true rfl) dX0_block_17 ⟨Nat.zero_le _, Nat.zero_le _⟩ ?_
    refine zz_aload_n X dX0_block_20 rfl rfl ?_
    refine pp_get (k0 := 5) (v := .ref (a 5)) X imX0 (by decide) (mc flX0_35) rfl dX0_block_21 ?_
    refine zz_iload_n X dX0_block_24 rfl rfl ?_
    refine zz_iconst (v := 1) X dX0_block_25 (by decide) ?_
    refine zz_iast (q0 := 6) (t0 := 5) (j := i) (ws' := wP h a ca N (up2 (rOff u j i 3) 5 i 1)) X rfl rfl rfl hi (by decide) dX0_block_26 rfl ?_
    refine zz_aload_n X dX0_block_27 rfl rfl ?_
    refine pp_get (k0 := 6) (v := .ref (a 6)) X imX0 (by decide) (mc flX0_38) rfl dX0_block_28 ?_
    refine zz_iload_n X dX0_block_31 rfl rfl ?_
    refine zz_iload_n X dX0_block_32 rfl rfl ?_
    refine zz_iast (q0 := 7) (t0 := 6) (j := i) (ws' := wP h a ca N (up2 (up2 (rOff u j i 3) 5 i 1) 6 i y)) X rfl rfl rfl hi (by decide) dX0_block_33 rfl ?_
    refine zz_iload_n X dX0_block_34 rfl rfl ?_
    have e1 : rBlo N u (nI j) y = (nI i, (up2 (up2 (rOff u j i 3) 5 i 1) 6 i y)) := by simp [rBlo, ei, hm, cl, ci, cj]
    exact Ei _ _ _ _ _ rfl rfl dX0_block_35 (by rw [e1]) (by rw [e1])
  · refine zz_iconst (v := -1) X dX0_block_11 (by decide) ?_
    have e1 : rBlo N u x y = (-1, u) := by simp [rBlo, h1]
    exact Ei _ _ _ _ _ rfl rfl dX0_block_12 (by rw [e1]) (by rw [e1])
set_option maxHeartbeats 4000000 in
set_option maxRecDepth 100000 in
theorem c_sleep {l : Launch} {D : va_G} {h : Nat} {a : Nat → Nat} {ca : Nat → ClassId} {N : Nat} (hN : N < 2 ^ 31) (u : St) (hI : rI N u) (x y : Int32) : cP l D h a ca N yX0_sleep wsX0_sleep { frames := 2, cells := 0, slots := 0, locals := 42 } [.int x, .int y] u (some (.int (rSlp N u x y).1)) (rSlp N u x y).2 := by
  refine zz_C.of (bytes := cX0_sleep) (maxL := 4) (ret := (some .int)) (lv0 := [some (.ref h), some (.int x), some (.int y), none]) (by decide) rfl (Nat.le_of_ble_eq_true rfl) rfl rfl ?_
  intro p e s m below meth c A Q X Ei Ev
  refine zz_aload_n X dX0_sleep_0 rfl rfl ?_
  refine zz_iload_n X dX0_sleep_1 rfl rfl ?_
  refine pp_calli (rest := []) X (c_placeOn hN u x) (cwV 1 X.1.2.2.2.2 (gw lkX0_76 imX0_placeOn seX0_placeOn itX0 cdX0_placeOn) rfl rfl rfl hdX0_placeOn ⟨Nat.le_of_ble_eq_true rfl, Nat.le_of_ble_eq_true rfl⟩) rfl rfl (Nat.le_of_ble_eq_true rfl) dX0_sleep_2 ⟨Nat.zero_le _, Nat.zero_le _⟩ ?_
  refine zz_istore_n (lv' := [some (.ref h), some (.int x), some (.int y), some (.int (rOn N u x))]) X dX0_sleep_5 rfl (by decide) rfl ?_
  refine zz_iload_n X dX0_sleep_6 rfl rfl ?_
  refine zz_iconst (v := -1) X dX0_sleep_7 (by decide) ?_
  refine zz_icmp_eq (tgt := 16) X dX0_sleep_8 (by decide) (fun h1 => ?_) (fun h1 => ?_)
  · refine zz_iload_n X dX0_sleep_16 rfl rfl ?_
    have e1 : rSlp N u x y = (rOn N u x, u) := by simp [rSlp, h1]
    exact Ei _ _ _ _ _ rfl rfl dX0_sleep_17 (by rw [e1]) (by rw [e1])
  · obtain ⟨j, i, hj, hi, rfl, ei⟩ := rOn_ix hN hI h1
    have hm := nI_m1 (show i < 2 ^ 31 by omega)
    have ci := nI_clamp (show i < 2 ^ 31 by omega)
    have cj := nI_clamp (show j < 2 ^ 31 by omega)
    refine zz_lv (lv' := [some (.ref h), some (.int (nI j)), some (.int y), some (.int (nI i))]) (by rw [ei]) ?_
    refine zz_iload_n X dX0_sleep_11 rfl rfl ?_
    refine zz_iconst (v := 1) X dX0_sleep_12 (by decide) ?_
    refine zz_icmp_ge (tgt := 18) X dX0_sleep_13 (by decide) (fun h2 => ?_) (fun h2 => ?_)
    · refine zz_aload_n X dX0_sleep_18 rfl rfl ?_
      refine zz_iload_n X dX0_sleep_19 rfl rfl ?_
      refine zz_iload_n X dX0_sleep_20 rfl rfl ?_
      refine zz_iconst (v := 3) X dX0_sleep_21 (by decide) ?_
      refine pp_callv (rest := []) X (c_takeOff hN u j i hj hi 3) (cwV 3 X.1.2.2.2.2 (gw lkX0_86 imX0_takeOff seX0_takeOff itX0 cdX0_takeOff) rfl rfl rfl hdX0_takeOff ⟨Nat.le_of_ble_eq_true rfl, Nat.le_of_ble_eq_true rfl⟩) rfl rfl (Nat.le_of_ble_eq_true rfl) dX0_sleep_22 ⟨Nat.zero_le _, Nat.zero_le _⟩ ?_
      refine zz_aload_n X dX0_sleep_25 rfl rfl ?_
      refine pp_get (k0 := 5) (v := .ref (a 5)) X imX0 (by decide) (mc flX0_35) rfl dX0_sleep_26 ?_
      refine zz_iload_n X dX0_sleep_29 rfl rfl ?_
      refine zz_iconst (v := 3) X dX0_sleep_30 (by decide) ?_
      refine zz_iast (q0 := 6) (t0 := 5) (j := i) (ws' := wP h a ca N (up2 (rOff u j i 3) 5 i 3)) X rfl rfl rfl hi (by decide) dX0_sleep_31 rfl ?_
      refine zz_aload_n X dX0_sleep_32 rfl rfl ?_
      refine pp_get (k0 := 7) (v := .ref (a 7)) X imX0 (by decide) (mc flX0_41) rfl dX0_sleep_33 ?_
      refine zz_iload_n X dX0_sleep_36 rfl rfl ?_
      refine zz_iload_n X dX0_sleep_37 rfl rfl ?_
      refine zz_iast (q0 := 8) (t0 := 7) (j := i) (ws' := wP h a ca N (up2 (up2 (rOff u j i 3) 5 i 3) 7 i y)) X rfl rfl rfl hi (by decide) dX0_sleep_38 rfl ?_
      refine zz_iload_n X dX0_sleep_39 rfl rfl ?_
      have e1 : rSlp N u (nI j) y = (nI i, (up2 (up2 (rOff u j i 3) 5 i 3) 7 i y)) := by simp [rSlp, ei, hm, cl, ci, cj, h2]
      exact Ei _ _ _ _ _ rfl rfl dX0_sleep_40 (by rw [e1]) (by rw [e1])
    · refine zz_iload_n X dX0_sleep_16 rfl rfl ?_
      have e1 : rSlp N u (nI j) y = (nI i, u) := by simp [rSlp, ei, hm, h2]
      exact Ei _ _ _ _ _ rfl rfl dX0_sleep_17 (by rw [e1]) (by rw [e1])
set_option maxHeartbeats 4000000 in
set_option maxRecDepth 100000 in
theorem c_wake {l : Launch} {D : va_G} {h : Nat} {a : Nat → Nat} {ca : Nat → ClassId} {N : Nat} (hN : N < 2 ^ 31) (u : St) (x : Int32) : cP l D h a ca N yX0_wake wsX0_wake { frames := 1, cells := 0, slots := 0, locals := 22 } [.int x] u (some (.int (nI (rWak u x).1))) (rWak u x).2 := by
  refine zz_C.of (bytes := cX0_wake) (maxL := 4) (ret := (some .int)) (lv0 := [some (.ref h), some (.int x), none, none]) (by decide) rfl (Nat.le_of_ble_eq_true rfl) rfl rfl ?_
  intro p e s m below meth c A Q X Ei Ev
  refine zz_iconst (v := 0) X dX0_wake_0 (by decide) ?_
  refine zz_istore_n (lv' := [some (.ref h), some (.int x), some (.int 0), none]) X dX0_wake_1 rfl (by decide) rfl ?_
  refine zz_iconst (v := 0) X dX0_wake_2 (by decide) ?_
  refine zz_istore_n (lv' := [some (.ref h), some (.int x), some (.int 0), some (.int 0)]) X dX0_wake_3 rfl (by decide) rfl ?_
  have loop : ∀ (n i k : Nat) (v : St), i + n = 15 → zl (rWak1 x) n i (k, v) = rWak u x → zz_V p l e { frames := 1, cells := 0, slots := 0, locals := 22 } s m [.ref h, .int x].toArray below meth c 0 0 Q 4 D vwCl A (wP h a ca N v) [some (.ref h), some (.int x), some (.int (nI k)), some (.int (nI i))] 4 [] := by
    intro n
    induction n with
    | zero =>
      intro i k v hi hz
      refine zz_iload_n X dX0_wake_4 rfl rfl ?_
      refine zz_bipush (v := 15) X dX0_wake_5 (by decide) ?_
      refine zz_icmp_ge (tgt := 43) X dX0_wake_7 (by decide) (fun hq => ?_) (fun hq => absurd (nI_le (a := 15) (by omega) (by omega)) hq)
      refine zz_iload_n X dX0_wake_43 rfl rfl ?_
      exact Ei _ _ _ _ _ rfl rfl dX0_wake_44 (by rw [← hz]; rfl) (by rw [← hz]; rfl)
    | succ n ih =>
      intro i k v hi hz
      have hlt : i < 15 := by omega
      refine zz_iload_n X dX0_wake_4 rfl rfl ?_
      refine zz_bipush (v := 15) X dX0_wake_5 (by decide) ?_
      refine zz_icmp_ge (tgt := 43) X dX0_wake_7 (by decide) (fun hq => absurd hq (nI_ge (b := 15) hlt (by decide))) (fun hq => ?_)
      refine zz_aload_n X dX0_wake_10 rfl rfl ?_
      refine zz_iload_n X dX0_wake_11 rfl rfl ?_
      refine zz_iconst (v := 1) X dX0_wake_12 (by decide) ?_
      refine pp_calli (rest := []) X (c_isBlockedFor hN v i hlt 1) (cwV 2 X.1.2.2.2.2 (gw lkX0_105 imX0_isBlockedFor seX0_isBlockedFor itX0 cdX0_isBlockedFor) rfl rfl rfl hdX0_isBlockedFor ⟨Nat.le_of_ble_eq_true rfl, Nat.le_of_ble_eq_true rfl⟩) rfl rfl (Nat.le_of_ble_eq_true rfl) dX0_wake_13 ⟨Nat.zero_le _, Nat.zero_le _⟩ ?_
      refine zz_if_eq (tgt := 37) X dX0_wake_16 (by decide) (fun h1 => ?_) (fun h1 => ?_)
      · refine zz_iinc (v := (nI (i + 1))) (lv' := [some (.ref h), some (.int x), some (.int (nI k)), some (.int (nI (i + 1)))]) X dX0_wake_37 rfl (nI_1 _) (by decide) rfl ?_
        refine zz_goto (tgt := 4) X dX0_wake_40 (by decide) ?_
        exact ih (i + 1) k _ (by omega) (by rw [← hz, zl, rWak1, if_pos h1])
      · refine zz_aload_n X dX0_wake_19 rfl rfl ?_
        refine pp_get (k0 := 6) (v := .ref (a 6)) X imX0 (by decide) (mc flX0_38) rfl dX0_wake_20 ?_
        refine zz_iload_n X dX0_wake_23 rfl rfl ?_
        refine zz_iald (q0 := 7) (t0 := 6) (j := i) X rfl rfl rfl hlt (by decide) dX0_wake_24 ?_
        refine zz_iload_n X dX0_wake_25 rfl rfl ?_
        refine zz_icmp_ne (tgt := 37) X dX0_wake_26 (by decide) (fun h2 => ?_) (fun h2 => ?_)
        · refine zz_iinc (v := (nI (i + 1))) (lv' := [some (.ref h), some (.int x), some (.int (nI k)), some (.int (nI (i + 1)))]) X dX0_wake_37 rfl (nI_1 _) (by decide) rfl ?_
          refine zz_goto (tgt := 4) X dX0_wake_40 (by decide) ?_
          exact ih (i + 1) k _ (by omega) (by rw [← hz, zl, rWak1, if_neg h1, if_neg h2])
        · refine zz_aload_n X dX0_wake_29 rfl rfl ?_
          refine zz_iload_n X dX0_wake_30 rfl rfl ?_
          refine pp_callv (rest := []) X (c_makeReady hN v i hlt) (cwV 1 X.1.2.2.2.2 (gw lkX0_109 imX0_makeReady seX0_makeReady itX0 cdX0_makeReady) rfl rfl rfl hdX0_makeReady ⟨Nat.le_of_ble_eq_true rfl, Nat.le_of_ble_eq_true rfl⟩) rfl rfl (Nat.le_of_ble_eq_true rfl) dX0_wake_31 ⟨Nat.zero_le _, Nat.zero_le _⟩ ?_
          refine zz_iinc (v := (nI (k + 1))) (lv' := [some (.ref h), some (.int x), some (.int (nI (k + 1))), some (.int (nI i))]) X dX0_wake_34 rfl (nI_1 _) (by decide) rfl ?_
          refine zz_iinc (v := (nI (i + 1))) (lv' := [some (.ref h), some (.int x), some (.int (nI (k + 1))), some (.int (nI (i + 1)))]) X dX0_wake_37 rfl (nI_1 _) (by decide) rfl ?_
          refine zz_goto (tgt := 4) X dX0_wake_40 (by decide) ?_
          exact ih (i + 1) (k + 1) _ (by omega) (by rw [← hz, zl, rWak1, if_neg h1, if_pos h2])
  exact loop 15 0 0 u rfl rfl
set_option maxHeartbeats 4000000 in
set_option maxRecDepth 100000 in
theorem c_rest {l : Launch} {D : va_G} {h : Nat} {a : Nat → Nat} {ca : Nat → ClassId} {N : Nat} (hN : N < 2 ^ 31) (u : St) (hI : rI N u) (x : Int32) : cP l D h a ca N yX0_rest wsX0_rest { frames := 2, cells := 0, slots := 0, locals := 42 } [.int x] u (some (.int (rRst N u x).1)) (rRst N u x).2 := by
  refine zz_C.of (bytes := cX0_rest) (maxL := 3) (ret := (some .int)) (lv0 := [some (.ref h), some (.int x), none]) (by decide) rfl (Nat.le_of_ble_eq_true rfl) rfl rfl ?_
  intro p e s m below meth c A Q X Ei Ev
  refine zz_aload_n X dX0_rest_0 rfl rfl ?_
  refine zz_iload_n X dX0_rest_1 rfl rfl ?_
  refine pp_calli (rest := []) X (c_placeOn hN u x) (cwV 1 X.1.2.2.2.2 (gw lkX0_76 imX0_placeOn seX0_placeOn itX0 cdX0_placeOn) rfl rfl rfl hdX0_placeOn ⟨Nat.le_of_ble_eq_true rfl, Nat.le_of_ble_eq_true rfl⟩) rfl rfl (Nat.le_of_ble_eq_true rfl) dX0_rest_2 ⟨Nat.zero_le _, Nat.zero_le _⟩ ?_
  refine zz_istore_n (lv' := [some (.ref h), some (.int x), some (.int (rOn N u x))]) X dX0_rest_5 rfl (by decide) rfl ?_
  refine zz_iload_n X dX0_rest_6 rfl rfl ?_
  refine zz_iconst (v := -1) X dX0_rest_7 (by decide) ?_
  refine zz_icmp_ne (tgt := 13) X dX0_rest_8 (by decide) (fun h1 => ?_) (fun h1 => ?_)
  · obtain ⟨j, i, hj, hi, rfl, ei⟩ := rOn_ix hN hI h1
    have hm := nI_m1 (show i < 2 ^ 31 by omega)
    have ci := nI_clamp (show i < 2 ^ 31 by omega)
    have cj := nI_clamp (show j < 2 ^ 31 by omega)
    refine zz_lv (lv' := [some (.ref h), some (.int (nI j)), some (.int (nI i))]) (by rw [ei]) ?_
    refine zz_aload_n X dX0_rest_13 rfl rfl ?_
    refine zz_iload_n X dX0_rest_14 rfl rfl ?_
    refine zz_iload_n X dX0_rest_15 rfl rfl ?_
    refine zz_iconst (v := 1) X dX0_rest_16 (by decide) ?_
    refine pp_callv (rest := []) X (c_takeOff hN u j i hj hi 1) (cwV 3 X.1.2.2.2.2 (gw lkX0_86 imX0_takeOff seX0_takeOff itX0 cdX0_takeOff) rfl rfl rfl hdX0_takeOff ⟨Nat.le_of_ble_eq_true rfl, Nat.le_of_ble_eq_true rfl⟩) rfl rfl (Nat.le_of_ble_eq_true rfl) dX0_rest_17 ⟨Nat.zero_le _, Nat.zero_le _⟩ ?_
    refine zz_iload_n X dX0_rest_20 rfl rfl ?_
    have e1 : rRst N u (nI j) = (nI i, (rOff u j i 1)) := by simp [rRst, ei, hm, cl, ci, cj]
    exact Ei _ _ _ _ _ rfl rfl dX0_rest_21 (by rw [e1]) (by rw [e1])
  · refine zz_iconst (v := -1) X dX0_rest_11 (by decide) ?_
    have e1 : rRst N u x = (-1, u) := by simp [rRst, h1]
    exact Ei _ _ _ _ _ rfl rfl dX0_rest_12 (by rw [e1]) (by rw [e1])
set_option maxHeartbeats 4000000 in
set_option maxRecDepth 100000 in
theorem c_tick {l : Launch} {D : va_G} {h : Nat} {a : Nat → Nat} {ca : Nat → ClassId} {N : Nat} (hN : N < 2 ^ 31) (u : St) (hI : rI N u) : cP l D h a ca N yX0_tick wsX0_tick { frames := 3, cells := 0, slots := 0, locals := 64 } [] u (some (.int (rTck N u).1)) (rTck N u).2 := by
  refine zz_C.of (bytes := cX0_tick) (maxL := 2) (ret := (some .int)) (lv0 := [some (.ref h), none]) (by decide) rfl (Nat.le_of_ble_eq_true rfl) rfl rfl ?_
  intro p e s m below meth c A Q X Ei Ev
  refine zz_aload_n X dX0_tick_0 rfl rfl ?_
  refine pp_calli (rest := []) X (c_isEmptyRing hN u) (cwV 0 X.1.2.2.2.2 (gw lkX0_60 imX0_isEmptyRing seX0_isEmptyRing itX0 cdX0_isEmptyRing) rfl rfl rfl hdX0_isEmptyRing ⟨Nat.le_of_ble_eq_true rfl, Nat.le_of_ble_eq_true rfl⟩) rfl rfl (Nat.le_of_ble_eq_true rfl) dX0_tick_1 ⟨Nat.zero_le _, Nat.zero_le _⟩ ?_
  refine zz_if_eq (tgt := 9) X dX0_tick_4 (by decide) (fun h1 => ?_) (fun h1 => ?_)
  · refine zz_aload_n X dX0_tick_9 rfl rfl ?_
    refine zz_dup X dX0_tick_10 rfl ?_
    refine pp_get (k0 := 11) (v := .int (u 9 2)) X imX0 (by decide) (mc flX0_54) rfl dX0_tick_11 ?_
    refine zz_iconst (v := 1) X dX0_tick_14 (by decide) ?_
    refine zz_iadd X dX0_tick_15 ?_
    refine pp_put (k0 := 11) (u2 := (up2 u 9 2 ((u 9 2) + 1))) X imX0 (by decide) (mc flX0_54) (by decide) (by decide +kernel) dX0_tick_16 rfl ?_
    refine zz_iconst (v := 0) X dX0_tick_19 (by decide) ?_
    refine zz_istore_n (lv' := [some (.ref h), some (.int 0)]) X dX0_tick_20 rfl (by decide) rfl ?_
    have loop2 : ∀ (n i : Nat) (v : St), i + n = 15 → zl rTck1 n i v = zl rTck1 15 0 (rTck2 N u) → zz_V p l e { frames := 3, cells := 0, slots := 0, locals := 64 } s m [.ref h].toArray below meth c 0 0 Q 2 D vwCl A (wP h a ca N v) [some (.ref h), some (.int (nI i))] 44 [] := by
      intro n
      induction n with
      | zero =>
        intro i v hi hz
        refine zz_iload_n X dX0_tick_44 rfl rfl ?_
        refine zz_bipush (v := 15) X dX0_tick_45 (by decide) ?_
        refine zz_icmp_ge (tgt := 70) X dX0_tick_47 (by decide) (fun hq => ?_) (fun hq => absurd (nI_le (a := 15) (by omega) (by omega)) hq)
        refine zz_aload_n X dX0_tick_70 rfl rfl ?_
        refine pp_get (k0 := 11) (v := .int (v 9 2)) X imX0 (by decide) (mc flX0_54) rfl dX0_tick_71 ?_
        have hz : v = zl rTck1 15 0 (rTck2 N u) := hz
        have e1 : rTck N u = (v 9 2, v) := by unfold rTck; rw [if_pos h1, ← hz]
        exact Ei _ _ _ _ _ rfl rfl dX0_tick_74 (by rw [e1]) (by rw [e1])
      | succ n ih =>
        intro i v hi hz
        have hlt : i < 15 := by omega
        refine zz_iload_n X dX0_tick_44 rfl rfl ?_
        refine zz_bipush (v := 15) X dX0_tick_45 (by decide) ?_
        refine zz_icmp_ge (tgt := 70) X dX0_tick_47 (by decide) (fun hq => absurd hq (nI_ge (b := 15) hlt (by decide))) (fun hq => ?_)
        refine zz_aload_n X dX0_tick_50 rfl rfl ?_
        refine zz_iload_n X dX0_tick_51 rfl rfl ?_
        refine zz_iconst (v := 3) X dX0_tick_52 (by decide) ?_
        refine pp_calli (rest := []) X (c_isBlockedFor hN v i hlt 3) (cwV 2 X.1.2.2.2.2 (gw lkX0_105 imX0_isBlockedFor seX0_isBlockedFor itX0 cdX0_isBlockedFor) rfl rfl rfl hdX0_isBlockedFor ⟨Nat.le_of_ble_eq_true rfl, Nat.le_of_ble_eq_true rfl⟩) rfl rfl (Nat.le_of_ble_eq_true rfl) dX0_tick_53 ⟨Nat.zero_le _, Nat.zero_le _⟩ ?_
        refine zz_if_eq (tgt := 64) X dX0_tick_56 (by decide) (fun h2 => ?_) (fun h2 => ?_)
        · refine zz_iinc (v := (nI (i + 1))) (lv' := [some (.ref h), some (.int (nI (i + 1)))]) X dX0_tick_64 rfl (nI_1 _) (by decide) rfl ?_
          refine zz_goto (tgt := 44) X dX0_tick_67 (by decide) ?_
          exact ih (i + 1) _ (by omega) (by rw [← hz, zl, rTck1, if_pos h2])
        · refine zz_aload_n X dX0_tick_59 rfl rfl ?_
          refine zz_iload_n X dX0_tick_60 rfl rfl ?_
          refine pp_callv (rest := []) X (c_countDown hN v i hlt) (cwV 1 X.1.2.2.2.2 (gw lkX0_115 imX0_countDown seX0_countDown itX0 cdX0_countDown) rfl rfl rfl hdX0_countDown ⟨Nat.le_of_ble_eq_true rfl, Nat.le_of_ble_eq_true rfl⟩) rfl rfl (Nat.le_of_ble_eq_true rfl) dX0_tick_61 ⟨Nat.zero_le _, Nat.zero_le _⟩ ?_
          refine zz_iinc (v := (nI (i + 1))) (lv' := [some (.ref h), some (.int (nI (i + 1)))]) X dX0_tick_64 rfl (nI_1 _) (by decide) rfl ?_
          refine zz_goto (tgt := 44) X dX0_tick_67 (by decide) ?_
          exact ih (i + 1) _ (by omega) (by rw [← hz, zl, rTck1, if_neg h2])
    have loop : ∀ (n i : Nat) (v : St), i + n = N → rI N v → zl (fun j v => (rRst N v (nI j)).2) n i v = rTck2 N u → zz_V p l e { frames := 3, cells := 0, slots := 0, locals := 64 } s m [.ref h].toArray below meth c 0 0 Q 2 D vwCl A (wP h a ca N v) [some (.ref h), some (.int (nI i))] 21 [] := by
      intro n
      induction n with
      | zero =>
        intro i v hi hJ hz
        refine zz_iload_n X dX0_tick_21 rfl rfl ?_
        refine zz_aload_n X dX0_tick_22 rfl rfl ?_
        refine pp_get (k0 := 8) (v := .ref (a 8)) X imX0 (by decide) (mc flX0_44) rfl dX0_tick_23 ?_
        refine zz_alen (q0 := 9) (t0 := 8) X rfl rfl dX0_tick_26 ?_
        refine zz_icmp_ge (tgt := 42) X dX0_tick_27 (by decide) (fun hq => ?_) (fun hq => absurd (nI_le (a := N) (by omega) (by omega)) hq)
        refine zz_iconst (v := 0) X dX0_tick_42 (by decide) ?_
        refine zz_istore_n (lv' := [some (.ref h), some (.int 0)]) X dX0_tick_43 rfl (by decide) rfl ?_
        have hz : v = rTck2 N u := hz
        exact loop2 15 0 v rfl (by rw [hz])
      | succ n ih =>
        intro i v hi hJ hz
        have hlt : i < N := by omega
        refine zz_iload_n X dX0_tick_21 rfl rfl ?_
        refine zz_aload_n X dX0_tick_22 rfl rfl ?_
        refine pp_get (k0 := 8) (v := .ref (a 8)) X imX0 (by decide) (mc flX0_44) rfl dX0_tick_23 ?_
        refine zz_alen (q0 := 9) (t0 := 8) X rfl rfl dX0_tick_26 ?_
        refine zz_icmp_ge (tgt := 42) X dX0_tick_27 (by decide) (fun hq => absurd hq (nI_ge hlt hN)) (fun hq => ?_)
        refine zz_aload_n X dX0_tick_30 rfl rfl ?_
        refine zz_iload_n X dX0_tick_31 rfl rfl ?_
        refine pp_calli (rest := []) X (c_rest hN v hJ (nI i)) (cwV 1 X.1.2.2.2.2 (gw lkX0_112 imX0_rest seX0_rest itX0 cdX0_rest) rfl rfl rfl hdX0_rest ⟨Nat.le_of_ble_eq_true rfl, Nat.le_of_ble_eq_true rfl⟩) rfl rfl (Nat.le_of_ble_eq_true rfl) dX0_tick_32 ⟨Nat.zero_le _, Nat.zero_le _⟩ ?_
        refine zz_pop X dX0_tick_35 rfl ?_
        refine zz_iinc (v := (nI (i + 1))) (lv' := [some (.ref h), some (.int (nI (i + 1)))]) X dX0_tick_36 rfl (nI_1 _) (by decide) rfl ?_
        refine zz_goto (tgt := 21) X dX0_tick_39 (by decide) ?_
        exact ih (i + 1) _ (by omega) (rRst_I hJ) hz
    exact loop N 0 _ (Nat.zero_add _) ⟨hI.1, hI.2⟩ rfl
  · refine zz_iconst (v := -1) X dX0_tick_7 (by decide) ?_
    have e1 : rTck N u = (-1, u) := by simp [rTck, h1]
    exact Ei _ _ _ _ _ rfl rfl dX0_tick_8 (by rw [e1]) (by rw [e1])
set_option maxHeartbeats 4000000 in
set_option maxRecDepth 100000 in
theorem c_kill {l : Launch} {D : va_G} {h : Nat} {a : Nat → Nat} {ca : Nat → ClassId} {N : Nat} (hN : N < 2 ^ 31) (u : St) (x : Int32) : cP l D h a ca N yX0_kill wsX0_kill { frames := 1, cells := 0, slots := 0, locals := 22 } [.int x] u (some (.int (rKil u x).1)) (rKil u x).2 := by
  refine zz_C.of (bytes := cX0_kill) (maxL := 3) (ret := (some .boolean)) (lv0 := [some (.ref h), some (.int x), none]) (by decide) rfl (Nat.le_of_ble_eq_true rfl) rfl rfl ?_
  intro p e s m below meth c A Q X Ei Ev
  refine zz_aload_n X dX0_kill_0 rfl rfl ?_
  refine zz_iload_n X dX0_kill_1 rfl rfl ?_
  refine pp_calli (rest := []) X (c_placeOf hN u x) (cwV 1 X.1.2.2.2.2 (gw lkX0_118 imX0_placeOf seX0_placeOf itX0 cdX0_placeOf) rfl rfl rfl hdX0_placeOf ⟨Nat.le_of_ble_eq_true rfl, Nat.le_of_ble_eq_true rfl⟩) rfl rfl (Nat.le_of_ble_eq_true rfl) dX0_kill_2 ⟨Nat.zero_le _, Nat.zero_le _⟩ ?_
  refine zz_istore_n (lv' := [some (.ref h), some (.int x), some (.int (rPlc u x))]) X dX0_kill_5 rfl (by decide) rfl ?_
  refine zz_iload_n X dX0_kill_6 rfl rfl ?_
  refine zz_iconst (v := -1) X dX0_kill_7 (by decide) ?_
  refine zz_icmp_eq (tgt := 21) X dX0_kill_8 (by decide) (fun h1 => ?_) (fun h1 => ?_)
  · refine zz_iconst (v := 0) X dX0_kill_21 (by decide) ?_
    have e1 : rKil u x = (0, u) := by simp [rKil, h1]
    exact Ei _ _ _ _ _ rfl rfl dX0_kill_22 (by rw [e1]) (by rw [e1])
  · obtain ⟨i, hi, -, ei⟩ := zs_P_in h1
    have ei : rPlc u x = nI i := ei
    have hm := nI_m1 (show i < 2 ^ 31 by omega)
    have ci := nI_clamp (show i < 2 ^ 31 by omega)
    refine zz_lv (lv' := [some (.ref h), some (.int x), some (.int (nI i))]) (by rw [ei]) ?_
    refine zz_aload_n X dX0_kill_11 rfl rfl ?_
    refine pp_get (k0 := 1) (v := .ref (a 1)) X imX0 (by decide) (mc flX0_22) rfl dX0_kill_12 ?_
    refine zz_iload_n X dX0_kill_15 rfl rfl ?_
    refine zz_iald (q0 := 2) (t0 := 1) (j := i) X rfl rfl rfl hi (by decide) dX0_kill_16 ?_
    refine zz_iconst (v := 4) X dX0_kill_17 (by decide) ?_
    refine zz_icmp_ne (tgt := 23) X dX0_kill_18 (by decide) (fun h2 => ?_) (fun h2 => ?_)
    · refine zz_aload_n X dX0_kill_23 rfl rfl ?_
      refine pp_get (k0 := 3) (v := .ref (a 3)) X imX0 (by decide) (mc flX0_28) rfl dX0_kill_24 ?_
      refine zz_iload_n X dX0_kill_27 rfl rfl ?_
      refine zz_iconst (v := 1) X dX0_kill_28 (by decide) ?_
      refine zz_zast (q0 := 4) (t0 := 3) (j := i) (ws' := wP h a ca N (up2 u 3 i 1)) X rfl rfl rfl hi (by decide) rfl dX0_kill_29 rfl ?_
      refine zz_aload_n X dX0_kill_30 rfl rfl ?_
      refine pp_get (k0 := 1) (v := .ref (a 1)) X imX0 (by decide) (mc flX0_22) rfl dX0_kill_31 ?_
      refine zz_iload_n X dX0_kill_34 rfl rfl ?_
      refine zz_iald (q0 := 2) (t0 := 1) (j := i) X rfl rfl rfl hi (by decide) dX0_kill_35 ?_
      refine zz_iconst (v := 3) X dX0_kill_36 (by decide) ?_
      refine zz_icmp_ne (tgt := 45) X dX0_kill_37 (by decide) (fun h3 => ?_) (fun h3 => ?_)
      · refine zz_iconst (v := 1) X dX0_kill_45 (by decide) ?_
        have e1 : rKil u x = (1, (up2 u 3 i 1)) := by unfold rKil; rw [ei, if_neg hm]; simp only [cl, ci]; rw [if_neg h2, if_neg h3]
        exact Ei _ _ _ _ _ rfl rfl dX0_kill_46 (by rw [e1]) (by rw [e1])
      · refine zz_aload_n X dX0_kill_40 rfl rfl ?_
        refine zz_iload_n X dX0_kill_41 rfl rfl ?_
        refine pp_callv (rest := []) X (c_makeReady hN (up2 u 3 i 1) i hi) (cwV 1 X.1.2.2.2.2 (gw lkX0_109 imX0_makeReady seX0_makeReady itX0 cdX0_makeReady) rfl rfl rfl hdX0_makeReady ⟨Nat.le_of_ble_eq_true rfl, Nat.le_of_ble_eq_true rfl⟩) rfl rfl (Nat.le_of_ble_eq_true rfl) dX0_kill_42 ⟨Nat.zero_le _, Nat.zero_le _⟩ ?_
        refine zz_iconst (v := 1) X dX0_kill_45 (by decide) ?_
        have e1 : rKil u x = (1, (rRdy (up2 u 3 i 1) i)) := by unfold rKil; rw [ei, if_neg hm]; simp only [cl, ci]; rw [if_neg h2, if_pos h3]
        exact Ei _ _ _ _ _ rfl rfl dX0_kill_46 (by rw [e1]) (by rw [e1])
    · refine zz_iconst (v := 0) X dX0_kill_21 (by decide) ?_
      have e1 : rKil u x = (0, u) := by simp [rKil, ei, hm, cl, ci, h2]
      exact Ei _ _ _ _ _ rfl rfl dX0_kill_22 (by rw [e1]) (by rw [e1])
set_option maxHeartbeats 4000000 in
set_option maxRecDepth 100000 in
theorem c_about {l : Launch} {D : va_G} {h : Nat} {a : Nat → Nat} {ca : Nat → ClassId} {N : Nat} (hN : N < 2 ^ 31) (u : St) (x y : Int32) : cP l D h a ca N yX0_about wsX0_about { frames := 1, cells := 0, slots := 0, locals := 22 } [.int x, .int y] u (some (.int (rAbt N u x y))) u := by
  refine zz_C.of (bytes := cX0_about) (maxL := 3) (ret := (some .int)) (lv0 := [some (.ref h), some (.int x), some (.int y)]) (by decide) rfl (Nat.le_of_ble_eq_true rfl) rfl rfl ?_
  intro p e s m below meth c A Q X Ei Ev
  refine zz_iload_n X dX0_about_0 rfl rfl ?_
  refine zz_if_lt (tgt := 10) X dX0_about_1 (by decide) (fun h1 => ?_) (fun h1 => ?_)
  · refine zz_iconst (v := -1) X dX0_about_10 (by decide) ?_
    exact Ei _ _ _ _ _ rfl rfl dX0_about_11 (by simp [rAbt, h1]) rfl
  · refine zz_iload_n X dX0_about_4 rfl rfl ?_
    refine zz_bipush (v := 15) X dX0_about_5 (by decide) ?_
    refine zz_icmp_lt (tgt := 12) X dX0_about_7 (by decide) (fun h2 => ?_) (fun h2 => ?_)
    · obtain ⟨i, hi, rfl⟩ : ∃ i, i < 15 ∧ x = nI i := by
        rcases pk_ix x (n := 15) (by decide) with q | q | q
        · exact absurd q h1
        · exact absurd h2 (by have q : (15 : Int32) ≤ x := q; exact Int32.not_lt.mpr q)
        · exact q
      have ci := nI_clamp (show i < 2 ^ 31 by omega)
      refine zz_aload_n X dX0_about_12 rfl rfl ?_
      refine pp_get (k0 := 1) (v := .ref (a 1)) X imX0 (by decide) (mc flX0_22) rfl dX0_about_13 ?_
      refine zz_iload_n X dX0_about_16 rfl rfl ?_
      refine zz_iald (q0 := 2) (t0 := 1) (j := i) X rfl rfl rfl hi (by decide) dX0_about_17 ?_
      refine zz_if_ne (tgt := 32) X dX0_about_18 (by decide) (fun h3 => ?_) (fun h3 => ?_)
      · refine zz_iload_n X dX0_about_32 rfl rfl ?_
        by_cases g0 : y = 0
        · subst g0
          refine zz_tabIn (tgt := 72) X dX0_about_33 (by decide) (by decide) rfl (by decide) ?_
          refine zz_aload_n X dX0_about_72 rfl rfl ?_
          refine pp_get (k0 := 0) (v := .ref (a 0)) X imX0 (by decide) (mc flX0_18) rfl dX0_about_73 ?_
          refine zz_iload_n X dX0_about_76 rfl rfl ?_
          refine zz_iald (q0 := 1) (t0 := 0) (j := i) X rfl rfl rfl hi (by decide) dX0_about_77 ?_
          exact Ei _ _ _ _ _ rfl rfl dX0_about_78 (by simp [rAbt, h1, h2, cl, ci, h3]) rfl
        by_cases g1 : y = 1
        · subst g1
          refine zz_tabIn (tgt := 79) X dX0_about_33 (by decide) (by decide) rfl (by decide) ?_
          refine zz_aload_n X dX0_about_79 rfl rfl ?_
          refine pp_get (k0 := 1) (v := .ref (a 1)) X imX0 (by decide) (mc flX0_22) rfl dX0_about_80 ?_
          refine zz_iload_n X dX0_about_83 rfl rfl ?_
          refine zz_iald (q0 := 2) (t0 := 1) (j := i) X rfl rfl rfl hi (by decide) dX0_about_84 ?_
          exact Ei _ _ _ _ _ rfl rfl dX0_about_85 (by simp [rAbt, h1, h2, cl, ci, h3]) rfl
        by_cases g2 : y = 2
        · subst g2
          refine zz_tabIn (tgt := 86) X dX0_about_33 (by decide) (by decide) rfl (by decide) ?_
          refine zz_aload_n X dX0_about_86 rfl rfl ?_
          refine pp_get (k0 := 2) (v := .ref (a 2)) X imX0 (by decide) (mc flX0_25) rfl dX0_about_87 ?_
          refine zz_iload_n X dX0_about_90 rfl rfl ?_
          refine zz_iald (q0 := 3) (t0 := 2) (j := i) X rfl rfl rfl hi (by decide) dX0_about_91 ?_
          exact Ei _ _ _ _ _ rfl rfl dX0_about_92 (by simp [rAbt, h1, h2, cl, ci, h3]) rfl
        by_cases g3 : y = 3
        · subst g3
          refine zz_tabIn (tgt := 93) X dX0_about_33 (by decide) (by decide) rfl (by decide) ?_
          refine zz_aload_n X dX0_about_93 rfl rfl ?_
          refine pp_get (k0 := 3) (v := .ref (a 3)) X imX0 (by decide) (mc flX0_28) rfl dX0_about_94 ?_
          refine zz_iload_n X dX0_about_97 rfl rfl ?_
          refine zz_zald (q0 := 4) (t0 := 3) (j := i) X rfl rfl rfl hi (by decide) dX0_about_98 ?_
          refine zz_if_eq (tgt := 106) X dX0_about_99 (by decide) (fun h5 => ?_) (fun h5 => ?_)
          · refine zz_iconst (v := 0) X dX0_about_106 (by decide) ?_
            exact Ei _ _ _ _ _ rfl rfl dX0_about_107 (by simp [rAbt, h1, h2, cl, ci, h3, h5]) rfl
          · refine zz_iconst (v := 1) X dX0_about_102 (by decide) ?_
            refine zz_goto (tgt := 107) X dX0_about_103 (by decide) ?_
            exact Ei _ _ _ _ _ rfl rfl dX0_about_107 (by simp [rAbt, h1, h2, cl, ci, h3, h5]) rfl
        by_cases g4 : y = 4
        · subst g4
          refine zz_tabIn (tgt := 108) X dX0_about_33 (by decide) (by decide) rfl (by decide) ?_
          refine zz_aload_n X dX0_about_108 rfl rfl ?_
          refine pp_get (k0 := 4) (v := .ref (a 4)) X imX0 (by decide) (mc flX0_32) rfl dX0_about_109 ?_
          refine zz_iload_n X dX0_about_112 rfl rfl ?_
          refine zz_iald (q0 := 5) (t0 := 4) (j := i) X rfl rfl rfl hi (by decide) dX0_about_113 ?_
          exact Ei _ _ _ _ _ rfl rfl dX0_about_114 (by simp [rAbt, h1, h2, cl, ci, h3]) rfl
        by_cases g5 : y = 5
        · subst g5
          refine zz_tabIn (tgt := 115) X dX0_about_33 (by decide) (by decide) rfl (by decide) ?_
          refine zz_aload_n X dX0_about_115 rfl rfl ?_
          refine zz_iload_n X dX0_about_116 rfl rfl ?_
          refine pp_calli (rest := []) X (c_processorOf hN u (nI i)) (cwV 1 X.1.2.2.2.2 (gw lkX0_121 imX0_processorOf seX0_processorOf itX0 cdX0_processorOf) rfl rfl rfl hdX0_processorOf ⟨Nat.le_of_ble_eq_true rfl, Nat.le_of_ble_eq_true rfl⟩) rfl rfl (Nat.le_of_ble_eq_true rfl) dX0_about_117 ⟨Nat.zero_le _, Nat.zero_le _⟩ ?_
          exact Ei _ _ _ _ _ rfl rfl dX0_about_120 (by simp [rAbt, h1, h2, cl, ci, h3]) rfl
        refine zz_tabOut (tgt := 121) X dX0_about_33 (by rcases Int.lt_or_le y.toInt 0 with q | q; exact Or.inl q; rcases Int.lt_or_le 5 y.toInt with q2 | q2; exact Or.inr q2; exact absurd (zz_six q q2) (by simp [g0, g1, g2, g3, g4, g5])) (by decide) ?_
        refine zz_iconst (v := -1) X dX0_about_121 (by decide) ?_
        exact Ei _ _ _ _ _ rfl rfl dX0_about_122 (by simp [rAbt, h1, h2, cl, ci, h3, g0, g1, g2, g3, g4, g5]) rfl
      · refine zz_iload_n X dX0_about_21 rfl rfl ?_
        refine zz_iconst (v := 1) X dX0_about_22 (by decide) ?_
        refine zz_icmp_ne (tgt := 30) X dX0_about_23 (by decide) (fun h4 => ?_) (fun h4 => ?_)
        · refine zz_iconst (v := -1) X dX0_about_30 (by decide) ?_
          exact Ei _ _ _ _ _ rfl rfl dX0_about_31 (by simp [rAbt, h1, h2, cl, ci, h3, h4]) rfl
        · refine zz_iconst (v := 0) X dX0_about_26 (by decide) ?_
          refine zz_goto (tgt := 31) X dX0_about_27 (by decide) ?_
          exact Ei _ _ _ _ _ rfl rfl dX0_about_31 (by simp [rAbt, h1, h2, cl, ci, h3, h4]) rfl
    · refine zz_iconst (v := -1) X dX0_about_10 (by decide) ?_
      exact Ei _ _ _ _ _ rfl rfl dX0_about_11 (by simp [rAbt, h1, h2]) rfl
set_option maxHeartbeats 4000000 in
set_option maxRecDepth 100000 in
theorem c_count {l : Launch} {D : va_G} {h : Nat} {a : Nat → Nat} {ca : Nat → ClassId} {N : Nat} (hN : N < 2 ^ 31) (u : St) (x : Int32) : cP l D h a ca N yX0_count wsX0_count { frames := 0, cells := 0, slots := 0, locals := 0 } [.int x] u (some (.int (rCnt u x))) u := by
  refine zz_C.of (bytes := cX0_count) (maxL := 5) (ret := (some .int)) (lv0 := [some (.ref h), some (.int x), none, none, none]) (by decide) rfl (Nat.le_of_ble_eq_true rfl) rfl rfl ?_
  intro p e s m below meth c A Q X Ei Ev
  refine zz_iload_n X dX0_count_0 rfl rfl ?_
  refine zz_if_lt (tgt := 9) X dX0_count_1 (by decide) (fun h1 => ?_) (fun h1 => ?_)
  · refine zz_iconst (v := -1) X dX0_count_9 (by decide) ?_
    exact Ei _ _ _ _ _ rfl rfl dX0_count_10 (by simp [rCnt, h1]) rfl
  · refine zz_iload_n X dX0_count_4 rfl rfl ?_
    refine zz_iconst (v := 4) X dX0_count_5 (by decide) ?_
    refine zz_icmp_le (tgt := 11) X dX0_count_6 (by decide) (fun h2 => ?_) (fun h2 => ?_)
    · refine zz_iconst (v := 0) X dX0_count_11 (by decide) ?_
      refine zz_istore_n (lv' := [some (.ref h), some (.int x), some (.int 0), none, none]) X dX0_count_12 rfl (by decide) rfl ?_
      refine zz_iconst (v := 0) X dX0_count_13 (by decide) ?_
      refine zz_istore_n (lv' := [some (.ref h), some (.int x), some (.int 0), some (.int 0), none]) X dX0_count_14 rfl (by decide) rfl ?_
      have loop : ∀ (n i k : Nat) (lw : Option Value), i + n = 15 → zk (fun j => if x = 0 then decide (¬ u 1 j = 0) else decide (u 1 j = x)) n i k = zk (fun j => if x = 0 then decide (¬ u 1 j = 0) else decide (u 1 j = x)) 15 0 0 → zz_V p l e { frames := 0, cells := 0, slots := 0, locals := 0 } s m [.ref h, .int x].toArray below meth c 0 0 Q 5 D vwCl A (wP h a ca N u) [some (.ref h), some (.int x), some (.int (nI k)), some (.int (nI i)), lw] 15 [] := by
        intro n
        induction n with
        | zero =>
          intro i k lw hi hz
          refine zz_iload_n X dX0_count_15 rfl rfl ?_
          refine zz_bipush (v := 15) X dX0_count_16 (by decide) ?_
          refine zz_icmp_ge (tgt := 73) X dX0_count_18 (by decide) (fun hq => ?_) (fun hq => absurd (nI_le (a := 15) (by omega) (by omega)) hq)
          refine zz_iload_n X dX0_count_73 rfl rfl ?_
          exact Ei _ _ _ _ _ rfl rfl dX0_count_74 (by rw [rCnt, if_neg h1, if_pos h2, ← hz]; rfl) rfl
        | succ n ih =>
          intro i k lw hi hz
          have hlt : i < 15 := by omega
          refine zz_iload_n X dX0_count_15 rfl rfl ?_
          refine zz_bipush (v := 15) X dX0_count_16 (by decide) ?_
          refine zz_icmp_ge (tgt := 73) X dX0_count_18 (by decide) (fun hq => absurd hq (nI_ge (b := 15) hlt (by decide))) (fun hq => ?_)
          refine zz_iload_n X dX0_count_21 rfl rfl ?_
          refine zz_if_ne (tgt := 42) X dX0_count_22 (by decide) (fun h3 => ?_) (fun h3 => ?_)
          · refine zz_aload_n X dX0_count_42 rfl rfl ?_
            refine pp_get (k0 := 1) (v := .ref (a 1)) X imX0 (by decide) (mc flX0_22) rfl dX0_count_43 ?_
            refine zz_iload_n X dX0_count_46 rfl rfl ?_
            refine zz_iald (q0 := 2) (t0 := 1) (j := i) X rfl rfl rfl hlt (by decide) dX0_count_47 ?_
            refine zz_iload_n X dX0_count_48 rfl rfl ?_
            refine zz_icmp_ne (tgt := 56) X dX0_count_49 (by decide) (fun h4 => ?_) (fun h4 => ?_)
            · refine zz_iconst (v := 0) X dX0_count_56 (by decide) ?_
              refine zz_istore (lv' := [some (.ref h), some (.int x), some (.int (nI k)), some (.int (nI i)), some (.int 0)]) X dX0_count_57 (by decide) rfl ?_
              refine zz_iload X dX0_count_59 rfl ?_
              refine zz_if_eq (tgt := 67) X dX0_count_61 (by decide) (fun hq => ?_) (fun hq => absurd rfl hq)
              refine zz_iinc (v := (nI (i + 1))) (lv' := [some (.ref h), some (.int x), some (.int (nI k)), some (.int (nI (i + 1))), some (.int 0)]) X dX0_count_67 rfl (nI_1 _) (by decide) rfl ?_
              refine zz_goto (tgt := 15) X dX0_count_70 (by decide) ?_
              exact ih (i + 1) k _ (by omega) (by rw [← hz]; simp [zk, h3, h4])
            · refine zz_iconst (v := 1) X dX0_count_52 (by decide) ?_
              refine zz_goto (tgt := 57) X dX0_count_53 (by decide) ?_
              refine zz_istore (lv' := [some (.ref h), some (.int x), some (.int (nI k)), some (.int (nI i)), some (.int 1)]) X dX0_count_57 (by decide) rfl ?_
              refine zz_iload X dX0_count_59 rfl ?_
              refine zz_if_eq (tgt := 67) X dX0_count_61 (by decide) (fun hq => absurd hq (by decide)) (fun hq => ?_)
              refine zz_iinc (v := (nI (k + 1))) (lv' := [some (.ref h), some (.int x), some (.int (nI (k + 1))), some (.int (nI i)), some (.int 1)]) X dX0_count_64 rfl (nI_1 _) (by decide) rfl ?_
              refine zz_iinc (v := (nI (i + 1))) (lv' := [some (.ref h), some (.int x), some (.int (nI (k + 1))), some (.int (nI (i + 1))), some (.int 1)]) X dX0_count_67 rfl (nI_1 _) (by decide) rfl ?_
              refine zz_goto (tgt := 15) X dX0_count_70 (by decide) ?_
              exact ih (i + 1) (k + 1) _ (by omega) (by rw [← hz]; simp [zk, h3, h4])
          · refine zz_aload_n X dX0_count_25 rfl rfl ?_
            refine pp_get (k0 := 1) (v := .ref (a 1)) X imX0 (by decide) (mc flX0_22) rfl dX0_count_26 ?_
            refine zz_iload_n X dX0_count_29 rfl rfl ?_
            refine zz_iald (q0 := 2) (t0 := 1) (j := i) X rfl rfl rfl hlt (by decide) dX0_count_30 ?_
            refine zz_if_eq (tgt := 38) X dX0_count_31 (by decide) (fun h4 => ?_) (fun h4 => ?_)
            · refine zz_iconst (v := 0) X dX0_count_38 (by decide) ?_
              refine zz_goto (tgt := 57) X dX0_count_39 (by decide) ?_
              refine zz_istore (lv' := [some (.ref h), some (.int x), some (.int (nI k)), some (.int (nI i)), some (.int 0)]) X dX0_count_57 (by decide) rfl ?_
              refine zz_iload X dX0_count_59 rfl ?_
              refine zz_if_eq (tgt := 67) X dX0_count_61 (by decide) (fun hq => ?_) (fun hq => absurd rfl hq)
              refine zz_iinc (v := (nI (i + 1))) (lv' := [some (.ref h), some (.int x), some (.int (nI k)), some (.int (nI (i + 1))), some (.int 0)]) X dX0_count_67 rfl (nI_1 _) (by decide) rfl ?_
              refine zz_goto (tgt := 15) X dX0_count_70 (by decide) ?_
              exact ih (i + 1) k _ (by omega) (by rw [← hz]; simp [zk, h3, h4])
            · refine zz_iconst (v := 1) X dX0_count_34 (by decide) ?_
              refine zz_goto (tgt := 57) X dX0_count_35 (by decide) ?_
              refine zz_istore (lv' := [some (.ref h), some (.int x), some (.int (nI k)), some (.int (nI i)), some (.int 1)]) X dX0_count_57 (by decide) rfl ?_
              refine zz_iload X dX0_count_59 rfl ?_
              refine zz_if_eq (tgt := 67) X dX0_count_61 (by decide) (fun hq => absurd hq (by decide)) (fun hq => ?_)
              refine zz_iinc (v := (nI (k + 1))) (lv' := [some (.ref h), some (.int x), some (.int (nI (k + 1))), some (.int (nI i)), some (.int 1)]) X dX0_count_64 rfl (nI_1 _) (by decide) rfl ?_
              refine zz_iinc (v := (nI (i + 1))) (lv' := [some (.ref h), some (.int x), some (.int (nI (k + 1))), some (.int (nI (i + 1))), some (.int 1)]) X dX0_count_67 rfl (nI_1 _) (by decide) rfl ?_
              refine zz_goto (tgt := 15) X dX0_count_70 (by decide) ?_
              exact ih (i + 1) (k + 1) _ (by omega) (by rw [← hz]; simp [zk, h3, h4])
      exact loop 15 0 0 none rfl rfl
    · refine zz_iconst (v := -1) X dX0_count_9 (by decide) ?_
      exact Ei _ _ _ _ _ rfl rfl dX0_count_10 (by simp [rCnt, h1, h2]) rfl
