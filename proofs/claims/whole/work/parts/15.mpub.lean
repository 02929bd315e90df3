set_option maxHeartbeats 4000000 in
set_option maxRecDepth 100000 in
theorem m_first {l : Launch} {D : va_G} {h : Nat} {a : Nat → Nat} {ca : Nat → ClassId} (v : St) (m : Nat) (hm : v 9 2 = nI m) (h16 : m ≤ 15) (h0 : v 9 0 = 0) : cM l D h a ca yX1_first wsX1_first { frames := 1, cells := 0, slots := 0, locals := 22 } [] v (some (.int (mFst v m).1)) (mFst v m).2 := by
  refine zz_C.of (bytes := cX1_first) (maxL := 2) (ret := (some .boolean)) (lv0 := [some (.ref h), none]) (by decide) rfl (Nat.le_of_ble_eq_true rfl) rfl rfl ?_
  intro p e s m' below meth c A Q X Ei Ev
  refine zz_aload_n X dX1_first_0 rfl rfl ?_
  refine zz_iconst (v := 0) X dX1_first_1 (by decide) ?_
  refine qq_put (k0 := 0) (u2 := (up2 v 9 0 0)) X imX1 (by decide) (mc flX1_42) (by decide) (by decide +kernel) dX1_first_2 rfl ?_
  refine zz_ws (ws' := wM h a ca v) (by rw [up2_0 h0]) ?_
  refine zz_aload_n X dX1_first_5 rfl rfl ?_
  refine qq_get (k0 := 2) (v := .int (v 9 2)) X imX1 (by decide) (mc flX1_45) rfl dX1_first_6 ?_
  refine zz_top (show v 9 2 = nI m from hm) ?_
  refine zz_if_le (tgt := 14) X dX1_first_9 (by decide) (fun h1 => ?_) (fun h1 => ?_)
  · refine zz_aload_n X dX1_first_14 rfl rfl ?_
    refine zz_iconst (v := 0) X dX1_first_15 (by decide) ?_
    refine qq_put (k0 := 3) (u2 := (up2 v 9 3 0)) X imX1 (by decide) (mc flX1_55) (by decide) (by decide +kernel) dX1_first_16 rfl ?_
    refine zz_aload_n X dX1_first_19 rfl rfl ?_
    refine zz_iconst (v := 0) X dX1_first_20 (by decide) ?_
    refine qq_put (k0 := 4) (u2 := (up2 (up2 v 9 3 0) 9 4 0)) X imX1 (by decide) (mc flX1_58) (by decide) (by decide +kernel) dX1_first_21 rfl ?_
    refine zz_aload_n X dX1_first_24 rfl rfl ?_
    refine zz_bipush (v := 14) X dX1_first_25 (by decide) ?_
    refine qq_put (k0 := 5) (u2 := (up2 (up2 (up2 v 9 3 0) 9 4 0) 9 5 14)) X imX1 (by decide) (mc flX1_61) (by decide) (by decide +kernel) dX1_first_27 rfl ?_
    refine zz_aload_n X dX1_first_30 rfl rfl ?_
    refine zz_iconst (v := 0) X dX1_first_31 (by decide) ?_
    refine zz_iconst (v := 0) X dX1_first_32 (by decide) ?_
    refine qq_calli (rest := []) X (m_add (up2 (up2 (up2 v 9 3 0) 9 4 0) 9 5 14) m hm h16 0 0) (cwV 2 X.1.2.2.2.2 (gw lkX1_64 imX1_add seX1_add itX1 cdX1_add) rfl rfl rfl hdX1_add ⟨Nat.le_of_ble_eq_true rfl, Nat.le_of_ble_eq_true rfl⟩) rfl rfl (Nat.le_of_ble_eq_true rfl) dX1_first_33 ⟨Nat.zero_le _, Nat.zero_le _⟩ ?_
    refine zz_istore_n (lv' := [some (.ref h), some (.int 0)]) X dX1_first_36 rfl (by decide) rfl ?_
    refine zz_iconst (v := 1) X dX1_first_37 (by decide) ?_
    have e1 : mFst v m = (1, (mAdd (up2 (up2 (up2 v 9 3 0) 9 4 0) 9 5 14) m 0 0)) := by simp [mFst, h1]
    exact Ei _ _ _ _ _ rfl rfl dX1_first_38 (by rw [e1]) (by rw [e1])
  · refine zz_iconst (v := 0) X dX1_first_12 (by decide) ?_
    have e1 : mFst v m = (0, v) := by simp [mFst, h1]
    exact Ei _ _ _ _ _ rfl rfl dX1_first_13 (by rw [e1]) (by rw [e1])
set_option maxHeartbeats 4000000 in
set_option maxRecDepth 100000 in
theorem m_pick {l : Launch} {D : va_G} {h : Nat} {a : Nat → Nat} {ca : Nat → ClassId} (v : St) (m : Nat) (hm : v 9 2 = nI m) (h16 : m ≤ 15) (h0 : v 9 0 = 0) (t : Nat) (htl : t < 15) (ht : v 9 5 = nI t) (x : Int32) : cM l D h a ca yX1_pick wsX1_pick { frames := 2, cells := 0, slots := 0, locals := 45 } [.int x] v (some (.int (mPck v m t x).1)) (mPck v m t x).2 := by
  refine zz_C.of (bytes := cX1_pick) (maxL := 5) (ret := (some .int)) (lv0 := [some (.ref h), some (.int x), none, none, none]) (by decide) rfl (Nat.le_of_ble_eq_true rfl) rfl rfl ?_
  intro p e s m' below meth c A Q X Ei Ev
  refine zz_aload_n X dX1_pick_0 rfl rfl ?_
  refine zz_iconst (v := 0) X dX1_pick_1 (by decide) ?_
  refine qq_put (k0 := 0) (u2 := (up2 v 9 0 0)) X imX1 (by decide) (mc flX1_42) (by decide) (by decide +kernel) dX1_pick_2 rfl ?_
  refine zz_ws (ws' := wM h a ca v) (by rw [up2_0 h0]) ?_
  refine zz_iload_n X dX1_pick_5 rfl rfl ?_
  refine zz_if_lt (tgt := 17) X dX1_pick_6 (by decide) (fun h1 => ?_) (fun h1 => ?_)
  · refine zz_iconst (v := -1) X dX1_pick_17 (by decide) ?_
    have e1 : mPck v m t x = (-1, v) := by simp [mPck, h1]
    exact Ei _ _ _ _ _ rfl rfl dX1_pick_18 (by rw [e1]) (by rw [e1])
  · refine zz_iload_n X dX1_pick_9 rfl rfl ?_
    refine zz_aload_n X dX1_pick_10 rfl rfl ?_
    refine qq_get (k0 := 1) (v := .int (v 9 1)) X imX1 (by decide) (mc flX1_38) rfl dX1_pick_11 ?_
    refine zz_icmp_lt (tgt := 19) X dX1_pick_14 (by decide) (fun h2 => ?_) (fun h2 => ?_)
    · refine zz_aload_n X dX1_pick_19 rfl rfl ?_
      refine zz_iload_n X dX1_pick_20 rfl rfl ?_
      refine qq_calli (rest := []) X (m_running v m hm h16 x) (cwV 1 X.1.2.2.2.2 (gw lkX1_68 imX1_running seX1_running itX1 cdX1_running) rfl rfl rfl hdX1_running ⟨Nat.le_of_ble_eq_true rfl, Nat.le_of_ble_eq_true rfl⟩) rfl rfl (Nat.le_of_ble_eq_true rfl) dX1_pick_21 ⟨Nat.zero_le _, Nat.zero_le _⟩ ?_
      refine zz_istore_n (lv' := [some (.ref h), some (.int x), some (.int (mRun v m x)), none, none]) X dX1_pick_24 rfl (by decide) rfl ?_
      refine zz_iconst (v := 1) X dX1_pick_25 (by decide) ?_
      refine zz_istore_n (lv' := [some (.ref h), some (.int x), some (.int (mRun v m x)), some (.int 1), none]) X dX1_pick_26 rfl (by decide) rfl ?_
      have tail : ∀ (r : Int32) (lw lx : Option Value), (r = -1 ∨ ∃ k, k < m ∧ r = nI k) → r = mPk1 v m t 15 1 (mRun v m x) → zz_V p l e { frames := 2, cells := 0, slots := 0, locals := 45 } s m' [.ref h, .int x].toArray below meth c 0 0 Q 5 D vwCl A (wM h a ca v) [some (.ref h), some (.int x), some (.int r), lw, lx] 80 [] := by
        intro r lw lx hr er
        rcases hr with rfl | ⟨k, hk, rfl⟩
        · refine zz_iload_n X dX1_pick_80 rfl rfl ?_
          refine zz_if_ge (tgt := 86) X dX1_pick_81 (by decide) (fun hq => absurd hq nn_m1) (fun hq => ?_)
          refine zz_iconst (v := -1) X dX1_pick_84 (by decide) ?_
          have e1 : mPck v m t x = (-1, v) := by rw [mPck, if_neg h1, if_pos h2, ← er, if_neg nn_m1]
          exact Ei _ _ _ _ _ rfl rfl dX1_pick_85 (by rw [e1]) (by rw [e1])
        · have ck := nI_clamp (show k < 2 ^ 31 by omega)
          have nn := nI_pos' (show k < 2 ^ 31 by omega)
          refine zz_iload_n X dX1_pick_80 rfl rfl ?_
          refine zz_if_ge (tgt := 86) X dX1_pick_81 (by decide) (fun hq => ?_) (fun hq => absurd nn hq)
          refine zz_aload_n X dX1_pick_86 rfl rfl ?_
          refine qq_get (k0 := 13) (v := .ref (a 6)) X imX1 (by decide) (mc flX1_29) rfl dX1_pick_87 ?_
          refine zz_iload_n X dX1_pick_90 rfl rfl ?_
          refine zz_iald (q0 := 7) (t0 := 6) (j := k) X rfl rfl rfl (show k < 16 by omega) (by decide) dX1_pick_91 ?_
          refine zz_iload_n X dX1_pick_92 rfl rfl ?_
          refine zz_icmp_eq (tgt := 120) X dX1_pick_93 (by decide) (fun h3 => ?_) (fun h3 => ?_)
          · refine zz_aload_n X dX1_pick_120 rfl rfl ?_
            refine qq_get (k0 := 8) (v := .ref (a 1)) X imX1 (by decide) (mc flX1_13) rfl dX1_pick_121 ?_
            refine zz_iload_n X dX1_pick_124 rfl rfl ?_
            refine zz_iald (q0 := 2) (t0 := 1) (j := k) X rfl rfl rfl (show k < 16 by omega) (by decide) dX1_pick_125 ?_
            have e1 : mPck v m t x = (v 1 k, v) := by rw [mPck, if_neg h1, if_pos h2, ← er, if_pos nn]; simp only [cl, ck]; rw [if_pos h3]
            exact Ei _ _ _ _ _ rfl rfl dX1_pick_126 (by rw [e1]) (by rw [e1])
          · refine zz_aload_n X dX1_pick_96 rfl rfl ?_
            refine qq_get (k0 := 13) (v := .ref (a 6)) X imX1 (by decide) (mc flX1_29) rfl dX1_pick_97 ?_
            refine zz_iload_n X dX1_pick_100 rfl rfl ?_
            refine zz_iload_n X dX1_pick_101 rfl rfl ?_
            refine zz_iast (q0 := 7) (t0 := 6) (j := k) (ws' := wM h a ca (up2 v 6 k x)) X rfl rfl rfl (show k < 16 by omega) (by decide) dX1_pick_102 rfl ?_
            refine zz_aload_n X dX1_pick_103 rfl rfl ?_
            refine qq_get (k0 := 14) (v := .ref (a 7)) X imX1 (by decide) (mc flX1_32) rfl dX1_pick_104 ?_
            refine zz_iload_n X dX1_pick_107 rfl rfl ?_
            refine zz_iconst (v := 0) X dX1_pick_108 (by decide) ?_
            refine zz_iast (q0 := 8) (t0 := 7) (j := k) (ws' := wM h a ca (up2 (up2 v 6 k x) 7 k 0)) X rfl rfl rfl (show k < 16 by omega) (by decide) dX1_pick_109 rfl ?_
            refine zz_aload_n X dX1_pick_110 rfl rfl ?_
            refine zz_aload_n X dX1_pick_111 rfl rfl ?_
            refine qq_get (k0 := 8) (v := .ref (a 1)) X imX1 (by decide) (mc flX1_13) rfl dX1_pick_112 ?_
            refine zz_iload_n X dX1_pick_115 rfl rfl ?_
            refine zz_iald (q0 := 2) (t0 := 1) (j := k) X rfl rfl rfl (show k < 16 by omega) (by decide) dX1_pick_116 ?_
            refine qq_put (k0 := 5) (u2 := (up2 (up2 (up2 v 6 k x) 7 k 0) 9 5 ((up2 (up2 v 6 k x) 7 k 0) 1 k))) X imX1 (by decide) (mc flX1_61) (by decide) (by decide +kernel) dX1_pick_117 rfl ?_
            refine zz_aload_n X dX1_pick_120 rfl rfl ?_
            refine qq_get (k0 := 8) (v := .ref (a 1)) X imX1 (by decide) (mc flX1_13) rfl dX1_pick_121 ?_
            refine zz_iload_n X dX1_pick_124 rfl rfl ?_
            refine zz_iald (q0 := 2) (t0 := 1) (j := k) X rfl rfl rfl (show k < 16 by omega) (by decide) dX1_pick_125 ?_
            have e1 : mPck v m t x = (((up2 (up2 (up2 v 6 k x) 7 k 0) 9 5 ((up2 (up2 v 6 k x) 7 k 0) 1 k))) 1 k, (up2 (up2 (up2 v 6 k x) 7 k 0) 9 5 ((up2 (up2 v 6 k x) 7 k 0) 1 k))) := by rw [mPck, if_neg h1, if_pos h2, ← er, if_pos nn]; simp only [cl, ck]; rw [if_neg h3]; rfl
            exact Ei _ _ _ _ _ rfl rfl dX1_pick_126 (by rw [e1]) (by rw [e1])
      have loop : ∀ (n i : Nat) (r : Int32) (lx : Option Value), i + n = 16 → (r = -1 ∨ ∃ k, k < m ∧ r = nI k) → mPk1 v m t n i r = mPk1 v m t 15 1 (mRun v m x) → zz_V p l e { frames := 2, cells := 0, slots := 0, locals := 45 } s m' [.ref h, .int x].toArray below meth c 0 0 Q 5 D vwCl A (wM h a ca v) [some (.ref h), some (.int x), some (.int r), some (.int (nI i)), lx] 27 [] := by
        intro n
        induction n with
        | zero =>
          intro i r lx hi hr hz
          refine zz_iload_n X dX1_pick_27 rfl rfl ?_
          refine zz_bipush (v := 15) X dX1_pick_28 (by decide) ?_
          refine zz_icmp_gt (tgt := 80) X dX1_pick_30 (by decide) (fun hq => ?_) (fun hq => absurd (nI_lt (a := 15) (by omega) (by omega)) hq)
          exact tail _ _ _ hr hz
        | succ n ih =>
          intro i r lx hi hr hz
          refine zz_iload_n X dX1_pick_27 rfl rfl ?_
          refine zz_bipush (v := 15) X dX1_pick_28 (by decide) ?_
          refine zz_icmp_gt (tgt := 80) X dX1_pick_30 (by decide) (fun hq => absurd hq (nI_nlt (a := 15) (by omega) (by omega))) (fun hq => ?_)
          refine zz_iload_n X dX1_pick_33 rfl rfl ?_
          refine zz_if_ge (tgt := 80) X dX1_pick_34 (by decide) (fun h3 => ?_) (fun h3 => ?_)
          · exact tail _ _ _ hr (by rw [← hz]; simp [mPk1, h3])
          · refine zz_aload_n X dX1_pick_37 rfl rfl ?_
            refine zz_aload_n X dX1_pick_38 rfl rfl ?_
            refine qq_get (k0 := 5) (v := .int (v 9 5)) X imX1 (by decide) (mc flX1_61) rfl dX1_pick_39 ?_
            refine zz_top (show v 9 5 = nI t from ht) ?_
            refine zz_iload_n X dX1_pick_42 rfl rfl ?_
            refine zz_iadd X dX1_pick_43 ?_
            refine zz_bipush (v := 15) X dX1_pick_44 (by decide) ?_
            refine zz_irem X dX1_pick_46 (by decide) ?_
            refine zz_top (show nI t + nI i - (nI t + nI i) / 15 * 15 = nI ((t + i) % 15) by rw [nI_add]; exact pk_rem (d := 15) (by omega) (by omega) (by omega)) ?_
            refine qq_calli (rest := []) X (m_ofPlace v m hm h16 (nI ((t + i) % 15))) (cwV 1 X.1.2.2.2.2 (gw lkX1_48 imX1_ofPlace seX1_ofPlace itX1 cdX1_ofPlace) rfl rfl rfl hdX1_ofPlace ⟨Nat.le_of_ble_eq_true rfl, Nat.le_of_ble_eq_true rfl⟩) rfl rfl (Nat.le_of_ble_eq_true rfl) dX1_pick_47 ⟨Nat.zero_le _, Nat.zero_le _⟩ ?_
            rcases mFnd_in (f := v 1) (x := nI ((t + i) % 15)) (m := m) with er | ⟨k, hk, -, er⟩
            · refine zz_top er ?_
              refine zz_istore (lv' := [some (.ref h), some (.int x), some (.int r), some (.int (nI i)), some (.int (-1))]) X dX1_pick_50 (by decide) rfl ?_
              refine zz_iload X dX1_pick_52 rfl ?_
              refine zz_if_lt (tgt := 72) X dX1_pick_54 (by decide) (fun hq => ?_) (fun hq => absurd m1_neg hq)
              refine zz_iconst (v := -1) X dX1_pick_72 (by decide) ?_
              refine zz_istore_n (lv' := [some (.ref h), some (.int x), some (.int (-1)), some (.int (nI i)), some (.int (-1))]) X dX1_pick_73 rfl (by decide) rfl ?_
              refine zz_iinc (v := (nI (i + 1))) (lv' := [some (.ref h), some (.int x), some (.int (-1)), some (.int (nI (i + 1))), some (.int (-1))]) X dX1_pick_74 rfl (nI_1 _) (by decide) rfl ?_
              refine zz_goto (tgt := 27) X dX1_pick_77 (by decide) ?_
              exact ih (i + 1) _ _ (by omega) (Or.inl rfl) (by rw [← hz]; simp [mPk1, h3, er])
            · refine zz_top er ?_
              have ck := nI_clamp (show k < 2 ^ 31 by omega)
              have np := nI_pos (show k < 2 ^ 31 by omega)
              refine zz_istore (lv' := [some (.ref h), some (.int x), some (.int r), some (.int (nI i)), some (.int (nI k))]) X dX1_pick_50 (by decide) rfl ?_
              refine zz_iload X dX1_pick_52 rfl ?_
              refine zz_if_lt (tgt := 72) X dX1_pick_54 (by decide) (fun hq => absurd hq np) (fun hq => ?_)
              refine zz_aload_n X dX1_pick_57 rfl rfl ?_
              refine zz_iload X dX1_pick_58 rfl ?_
              refine qq_calli (rest := []) X (m_state v m hm h16 k (by omega)) (cwV 1 X.1.2.2.2.2 (gw lkX1_71 imX1_state seX1_state itX1 cdX1_state) rfl rfl rfl hdX1_state ⟨Nat.le_of_ble_eq_true rfl, Nat.le_of_ble_eq_true rfl⟩) rfl rfl (Nat.le_of_ble_eq_true rfl) dX1_pick_60 ⟨Nat.zero_le _, Nat.zero_le _⟩ ?_
              refine zz_iconst (v := 1) X dX1_pick_63 (by decide) ?_
              refine zz_icmp_ne (tgt := 72) X dX1_pick_64 (by decide) (fun h4 => ?_) (fun h4 => ?_)
              · refine zz_iconst (v := -1) X dX1_pick_72 (by decide) ?_
                refine zz_istore_n (lv' := [some (.ref h), some (.int x), some (.int (-1)), some (.int (nI i)), some (.int (nI k))]) X dX1_pick_73 rfl (by decide) rfl ?_
                refine zz_iinc (v := (nI (i + 1))) (lv' := [some (.ref h), some (.int x), some (.int (-1)), some (.int (nI (i + 1))), some (.int (nI k))]) X dX1_pick_74 rfl (nI_1 _) (by decide) rfl ?_
                refine zz_goto (tgt := 27) X dX1_pick_77 (by decide) ?_
                exact ih (i + 1) _ _ (by omega) (Or.inl rfl) (by rw [← hz]; simp [mPk1, h3, er, np, cl, ck, h4])
              · refine zz_iload X dX1_pick_67 rfl ?_
                refine zz_goto (tgt := 73) X dX1_pick_69 (by decide) ?_
                refine zz_istore_n (lv' := [some (.ref h), some (.int x), some (.int (nI k)), some (.int (nI i)), some (.int (nI k))]) X dX1_pick_73 rfl (by decide) rfl ?_
                refine zz_iinc (v := (nI (i + 1))) (lv' := [some (.ref h), some (.int x), some (.int (nI k)), some (.int (nI (i + 1))), some (.int (nI k))]) X dX1_pick_74 rfl (nI_1 _) (by decide) rfl ?_
                refine zz_goto (tgt := 27) X dX1_pick_77 (by decide) ?_
                exact ih (i + 1) _ _ (by omega) (Or.inr ⟨k, hk, rfl⟩) (by rw [← hz]; simp [mPk1, h3, er, np, cl, ck, h4])
      exact loop 15 1 _ none rfl (by rcases mRun_in (v := v) (x := x) (m := m) with q | ⟨k, hk, -, q⟩; exact Or.inl q; exact Or.inr ⟨k, hk, q⟩) rfl
    · refine zz_iconst (v := -1) X dX1_pick_17 (by decide) ?_
      have e1 : mPck v m t x = (-1, v) := by simp [mPck, h1, h2]
      exact Ei _ _ _ _ _ rfl rfl dX1_pick_18 (by rw [e1]) (by rw [e1])
set_option maxHeartbeats 4000000 in
set_option maxRecDepth 100000 in
theorem m_fork {l : Launch} {D : va_G} {h : Nat} {a : Nat → Nat} {ca : Nat → ClassId} (v : St) (m : Nat) (hm : v 9 2 = nI m) (h16 : m ≤ 15) (h0 : v 9 0 = 0) (x : Int32) : cM l D h a ca yX1_fork wsX1_fork { frames := 2, cells := 0, slots := 0, locals := 44 } [.int x] v (some (.int (mFrk v m x).1)) (mFrk v m x).2 := by
  refine zz_C.of (bytes := cX1_fork) (maxL := 4) (ret := (some .int)) (lv0 := [some (.ref h), some (.int x), none, none]) (by decide) rfl (Nat.le_of_ble_eq_true rfl) rfl rfl ?_
  intro p e s m' below meth c A Q X Ei Ev
  refine zz_aload_n X dX1_fork_0 rfl rfl ?_
  refine zz_iconst (v := 0) X dX1_fork_1 (by decide) ?_
  refine qq_put (k0 := 0) (u2 := (up2 v 9 0 0)) X imX1 (by decide) (mc flX1_42) (by decide) (by decide +kernel) dX1_fork_2 rfl ?_
  refine zz_ws (ws' := wM h a ca v) (by rw [up2_0 h0]) ?_
  refine zz_aload_n X dX1_fork_5 rfl rfl ?_
  refine zz_iload_n X dX1_fork_6 rfl rfl ?_
  refine qq_calli (rest := []) X (m_running v m hm h16 x) (cwV 1 X.1.2.2.2.2 (gw lkX1_68 imX1_running seX1_running itX1 cdX1_running) rfl rfl rfl hdX1_running ⟨Nat.le_of_ble_eq_true rfl, Nat.le_of_ble_eq_true rfl⟩) rfl rfl (Nat.le_of_ble_eq_true rfl) dX1_fork_7 ⟨Nat.zero_le _, Nat.zero_le _⟩ ?_
  rcases mRun_in (v := v) (x := x) (m := m) with er | ⟨r, hrm, -, er⟩
  · refine zz_top er ?_
    refine zz_istore_n (lv' := [some (.ref h), some (.int x), some (.int (-1)), none]) X dX1_fork_10 rfl (by decide) rfl ?_
    refine zz_aload_n X dX1_fork_11 rfl rfl ?_
    refine qq_calli (rest := []) X (m_vacant v m hm h16) (cwV 0 X.1.2.2.2.2 (gw lkX1_74 imX1_vacant seX1_vacant itX1 cdX1_vacant) rfl rfl rfl hdX1_vacant ⟨Nat.le_of_ble_eq_true rfl, Nat.le_of_ble_eq_true rfl⟩) rfl rfl (Nat.le_of_ble_eq_true rfl) dX1_fork_12 ⟨Nat.zero_le _, Nat.zero_le _⟩ ?_
    refine zz_istore_n (lv' := [some (.ref h), some (.int x), some (.int (-1)), some (.int (nI (mVac v m)))]) X dX1_fork_15 rfl (by decide) rfl ?_
    refine zz_iload_n X dX1_fork_16 rfl rfl ?_
    refine zz_if_lt (tgt := 26) X dX1_fork_17 (by decide) (fun hq => ?_) (fun hq => absurd m1_neg hq)
    refine zz_iconst (v := -1) X dX1_fork_26 (by decide) ?_
    refine zz_goto (tgt := 41) X dX1_fork_27 (by decide) ?_
    have e1 : mFrk v m x = (-1, v) := by simp [mFrk, er, m1_neg]
    exact Ei _ _ _ _ _ rfl rfl dX1_fork_41 (by rw [e1]) (by rw [e1])
  · have hr : r < 16 := by omega
    have cr := nI_clamp (show r < 2 ^ 31 by omega)
    have np := nI_pos (show r < 2 ^ 31 by omega)
    have nn := nI_pos' (show r < 2 ^ 31 by omega)
    refine zz_top er ?_
    refine zz_istore_n (lv' := [some (.ref h), some (.int x), some (.int (nI r)), none]) X dX1_fork_10 rfl (by decide) rfl ?_
    refine zz_aload_n X dX1_fork_11 rfl rfl ?_
    refine qq_calli (rest := []) X (m_vacant v m hm h16) (cwV 0 X.1.2.2.2.2 (gw lkX1_74 imX1_vacant seX1_vacant itX1 cdX1_vacant) rfl rfl rfl hdX1_vacant ⟨Nat.le_of_ble_eq_true rfl, Nat.le_of_ble_eq_true rfl⟩) rfl rfl (Nat.le_of_ble_eq_true rfl) dX1_fork_12 ⟨Nat.zero_le _, Nat.zero_le _⟩ ?_
    refine zz_istore_n (lv' := [some (.ref h), some (.int x), some (.int (nI r)), some (.int (nI (mVac v m)))]) X dX1_fork_15 rfl (by decide) rfl ?_
    refine zz_iload_n X dX1_fork_16 rfl rfl ?_
    refine zz_if_lt (tgt := 26) X dX1_fork_17 (by decide) (fun hq => absurd hq np) (fun hq => ?_)
    refine zz_iload_n X dX1_fork_20 rfl rfl ?_
    refine zz_bipush (v := 15) X dX1_fork_21 (by decide) ?_
    refine zz_icmp_ne (tgt := 30) X dX1_fork_23 (by decide) (fun h1 => ?_) (fun h1 => ?_)
    · refine zz_aload_n X dX1_fork_30 rfl rfl ?_
      refine zz_iload_n X dX1_fork_31 rfl rfl ?_
      refine zz_aload_n X dX1_fork_32 rfl rfl ?_
      refine qq_get (k0 := 7) (v := .ref (a 0)) X imX1 (by decide) (mc flX1_7) rfl dX1_fork_33 ?_
      refine zz_iload_n X dX1_fork_36 rfl rfl ?_
      refine zz_iald (q0 := 1) (t0 := 0) (j := r) X rfl rfl rfl hr (by decide) dX1_fork_37 ?_
      refine qq_calli (rest := []) X (m_add v m hm h16 (nI (mVac v m)) (v 0 r)) (cwV 2 X.1.2.2.2.2 (gw lkX1_64 imX1_add seX1_add itX1 cdX1_add) rfl rfl rfl hdX1_add ⟨Nat.le_of_ble_eq_true rfl, Nat.le_of_ble_eq_true rfl⟩) rfl rfl (Nat.le_of_ble_eq_true rfl) dX1_fork_38 ⟨Nat.zero_le _, Nat.zero_le _⟩ ?_
      have e1 : mFrk v m x = (nI (mVac v m), (mAdd v m (nI (mVac v m)) (v 0 r))) := by simp [mFrk, er, np, h1, cl, cr]
      exact Ei _ _ _ _ _ rfl rfl dX1_fork_41 (by rw [e1]) (by rw [e1])
    · refine zz_iconst (v := -1) X dX1_fork_26 (by decide) ?_
      refine zz_goto (tgt := 41) X dX1_fork_27 (by decide) ?_
      have e1 : mFrk v m x = (-1, v) := by simp [mFrk, er, np, h1]
      exact Ei _ _ _ _ _ rfl rfl dX1_fork_41 (by rw [e1]) (by rw [e1])
set_option maxHeartbeats 4000000 in
set_option maxRecDepth 100000 in
theorem m_exit {l : Launch} {D : va_G} {h : Nat} {a : Nat → Nat} {ca : Nat → ClassId} (v : St) (m : Nat) (hm : v 9 2 = nI m) (h16 : m ≤ 15) (h0 : v 9 0 = 0) (x y : Int32) : cM l D h a ca yX1_exit wsX1_exit { frames := 1, cells := 0, slots := 0, locals := 23 } [.int x, .int y] v (some (.int (mExt v m x y).1)) (mExt v m x y).2 := by
  refine zz_C.of (bytes := cX1_exit) (maxL := 6) (ret := (some .int)) (lv0 := [some (.ref h), some (.int x), some (.int y), none, none, none]) (by decide) rfl (Nat.le_of_ble_eq_true rfl) rfl rfl ?_
  intro p e s m' below meth c A Q X Ei Ev
  refine zz_aload_n X dX1_exit_0 rfl rfl ?_
  refine zz_iconst (v := 0) X dX1_exit_1 (by decide) ?_
  refine qq_put (k0 := 0) (u2 := (up2 v 9 0 0)) X imX1 (by decide) (mc flX1_42) (by decide) (by decide +kernel) dX1_exit_2 rfl ?_
  refine zz_ws (ws' := wM h a ca v) (by rw [up2_0 h0]) ?_
  refine zz_aload_n X dX1_exit_5 rfl rfl ?_
  refine zz_iload_n X dX1_exit_6 rfl rfl ?_
  refine qq_calli (rest := []) X (m_running v m hm h16 x) (cwV 1 X.1.2.2.2.2 (gw lkX1_68 imX1_running seX1_running itX1 cdX1_running) rfl rfl rfl hdX1_running ⟨Nat.le_of_ble_eq_true rfl, Nat.le_of_ble_eq_true rfl⟩) rfl rfl (Nat.le_of_ble_eq_true rfl) dX1_exit_7 ⟨Nat.zero_le _, Nat.zero_le _⟩ ?_
  rcases mRun_in (v := v) (x := x) (m := m) with er | ⟨r, hrm, -, er⟩
  · refine zz_top er ?_
    refine zz_istore_n (lv' := [some (.ref h), some (.int x), some (.int y), some (.int (-1)), none, none]) X dX1_exit_10 rfl (by decide) rfl ?_
    refine zz_iload_n X dX1_exit_11 rfl rfl ?_
    refine zz_if_ge (tgt := 17) X dX1_exit_12 (by decide) (fun hq => absurd hq nn_m1) (fun hq => ?_)
    refine zz_iconst (v := -1) X dX1_exit_15 (by decide) ?_
    have e1 : mExt v m x y = (-1, v) := by simp [mExt, er, nn_m1]
    exact Ei _ _ _ _ _ rfl rfl dX1_exit_16 (by rw [e1]) (by rw [e1])
  · have hr : r < 16 := by omega
    have cr := nI_clamp (show r < 2 ^ 31 by omega)
    have np := nI_pos (show r < 2 ^ 31 by omega)
    have nn := nI_pos' (show r < 2 ^ 31 by omega)
    refine zz_top er ?_
    refine zz_istore_n (lv' := [some (.ref h), some (.int x), some (.int y), some (.int (nI r)), none, none]) X dX1_exit_10 rfl (by decide) rfl ?_
    refine zz_iload_n X dX1_exit_11 rfl rfl ?_
    refine zz_if_ge (tgt := 17) X dX1_exit_12 (by decide) (fun hq => ?_) (fun hq => absurd nn hq)
    refine zz_aload_n X dX1_exit_17 rfl rfl ?_
    refine qq_get (k0 := 8) (v := .ref (a 1)) X imX1 (by decide) (mc flX1_13) rfl dX1_exit_18 ?_
    refine zz_iload_n X dX1_exit_21 rfl rfl ?_
    refine zz_iald (q0 := 2) (t0 := 1) (j := r) X rfl rfl rfl hr (by decide) dX1_exit_22 ?_
    refine zz_istore (lv' := [some (.ref h), some (.int x), some (.int y), some (.int (nI r)), some (.int (v 1 r)), none]) X dX1_exit_23 (by decide) rfl ?_
    refine zz_aload_n X dX1_exit_25 rfl rfl ?_
    refine qq_get (k0 := 7) (v := .ref (a 0)) X imX1 (by decide) (mc flX1_7) rfl dX1_exit_26 ?_
    refine zz_iload_n X dX1_exit_29 rfl rfl ?_
    refine zz_iald (q0 := 1) (t0 := 0) (j := r) X rfl rfl rfl hr (by decide) dX1_exit_30 ?_
    refine zz_iconst (v := 1) X dX1_exit_31 (by decide) ?_
    refine zz_icmp_ne (tgt := 48) X dX1_exit_32 (by decide) (fun h1 => ?_) (fun h1 => ?_)
    · refine zz_iconst (v := 0) X dX1_exit_48 (by decide) ?_
      refine zz_istore (lv' := [some (.ref h), some (.int x), some (.int y), some (.int (nI r)), some (.int (v 1 r)), some (.int 0)]) X dX1_exit_49 (by decide) rfl ?_
      have loop : ∀ (n i : Nat) (w : St), i + n = m → w 9 2 = nI m → zl (mExt1 r) n i w = zl (mExt1 r) m 0 v → zz_V p l e { frames := 1, cells := 0, slots := 0, locals := 23 } s m' [.ref h, .int x, .int y].toArray below meth c 0 0 Q 6 D vwCl A (wM h a ca w) [some (.ref h), some (.int x), some (.int y), some (.int (nI r)), some (.int (v 1 r)), some (.int (nI i))] 51 [] := by
        intro n
        induction n with
        | zero =>
          intro i w hi hw hz
          refine zz_iload X dX1_exit_51 rfl ?_
          refine zz_aload_n X dX1_exit_53 rfl rfl ?_
          refine qq_get (k0 := 2) (v := .int (w 9 2)) X imX1 (by decide) (mc flX1_45) rfl dX1_exit_54 ?_
          refine zz_top (show w 9 2 = nI m from hw) ?_
          refine zz_icmp_ge (tgt := 100) X dX1_exit_57 (by decide) (fun hq => ?_) (fun hq => absurd (nI_le (a := m) (by omega) (by omega)) hq)
          refine zz_aload_n X dX1_exit_100 rfl rfl ?_
          refine qq_get (k0 := 10) (v := .ref (a 3)) X imX1 (by decide) (mc flX1_19) rfl dX1_exit_101 ?_
          refine zz_iload_n X dX1_exit_104 rfl rfl ?_
          refine zz_iconst (v := 1) X dX1_exit_105 (by decide) ?_
          refine zz_zast (q0 := 4) (t0 := 3) (j := r) (ws' := wM h a ca (up2 w 3 r 1)) X rfl rfl rfl hr (by decide) rfl dX1_exit_106 rfl ?_
          refine zz_aload_n X dX1_exit_107 rfl rfl ?_
          refine qq_get (k0 := 11) (v := .ref (a 4)) X imX1 (by decide) (mc flX1_23) rfl dX1_exit_108 ?_
          refine zz_iload_n X dX1_exit_111 rfl rfl ?_
          refine zz_iload_n X dX1_exit_112 rfl rfl ?_
          refine zz_iast (q0 := 5) (t0 := 4) (j := r) (ws' := wM h a ca (up2 (up2 w 3 r 1) 4 r y)) X rfl rfl rfl hr (by decide) dX1_exit_113 rfl ?_
          refine zz_aload_n X dX1_exit_114 rfl rfl ?_
          refine qq_get (k0 := 13) (v := .ref (a 6)) X imX1 (by decide) (mc flX1_29) rfl dX1_exit_115 ?_
          refine zz_iload_n X dX1_exit_118 rfl rfl ?_
          refine zz_iconst (v := -1) X dX1_exit_119 (by decide) ?_
          refine zz_iast (q0 := 7) (t0 := 6) (j := r) (ws' := wM h a ca ((up2 (up2 (up2 w 3 r 1) 4 r y) 6 r (-1)))) X rfl rfl rfl hr (by decide) dX1_exit_120 rfl ?_
          refine zz_iload X dX1_exit_121 rfl ?_
          have hz : w = zl (mExt1 r) m 0 v := hz
          have e1 : mExt v m x y = (v 1 r, (up2 (up2 (up2 w 3 r 1) 4 r y) 6 r (-1))) := by rw [mExt, er, if_pos nn]; simp only [cl, cr]; rw [if_neg h1, ← hz]; rfl
          exact Ei _ _ _ _ _ rfl rfl dX1_exit_123 (by rw [e1]) (by rw [e1])
        | succ n ih =>
          intro i w hi hw hz
          have hlt : i < m := by omega
          refine zz_iload X dX1_exit_51 rfl ?_
          refine zz_aload_n X dX1_exit_53 rfl rfl ?_
          refine qq_get (k0 := 2) (v := .int (w 9 2)) X imX1 (by decide) (mc flX1_45) rfl dX1_exit_54 ?_
          refine zz_top (show w 9 2 = nI m from hw) ?_
          refine zz_icmp_ge (tgt := 100) X dX1_exit_57 (by decide) (fun hq => absurd hq (nI_ge (b := m) hlt (by omega))) (fun hq => ?_)
          refine zz_aload_n X dX1_exit_60 rfl rfl ?_
          refine qq_get (k0 := 9) (v := .ref (a 2)) X imX1 (by decide) (mc flX1_16) rfl dX1_exit_61 ?_
          refine zz_iload X dX1_exit_64 rfl ?_
          refine zz_aload_n X dX1_exit_66 rfl rfl ?_
          refine qq_get (k0 := 9) (v := .ref (a 2)) X imX1 (by decide) (mc flX1_16) rfl dX1_exit_67 ?_
          refine zz_iload X dX1_exit_70 rfl ?_
          refine zz_iald (q0 := 3) (t0 := 2) (j := i) X rfl rfl rfl (show i < 16 by omega) (by decide) dX1_exit_72 ?_
          refine zz_aload_n X dX1_exit_73 rfl rfl ?_
          refine qq_get (k0 := 7) (v := .ref (a 0)) X imX1 (by decide) (mc flX1_7) rfl dX1_exit_74 ?_
          refine zz_iload_n X dX1_exit_77 rfl rfl ?_
          refine zz_iald (q0 := 1) (t0 := 0) (j := r) X rfl rfl rfl hr (by decide) dX1_exit_78 ?_
          refine zz_icmp_ne (tgt := 86) X dX1_exit_79 (by decide) (fun h2 => ?_) (fun h2 => ?_)
          · refine zz_aload_n X dX1_exit_86 rfl rfl ?_
            refine qq_get (k0 := 9) (v := .ref (a 2)) X imX1 (by decide) (mc flX1_16) rfl dX1_exit_87 ?_
            refine zz_iload X dX1_exit_90 rfl ?_
            refine zz_iald (q0 := 3) (t0 := 2) (j := i) X rfl rfl rfl (show i < 16 by omega) (by decide) dX1_exit_92 ?_
            refine zz_iast (q0 := 3) (t0 := 2) (j := i) (ws' := wM h a ca (up2 w 2 i (w 2 i))) X rfl rfl rfl (show i < 16 by omega) (by decide) dX1_exit_93 rfl ?_
            refine zz_iinc (v := (nI (i + 1))) (lv' := [some (.ref h), some (.int x), some (.int y), some (.int (nI r)), some (.int (v 1 r)), some (.int (nI (i + 1)))]) X dX1_exit_94 rfl (nI_1 _) (by decide) rfl ?_
            refine zz_goto (tgt := 51) X dX1_exit_97 (by decide) ?_
            exact ih (i + 1) _ (by omega) hw (by rw [← hz, zl, mExt1, if_neg h2])
          · refine zz_iconst (v := 1) X dX1_exit_82 (by decide) ?_
            refine zz_goto (tgt := 93) X dX1_exit_83 (by decide) ?_
            refine zz_iast (q0 := 3) (t0 := 2) (j := i) (ws' := wM h a ca (up2 w 2 i 1)) X rfl rfl rfl (show i < 16 by omega) (by decide) dX1_exit_93 rfl ?_
            refine zz_iinc (v := (nI (i + 1))) (lv' := [some (.ref h), some (.int x), some (.int y), some (.int (nI r)), some (.int (v 1 r)), some (.int (nI (i + 1)))]) X dX1_exit_94 rfl (nI_1 _) (by decide) rfl ?_
            refine zz_goto (tgt := 51) X dX1_exit_97 (by decide) ?_
            exact ih (i + 1) _ (by omega) hw (by rw [← hz, zl, mExt1, if_pos h2])
      exact loop m 0 v (Nat.zero_add _) hm rfl
    · refine zz_aload_n X dX1_exit_35 rfl rfl ?_
      refine zz_iload_n X dX1_exit_36 rfl rfl ?_
      refine qq_put (k0 := 6) (u2 := (up2 v 9 6 y)) X imX1 (by decide) (mc flX1_78) (by decide) (by decide +kernel) dX1_exit_37 rfl ?_
      refine zz_aload_n X dX1_exit_40 rfl rfl ?_
      refine zz_iconst (v := 0) X dX1_exit_41 (by decide) ?_
      refine qq_put (k0 := 2) (u2 := (up2 (up2 v 9 6 y) 9 2 0)) X imX1 (by decide) (mc flX1_45) (by decide) (by decide +kernel) dX1_exit_42 rfl ?_
      refine zz_iload X dX1_exit_45 rfl ?_
      have e1 : mExt v m x y = (v 1 r, (up2 (up2 v 9 6 y) 9 2 0)) := by simp [mExt, er, nn, cl, cr, h1]
      exact Ei _ _ _ _ _ rfl rfl dX1_exit_47 (by rw [e1]) (by rw [e1])
set_option maxHeartbeats 4000000 in
set_option maxRecDepth 100000 in
theorem m_await {l : Launch} {D : va_G} {h : Nat} {a : Nat → Nat} {ca : Nat → ClassId} (v : St) (m : Nat) (hm : v 9 2 = nI m) (h16 : m ≤ 15) (h0 : v 9 0 = 0) (hb : mB v) (x : Int32) : cM l D h a ca yX1_await wsX1_await { frames := 1, cells := 0, slots := 0, locals := 23 } [.int x] v (some (.int (mAwt v m x).1)) (mAwt v m x).2 := by
  refine zz_C.of (bytes := cX1_await) (maxL := 6) (ret := (some .int)) (lv0 := [some (.ref h), some (.int x), none, none, none, none]) (by decide) rfl (Nat.le_of_ble_eq_true rfl) rfl rfl ?_
  intro p e s m' below meth c A Q X Ei Ev
  refine zz_aload_n X dX1_await_0 rfl rfl ?_
  refine zz_iconst (v := 0) X dX1_await_1 (by decide) ?_
  refine qq_put (k0 := 0) (u2 := (up2 v 9 0 0)) X imX1 (by decide) (mc flX1_42) (by decide) (by decide +kernel) dX1_await_2 rfl ?_
  refine zz_ws (ws' := wM h a ca v) (by rw [up2_0 h0]) ?_
  refine zz_aload_n X dX1_await_5 rfl rfl ?_
  refine zz_iload_n X dX1_await_6 rfl rfl ?_
  refine qq_calli (rest := []) X (m_running v m hm h16 x) (cwV 1 X.1.2.2.2.2 (gw lkX1_68 imX1_running seX1_running itX1 cdX1_running) rfl rfl rfl hdX1_running ⟨Nat.le_of_ble_eq_true rfl, Nat.le_of_ble_eq_true rfl⟩) rfl rfl (Nat.le_of_ble_eq_true rfl) dX1_await_7 ⟨Nat.zero_le _, Nat.zero_le _⟩ ?_
  rcases mRun_in (v := v) (x := x) (m := m) with er | ⟨r, hrm, -, er⟩
  · refine zz_top er ?_
    refine zz_istore_n (lv' := [some (.ref h), some (.int x), some (.int (-1)), none, none, none]) X dX1_await_10 rfl (by decide) rfl ?_
    refine zz_iconst (v := 0) X dX1_await_11 (by decide) ?_
    refine zz_istore_n (lv' := [some (.ref h), some (.int x), some (.int (-1)), some (.int 0), none, none]) X dX1_await_12 rfl (by decide) rfl ?_
    refine zz_iconst (v := 0) X dX1_await_13 (by decide) ?_
    refine zz_istore (lv' := [some (.ref h), some (.int x), some (.int (-1)), some (.int 0), some (.int 0), none]) X dX1_await_14 (by decide) rfl ?_
    refine zz_iload X dX1_await_16 rfl ?_
    refine zz_aload_n X dX1_await_18 rfl rfl ?_
    refine qq_get (k0 := 2) (v := .int (v 9 2)) X imX1 (by decide) (mc flX1_45) rfl dX1_await_19 ?_
    refine zz_top (show v 9 2 = nI m from hm) ?_
    refine zz_icmp_ge (tgt := 61) X dX1_await_22 (by decide) (fun h1 => ?_) (fun h1 => ?_)
    · refine zz_iload_n X dX1_await_61 rfl rfl ?_
      refine zz_if_ne (tgt := 67) X dX1_await_62 (by decide) (fun hq => absurd rfl hq) (fun hq => ?_)
      refine zz_iconst (v := -1) X dX1_await_65 (by decide) ?_
      have e1 : mAwt v m x = (-1, v) := by simp [mAwt, er, m1_neg]
      exact Ei _ _ _ _ _ rfl rfl dX1_await_66 (by rw [e1]) (by rw [e1])
    · refine zz_iload_n X dX1_await_25 rfl rfl ?_
      refine zz_if_lt (tgt := 61) X dX1_await_26 (by decide) (fun hq => ?_) (fun hq => absurd m1_neg hq)
      refine zz_iload_n X dX1_await_61 rfl rfl ?_
      refine zz_if_ne (tgt := 67) X dX1_await_62 (by decide) (fun hq => absurd rfl hq) (fun hq => ?_)
      refine zz_iconst (v := -1) X dX1_await_65 (by decide) ?_
      have e1 : mAwt v m x = (-1, v) := by simp [mAwt, er, m1_neg]
      exact Ei _ _ _ _ _ rfl rfl dX1_await_66 (by rw [e1]) (by rw [e1])
  · have hr : r < 16 := by omega
    have cr := nI_clamp (show r < 2 ^ 31 by omega)
    have np := nI_pos (show r < 2 ^ 31 by omega)
    have nn := nI_pos' (show r < 2 ^ 31 by omega)
    refine zz_top er ?_
    refine zz_istore_n (lv' := [some (.ref h), some (.int x), some (.int (nI r)), none, none, none]) X dX1_await_10 rfl (by decide) rfl ?_
    refine zz_iconst (v := 0) X dX1_await_11 (by decide) ?_
    refine zz_istore_n (lv' := [some (.ref h), some (.int x), some (.int (nI r)), some (.int 0), none, none]) X dX1_await_12 rfl (by decide) rfl ?_
    refine zz_iconst (v := 0) X dX1_await_13 (by decide) ?_
    refine zz_istore (lv' := [some (.ref h), some (.int x), some (.int (nI r)), some (.int 0), some (.int 0), none]) X dX1_await_14 (by decide) rfl ?_
    have loop : ∀ (n i : Nat) (f : Int32), i + n = m → (f = 0 ∨ f = 1) → zl (fun k (f : Int32) => if f = 0 then (if v 2 k = v 0 r then 1 else 0) else 1) n i f = mChd v m r → zz_V p l e { frames := 1, cells := 0, slots := 0, locals := 23 } s m' [.ref h, .int x].toArray below meth c 0 0 Q 6 D vwCl A (wM h a ca v) [some (.ref h), some (.int x), some (.int (nI r)), some (.int f), some (.int (nI i)), none] 16 [] := by
      intro n
      induction n with
      | zero =>
        intro i f hi hf hz
        refine zz_iload X dX1_await_16 rfl ?_
        refine zz_aload_n X dX1_await_18 rfl rfl ?_
        refine qq_get (k0 := 2) (v := .int (v 9 2)) X imX1 (by decide) (mc flX1_45) rfl dX1_await_19 ?_
        refine zz_top (show v 9 2 = nI m from hm) ?_
        refine zz_icmp_ge (tgt := 61) X dX1_await_22 (by decide) (fun hq => ?_) (fun hq => absurd (nI_le (a := m) (by omega) (by omega)) hq)
        have hz : f = mChd v m r := hz
        refine zz_iload_n X dX1_await_61 rfl rfl ?_
        refine zz_if_ne (tgt := 67) X dX1_await_62 (by decide) (fun h1 => ?_) (fun h1 => ?_)
        · refine zz_aload_n X dX1_await_67 rfl rfl ?_
          refine zz_iload_n X dX1_await_68 rfl rfl ?_
          refine qq_calli (rest := []) X (m_endedChild v m hm h16 r hr) (cwV 1 X.1.2.2.2.2 (gw lkX1_52 imX1_endedChild seX1_endedChild itX1 cdX1_endedChild) rfl rfl rfl hdX1_endedChild ⟨Nat.le_of_ble_eq_true rfl, Nat.le_of_ble_eq_true rfl⟩) rfl rfl (Nat.le_of_ble_eq_true rfl) dX1_await_69 ⟨Nat.zero_le _, Nat.zero_le _⟩ ?_
          rcases mEnd_in (v := v) (r := r) (m := m) with ee | ⟨k, hk, ee⟩
          · refine zz_top ee ?_
            refine zz_istore (lv' := [some (.ref h), some (.int x), some (.int (nI r)), some (.int f), some (.int (-1)), none]) X dX1_await_72 (by decide) rfl ?_
            refine zz_iload X dX1_await_74 rfl ?_
            refine zz_if_ge (tgt := 90) X dX1_await_76 (by decide) (fun hq => absurd hq nn_m1) (fun hq => ?_)
            refine zz_aload_n X dX1_await_79 rfl rfl ?_
            refine zz_iload_n X dX1_await_80 rfl rfl ?_
            refine zz_iconst (v := 2) X dX1_await_81 (by decide) ?_
            refine zz_iconst (v := 0) X dX1_await_82 (by decide) ?_
            refine qq_calli (rest := []) X (m_waitsFor v r hr 2 0) (cwV 3 X.1.2.2.2.2 (gw lkX1_81 imX1_waitsFor seX1_waitsFor itX1 cdX1_waitsFor) rfl rfl rfl hdX1_waitsFor ⟨Nat.le_of_ble_eq_true rfl, Nat.le_of_ble_eq_true rfl⟩) rfl rfl (Nat.le_of_ble_eq_true rfl) dX1_await_83 ⟨Nat.zero_le _, Nat.zero_le _⟩ ?_
            refine zz_istore (lv' := [some (.ref h), some (.int x), some (.int (nI r)), some (.int f), some (.int (-1)), some (.int ((mWts v r 2 0) 1 r))]) X dX1_await_86 (by decide) rfl ?_
            refine zz_iconst (v := 0) X dX1_await_88 (by decide) ?_
            have e1 : mAwt v m x = (0, (mWts v r 2 0)) := by rw [mAwt, er, if_neg np]; simp only [cl, cr]; rw [← hz, if_neg h1, ee, if_neg nn_m1]
            exact Ei _ _ _ _ _ rfl rfl dX1_await_89 (by rw [e1]) (by rw [e1])
          · refine zz_top ee ?_
            have ck := nI_clamp (show k < 2 ^ 31 by omega)
            have nk := nI_pos' (show k < 2 ^ 31 by omega)
            refine zz_istore (lv' := [some (.ref h), some (.int x), some (.int (nI r)), some (.int f), some (.int (nI k)), none]) X dX1_await_72 (by decide) rfl ?_
            refine zz_iload X dX1_await_74 rfl ?_
            refine zz_if_ge (tgt := 90) X dX1_await_76 (by decide) (fun hq => ?_) (fun hq => absurd nk hq)
            refine zz_aload_n X dX1_await_90 rfl rfl ?_
            refine qq_get (k0 := 7) (v := .ref (a 0)) X imX1 (by decide) (mc flX1_7) rfl dX1_await_91 ?_
            refine zz_iload X dX1_await_94 rfl ?_
            refine zz_iald (q0 := 1) (t0 := 0) (j := k) X rfl rfl rfl (show k < 16 by omega) (by decide) dX1_await_96 ?_
            refine zz_istore (lv' := [some (.ref h), some (.int x), some (.int (nI r)), some (.int f), some (.int (nI k)), some (.int (v 0 k))]) X dX1_await_97 (by decide) rfl ?_
            refine zz_aload_n X dX1_await_99 rfl rfl ?_
            refine zz_aload_n X dX1_await_100 rfl rfl ?_
            refine qq_get (k0 := 11) (v := .ref (a 4)) X imX1 (by decide) (mc flX1_23) rfl dX1_await_101 ?_
            refine zz_iload X dX1_await_104 rfl ?_
            refine zz_iald (q0 := 5) (t0 := 4) (j := k) X rfl rfl rfl (show k < 16 by omega) (by decide) dX1_await_106 ?_
            refine qq_put (k0 := 6) (u2 := (up2 v 9 6 (v 4 k))) X imX1 (by decide) (mc flX1_78) (by decide) (by decide +kernel) dX1_await_107 rfl ?_
            refine zz_aload_n X dX1_await_110 rfl rfl ?_
            refine zz_iload X dX1_await_111 rfl ?_
            obtain ⟨q, rfl⟩ : ∃ q, m = q + 1 := ⟨m - 1, by omega⟩
            refine qq_callv (rest := []) X (m_remove (up2 v 9 6 (v 4 k)) q hm h16 hb k (by omega)) (cwV 1 X.1.2.2.2.2 (gw lkX1_85 imX1_remove seX1_remove itX1 cdX1_remove) rfl rfl rfl hdX1_remove ⟨Nat.le_of_ble_eq_true rfl, Nat.le_of_ble_eq_true rfl⟩) rfl rfl (Nat.le_of_ble_eq_true rfl) dX1_await_113 ⟨Nat.zero_le _, Nat.zero_le _⟩ ?_
            refine zz_iload X dX1_await_116 rfl ?_
            have e1 : mAwt v (q + 1) x = (v 0 k, (mRem (up2 v 9 6 (v 4 k)) q k)) := by rw [mAwt, er, if_neg np]; simp only [cl, cr]; rw [← hz, if_neg h1, ee, if_pos nk]; simp only [cl, ck]; rfl
            exact Ei _ _ _ _ _ rfl rfl dX1_await_118 (by rw [e1]) (by rw [e1])
        · refine zz_iconst (v := -1) X dX1_await_65 (by decide) ?_
          have e1 : mAwt v m x = (-1, v) := by rw [mAwt, er, if_neg np]; simp only [cl, cr]; rw [← hz, if_pos h1]
          exact Ei _ _ _ _ _ rfl rfl dX1_await_66 (by rw [e1]) (by rw [e1])
      | succ n ih =>
        intro i f hi hf hz
        have hlt : i < m := by omega
        refine zz_iload X dX1_await_16 rfl ?_
        refine zz_aload_n X dX1_await_18 rfl rfl ?_
        refine qq_get (k0 := 2) (v := .int (v 9 2)) X imX1 (by decide) (mc flX1_45) rfl dX1_await_19 ?_
        refine zz_top (show v 9 2 = nI m from hm) ?_
        refine zz_icmp_ge (tgt := 61) X dX1_await_22 (by decide) (fun hq => absurd hq (nI_ge (b := m) hlt (by omega))) (fun hq => ?_)
        refine zz_iload_n X dX1_await_25 rfl rfl ?_
        refine zz_if_lt (tgt := 61) X dX1_await_26 (by decide) (fun hq => absurd hq np) (fun hq => ?_)
        refine zz_iload_n X dX1_await_29 rfl rfl ?_
        refine zz_if_ne (tgt := 49) X dX1_await_30 (by decide) (fun h1 => ?_) (fun h1 => ?_)
        · refine zz_iconst (v := 1) X dX1_await_49 (by decide) ?_
          refine zz_goto (tgt := 54) X dX1_await_50 (by decide) ?_
          refine zz_istore_n (lv' := [some (.ref h), some (.int x), some (.int (nI r)), some (.int 1), some (.int (nI i)), none]) X dX1_await_54 rfl (by decide) rfl ?_
          refine zz_iinc (v := (nI (i + 1))) (lv' := [some (.ref h), some (.int x), some (.int (nI r)), some (.int 1), some (.int (nI (i + 1))), none]) X dX1_await_55 rfl (nI_1 _) (by decide) rfl ?_
          refine zz_goto (tgt := 16) X dX1_await_58 (by decide) ?_
          exact ih (i + 1) _ (by omega) (Or.inr rfl) (by rw [← hz]; simp [zl, h1])
        · refine zz_aload_n X dX1_await_33 rfl rfl ?_
          refine qq_get (k0 := 9) (v := .ref (a 2)) X imX1 (by decide) (mc flX1_16) rfl dX1_await_34 ?_
          refine zz_iload X dX1_await_37 rfl ?_
          refine zz_iald (q0 := 3) (t0 := 2) (j := i) X rfl rfl rfl (show i < 16 by omega) (by decide) dX1_await_39 ?_
          refine zz_aload_n X dX1_await_40 rfl rfl ?_
          refine qq_get (k0 := 7) (v := .ref (a 0)) X imX1 (by decide) (mc flX1_7) rfl dX1_await_41 ?_
          refine zz_iload_n X dX1_await_44 rfl rfl ?_
          refine zz_iald (q0 := 1) (t0 := 0) (j := r) X rfl rfl rfl hr (by decide) dX1_await_45 ?_
          refine zz_icmp_ne (tgt := 53) X dX1_await_46 (by decide) (fun h2 => ?_) (fun h2 => ?_)
          · refine zz_iconst (v := 0) X dX1_await_53 (by decide) ?_
            refine zz_istore_n (lv' := [some (.ref h), some (.int x), some (.int (nI r)), some (.int 0), some (.int (nI i)), none]) X dX1_await_54 rfl (by decide) rfl ?_
            refine zz_iinc (v := (nI (i + 1))) (lv' := [some (.ref h), some (.int x), some (.int (nI r)), some (.int 0), some (.int (nI (i + 1))), none]) X dX1_await_55 rfl (nI_1 _) (by decide) rfl ?_
            refine zz_goto (tgt := 16) X dX1_await_58 (by decide) ?_
            exact ih (i + 1) _ (by omega) (Or.inl rfl) (by rw [← hz]; simp [zl, h1, h2])
          · refine zz_iconst (v := 1) X dX1_await_49 (by decide) ?_
            refine zz_goto (tgt := 54) X dX1_await_50 (by decide) ?_
            refine zz_istore_n (lv' := [some (.ref h), some (.int x), some (.int (nI r)), some (.int 1), some (.int (nI i)), none]) X dX1_await_54 rfl (by decide) rfl ?_
            refine zz_iinc (v := (nI (i + 1))) (lv' := [some (.ref h), some (.int x), some (.int (nI r)), some (.int 1), some (.int (nI (i + 1))), none]) X dX1_await_55 rfl (nI_1 _) (by decide) rfl ?_
            refine zz_goto (tgt := 16) X dX1_await_58 (by decide) ?_
            exact ih (i + 1) _ (by omega) (Or.inr rfl) (by rw [← hz]; simp [zl, h1, h2])
    exact loop m 0 0 (Nat.zero_add _) (Or.inl rfl) rfl
set_option maxHeartbeats 4000000 in
set_option maxRecDepth 100000 in
theorem m_status {l : Launch} {D : va_G} {h : Nat} {a : Nat → Nat} {ca : Nat → ClassId} (v : St) (m : Nat) (hm : v 9 2 = nI m) (h16 : m ≤ 15) (h0 : v 9 0 = 0) : cM l D h a ca yX1_status wsX1_status { frames := 0, cells := 0, slots := 0, locals := 0 } [] v (some (.int (v 9 6))) v := by
  refine zz_C.of (bytes := cX1_status) (maxL := 1) (ret := (some .int)) (lv0 := [some (.ref h)]) (by decide) rfl (Nat.le_of_ble_eq_true rfl) rfl rfl ?_
  intro p e s m' below meth c A Q X Ei Ev
  refine zz_aload_n X dX1_status_0 rfl rfl ?_
  refine zz_iconst (v := 0) X dX1_status_1 (by decide) ?_
  refine qq_put (k0 := 0) (u2 := (up2 v 9 0 0)) X imX1 (by decide) (mc flX1_42) (by decide) (by decide +kernel) dX1_status_2 rfl ?_
  refine zz_ws (ws' := wM h a ca v) (by rw [up2_0 h0]) ?_
  refine zz_aload_n X dX1_status_5 rfl rfl ?_
  refine qq_get (k0 := 6) (v := .int (v 9 6)) X imX1 (by decide) (mc flX1_78) rfl dX1_status_6 ?_
  exact Ei _ _ _ _ _ rfl rfl dX1_status_9 rfl rfl
set_option maxHeartbeats 4000000 in
set_option maxRecDepth 100000 in
theorem m_block {l : Launch} {D : va_G} {h : Nat} {a : Nat → Nat} {ca : Nat → ClassId} (v : St) (m : Nat) (hm : v 9 2 = nI m) (h16 : m ≤ 15) (h0 : v 9 0 = 0) (x y : Int32) : cM l D h a ca yX1_block wsX1_block { frames := 1, cells := 0, slots := 0, locals := 23 } [.int x, .int y] v (some (.int (mBlo v m x y).1)) (mBlo v m x y).2 := by
  refine zz_C.of (bytes := cX1_block) (maxL := 4) (ret := (some .int)) (lv0 := [some (.ref h), some (.int x), some (.int y), none]) (by decide) rfl (Nat.le_of_ble_eq_true rfl) rfl rfl ?_
  intro p e s m' below meth c A Q X Ei Ev
  refine zz_aload_n X dX1_block_0 rfl rfl ?_
  refine zz_iconst (v := 0) X dX1_block_1 (by decide) ?_
  refine qq_put (k0 := 0) (u2 := (up2 v 9 0 0)) X imX1 (by decide) (mc flX1_42) (by decide) (by decide +kernel) dX1_block_2 rfl ?_
  refine zz_ws (ws' := wM h a ca v) (by rw [up2_0 h0]) ?_
  refine zz_aload_n X dX1_block_5 rfl rfl ?_
  refine zz_iload_n X dX1_block_6 rfl rfl ?_
  refine qq_calli (rest := []) X (m_running v m hm h16 x) (cwV 1 X.1.2.2.2.2 (gw lkX1_68 imX1_running seX1_running itX1 cdX1_running) rfl rfl rfl hdX1_running ⟨Nat.le_of_ble_eq_true rfl, Nat.le_of_ble_eq_true rfl⟩) rfl rfl (Nat.le_of_ble_eq_true rfl) dX1_block_7 ⟨Nat.zero_le _, Nat.zero_le _⟩ ?_
  rcases mRun_in (v := v) (x := x) (m := m) with er | ⟨r, hrm, -, er⟩
  · refine zz_top er ?_
    refine zz_istore_n (lv' := [some (.ref h), some (.int x), some (.int y), some (.int (-1))]) X dX1_block_10 rfl (by decide) rfl ?_
    refine zz_iload_n X dX1_block_11 rfl rfl ?_
    refine zz_if_ge (tgt := 19) X dX1_block_12 (by decide) (fun hq => absurd hq nn_m1) (fun hq => ?_)
    refine zz_iconst (v := -1) X dX1_block_15 (by decide) ?_
    refine zz_goto (tgt := 26) X dX1_block_16 (by decide) ?_
    have e1 : mBlo v m x y = (-1, v) := by simp [mBlo, er, nn_m1]
    exact Ei _ _ _ _ _ rfl rfl dX1_block_26 (by rw [e1]) (by rw [e1])
  · have hr : r < 16 := by omega
    have cr := nI_clamp (show r < 2 ^ 31 by omega)
    have np := nI_pos (show r < 2 ^ 31 by omega)
    have nn := nI_pos' (show r < 2 ^ 31 by omega)
    refine zz_top er ?_
    refine zz_istore_n (lv' := [some (.ref h), some (.int x), some (.int y), some (.int (nI r))]) X dX1_block_10 rfl (by decide) rfl ?_
    refine zz_iload_n X dX1_block_11 rfl rfl ?_
    refine zz_if_ge (tgt := 19) X dX1_block_12 (by decide) (fun hq => ?_) (fun hq => absurd nn hq)
    refine zz_aload_n X dX1_block_19 rfl rfl ?_
    refine zz_iload_n X dX1_block_20 rfl rfl ?_
    refine zz_iconst (v := 1) X dX1_block_21 (by decide) ?_
    refine zz_iload_n X dX1_block_22 rfl rfl ?_
    refine qq_calli (rest := []) X (m_waitsFor v r hr 1 y) (cwV 3 X.1.2.2.2.2 (gw lkX1_81 imX1_waitsFor seX1_waitsFor itX1 cdX1_waitsFor) rfl rfl rfl hdX1_waitsFor ⟨Nat.le_of_ble_eq_true rfl, Nat.le_of_ble_eq_true rfl⟩) rfl rfl (Nat.le_of_ble_eq_true rfl) dX1_block_23 ⟨Nat.zero_le _, Nat.zero_le _⟩ ?_
    have e1 : mBlo v m x y = ((mWts v r 1 y) 1 r, (mWts v r 1 y)) := by simp [mBlo, er, nn, cl, cr]
    exact Ei _ _ _ _ _ rfl rfl dX1_block_26 (by rw [e1]) (by rw [e1])
set_option maxHeartbeats 4000000 in
set_option maxRecDepth 100000 in
theorem m_sleep {l : Launch} {D : va_G} {h : Nat} {a : Nat → Nat} {ca : Nat → ClassId} (v : St) (m : Nat) (hm : v 9 2 = nI m) (h16 : m ≤ 15) (h0 : v 9 0 = 0) (x y : Int32) : cM l D h a ca yX1_sleep wsX1_sleep { frames := 1, cells := 0, slots := 0, locals := 23 } [.int x, .int y] v (some (.int (mSlp v m x y).1)) (mSlp v m x y).2 := by
  refine zz_C.of (bytes := cX1_sleep) (maxL := 4) (ret := (some .int)) (lv0 := [some (.ref h), some (.int x), some (.int y), none]) (by decide) rfl (Nat.le_of_ble_eq_true rfl) rfl rfl ?_
  intro p e s m' below meth c A Q X Ei Ev
  refine zz_aload_n X dX1_sleep_0 rfl rfl ?_
  refine zz_iconst (v := 0) X dX1_sleep_1 (by decide) ?_
  refine qq_put (k0 := 0) (u2 := (up2 v 9 0 0)) X imX1 (by decide) (mc flX1_42) (by decide) (by decide +kernel) dX1_sleep_2 rfl ?_
  refine zz_ws (ws' := wM h a ca v) (by rw [up2_0 h0]) ?_
  refine zz_aload_n X dX1_sleep_5 rfl rfl ?_
  refine zz_iload_n X dX1_sleep_6 rfl rfl ?_
  refine qq_calli (rest := []) X (m_running v m hm h16 x) (cwV 1 X.1.2.2.2.2 (gw lkX1_68 imX1_running seX1_running itX1 cdX1_running) rfl rfl rfl hdX1_running ⟨Nat.le_of_ble_eq_true rfl, Nat.le_of_ble_eq_true rfl⟩) rfl rfl (Nat.le_of_ble_eq_true rfl) dX1_sleep_7 ⟨Nat.zero_le _, Nat.zero_le _⟩ ?_
  rcases mRun_in (v := v) (x := x) (m := m) with er | ⟨r, hrm, -, er⟩
  · refine zz_top er ?_
    refine zz_istore_n (lv' := [some (.ref h), some (.int x), some (.int y), some (.int (-1))]) X dX1_sleep_10 rfl (by decide) rfl ?_
    refine zz_iload_n X dX1_sleep_11 rfl rfl ?_
    refine zz_if_ge (tgt := 19) X dX1_sleep_12 (by decide) (fun hq => absurd hq nn_m1) (fun hq => ?_)
    refine zz_iconst (v := -1) X dX1_sleep_15 (by decide) ?_
    refine zz_goto (tgt := 61) X dX1_sleep_16 (by decide) ?_
    have e1 : mSlp v m x y = (-1, v) := by simp [mSlp, er, nn_m1]
    exact Ei _ _ _ _ _ rfl rfl dX1_sleep_61 (by rw [e1]) (by rw [e1])
  · have hr : r < 16 := by omega
    have cr := nI_clamp (show r < 2 ^ 31 by omega)
    have np := nI_pos (show r < 2 ^ 31 by omega)
    have nn := nI_pos' (show r < 2 ^ 31 by omega)
    refine zz_top er ?_
    refine zz_istore_n (lv' := [some (.ref h), some (.int x), some (.int y), some (.int (nI r))]) X dX1_sleep_10 rfl (by decide) rfl ?_
    refine zz_iload_n X dX1_sleep_11 rfl rfl ?_
    refine zz_if_ge (tgt := 19) X dX1_sleep_12 (by decide) (fun hq => ?_) (fun hq => absurd nn hq)
    refine zz_iload_n X dX1_sleep_19 rfl rfl ?_
    refine zz_iconst (v := 1) X dX1_sleep_20 (by decide) ?_
    refine zz_icmp_ge (tgt := 33) X dX1_sleep_21 (by decide) (fun h1 => ?_) (fun h1 => ?_)
    · refine zz_aload_n X dX1_sleep_33 rfl rfl ?_
      refine zz_iload_n X dX1_sleep_34 rfl rfl ?_
      refine zz_iconst (v := 3) X dX1_sleep_35 (by decide) ?_
      refine zz_aload_n X dX1_sleep_36 rfl rfl ?_
      refine qq_get (k0 := 3) (v := .int (v 9 3)) X imX1 (by decide) (mc flX1_55) rfl dX1_sleep_37 ?_
      refine zz_ldc (v := 2147483647) X dX1_sleep_40 (mc ctX1_89) ?_
      refine zz_iload_n X dX1_sleep_42 rfl rfl ?_
      refine zz_isub X dX1_sleep_43 ?_
      refine zz_icmp_le (tgt := 52) X dX1_sleep_44 (by decide) (fun h2 => ?_) (fun h2 => ?_)
      · refine zz_aload_n X dX1_sleep_52 rfl rfl ?_
        refine qq_get (k0 := 3) (v := .int (v 9 3)) X imX1 (by decide) (mc flX1_55) rfl dX1_sleep_53 ?_
        refine zz_iload_n X dX1_sleep_56 rfl rfl ?_
        refine zz_iadd X dX1_sleep_57 ?_
        have ew : mSlpW v y = (v 9 3 + y) := by rw [mSlpW, if_pos h2]
        refine qq_calli (rest := []) X (m_waitsFor v r hr 3 (v 9 3 + y)) (cwV 3 X.1.2.2.2.2 (gw lkX1_81 imX1_waitsFor seX1_waitsFor itX1 cdX1_waitsFor) rfl rfl rfl hdX1_waitsFor ⟨Nat.le_of_ble_eq_true rfl, Nat.le_of_ble_eq_true rfl⟩) rfl rfl (Nat.le_of_ble_eq_true rfl) dX1_sleep_58 ⟨Nat.zero_le _, Nat.zero_le _⟩ ?_
        have e1 : mSlp v m x y = ((mWts v r 3 (v 9 3 + y)) 1 r, (mWts v r 3 (v 9 3 + y))) := by rw [mSlp, er, if_pos nn, if_pos h1]; simp only [cl, cr]; rw [ew]
        exact Ei _ _ _ _ _ rfl rfl dX1_sleep_61 (by rw [e1]) (by rw [e1])
      · refine zz_ldc (v := 2147483647) X dX1_sleep_47 (mc ctX1_89) ?_
        refine zz_goto (tgt := 58) X dX1_sleep_49 (by decide) ?_
        have ew : mSlpW v y = 2147483647 := by rw [mSlpW, if_neg h2]
        refine qq_calli (rest := []) X (m_waitsFor v r hr 3 2147483647) (cwV 3 X.1.2.2.2.2 (gw lkX1_81 imX1_waitsFor seX1_waitsFor itX1 cdX1_waitsFor) rfl rfl rfl hdX1_waitsFor ⟨Nat.le_of_ble_eq_true rfl, Nat.le_of_ble_eq_true rfl⟩) rfl rfl (Nat.le_of_ble_eq_true rfl) dX1_sleep_58 ⟨Nat.zero_le _, Nat.zero_le _⟩ ?_
        have e1 : mSlp v m x y = ((mWts v r 3 2147483647) 1 r, (mWts v r 3 2147483647)) := by rw [mSlp, er, if_pos nn, if_pos h1]; simp only [cl, cr]; rw [ew]
        exact Ei _ _ _ _ _ rfl rfl dX1_sleep_61 (by rw [e1]) (by rw [e1])
    · refine zz_aload_n X dX1_sleep_24 rfl rfl ?_
      refine qq_get (k0 := 8) (v := .ref (a 1)) X imX1 (by decide) (mc flX1_13) rfl dX1_sleep_25 ?_
      refine zz_iload_n X dX1_sleep_28 rfl rfl ?_
      refine zz_iald (q0 := 2) (t0 := 1) (j := r) X rfl rfl rfl hr (by decide) dX1_sleep_29 ?_
      refine zz_goto (tgt := 61) X dX1_sleep_30 (by decide) ?_
      have e1 : mSlp v m x y = (v 1 r, v) := by simp [mSlp, er, nn, cl, cr, h1]
      exact Ei _ _ _ _ _ rfl rfl dX1_sleep_61 (by rw [e1]) (by rw [e1])
set_option maxHeartbeats 4000000 in
set_option maxRecDepth 100000 in
theorem m_wake {l : Launch} {D : va_G} {h : Nat} {a : Nat → Nat} {ca : Nat → ClassId} (v : St) (m : Nat) (hm : v 9 2 = nI m) (h16 : m ≤ 15) (h0 : v 9 0 = 0) (x : Int32) : cM l D h a ca yX1_wake wsX1_wake { frames := 0, cells := 0, slots := 0, locals := 0 } [.int x] v (some (.int (nI (mWak v m x).1))) (mWak v m x).2 := by
  refine zz_C.of (bytes := cX1_wake) (maxL := 4) (ret := (some .int)) (lv0 := [some (.ref h), some (.int x), none, none]) (by decide) rfl (Nat.le_of_ble_eq_true rfl) rfl rfl ?_
  intro p e s m' below meth c A Q X Ei Ev
  refine zz_aload_n X dX1_wake_0 rfl rfl ?_
  refine zz_iconst (v := 0) X dX1_wake_1 (by decide) ?_
  refine qq_put (k0 := 0) (u2 := (up2 v 9 0 0)) X imX1 (by decide) (mc flX1_42) (by decide) (by decide +kernel) dX1_wake_2 rfl ?_
  refine zz_ws (ws' := wM h a ca v) (by rw [up2_0 h0]) ?_
  refine zz_iconst (v := 0) X dX1_wake_5 (by decide) ?_
  refine zz_istore_n (lv' := [some (.ref h), some (.int x), some (.int 0), none]) X dX1_wake_6 rfl (by decide) rfl ?_
  refine zz_iconst (v := 0) X dX1_wake_7 (by decide) ?_
  refine zz_istore_n (lv' := [some (.ref h), some (.int x), some (.int 0), some (.int 0)]) X dX1_wake_8 rfl (by decide) rfl ?_
  have loop : ∀ (n i k : Nat) (w : St), i + n = m → w 9 2 = nI m → zl (mWak1 x) n i (k, w) = mWak v m x → zz_V p l e { frames := 0, cells := 0, slots := 0, locals := 0 } s m' [.ref h, .int x].toArray below meth c 0 0 Q 4 D vwCl A (wM h a ca w) [some (.ref h), some (.int x), some (.int (nI k)), some (.int (nI i))] 9 [] := by
    intro n
    induction n with
    | zero =>
      intro i k w hi hw hz
      refine zz_iload_n X dX1_wake_9 rfl rfl ?_
      refine zz_aload_n X dX1_wake_10 rfl rfl ?_
      refine qq_get (k0 := 2) (v := .int (w 9 2)) X imX1 (by decide) (mc flX1_45) rfl dX1_wake_11 ?_
      refine zz_top (show w 9 2 = nI m from hw) ?_
      refine zz_icmp_ge (tgt := 71) X dX1_wake_14 (by decide) (fun hq => ?_) (fun hq => absurd (nI_le (a := m) (by omega) (by omega)) hq)
      refine zz_iload_n X dX1_wake_71 rfl rfl ?_
      exact Ei _ _ _ _ _ rfl rfl dX1_wake_72 (by rw [← hz]; rfl) (by rw [← hz]; rfl)
    | succ n ih =>
      intro i k w hi hw hz
      have hlt : i < m := by omega
      refine zz_iload_n X dX1_wake_9 rfl rfl ?_
      refine zz_aload_n X dX1_wake_10 rfl rfl ?_
      refine qq_get (k0 := 2) (v := .int (w 9 2)) X imX1 (by decide) (mc flX1_45) rfl dX1_wake_11 ?_
      refine zz_top (show w 9 2 = nI m from hw) ?_
      refine zz_icmp_ge (tgt := 71) X dX1_wake_14 (by decide) (fun hq => absurd hq (nI_ge (b := m) hlt (by omega))) (fun hq => ?_)
      refine zz_aload_n X dX1_wake_17 rfl rfl ?_
      refine qq_get (k0 := 10) (v := .ref (a 3)) X imX1 (by decide) (mc flX1_19) rfl dX1_wake_18 ?_
      refine zz_iload_n X dX1_wake_21 rfl rfl ?_
      refine zz_zald (q0 := 4) (t0 := 3) (j := i) X rfl rfl rfl (show i < 16 by omega) (by decide) dX1_wake_22 ?_
      refine zz_if_ne (tgt := 65) X dX1_wake_23 (by decide) (fun h1 => ?_) (fun h1 => ?_)
      · refine zz_iinc (v := (nI (i + 1))) (lv' := [some (.ref h), some (.int x), some (.int (nI k)), some (.int (nI (i + 1)))]) X dX1_wake_65 rfl (nI_1 _) (by decide) rfl ?_
        refine zz_goto (tgt := 9) X dX1_wake_68 (by decide) ?_
        exact ih (i + 1) k _ (by omega) hw (by rw [← hz, zl, mWak1, if_neg h1])
      · refine zz_aload_n X dX1_wake_26 rfl rfl ?_
        refine qq_get (k0 := 13) (v := .ref (a 6)) X imX1 (by decide) (mc flX1_29) rfl dX1_wake_27 ?_
        refine zz_iload_n X dX1_wake_30 rfl rfl ?_
        refine zz_iald (q0 := 7) (t0 := 6) (j := i) X rfl rfl rfl (show i < 16 by omega) (by decide) dX1_wake_31 ?_
        refine zz_if_ge (tgt := 65) X dX1_wake_32 (by decide) (fun h2 => ?_) (fun h2 => ?_)
        · refine zz_iinc (v := (nI (i + 1))) (lv' := [some (.ref h), some (.int x), some (.int (nI k)), some (.int (nI (i + 1)))]) X dX1_wake_65 rfl (nI_1 _) (by decide) rfl ?_
          refine zz_goto (tgt := 9) X dX1_wake_68 (by decide) ?_
          exact ih (i + 1) k _ (by omega) hw (by rw [← hz, zl, mWak1, if_pos h1, if_pos h2])
        · refine zz_aload_n X dX1_wake_35 rfl rfl ?_
          refine qq_get (k0 := 14) (v := .ref (a 7)) X imX1 (by decide) (mc flX1_32) rfl dX1_wake_36 ?_
          refine zz_iload_n X dX1_wake_39 rfl rfl ?_
          refine zz_iald (q0 := 8) (t0 := 7) (j := i) X rfl rfl rfl (show i < 16 by omega) (by decide) dX1_wake_40 ?_
          refine zz_iconst (v := 1) X dX1_wake_41 (by decide) ?_
          refine zz_icmp_ne (tgt := 65) X dX1_wake_42 (by decide) (fun h3 => ?_) (fun h3 => ?_)
          · refine zz_iinc (v := (nI (i + 1))) (lv' := [some (.ref h), some (.int x), some (.int (nI k)), some (.int (nI (i + 1)))]) X dX1_wake_65 rfl (nI_1 _) (by decide) rfl ?_
            refine zz_goto (tgt := 9) X dX1_wake_68 (by decide) ?_
            exact ih (i + 1) k _ (by omega) hw (by rw [← hz, zl, mWak1, if_pos h1, if_neg h2, if_neg h3])
          · refine zz_aload_n X dX1_wake_45 rfl rfl ?_
            refine qq_get (k0 := 15) (v := .ref (a 8)) X imX1 (by decide) (mc flX1_35) rfl dX1_wake_46 ?_
            refine zz_iload_n X dX1_wake_49 rfl rfl ?_
            refine zz_iald (q0 := 9) (t0 := 8) (j := i) X rfl rfl rfl (show i < 16 by omega) (by decide) dX1_wake_50 ?_
            refine zz_iload_n X dX1_wake_51 rfl rfl ?_
            refine zz_icmp_ne (tgt := 65) X dX1_wake_52 (by decide) (fun h4 => ?_) (fun h4 => ?_)
            · refine zz_iinc (v := (nI (i + 1))) (lv' := [some (.ref h), some (.int x), some (.int (nI k)), some (.int (nI (i + 1)))]) X dX1_wake_65 rfl (nI_1 _) (by decide) rfl ?_
              refine zz_goto (tgt := 9) X dX1_wake_68 (by decide) ?_
              exact ih (i + 1) k _ (by omega) hw (by rw [← hz, zl, mWak1, if_pos h1, if_neg h2, if_pos h3, if_neg h4])
            · refine zz_aload_n X dX1_wake_55 rfl rfl ?_
              refine qq_get (k0 := 14) (v := .ref (a 7)) X imX1 (by decide) (mc flX1_32) rfl dX1_wake_56 ?_
              refine zz_iload_n X dX1_wake_59 rfl rfl ?_
              refine zz_iconst (v := 0) X dX1_wake_60 (by decide) ?_
              refine zz_iast (q0 := 8) (t0 := 7) (j := i) (ws' := wM h a ca (up2 w 7 i 0)) X rfl rfl rfl (show i < 16 by omega) (by decide) dX1_wake_61 rfl ?_
              refine zz_iinc (v := (nI (k + 1))) (lv' := [some (.ref h), some (.int x), some (.int (nI (k + 1))), some (.int (nI i))]) X dX1_wake_62 rfl (nI_1 _) (by decide) rfl ?_
              refine zz_iinc (v := (nI (i + 1))) (lv' := [some (.ref h), some (.int x), some (.int (nI (k + 1))), some (.int (nI (i + 1)))]) X dX1_wake_65 rfl (nI_1 _) (by decide) rfl ?_
              refine zz_goto (tgt := 9) X dX1_wake_68 (by decide) ?_
              exact ih (i + 1) (k + 1) _ (by omega) hw (by rw [← hz, zl, mWak1, if_pos h1, if_neg h2, if_pos h3, if_pos h4])
  exact loop m 0 0 v (Nat.zero_add _) hm rfl
set_option maxHeartbeats 4000000 in
set_option maxRecDepth 100000 in
theorem m_rest {l : Launch} {D : va_G} {h : Nat} {a : Nat → Nat} {ca : Nat → ClassId} (v : St) (m : Nat) (hm : v 9 2 = nI m) (h16 : m ≤ 15) (h0 : v 9 0 = 0) (x : Int32) : cM l D h a ca yX1_rest wsX1_rest { frames := 1, cells := 0, slots := 0, locals := 23 } [.int x] v (some (.int (mRst v m x).1)) (mRst v m x).2 := by
  refine zz_C.of (bytes := cX1_rest) (maxL := 3) (ret := (some .int)) (lv0 := [some (.ref h), some (.int x), none]) (by decide) rfl (Nat.le_of_ble_eq_true rfl) rfl rfl ?_
  intro p e s m' below meth c A Q X Ei Ev
  refine zz_aload_n X dX1_rest_0 rfl rfl ?_
  refine zz_iconst (v := 0) X dX1_rest_1 (by decide) ?_
  refine qq_put (k0 := 0) (u2 := (up2 v 9 0 0)) X imX1 (by decide) (mc flX1_42) (by decide) (by decide +kernel) dX1_rest_2 rfl ?_
  refine zz_ws (ws' := wM h a ca v) (by rw [up2_0 h0]) ?_
  refine zz_aload_n X dX1_rest_5 rfl rfl ?_
  refine zz_iload_n X dX1_rest_6 rfl rfl ?_
  refine qq_calli (rest := []) X (m_running v m hm h16 x) (cwV 1 X.1.2.2.2.2 (gw lkX1_68 imX1_running seX1_running itX1 cdX1_running) rfl rfl rfl hdX1_running ⟨Nat.le_of_ble_eq_true rfl, Nat.le_of_ble_eq_true rfl⟩) rfl rfl (Nat.le_of_ble_eq_true rfl) dX1_rest_7 ⟨Nat.zero_le _, Nat.zero_le _⟩ ?_
  rcases mRun_in (v := v) (x := x) (m := m) with er | ⟨r, hrm, -, er⟩
  · refine zz_top er ?_
    refine zz_istore_n (lv' := [some (.ref h), some (.int x), some (.int (-1))]) X dX1_rest_10 rfl (by decide) rfl ?_
    refine zz_iload_n X dX1_rest_11 rfl rfl ?_
    refine zz_if_ge (tgt := 19) X dX1_rest_12 (by decide) (fun hq => absurd hq nn_m1) (fun hq => ?_)
    refine zz_iconst (v := -1) X dX1_rest_15 (by decide) ?_
    refine zz_goto (tgt := 26) X dX1_rest_16 (by decide) ?_
    have e1 : mRst v m x = (-1, v) := by simp [mRst, er, nn_m1]
    exact Ei _ _ _ _ _ rfl rfl dX1_rest_26 (by rw [e1]) (by rw [e1])
  · have hr : r < 16 := by omega
    have cr := nI_clamp (show r < 2 ^ 31 by omega)
    have np := nI_pos (show r < 2 ^ 31 by omega)
    have nn := nI_pos' (show r < 2 ^ 31 by omega)
    refine zz_top er ?_
    refine zz_istore_n (lv' := [some (.ref h), some (.int x), some (.int (nI r))]) X dX1_rest_10 rfl (by decide) rfl ?_
    refine zz_iload_n X dX1_rest_11 rfl rfl ?_
    refine zz_if_ge (tgt := 19) X dX1_rest_12 (by decide) (fun hq => ?_) (fun hq => absurd nn hq)
    refine zz_aload_n X dX1_rest_19 rfl rfl ?_
    refine zz_iload_n X dX1_rest_20 rfl rfl ?_
    refine zz_iconst (v := 0) X dX1_rest_21 (by decide) ?_
    refine zz_iconst (v := 0) X dX1_rest_22 (by decide) ?_
    refine qq_calli (rest := []) X (m_waitsFor v r hr 0 0) (cwV 3 X.1.2.2.2.2 (gw lkX1_81 imX1_waitsFor seX1_waitsFor itX1 cdX1_waitsFor) rfl rfl rfl hdX1_waitsFor ⟨Nat.le_of_ble_eq_true rfl, Nat.le_of_ble_eq_true rfl⟩) rfl rfl (Nat.le_of_ble_eq_true rfl) dX1_rest_23 ⟨Nat.zero_le _, Nat.zero_le _⟩ ?_
    have e1 : mRst v m x = ((mWts v r 0 0) 1 r, (mWts v r 0 0)) := by simp [mRst, er, nn, cl, cr]
    exact Ei _ _ _ _ _ rfl rfl dX1_rest_26 (by rw [e1]) (by rw [e1])
set_option maxHeartbeats 4000000 in
set_option maxRecDepth 100000 in
theorem m_tick {l : Launch} {D : va_G} {h : Nat} {a : Nat → Nat} {ca : Nat → ClassId} (v : St) (m : Nat) (hm : v 9 2 = nI m) (h16 : m ≤ 15) (h0 : v 9 0 = 0) : cM l D h a ca yX1_tick wsX1_tick { frames := 0, cells := 0, slots := 0, locals := 0 } [] v (some (.int (mTck v m).1)) (mTck v m).2 := by
  refine zz_C.of (bytes := cX1_tick) (maxL := 2) (ret := (some .int)) (lv0 := [some (.ref h), none]) (by decide) rfl (Nat.le_of_ble_eq_true rfl) rfl rfl ?_
  intro p e s m' below meth c A Q X Ei Ev
  refine zz_aload_n X dX1_tick_0 rfl rfl ?_
  refine zz_iconst (v := 0) X dX1_tick_1 (by decide) ?_
  refine qq_put (k0 := 0) (u2 := (up2 v 9 0 0)) X imX1 (by decide) (mc flX1_42) (by decide) (by decide +kernel) dX1_tick_2 rfl ?_
  refine zz_ws (ws' := wM h a ca v) (by rw [up2_0 h0]) ?_
  refine zz_aload_n X dX1_tick_5 rfl rfl ?_
  refine qq_get (k0 := 2) (v := .int (v 9 2)) X imX1 (by decide) (mc flX1_45) rfl dX1_tick_6 ?_
  refine zz_top (show v 9 2 = nI m from hm) ?_
  refine zz_if_ne (tgt := 14) X dX1_tick_9 (by decide) (fun h1 => ?_) (fun h1 => ?_)
  · refine zz_aload_n X dX1_tick_14 rfl rfl ?_
    refine zz_dup X dX1_tick_15 rfl ?_
    refine qq_get (k0 := 3) (v := .int (v 9 3)) X imX1 (by decide) (mc flX1_55) rfl dX1_tick_16 ?_
    refine zz_iconst (v := 1) X dX1_tick_19 (by decide) ?_
    refine zz_iadd X dX1_tick_20 ?_
    refine qq_put (k0 := 3) (u2 := (up2 v 9 3 ((v 9 3) + 1))) X imX1 (by decide) (mc flX1_55) (by decide) (by decide +kernel) dX1_tick_21 rfl ?_
    refine zz_iconst (v := 0) X dX1_tick_24 (by decide) ?_
    refine zz_istore_n (lv' := [some (.ref h), some (.int 0)]) X dX1_tick_25 rfl (by decide) rfl ?_
    have loop : ∀ (n i : Nat) (w : St), i + n = m → w 9 2 = nI m → zl (fun k w => up2 w 6 k (-1)) n i w = mTck1 m v → zz_V p l e { frames := 0, cells := 0, slots := 0, locals := 0 } s m' [.ref h].toArray below meth c 0 0 Q 2 D vwCl A (wM h a ca w) [some (.ref h), some (.int (nI i))] 26 [] := by
      intro n
      induction n with
      | zero =>
        intro i w hi hw hz
        refine zz_iload_n X dX1_tick_26 rfl rfl ?_
        refine zz_aload_n X dX1_tick_27 rfl rfl ?_
        refine qq_get (k0 := 2) (v := .int (w 9 2)) X imX1 (by decide) (mc flX1_45) rfl dX1_tick_28 ?_
        refine zz_top (show w 9 2 = nI m from hw) ?_
        refine zz_icmp_ge (tgt := 47) X dX1_tick_31 (by decide) (fun hq => ?_) (fun hq => absurd (nI_le (a := m) (by omega) (by omega)) hq)
        refine zz_aload_n X dX1_tick_47 rfl rfl ?_
        refine qq_get (k0 := 3) (v := .int (w 9 3)) X imX1 (by decide) (mc flX1_55) rfl dX1_tick_48 ?_
        have hz : w = mTck1 m v := hz
        have e1 : mTck v m = (w 9 3, w) := by rw [mTck, if_neg h1, ← hz]
        exact Ei _ _ _ _ _ rfl rfl dX1_tick_51 (by rw [e1]) (by rw [e1])
      | succ n ih =>
        intro i w hi hw hz
        have hlt : i < m := by omega
        refine zz_iload_n X dX1_tick_26 rfl rfl ?_
        refine zz_aload_n X dX1_tick_27 rfl rfl ?_
        refine qq_get (k0 := 2) (v := .int (w 9 2)) X imX1 (by decide) (mc flX1_45) rfl dX1_tick_28 ?_
        refine zz_top (show w 9 2 = nI m from hw) ?_
        refine zz_icmp_ge (tgt := 47) X dX1_tick_31 (by decide) (fun hq => absurd hq (nI_ge (b := m) hlt (by omega))) (fun hq => ?_)
        refine zz_aload_n X dX1_tick_34 rfl rfl ?_
        refine qq_get (k0 := 13) (v := .ref (a 6)) X imX1 (by decide) (mc flX1_29) rfl dX1_tick_35 ?_
        refine zz_iload_n X dX1_tick_38 rfl rfl ?_
        refine zz_iconst (v := -1) X dX1_tick_39 (by decide) ?_
        refine zz_iast (q0 := 7) (t0 := 6) (j := i) (ws' := wM h a ca (up2 w 6 i (-1))) X rfl rfl rfl (show i < 16 by omega) (by decide) dX1_tick_40 rfl ?_
        refine zz_iinc (v := (nI (i + 1))) (lv' := [some (.ref h), some (.int (nI (i + 1)))]) X dX1_tick_41 rfl (nI_1 _) (by decide) rfl ?_
        refine zz_goto (tgt := 26) X dX1_tick_44 (by decide) ?_
        exact ih (i + 1) _ (by omega) hw hz
    exact loop m 0 _ (Nat.zero_add _) hm rfl
  · refine zz_iconst (v := -1) X dX1_tick_12 (by decide) ?_
    have e1 : mTck v m = (-1, v) := by simp [mTck, h1]
    exact Ei _ _ _ _ _ rfl rfl dX1_tick_13 (by rw [e1]) (by rw [e1])
set_option maxHeartbeats 4000000 in
set_option maxRecDepth 100000 in
theorem m_kill {l : Launch} {D : va_G} {h : Nat} {a : Nat → Nat} {ca : Nat → ClassId} (v : St) (m : Nat) (hm : v 9 2 = nI m) (h16 : m ≤ 15) (h0 : v 9 0 = 0) (x : Int32) : cM l D h a ca yX1_kill wsX1_kill { frames := 1, cells := 0, slots := 0, locals := 23 } [.int x] v (some (.int (mKil v m x).1)) (mKil v m x).2 := by
  refine zz_C.of (bytes := cX1_kill) (maxL := 3) (ret := (some .boolean)) (lv0 := [some (.ref h), some (.int x), none]) (by decide) rfl (Nat.le_of_ble_eq_true rfl) rfl rfl ?_
  intro p e s m' below meth c A Q X Ei Ev
  refine zz_aload_n X dX1_kill_0 rfl rfl ?_
  refine zz_iconst (v := 0) X dX1_kill_1 (by decide) ?_
  refine qq_put (k0 := 0) (u2 := (up2 v 9 0 0)) X imX1 (by decide) (mc flX1_42) (by decide) (by decide +kernel) dX1_kill_2 rfl ?_
  refine zz_ws (ws' := wM h a ca v) (by rw [up2_0 h0]) ?_
  refine zz_aload_n X dX1_kill_5 rfl rfl ?_
  refine zz_iload_n X dX1_kill_6 rfl rfl ?_
  refine qq_calli (rest := []) X (m_ofNumber v m hm h16 x) (cwV 1 X.1.2.2.2.2 (gw lkX1_90 imX1_ofNumber seX1_ofNumber itX1 cdX1_ofNumber) rfl rfl rfl hdX1_ofNumber ⟨Nat.le_of_ble_eq_true rfl, Nat.le_of_ble_eq_true rfl⟩) rfl rfl (Nat.le_of_ble_eq_true rfl) dX1_kill_7 ⟨Nat.zero_le _, Nat.zero_le _⟩ ?_
  rcases mFnd_in (f := v 0) (x := x) (m := m) with er | ⟨r, hrm, -, er⟩
  · refine zz_top er ?_
    refine zz_istore_n (lv' := [some (.ref h), some (.int x), some (.int (-1))]) X dX1_kill_10 rfl (by decide) rfl ?_
    refine zz_iload_n X dX1_kill_11 rfl rfl ?_
    refine zz_if_lt (tgt := 24) X dX1_kill_12 (by decide) (fun hq => ?_) (fun hq => absurd m1_neg hq)
    refine zz_iconst (v := 0) X dX1_kill_24 (by decide) ?_
    have e1 : mKil v m x = (0, v) := by simp [mKil, er, m1_neg]
    exact Ei _ _ _ _ _ rfl rfl dX1_kill_25 (by rw [e1]) (by rw [e1])
  · have hr : r < 16 := by omega
    have cr := nI_clamp (show r < 2 ^ 31 by omega)
    have np := nI_pos (show r < 2 ^ 31 by omega)
    refine zz_top er ?_
    refine zz_istore_n (lv' := [some (.ref h), some (.int x), some (.int (nI r))]) X dX1_kill_10 rfl (by decide) rfl ?_
    refine zz_iload_n X dX1_kill_11 rfl rfl ?_
    refine zz_if_lt (tgt := 24) X dX1_kill_12 (by decide) (fun hq => absurd hq np) (fun hq => ?_)
    refine zz_aload_n X dX1_kill_15 rfl rfl ?_
    refine qq_get (k0 := 10) (v := .ref (a 3)) X imX1 (by decide) (mc flX1_19) rfl dX1_kill_16 ?_
    refine zz_iload_n X dX1_kill_19 rfl rfl ?_
    refine zz_zald (q0 := 4) (t0 := 3) (j := r) X rfl rfl rfl hr (by decide) dX1_kill_20 ?_
    refine zz_if_eq (tgt := 26) X dX1_kill_21 (by decide) (fun h1 => ?_) (fun h1 => ?_)
    · refine zz_aload_n X dX1_kill_26 rfl rfl ?_
      refine qq_get (k0 := 12) (v := .ref (a 5)) X imX1 (by decide) (mc flX1_26) rfl dX1_kill_27 ?_
      refine zz_iload_n X dX1_kill_30 rfl rfl ?_
      refine zz_iconst (v := 1) X dX1_kill_31 (by decide) ?_
      refine zz_zast (q0 := 6) (t0 := 5) (j := r) (ws' := wM h a ca (up2 v 5 r 1)) X rfl rfl rfl hr (by decide) rfl dX1_kill_32 rfl ?_
      refine zz_aload_n X dX1_kill_33 rfl rfl ?_
      refine qq_get (k0 := 14) (v := .ref (a 7)) X imX1 (by decide) (mc flX1_32) rfl dX1_kill_34 ?_
      refine zz_iload_n X dX1_kill_37 rfl rfl ?_
      refine zz_iconst (v := 0) X dX1_kill_38 (by decide) ?_
      refine zz_iast (q0 := 8) (t0 := 7) (j := r) (ws' := wM h a ca (up2 (up2 v 5 r 1) 7 r 0)) X rfl rfl rfl hr (by decide) dX1_kill_39 rfl ?_
      refine zz_iconst (v := 1) X dX1_kill_40 (by decide) ?_
      have e1 : mKil v m x = (1, (up2 (up2 v 5 r 1) 7 r 0)) := by simp [mKil, er, np, cl, cr, h1]
      exact Ei _ _ _ _ _ rfl rfl dX1_kill_41 (by rw [e1]) (by rw [e1])
    · refine zz_iconst (v := 0) X dX1_kill_24 (by decide) ?_
      have e1 : mKil v m x = (0, v) := by simp [mKil, er, np, cl, cr, h1]
      exact Ei _ _ _ _ _ rfl rfl dX1_kill_25 (by rw [e1]) (by rw [e1])
set_option maxHeartbeats 4000000 in
set_option maxRecDepth 100000 in
theorem m_about {l : Launch} {D : va_G} {h : Nat} {a : Nat → Nat} {ca : Nat → ClassId} (v : St) (m : Nat) (hm : v 9 2 = nI m) (h16 : m ≤ 15) (h0 : v 9 0 = 0) (x y : Int32) : cM l D h a ca yX1_about wsX1_about { frames := 2, cells := 0, slots := 0, locals := 45 } [.int x, .int y] v (some (.int (mAbt v m x y))) v := by
  refine zz_C.of (bytes := cX1_about) (maxL := 4) (ret := (some .int)) (lv0 := [some (.ref h), some (.int x), some (.int y), none]) (by decide) rfl (Nat.le_of_ble_eq_true rfl) rfl rfl ?_
  intro p e s m' below meth c A Q X Ei Ev
  refine zz_aload_n X dX1_about_0 rfl rfl ?_
  refine zz_iconst (v := 0) X dX1_about_1 (by decide) ?_
  refine qq_put (k0 := 0) (u2 := (up2 v 9 0 0)) X imX1 (by decide) (mc flX1_42) (by decide) (by decide +kernel) dX1_about_2 rfl ?_
  refine zz_ws (ws' := wM h a ca v) (by rw [up2_0 h0]) ?_
  have none_ : ∀ lw : Option Value, mAbtR v m x = -1 → zz_V p l e { frames := 2, cells := 0, slots := 0, locals := 45 } s m' [.ref h, .int x, .int y].toArray below meth c 0 0 Q 4 D vwCl A (wM h a ca v) [some (.ref h), some (.int x), some (.int y), some (.int (-1))] 25 [] := by
    intro lw er
    refine zz_iload_n X dX1_about_25 rfl rfl ?_
    refine zz_if_ge (tgt := 50) X dX1_about_26 (by decide) (fun hq => absurd hq nn_m1) (fun hq => ?_)
    refine zz_iload_n X dX1_about_29 rfl rfl ?_
    refine zz_if_lt (tgt := 48) X dX1_about_30 (by decide) (fun k1 => ?_) (fun k1 => ?_)
    · refine zz_iconst (v := -1) X dX1_about_48 (by decide) ?_
      exact Ei _ _ _ _ _ rfl rfl dX1_about_49 (by simp [mAbt, er, nn_m1, k1]) rfl
    · refine zz_iload_n X dX1_about_33 rfl rfl ?_
      refine zz_bipush (v := 15) X dX1_about_34 (by decide) ?_
      refine zz_icmp_ge (tgt := 48) X dX1_about_36 (by decide) (fun k2 => ?_) (fun k2 => ?_)
      · refine zz_iconst (v := -1) X dX1_about_48 (by decide) ?_
        exact Ei _ _ _ _ _ rfl rfl dX1_about_49 (by simp [mAbt, er, nn_m1, k1, k2]) rfl
      · refine zz_iload_n X dX1_about_39 rfl rfl ?_
        refine zz_iconst (v := 1) X dX1_about_40 (by decide) ?_
        refine zz_icmp_ne (tgt := 48) X dX1_about_41 (by decide) (fun k3 => ?_) (fun k3 => ?_)
        · refine zz_iconst (v := -1) X dX1_about_48 (by decide) ?_
          exact Ei _ _ _ _ _ rfl rfl dX1_about_49 (by simp [mAbt, er, nn_m1, k1, k2, k3]) rfl
        · refine zz_iconst (v := 0) X dX1_about_44 (by decide) ?_
          refine zz_goto (tgt := 49) X dX1_about_45 (by decide) ?_
          exact Ei _ _ _ _ _ rfl rfl dX1_about_49 (by simp [mAbt, er, nn_m1, k1, k2, k3]) rfl
  refine zz_iload_n X dX1_about_5 rfl rfl ?_
  refine zz_if_lt (tgt := 23) X dX1_about_6 (by decide) (fun h1 => ?_) (fun h1 => ?_)
  · refine zz_iconst (v := -1) X dX1_about_23 (by decide) ?_
    refine zz_istore_n (lv' := [some (.ref h), some (.int x), some (.int y), some (.int (-1))]) X dX1_about_24 rfl (by decide) rfl ?_
    exact none_ none (by rw [mAbtR, if_pos h1])
  · refine zz_iload_n X dX1_about_9 rfl rfl ?_
    refine zz_bipush (v := 15) X dX1_about_10 (by decide) ?_
    refine zz_icmp_ge (tgt := 23) X dX1_about_12 (by decide) (fun h2 => ?_) (fun h2 => ?_)
    · refine zz_iconst (v := -1) X dX1_about_23 (by decide) ?_
      refine zz_istore_n (lv' := [some (.ref h), some (.int x), some (.int y), some (.int (-1))]) X dX1_about_24 rfl (by decide) rfl ?_
      exact none_ none (by rw [mAbtR, if_neg h1, if_pos h2])
    · refine zz_aload_n X dX1_about_15 rfl rfl ?_
      refine zz_iload_n X dX1_about_16 rfl rfl ?_
      refine qq_calli (rest := []) X (m_ofPlace v m hm h16 x) (cwV 1 X.1.2.2.2.2 (gw lkX1_48 imX1_ofPlace seX1_ofPlace itX1 cdX1_ofPlace) rfl rfl rfl hdX1_ofPlace ⟨Nat.le_of_ble_eq_true rfl, Nat.le_of_ble_eq_true rfl⟩) rfl rfl (Nat.le_of_ble_eq_true rfl) dX1_about_17 ⟨Nat.zero_le _, Nat.zero_le _⟩ ?_
      rcases mFnd_in (f := v 1) (x := x) (m := m) with er | ⟨r, hrm, -, er⟩
      · refine zz_top er ?_
        refine zz_goto (tgt := 24) X dX1_about_20 (by decide) ?_
        refine zz_istore_n (lv' := [some (.ref h), some (.int x), some (.int y), some (.int (-1))]) X dX1_about_24 rfl (by decide) rfl ?_
        exact none_ none (by rw [mAbtR, if_neg h1, if_neg h2, er])
      · have hr : r < 16 := by omega
        have cr := nI_clamp (show r < 2 ^ 31 by omega)
        have nn := nI_pos' (show r < 2 ^ 31 by omega)
        have eR : mAbtR v m x = nI r := by rw [mAbtR, if_neg h1, if_neg h2, er]
        refine zz_top er ?_
        refine zz_goto (tgt := 24) X dX1_about_20 (by decide) ?_
        refine zz_istore_n (lv' := [some (.ref h), some (.int x), some (.int y), some (.int (nI r))]) X dX1_about_24 rfl (by decide) rfl ?_
        refine zz_iload_n X dX1_about_25 rfl rfl ?_
        refine zz_if_ge (tgt := 50) X dX1_about_26 (by decide) (fun hq => ?_) (fun hq => absurd nn hq)
        refine zz_iload_n X dX1_about_50 rfl rfl ?_
        by_cases g0 : y = 0
        · subst g0
          refine zz_tabIn (tgt := 88) X dX1_about_51 (by decide) (by decide) rfl (by decide) ?_
          refine zz_aload_n X dX1_about_88 rfl rfl ?_
          refine qq_get (k0 := 7) (v := .ref (a 0)) X imX1 (by decide) (mc flX1_7) rfl dX1_about_89 ?_
          refine zz_iload_n X dX1_about_92 rfl rfl ?_
          refine zz_iald (q0 := 1) (t0 := 0) (j := r) X rfl rfl rfl hr (by decide) dX1_about_93 ?_
          exact Ei _ _ _ _ _ rfl rfl dX1_about_94 (by simp [mAbt, eR, nn, cl, cr]) rfl
        by_cases g1 : y = 1
        · subst g1
          refine zz_tabIn (tgt := 95) X dX1_about_51 (by decide) (by decide) rfl (by decide) ?_
          refine zz_aload_n X dX1_about_95 rfl rfl ?_
          refine zz_iload_n X dX1_about_96 rfl rfl ?_
          refine qq_calli (rest := []) X (m_state v m hm h16 r hr) (cwV 1 X.1.2.2.2.2 (gw lkX1_71 imX1_state seX1_state itX1 cdX1_state) rfl rfl rfl hdX1_state ⟨Nat.le_of_ble_eq_true rfl, Nat.le_of_ble_eq_true rfl⟩) rfl rfl (Nat.le_of_ble_eq_true rfl) dX1_about_97 ⟨Nat.zero_le _, Nat.zero_le _⟩ ?_
          exact Ei _ _ _ _ _ rfl rfl dX1_about_100 (by simp [mAbt, eR, nn, cl, cr]) rfl
        by_cases g2 : y = 2
        · subst g2
          refine zz_tabIn (tgt := 101) X dX1_about_51 (by decide) (by decide) rfl (by decide) ?_
          refine zz_aload_n X dX1_about_101 rfl rfl ?_
          refine qq_get (k0 := 9) (v := .ref (a 2)) X imX1 (by decide) (mc flX1_16) rfl dX1_about_102 ?_
          refine zz_iload_n X dX1_about_105 rfl rfl ?_
          refine zz_iald (q0 := 3) (t0 := 2) (j := r) X rfl rfl rfl hr (by decide) dX1_about_106 ?_
          exact Ei _ _ _ _ _ rfl rfl dX1_about_107 (by simp [mAbt, eR, nn, cl, cr]) rfl
        by_cases g3 : y = 3
        · subst g3
          refine zz_tabIn (tgt := 108) X dX1_about_51 (by decide) (by decide) rfl (by decide) ?_
          refine zz_aload_n X dX1_about_108 rfl rfl ?_
          refine qq_get (k0 := 12) (v := .ref (a 5)) X imX1 (by decide) (mc flX1_26) rfl dX1_about_109 ?_
          refine zz_iload_n X dX1_about_112 rfl rfl ?_
          refine zz_zald (q0 := 6) (t0 := 5) (j := r) X rfl rfl rfl hr (by decide) dX1_about_113 ?_
          refine zz_if_eq (tgt := 121) X dX1_about_114 (by decide) (fun h5 => ?_) (fun h5 => ?_)
          · refine zz_iconst (v := 0) X dX1_about_121 (by decide) ?_
            exact Ei _ _ _ _ _ rfl rfl dX1_about_122 (by simp [mAbt, eR, nn, cl, cr, h5]) rfl
          · refine zz_iconst (v := 1) X dX1_about_117 (by decide) ?_
            refine zz_goto (tgt := 122) X dX1_about_118 (by decide) ?_
            exact Ei _ _ _ _ _ rfl rfl dX1_about_122 (by simp [mAbt, eR, nn, cl, cr, h5]) rfl
        by_cases g4 : y = 4
        · subst g4
          refine zz_tabIn (tgt := 123) X dX1_about_51 (by decide) (by decide) rfl (by decide) ?_
          refine zz_aload_n X dX1_about_123 rfl rfl ?_
          refine qq_get (k0 := 10) (v := .ref (a 3)) X imX1 (by decide) (mc flX1_19) rfl dX1_about_124 ?_
          refine zz_iload_n X dX1_about_127 rfl rfl ?_
          refine zz_zald (q0 := 4) (t0 := 3) (j := r) X rfl rfl rfl hr (by decide) dX1_about_128 ?_
          refine zz_if_eq (tgt := 141) X dX1_about_129 (by decide) (fun h5 => ?_) (fun h5 => ?_)
          · refine zz_iconst (v := 0) X dX1_about_141 (by decide) ?_
            exact Ei _ _ _ _ _ rfl rfl dX1_about_142 (by simp [mAbt, eR, nn, cl, cr, h5]) rfl
          · refine zz_aload_n X dX1_about_132 rfl rfl ?_
            refine qq_get (k0 := 11) (v := .ref (a 4)) X imX1 (by decide) (mc flX1_23) rfl dX1_about_133 ?_
            refine zz_iload_n X dX1_about_136 rfl rfl ?_
            refine zz_iald (q0 := 5) (t0 := 4) (j := r) X rfl rfl rfl hr (by decide) dX1_about_137 ?_
            refine zz_goto (tgt := 142) X dX1_about_138 (by decide) ?_
            exact Ei _ _ _ _ _ rfl rfl dX1_about_142 (by simp [mAbt, eR, nn, cl, cr, h5]) rfl
        by_cases g5 : y = 5
        · subst g5
          refine zz_tabIn (tgt := 143) X dX1_about_51 (by decide) (by decide) rfl (by decide) ?_
          refine zz_aload_n X dX1_about_143 rfl rfl ?_
          refine qq_get (k0 := 13) (v := .ref (a 6)) X imX1 (by decide) (mc flX1_29) rfl dX1_about_144 ?_
          refine zz_iload_n X dX1_about_147 rfl rfl ?_
          refine zz_iald (q0 := 7) (t0 := 6) (j := r) X rfl rfl rfl hr (by decide) dX1_about_148 ?_
          exact Ei _ _ _ _ _ rfl rfl dX1_about_149 (by simp [mAbt, eR, nn, cl, cr]) rfl
        refine zz_tabOut (tgt := 150) X dX1_about_51 (by rcases Int.lt_or_le y.toInt 0 with q | q; exact Or.inl q; rcases Int.lt_or_le 5 y.toInt with q2 | q2; exact Or.inr q2; exact absurd (zz_six q q2) (by simp [g0, g1, g2, g3, g4, g5])) (by decide) ?_
        refine zz_iconst (v := -1) X dX1_about_150 (by decide) ?_
        exact Ei _ _ _ _ _ rfl rfl dX1_about_151 (by simp [mAbt, eR, nn, cl, cr, g0, g1, g2, g3, g4, g5]) rfl
set_option maxHeartbeats 4000000 in
set_option maxRecDepth 100000 in
theorem m_count {l : Launch} {D : va_G} {h : Nat} {a : Nat → Nat} {ca : Nat → ClassId} (v : St) (m : Nat) (hm : v 9 2 = nI m) (h16 : m ≤ 15) (h0 : v 9 0 = 0) (x : Int32) : cM l D h a ca yX1_count wsX1_count { frames := 2, cells := 0, slots := 0, locals := 45 } [.int x] v (some (.int (mCnt v m x))) v := by
  refine zz_C.of (bytes := cX1_count) (maxL := 4) (ret := (some .int)) (lv0 := [some (.ref h), some (.int x), none, none]) (by decide) rfl (Nat.le_of_ble_eq_true rfl) rfl rfl ?_
  intro p e s m' below meth c A Q X Ei Ev
  refine zz_aload_n X dX1_count_0 rfl rfl ?_
  refine zz_iconst (v := 0) X dX1_count_1 (by decide) ?_
  refine qq_put (k0 := 0) (u2 := (up2 v 9 0 0)) X imX1 (by decide) (mc flX1_42) (by decide) (by decide +kernel) dX1_count_2 rfl ?_
  refine zz_ws (ws' := wM h a ca v) (by rw [up2_0 h0]) ?_
  refine zz_iload_n X dX1_count_5 rfl rfl ?_
  refine zz_if_lt (tgt := 14) X dX1_count_6 (by decide) (fun h1 => ?_) (fun h1 => ?_)
  · refine zz_iconst (v := -1) X dX1_count_14 (by decide) ?_
    exact Ei _ _ _ _ _ rfl rfl dX1_count_15 (by simp [mCnt, h1]) rfl
  · refine zz_iload_n X dX1_count_9 rfl rfl ?_
    refine zz_iconst (v := 4) X dX1_count_10 (by decide) ?_
    refine zz_icmp_le (tgt := 16) X dX1_count_11 (by decide) (fun h2 => ?_) (fun h2 => ?_)
    · refine zz_iconst (v := 0) X dX1_count_16 (by decide) ?_
      refine zz_istore_n (lv' := [some (.ref h), some (.int x), some (.int 0), none]) X dX1_count_17 rfl (by decide) rfl ?_
      refine zz_iconst (v := 0) X dX1_count_18 (by decide) ?_
      refine zz_istore_n (lv' := [some (.ref h), some (.int x), some (.int 0), some (.int 0)]) X dX1_count_19 rfl (by decide) rfl ?_
      have loop : ∀ (n i k : Nat), i + n = m → zk (fun k => if x = 0 then true else decide (mSta v m k = x)) n i k = mCnt1 v m x → zz_V p l e { frames := 2, cells := 0, slots := 0, locals := 45 } s m' [.ref h, .int x].toArray below meth c 0 0 Q 4 D vwCl A (wM h a ca v) [some (.ref h), some (.int x), some (.int (nI k)), some (.int (nI i))] 20 [] := by
        intro n
        induction n with
        | zero =>
          intro i k hi hz
          refine zz_iload_n X dX1_count_20 rfl rfl ?_
          refine zz_aload_n X dX1_count_21 rfl rfl ?_
          refine qq_get (k0 := 2) (v := .int (v 9 2)) X imX1 (by decide) (mc flX1_45) rfl dX1_count_22 ?_
          refine zz_top (show v 9 2 = nI m from hm) ?_
          refine zz_icmp_ge (tgt := 55) X dX1_count_25 (by decide) (fun hq => ?_) (fun hq => absurd (nI_le (a := m) (by omega) (by omega)) hq)
          refine zz_iload_n X dX1_count_55 rfl rfl ?_
          exact Ei _ _ _ _ _ rfl rfl dX1_count_56 (by rw [mCnt, if_neg h1, if_pos h2, ← hz]; rfl) rfl
        | succ n ih =>
          intro i k hi hz
          have hlt : i < m := by omega
          refine zz_iload_n X dX1_count_20 rfl rfl ?_
          refine zz_aload_n X dX1_count_21 rfl rfl ?_
          refine qq_get (k0 := 2) (v := .int (v 9 2)) X imX1 (by decide) (mc flX1_45) rfl dX1_count_22 ?_
          refine zz_top (show v 9 2 = nI m from hm) ?_
          refine zz_icmp_ge (tgt := 55) X dX1_count_25 (by decide) (fun hq => absurd hq (nI_ge (b := m) hlt (by omega))) (fun hq => ?_)
          refine zz_iload_n X dX1_count_28 rfl rfl ?_
          refine zz_iload_n X dX1_count_29 rfl rfl ?_
          refine zz_if_eq (tgt := 42) X dX1_count_30 (by decide) (fun h3 => ?_) (fun h3 => ?_)
          · refine zz_iconst (v := 1) X dX1_count_42 (by decide) ?_
            refine zz_goto (tgt := 47) X dX1_count_43 (by decide) ?_
            refine zz_iadd X dX1_count_47 ?_
            refine zz_top (nI_1 _) ?_
            refine zz_istore_n (lv' := [some (.ref h), some (.int x), some (.int (nI (k + 1))), some (.int (nI i))]) X dX1_count_48 rfl (by decide) rfl ?_
            refine zz_iinc (v := (nI (i + 1))) (lv' := [some (.ref h), some (.int x), some (.int (nI (k + 1))), some (.int (nI (i + 1)))]) X dX1_count_49 rfl (nI_1 _) (by decide) rfl ?_
            refine zz_goto (tgt := 20) X dX1_count_52 (by decide) ?_
            exact ih (i + 1) _ (by omega) (by rw [← hz]; simp [zk, h3])
          · refine zz_aload_n X dX1_count_33 rfl rfl ?_
            refine zz_iload_n X dX1_count_34 rfl rfl ?_
            refine qq_calli (rest := [.int (nI k)]) X (m_state v m hm h16 i (by omega)) (cwV 1 X.1.2.2.2.2 (gw lkX1_71 imX1_state seX1_state itX1 cdX1_state) rfl rfl rfl hdX1_state ⟨Nat.le_of_ble_eq_true rfl, Nat.le_of_ble_eq_true rfl⟩) rfl rfl (Nat.le_of_ble_eq_true rfl) dX1_count_35 ⟨Nat.zero_le _, Nat.zero_le _⟩ ?_
            refine zz_iload_n X dX1_count_38 rfl rfl ?_
            refine zz_icmp_ne (tgt := 46) X dX1_count_39 (by decide) (fun h4 => ?_) (fun h4 => ?_)
            · refine zz_iconst (v := 0) X dX1_count_46 (by decide) ?_
              refine zz_iadd X dX1_count_47 ?_
              refine zz_top (Int32.add_zero _) ?_
              refine zz_istore_n (lv' := [some (.ref h), some (.int x), some (.int (nI k)), some (.int (nI i))]) X dX1_count_48 rfl (by decide) rfl ?_
              refine zz_iinc (v := (nI (i + 1))) (lv' := [some (.ref h), some (.int x), some (.int (nI k)), some (.int (nI (i + 1)))]) X dX1_count_49 rfl (nI_1 _) (by decide) rfl ?_
              refine zz_goto (tgt := 20) X dX1_count_52 (by decide) ?_
              exact ih (i + 1) _ (by omega) (by rw [← hz]; simp [zk, h3, h4])
            · refine zz_iconst (v := 1) X dX1_count_42 (by decide) ?_
              refine zz_goto (tgt := 47) X dX1_count_43 (by decide) ?_
              refine zz_iadd X dX1_count_47 ?_
              refine zz_top (nI_1 _) ?_
              refine zz_istore_n (lv' := [some (.ref h), some (.int x), some (.int (nI (k + 1))), some (.int (nI i))]) X dX1_count_48 rfl (by decide) rfl ?_
              refine zz_iinc (v := (nI (i + 1))) (lv' := [some (.ref h), some (.int x), some (.int (nI (k + 1))), some (.int (nI (i + 1)))]) X dX1_count_49 rfl (nI_1 _) (by decide) rfl ?_
              refine zz_goto (tgt := 20) X dX1_count_52 (by decide) ?_
              exact ih (i + 1) _ (by omega) (by rw [← hz]; simp [zk, h3, h4])
      exact loop m 0 0 (Nat.zero_add _) rfl
    · refine zz_iconst (v := -1) X dX1_count_14 (by decide) ?_
      exact Ei _ _ _ _ _ rfl rfl dX1_count_15 (by simp [mCnt, h1, h2]) rfl
