def mU0 (N : Nat) : St := up2 rZ 9 1 (nI N)
theorem rN_eq2 (x : Int32) : (1 ≤ x → x ≤ 4 → x = nI (rN x)) ∧ (1 ≤ x → ¬ x ≤ 4 → (4 : Int32) = nI (rN x)) ∧ (¬ 1 ≤ x → (1 : Int32) = nI (rN x)) := by
  have h4 : (4 : Int32).toInt = 4 := by decide
  have h1 : (1 : Int32).toInt = 1 := by decide
  have e := (rN_eq x).1
  refine ⟨fun a b => ?_, fun a b => ?_, fun a => ?_⟩
  · rw [← e]
    unfold rNv
    rw [Int32.le_iff_toInt_le] at a b
    by_cases c : x < 4
    · rw [if_pos c]
      by_cases d : 1 < x
      · rw [if_pos d]
      · rw [if_neg d]
        rw [Int32.lt_iff_toInt_lt] at d
        exact Int32.toInt_inj.mp (by omega)
    · rw [if_neg c, if_pos (by decide)]
      rw [Int32.lt_iff_toInt_lt] at c
      exact Int32.toInt_inj.mp (by omega)
  · rw [← e]
    unfold rNv
    rw [Int32.le_iff_toInt_le] at a b
    have c : ¬ x < 4 := by rw [Int32.lt_iff_toInt_lt]; omega
    rw [if_neg c, if_pos (by decide)]
  · rw [← e]
    unfold rNv
    rw [Int32.le_iff_toInt_le] at a
    have c : x < 4 := by rw [Int32.lt_iff_toInt_lt]; omega
    have d : ¬ 1 < x := by rw [Int32.lt_iff_toInt_lt]; omega
    rw [if_pos c, if_neg d]
set_option maxHeartbeats 4000000 in
set_option maxRecDepth 100000 in
theorem m_init {l : Launch} {D : va_G} {h : Nat} (x : Int32) : zz_CI l D vwCl yX1_init wsX1_init { frames := 1, cells := 9, slots := 144, locals := 14 } [.ref h, .int x] [(h, .inr (1, [.int 0, .int 0, .int 0, .int 0, .int 0, .int 0, .int 0, .null, .null, .null, .null, .null, .null, .null, .null, .null]))] (S := (Nat → Nat) × (Nat → ClassId)) (fun z => tyM z.2) (fun z => wM h z.1 z.2 (mU0 (rN x))) (fun _ => True) 9 144 := by
  refine zz_CI.of (bytes := cX1_init) (maxL := 2) (lv0 := [some (.ref h), some (.int x)]) (by decide) rfl rfl (Nat.le_of_ble_eq_true rfl) rfl rfl ?_
  intro p e s m' below meth c A Q X hini Ev
  refine zz_aload_n X dX1_init_0 rfl rfl ?_
  refine zz_objInit X (mc lkX1_1) (mc im_obj) (mc me_obj) dX1_init_1 (by decide) (fun ls => Nat.le_of_ble_eq_true rfl) ?_
  refine zz_aload_n X dX1_init_4 rfl rfl ?_
  refine zz_bipush (v := 16) X dX1_init_5 (by decide) ?_
  refine zz_newa (atype := .int) (ty := .int) (N' := 16) (a0 := (16, .inl (fun _ => 0))) X (mc ar_int) rfl (fun _ => rfl) (by decide) (by decide) (by decide) (by decide) (by decide) dX1_init_7 (fun q0 c0 X => ?_)
  refine zz_putF (q0 := 0) (k0 := 7) (ty := tyX1 7) (ws' := [(h, .inr (1, [.int 0, .int 0, .int 0, .int 0, .int 0, .int 0, .int 0, .ref q0, .null, .null, .null, .null, .null, .null, .null, .null])), (q0, .inl (c0, 16, .inl (fun _ => 0)))]) X imX1 tyX1 tyX1_ok nmX1 rfl rfl (by decide) (mc flX1_7) (by decide) hini rfl (tyX1_ok 7 (by decide)) rfl rfl (Nat.le_of_ble_eq_true rfl) dX1_init_9 rfl ?_
  refine zz_aload_n X dX1_init_12 rfl rfl ?_
  refine zz_bipush (v := 16) X dX1_init_13 (by decide) ?_
  refine zz_newa (atype := .int) (ty := .int) (N' := 16) (a0 := (16, .inl (fun _ => 0))) X (mc ar_int) rfl (fun _ => rfl) (by decide) (by decide) (by decide) (by decide) (by decide) dX1_init_15 (fun q1 c1 X => ?_)
  refine zz_putF (q0 := 0) (k0 := 8) (ty := tyX1 8) (ws' := [(h, .inr (1, [.int 0, .int 0, .int 0, .int 0, .int 0, .int 0, .int 0, .ref q0, .ref q1, .null, .null, .null, .null, .null, .null, .null])), (q0, .inl (c0, 16, .inl (fun _ => 0))), (q1, .inl (c1, 16, .inl (fun _ => 0)))]) X imX1 tyX1 tyX1_ok nmX1 rfl rfl (by decide) (mc flX1_13) (by decide) hini rfl (tyX1_ok 8 (by decide)) rfl rfl (Nat.le_of_ble_eq_true rfl) dX1_init_17 rfl ?_
  refine zz_aload_n X dX1_init_20 rfl rfl ?_
  refine zz_bipush (v := 16) X dX1_init_21 (by decide) ?_
  refine zz_newa (atype := .int) (ty := .int) (N' := 16) (a0 := (16, .inl (fun _ => 0))) X (mc ar_int) rfl (fun _ => rfl) (by decide) (by decide) (by decide) (by decide) (by decide) dX1_init_23 (fun q2 c2 X => ?_)
  refine zz_putF (q0 := 0) (k0 := 9) (ty := tyX1 9) (ws' := [(h, .inr (1, [.int 0, .int 0, .int 0, .int 0, .int 0, .int 0, .int 0, .ref q0, .ref q1, .ref q2, .null, .null, .null, .null, .null, .null])), (q0, .inl (c0, 16, .inl (fun _ => 0))), (q1, .inl (c1, 16, .inl (fun _ => 0))), (q2, .inl (c2, 16, .inl (fun _ => 0)))]) X imX1 tyX1 tyX1_ok nmX1 rfl rfl (by decide) (mc flX1_16) (by decide) hini rfl (tyX1_ok 9 (by decide)) rfl rfl (Nat.le_of_ble_eq_true rfl) dX1_init_25 rfl ?_
  refine zz_aload_n X dX1_init_28 rfl rfl ?_
  refine zz_bipush (v := 16) X dX1_init_29 (by decide) ?_
  refine zz_newa (atype := .boolean) (ty := .boolean) (N' := 16) (a0 := (16, .inl (fun _ => 0))) X (mc ar_boolean) rfl (fun _ => rfl) (by decide) (by decide) (by decide) (by decide) (by decide) dX1_init_31 (fun q3 c3 X => ?_)
  refine zz_putF (q0 := 0) (k0 := 10) (ty := tyX1 10) (ws' := [(h, .inr (1, [.int 0, .int 0, .int 0, .int 0, .int 0, .int 0, .int 0, .ref q0, .ref q1, .ref q2, .ref q3, .null, .null, .null, .null, .null])), (q0, .inl (c0, 16, .inl (fun _ => 0))), (q1, .inl (c1, 16, .inl (fun _ => 0))), (q2, .inl (c2, 16, .inl (fun _ => 0))), (q3, .inl (c3, 16, .inl (fun _ => 0)))]) X imX1 tyX1 tyX1_ok nmX1 rfl rfl (by decide) (mc flX1_19) (by decide) hini rfl (tyX1_ok 10 (by decide)) rfl rfl (Nat.le_of_ble_eq_true rfl) dX1_init_33 rfl ?_
  refine zz_aload_n X dX1_init_36 rfl rfl ?_
  refine zz_bipush (v := 16) X dX1_init_37 (by decide) ?_
  refine zz_newa (atype := .int) (ty := .int) (N' := 16) (a0 := (16, .inl (fun _ => 0))) X (mc ar_int) rfl (fun _ => rfl) (by decide) (by decide) (by decide) (by decide) (by decide) dX1_init_39 (fun q4 c4 X => ?_)
  refine zz_putF (q0 := 0) (k0 := 11) (ty := tyX1 11) (ws' := [(h, .inr (1, [.int 0, .int 0, .int 0, .int 0, .int 0, .int 0, .int 0, .ref q0, .ref q1, .ref q2, .ref q3, .ref q4, .null, .null, .null, .null])), (q0, .inl (c0, 16, .inl (fun _ => 0))), (q1, .inl (c1, 16, .inl (fun _ => 0))), (q2, .inl (c2, 16, .inl (fun _ => 0))), (q3, .inl (c3, 16, .inl (fun _ => 0))), (q4, .inl (c4, 16, .inl (fun _ => 0)))]) X imX1 tyX1 tyX1_ok nmX1 rfl rfl (by decide) (mc flX1_23) (by decide) hini rfl (tyX1_ok 11 (by decide)) rfl rfl (Nat.le_of_ble_eq_true rfl) dX1_init_41 rfl ?_
  refine zz_aload_n X dX1_init_44 rfl rfl ?_
  refine zz_bipush (v := 16) X dX1_init_45 (by decide) ?_
  refine zz_newa (atype := .boolean) (ty := .boolean) (N' := 16) (a0 := (16, .inl (fun _ => 0))) X (mc ar_boolean) rfl (fun _ => rfl) (by decide) (by decide) (by decide) (by decide) (by decide) dX1_init_47 (fun q5 c5 X => ?_)
  refine zz_putF (q0 := 0) (k0 := 12) (ty := tyX1 12) (ws' := [(h, .inr (1, [.int 0, .int 0, .int 0, .int 0, .int 0, .int 0, .int 0, .ref q0, .ref q1, .ref q2, .ref q3, .ref q4, .ref q5, .null, .null, .null])), (q0, .inl (c0, 16, .inl (fun _ => 0))), (q1, .inl (c1, 16, .inl (fun _ => 0))), (q2, .inl (c2, 16, .inl (fun _ => 0))), (q3, .inl (c3, 16, .inl (fun _ => 0))), (q4, .inl (c4, 16, .inl (fun _ => 0))), (q5, .inl (c5, 16, .inl (fun _ => 0)))]) X imX1 tyX1 tyX1_ok nmX1 rfl rfl (by decide) (mc flX1_26) (by decide) hini rfl (tyX1_ok 12 (by decide)) rfl rfl (Nat.le_of_ble_eq_true rfl) dX1_init_49 rfl ?_
  refine zz_aload_n X dX1_init_52 rfl rfl ?_
  refine zz_bipush (v := 16) X dX1_init_53 (by decide) ?_
  refine zz_newa (atype := .int) (ty := .int) (N' := 16) (a0 := (16, .inl (fun _ => 0))) X (mc ar_int) rfl (fun _ => rfl) (by decide) (by decide) (by decide) (by decide) (by decide) dX1_init_55 (fun q6 c6 X => ?_)
  refine zz_putF (q0 := 0) (k0 := 13) (ty := tyX1 13) (ws' := [(h, .inr (1, [.int 0, .int 0, .int 0, .int 0, .int 0, .int 0, .int 0, .ref q0, .ref q1, .ref q2, .ref q3, .ref q4, .ref q5, .ref q6, .null, .null])), (q0, .inl (c0, 16, .inl (fun _ => 0))), (q1, .inl (c1, 16, .inl (fun _ => 0))), (q2, .inl (c2, 16, .inl (fun _ => 0))), (q3, .inl (c3, 16, .inl (fun _ => 0))), (q4, .inl (c4, 16, .inl (fun _ => 0))), (q5, .inl (c5, 16, .inl (fun _ => 0))), (q6, .inl (c6, 16, .inl (fun _ => 0)))]) X imX1 tyX1 tyX1_ok nmX1 rfl rfl (by decide) (mc flX1_29) (by decide) hini rfl (tyX1_ok 13 (by decide)) rfl rfl (Nat.le_of_ble_eq_true rfl) dX1_init_57 rfl ?_
  refine zz_aload_n X dX1_init_60 rfl rfl ?_
  refine zz_bipush (v := 16) X dX1_init_61 (by decide) ?_
  refine zz_newa (atype := .int) (ty := .int) (N' := 16) (a0 := (16, .inl (fun _ => 0))) X (mc ar_int) rfl (fun _ => rfl) (by decide) (by decide) (by decide) (by decide) (by decide) dX1_init_63 (fun q7 c7 X => ?_)
  refine zz_putF (q0 := 0) (k0 := 14) (ty := tyX1 14) (ws' := [(h, .inr (1, [.int 0, .int 0, .int 0, .int 0, .int 0, .int 0, .int 0, .ref q0, .ref q1, .ref q2, .ref q3, .ref q4, .ref q5, .ref q6, .ref q7, .null])), (q0, .inl (c0, 16, .inl (fun _ => 0))), (q1, .inl (c1, 16, .inl (fun _ => 0))), (q2, .inl (c2, 16, .inl (fun _ => 0))), (q3, .inl (c3, 16, .inl (fun _ => 0))), (q4, .inl (c4, 16, .inl (fun _ => 0))), (q5, .inl (c5, 16, .inl (fun _ => 0))), (q6, .inl (c6, 16, .inl (fun _ => 0))), (q7, .inl (c7, 16, .inl (fun _ => 0)))]) X imX1 tyX1 tyX1_ok nmX1 rfl rfl (by decide) (mc flX1_32) (by decide) hini rfl (tyX1_ok 14 (by decide)) rfl rfl (Nat.le_of_ble_eq_true rfl) dX1_init_65 rfl ?_
  refine zz_aload_n X dX1_init_68 rfl rfl ?_
  refine zz_bipush (v := 16) X dX1_init_69 (by decide) ?_
  refine zz_newa (atype := .int) (ty := .int) (N' := 16) (a0 := (16, .inl (fun _ => 0))) X (mc ar_int) rfl (fun _ => rfl) (by decide) (by decide) (by decide) (by decide) (by decide) dX1_init_71 (fun q8 c8 X => ?_)
  refine zz_putF (q0 := 0) (k0 := 15) (ty := tyX1 15) (ws' := [(h, .inr (1, [.int 0, .int 0, .int 0, .int 0, .int 0, .int 0, .int 0, .ref q0, .ref q1, .ref q2, .ref q3, .ref q4, .ref q5, .ref q6, .ref q7, .ref q8])), (q0, .inl (c0, 16, .inl (fun _ => 0))), (q1, .inl (c1, 16, .inl (fun _ => 0))), (q2, .inl (c2, 16, .inl (fun _ => 0))), (q3, .inl (c3, 16, .inl (fun _ => 0))), (q4, .inl (c4, 16, .inl (fun _ => 0))), (q5, .inl (c5, 16, .inl (fun _ => 0))), (q6, .inl (c6, 16, .inl (fun _ => 0))), (q7, .inl (c7, 16, .inl (fun _ => 0))), (q8, .inl (c8, 16, .inl (fun _ => 0)))]) X imX1 tyX1 tyX1_ok nmX1 rfl rfl (by decide) (mc flX1_35) (by decide) hini rfl (tyX1_ok 15 (by decide)) rfl rfl (Nat.le_of_ble_eq_true rfl) dX1_init_73 rfl ?_
  obtain ⟨a, ea⟩ : ∃ a : Nat → Nat, a = mk9 q0 q1 q2 q3 q4 q5 q6 q7 q8 := ⟨_, rfl⟩
  obtain ⟨ca, eca⟩ : ∃ ca : Nat → ClassId, ca = mk9 c0 c1 c2 c3 c4 c5 c6 c7 c8 := ⟨_, rfl⟩
  have X : zz_X p s m' [Value.ref h, .int x].toArray c cX1_init 2 wsX1_init RX1 D vwCl (tyM ca) A := by rw [eca]; exact X
  refine zz_ws (ws' := wM h a ca rZ) (by rw [ea, eca]; rfl) ?_
  refine zz_widen (k2 := 9) (n2 := 144) (by decide) (by decide) ?_
  have fin : ∀ z : Int32, z = nI (rN x) → zz_V p l e { frames := 1, cells := 9, slots := 144, locals := 14 } s m' [.ref h, .int x].toArray below meth c 9 144 Q 2 D vwCl A (wM h a ca rZ) [some (.ref h), some (.int x)] 96 [.int z, .ref h] := by
    intro z ez
    subst ez
    refine zz_putF (q0 := 0) (k0 := 1) (ty := tyX1 1) (ws' := wM h a ca (mU0 (rN x))) X imX1 tyX1 tyX1_ok nmX1 rfl rfl (by decide) (mc flX1_38) (by decide) hini rfl (tyX1_ok 1 (by decide)) rfl rfl (Nat.le_of_ble_eq_true rfl) dX1_init_96 rfl ?_
    exact Ev (a, ca) _ _ _ _ _ _ X dX1_init_99 trivial rfl rfl (Nat.le_refl _) (Nat.le_refl _)
  refine zz_aload_n X dX1_init_76 rfl rfl ?_
  refine zz_iload_n X dX1_init_77 rfl rfl ?_
  refine zz_iconst (v := 1) X dX1_init_78 (by decide) ?_
  refine zz_icmp_ge (tgt := 86) X dX1_init_79 (by decide) (fun h1 => ?_) (fun h1 => ?_)
  · refine zz_iload_n X dX1_init_86 rfl rfl ?_
    refine zz_iconst (v := 4) X dX1_init_87 (by decide) ?_
    refine zz_icmp_le (tgt := 95) X dX1_init_88 (by decide) (fun h2 => ?_) (fun h2 => ?_)
    · refine zz_iload_n X dX1_init_95 rfl rfl ?_
      exact fin _ ((rN_eq2 x).1 h1 h2)
    · refine zz_iconst (v := 4) X dX1_init_91 (by decide) ?_
      refine zz_goto (tgt := 96) X dX1_init_92 (by decide) ?_
      exact fin _ ((rN_eq2 x).2.1 h1 h2)
  · refine zz_iconst (v := 1) X dX1_init_82 (by decide) ?_
    refine zz_goto (tgt := 96) X dX1_init_83 (by decide) ?_
    exact fin _ ((rN_eq2 x).2.2 h1)
