set_option maxHeartbeats 4000000 in
set_option maxRecDepth 100000 in
theorem c_init {l : Launch} {D : va_G} {h : Nat} (x : Int32) : zz_CI l D vwCl yX0_init wsX0_init { frames := 1, cells := 9, slots := 124, locals := 14 } [.ref h, .int x] [(h, .inr (0, [.null, .null, .null, .null, .null, .null, .null, .null, .null, .int 0, .int 0, .int 0, .int 0]))] (S := (Nat → Nat) × (Nat → ClassId)) (fun z => tyP z.2) (fun z => wP h z.1 z.2 (rN x) (rU0 (rN x))) (fun _ => True) 9 124 := by
  refine zz_CI.of (bytes := cX0_init) (maxL := 4) (lv0 := [some (.ref h), some (.int x), none, none]) (by decide) rfl rfl (Nat.le_of_ble_eq_true rfl) rfl rfl ?_
  intro p e s m below meth c A Q X hini Ev
  obtain ⟨en, hn1, hn4⟩ := rN_eq x
  obtain ⟨N, eN⟩ : ∃ N, N = rN x := ⟨_, rfl⟩
  rw [← eN] at en hn1 hn4
  have hN : N < 2 ^ 31 := by omega
  refine zz_aload_n X dX0_init_0 rfl rfl ?_
  refine zz_objInit X (mc lkX0_1) (mc im_obj) (mc me_obj) dX0_init_1 (by decide) (fun ls => Nat.le_of_ble_eq_true rfl) ?_
  refine zz_iconst (v := 1) X dX0_init_4 (by decide) ?_
  refine zz_iconst (v := 4) X dX0_init_5 (by decide) ?_
  refine zz_iload_n X dX0_init_6 rfl rfl ?_
  refine zz_mmin X (mc lkX0_9) (mc st_min) (mc it_math) (mc cd_min) (by decide) (Nat.le_of_ble_eq_true rfl) ⟨by decide, by decide⟩ dX0_init_7 ?_
  refine zz_mmax X (mc lkX0_15) (mc st_max) (mc it_math) (mc cd_max) (by decide) (Nat.le_of_ble_eq_true rfl) ⟨by decide, by decide⟩ dX0_init_10 ?_
  refine zz_top en ?_
  refine zz_istore_n (lv' := [some (.ref h), some (.int x), some (.int (nI N)), none]) X dX0_init_13 rfl (by decide) rfl ?_
  refine zz_aload_n X dX0_init_14 rfl rfl ?_
  refine zz_bipush (v := 15) X dX0_init_15 (by decide) ?_
  refine zz_newa (atype := .int) (ty := .int) (N' := 15) (a0 := (15, .inl (fun _ => 0))) X (mc ar_int) rfl (fun _ => rfl) (by decide) (by decide) (by decide) (by decide) (by decide) dX0_init_17 (fun q0 c0 X => ?_)
  refine zz_putF (q0 := 0) (k0 := 0) (ty := tyX0 0) (ws' := [(h, .inr (0, [.ref q0, .null, .null, .null, .null, .null, .null, .null, .null, .int 0, .int 0, .int 0, .int 0])), (q0, .inl (c0, 15, .inl (fun _ => 0)))]) X imX0 tyX0 tyX0_ok nmX0 rfl rfl (by decide) (mc flX0_18) (by decide) hini rfl (tyX0_ok 0 (by decide)) rfl rfl (Nat.le_of_ble_eq_true rfl) dX0_init_19 rfl ?_
  refine zz_aload_n X dX0_init_22 rfl rfl ?_
  refine zz_bipush (v := 15) X dX0_init_23 (by decide) ?_
  refine zz_newa (atype := .int) (ty := .int) (N' := 15) (a0 := (15, .inl (fun _ => 0))) X (mc ar_int) rfl (fun _ => rfl) (by decide) (by decide) (by decide) (by decide) (by decide) dX0_init_25 (fun q1 c1 X => ?_)
  refine zz_putF (q0 := 0) (k0 := 1) (ty := tyX0 1) (ws' := [(h, .inr (0, [.ref q0, .ref q1, .null, .null, .null, .null, .null, .null, .null, .int 0, .int 0, .int 0, .int 0])), (q0, .inl (c0, 15, .inl (fun _ => 0))), (q1, .inl (c1, 15, .inl (fun _ => 0)))]) X imX0 tyX0 tyX0_ok nmX0 rfl rfl (by decide) (mc flX0_22) (by decide) hini rfl (tyX0_ok 1 (by decide)) rfl rfl (Nat.le_of_ble_eq_true rfl) dX0_init_27 rfl ?_
  refine zz_aload_n X dX0_init_30 rfl rfl ?_
  refine zz_bipush (v := 15) X dX0_init_31 (by decide) ?_
  refine zz_newa (atype := .int) (ty := .int) (N' := 15) (a0 := (15, .inl (fun _ => 0))) X (mc ar_int) rfl (fun _ => rfl) (by decide) (by decide) (by decide) (by decide) (by decide) dX0_init_33 (fun q2 c2 X => ?_)
  refine zz_putF (q0 := 0) (k0 := 2) (ty := tyX0 2) (ws' := [(h, .inr (0, [.ref q0, .ref q1, .ref q2, .null, .null, .null, .null, .null, .null, .int 0, .int 0, .int 0, .int 0])), (q0, .inl (c0, 15, .inl (fun _ => 0))), (q1, .inl (c1, 15, .inl (fun _ => 0))), (q2, .inl (c2, 15, .inl (fun _ => 0)))]) X imX0 tyX0 tyX0_ok nmX0 rfl rfl (by decide) (mc flX0_25) (by decide) hini rfl (tyX0_ok 2 (by decide)) rfl rfl (Nat.le_of_ble_eq_true rfl) dX0_init_35 rfl ?_
  refine zz_aload_n X dX0_init_38 rfl rfl ?_
  refine zz_bipush (v := 15) X dX0_init_39 (by decide) ?_
  refine zz_newa (atype := .boolean) (ty := .boolean) (N' := 15) (a0 := (15, .inl (fun _ => 0))) X (mc ar_boolean) rfl (fun _ => rfl) (by decide) (by decide) (by decide) (by decide) (by decide) dX0_init_41 (fun q3 c3 X => ?_)
  refine zz_putF (q0 := 0) (k0 := 3) (ty := tyX0 3) (ws' := [(h, .inr (0, [.ref q0, .ref q1, .ref q2, .ref q3, .null, .null, .null, .null, .null, .int 0, .int 0, .int 0, .int 0])), (q0, .inl (c0, 15, .inl (fun _ => 0))), (q1, .inl (c1, 15, .inl (fun _ => 0))), (q2, .inl (c2, 15, .inl (fun _ => 0))), (q3, .inl (c3, 15, .inl (fun _ => 0)))]) X imX0 tyX0 tyX0_ok nmX0 rfl rfl (by decide) (mc flX0_28) (by decide) hini rfl (tyX0_ok 3 (by decide)) rfl rfl (Nat.le_of_ble_eq_true rfl) dX0_init_43 rfl ?_
  refine zz_aload_n X dX0_init_46 rfl rfl ?_
  refine zz_bipush (v := 15) X dX0_init_47 (by decide) ?_
  refine zz_newa (atype := .int) (ty := .int) (N' := 15) (a0 := (15, .inl (fun _ => 0))) X (mc ar_int) rfl (fun _ => rfl) (by decide) (by decide) (by decide) (by decide) (by decide) dX0_init_49 (fun q4 c4 X => ?_)
  refine zz_putF (q0 := 0) (k0 := 4) (ty := tyX0 4) (ws' := [(h, .inr (0, [.ref q0, .ref q1, .ref q2, .ref q3, .ref q4, .null, .null, .null, .null, .int 0, .int 0, .int 0, .int 0])), (q0, .inl (c0, 15, .inl (fun _ => 0))), (q1, .inl (c1, 15, .inl (fun _ => 0))), (q2, .inl (c2, 15, .inl (fun _ => 0))), (q3, .inl (c3, 15, .inl (fun _ => 0))), (q4, .inl (c4, 15, .inl (fun _ => 0)))]) X imX0 tyX0 tyX0_ok nmX0 rfl rfl (by decide) (mc flX0_32) (by decide) hini rfl (tyX0_ok 4 (by decide)) rfl rfl (Nat.le_of_ble_eq_true rfl) dX0_init_51 rfl ?_
  refine zz_aload_n X dX0_init_54 rfl rfl ?_
  refine zz_bipush (v := 15) X dX0_init_55 (by decide) ?_
  refine zz_newa (atype := .int) (ty := .int) (N' := 15) (a0 := (15, .inl (fun _ => 0))) X (mc ar_int) rfl (fun _ => rfl) (by decide) (by decide) (by decide) (by decide) (by decide) dX0_init_57 (fun q5 c5 X => ?_)
  refine zz_putF (q0 := 0) (k0 := 5) (ty := tyX0 5) (ws' := [(h, .inr (0, [.ref q0, .ref q1, .ref q2, .ref q3, .ref q4, .ref q5, .null, .null, .null, .int 0, .int 0, .int 0, .int 0])), (q0, .inl (c0, 15, .inl (fun _ => 0))), (q1, .inl (c1, 15, .inl (fun _ => 0))), (q2, .inl (c2, 15, .inl (fun _ => 0))), (q3, .inl (c3, 15, .inl (fun _ => 0))), (q4, .inl (c4, 15, .inl (fun _ => 0))), (q5, .inl (c5, 15, .inl (fun _ => 0)))]) X imX0 tyX0 tyX0_ok nmX0 rfl rfl (by decide) (mc flX0_35) (by decide) hini rfl (tyX0_ok 5 (by decide)) rfl rfl (Nat.le_of_ble_eq_true rfl) dX0_init_59 rfl ?_
  refine zz_aload_n X dX0_init_62 rfl rfl ?_
  refine zz_bipush (v := 15) X dX0_init_63 (by decide) ?_
  refine zz_newa (atype := .int) (ty := .int) (N' := 15) (a0 := (15, .inl (fun _ => 0))) X (mc ar_int) rfl (fun _ => rfl) (by decide) (by decide) (by decide) (by decide) (by decide) dX0_init_65 (fun q6 c6 X => ?_)
  refine zz_putF (q0 := 0) (k0 := 6) (ty := tyX0 6) (ws' := [(h, .inr (0, [.ref q0, .ref q1, .ref q2, .ref q3, .ref q4, .ref q5, .ref q6, .null, .null, .int 0, .int 0, .int 0, .int 0])), (q0, .inl (c0, 15, .inl (fun _ => 0))), (q1, .inl (c1, 15, .inl (fun _ => 0))), (q2, .inl (c2, 15, .inl (fun _ => 0))), (q3, .inl (c3, 15, .inl (fun _ => 0))), (q4, .inl (c4, 15, .inl (fun _ => 0))), (q5, .inl (c5, 15, .inl (fun _ => 0))), (q6, .inl (c6, 15, .inl (fun _ => 0)))]) X imX0 tyX0 tyX0_ok nmX0 rfl rfl (by decide) (mc flX0_38) (by decide) hini rfl (tyX0_ok 6 (by decide)) rfl rfl (Nat.le_of_ble_eq_true rfl) dX0_init_67 rfl ?_
  refine zz_aload_n X dX0_init_70 rfl rfl ?_
  refine zz_bipush (v := 15) X dX0_init_71 (by decide) ?_
  refine zz_newa (atype := .int) (ty := .int) (N' := 15) (a0 := (15, .inl (fun _ => 0))) X (mc ar_int) rfl (fun _ => rfl) (by decide) (by decide) (by decide) (by decide) (by decide) dX0_init_73 (fun q7 c7 X => ?_)
  refine zz_putF (q0 := 0) (k0 := 7) (ty := tyX0 7) (ws' := [(h, .inr (0, [.ref q0, .ref q1, .ref q2, .ref q3, .ref q4, .ref q5, .ref q6, .ref q7, .null, .int 0, .int 0, .int 0, .int 0])), (q0, .inl (c0, 15, .inl (fun _ => 0))), (q1, .inl (c1, 15, .inl (fun _ => 0))), (q2, .inl (c2, 15, .inl (fun _ => 0))), (q3, .inl (c3, 15, .inl (fun _ => 0))), (q4, .inl (c4, 15, .inl (fun _ => 0))), (q5, .inl (c5, 15, .inl (fun _ => 0))), (q6, .inl (c6, 15, .inl (fun _ => 0))), (q7, .inl (c7, 15, .inl (fun _ => 0)))]) X imX0 tyX0 tyX0_ok nmX0 rfl rfl (by decide) (mc flX0_41) (by decide) hini rfl (tyX0_ok 7 (by decide)) rfl rfl (Nat.le_of_ble_eq_true rfl) dX0_init_75 rfl ?_
  refine zz_aload_n X dX0_init_78 rfl rfl ?_
  refine zz_iload_n X dX0_init_79 rfl rfl ?_
  refine zz_newa (atype := .int) (ty := .int) (N' := N) (a0 := (N, .inl (fun _ => 0))) X (mc ar_int) rfl (fun _ => rfl) (nI_pos hN) (nI_clamp hN) (show N * 4 ≤ 536870912 by omega) (by decide) (show 120 + N ≤ 124 by omega) dX0_init_80 (fun q8 c8 X => ?_)
  refine zz_putF (q0 := 0) (k0 := 8) (ty := tyX0 8) (ws' := [(h, .inr (0, [.ref q0, .ref q1, .ref q2, .ref q3, .ref q4, .ref q5, .ref q6, .ref q7, .ref q8, .int 0, .int 0, .int 0, .int 0])), (q0, .inl (c0, 15, .inl (fun _ => 0))), (q1, .inl (c1, 15, .inl (fun _ => 0))), (q2, .inl (c2, 15, .inl (fun _ => 0))), (q3, .inl (c3, 15, .inl (fun _ => 0))), (q4, .inl (c4, 15, .inl (fun _ => 0))), (q5, .inl (c5, 15, .inl (fun _ => 0))), (q6, .inl (c6, 15, .inl (fun _ => 0))), (q7, .inl (c7, 15, .inl (fun _ => 0))), (q8, .inl (c8, N, .inl (fun _ => 0)))]) X imX0 tyX0 tyX0_ok nmX0 rfl rfl (by decide) (mc flX0_44) (by decide) hini rfl (tyX0_ok 8 (by decide)) rfl rfl (Nat.le_of_ble_eq_true rfl) dX0_init_82 rfl ?_
  obtain ⟨a, ea⟩ : ∃ a : Nat → Nat, a = mk9 q0 q1 q2 q3 q4 q5 q6 q7 q8 := ⟨_, rfl⟩
  obtain ⟨ca, eca⟩ : ∃ ca : Nat → ClassId, ca = mk9 c0 c1 c2 c3 c4 c5 c6 c7 c8 := ⟨_, rfl⟩
  have X : zz_X p s m [Value.ref h, .int x].toArray c cX0_init 4 wsX0_init RX0 D vwCl (tyP ca) A := by rw [eca]; exact X
  refine zz_ws (ws' := wP h a ca N rZ) (by rw [ea, eca]; rfl) ?_
  refine zz_widen (k2 := 9) (n2 := 124) (by decide) (show 120 + N ≤ 124 by omega) ?_
  refine zz_iconst (v := 0) X dX0_init_85 (by decide) ?_
  refine zz_istore_n (lv' := [some (.ref h), some (.int x), some (.int (nI N)), some (.int 0)]) X dX0_init_86 rfl (by decide) rfl ?_
  have loop : ∀ (n i : Nat) (v : St), i + n = N → zl (fun i v => up2 v 8 i (-1)) n i v = zl (fun i v => up2 v 8 i (-1)) N 0 rZ → zz_V p l e { frames := 1, cells := 9, slots := 124, locals := 14 } s m [.ref h, .int x].toArray below meth c 9 124 Q 4 D vwCl A (wP h a ca N v) [some (.ref h), some (.int x), some (.int (nI N)), some (.int (nI i))] 87 [] := by
    intro n
    induction n with
    | zero =>
      intro i v hi hz
      refine zz_iload_n X dX0_init_87 rfl rfl ?_
      refine zz_iload_n X dX0_init_88 rfl rfl ?_
      refine zz_icmp_ge (tgt := 105) X dX0_init_89 (by decide) (fun hq => ?_) (fun hq => absurd (nI_le (a := N) (by omega) (by omega)) hq)
      refine zz_aload_n X dX0_init_105 rfl rfl ?_
      refine zz_bipush (v := 14) X dX0_init_106 (by decide) ?_
      refine pp_put (k0 := 9) (u2 := (up2 v 9 0 14)) X imX0 (by decide) (mc flX0_47) (by decide) (by decide +kernel) dX0_init_108 rfl ?_
      refine zz_aload_n X dX0_init_111 rfl rfl ?_
      refine zz_iconst (v := 0) X dX0_init_112 (by decide) ?_
      refine pp_put (k0 := 10) (u2 := (up2 (up2 v 9 0 14) 9 1 0)) X imX0 (by decide) (mc flX0_51) (by decide) (by decide +kernel) dX0_init_113 rfl ?_
      refine zz_aload_n X dX0_init_116 rfl rfl ?_
      refine zz_iconst (v := 0) X dX0_init_117 (by decide) ?_
      refine pp_put (k0 := 11) (u2 := (up2 (up2 (up2 v 9 0 14) 9 1 0) 9 2 0)) X imX0 (by decide) (mc flX0_54) (by decide) (by decide +kernel) dX0_init_118 rfl ?_
      refine zz_aload_n X dX0_init_121 rfl rfl ?_
      refine zz_iconst (v := 0) X dX0_init_122 (by decide) ?_
      refine pp_put (k0 := 12) (u2 := (up2 (up2 (up2 (up2 v 9 0 14) 9 1 0) 9 2 0) 9 3 0)) X imX0 (by decide) (mc flX0_57) (by decide) (by decide +kernel) dX0_init_123 rfl ?_
      have hz : v = zl (fun i v => up2 v 8 i (-1)) N 0 rZ := hz
      exact Ev (a, ca) _ _ _ _ _ _ X dX0_init_126 trivial rfl (by rw [rU0, ← eN, ← hz]) (Nat.le_refl _) (Nat.le_refl _)
    | succ n ih =>
      intro i v hi hz
      have hlt : i < N := by omega
      refine zz_iload_n X dX0_init_87 rfl rfl ?_
      refine zz_iload_n X dX0_init_88 rfl rfl ?_
      refine zz_icmp_ge (tgt := 105) X dX0_init_89 (by decide) (fun hq => absurd hq (nI_ge hlt hN)) (fun hq => ?_)
      refine zz_aload_n X dX0_init_92 rfl rfl ?_
      refine pp_get (k0 := 8) (v := .ref (a 8)) X imX0 (by decide) (mc flX0_44) rfl dX0_init_93 ?_
      refine zz_iload_n X dX0_init_96 rfl rfl ?_
      refine zz_iconst (v := -1) X dX0_init_97 (by decide) ?_
      refine zz_iast (q0 := 9) (t0 := 8) (j := i) (ws' := wP h a ca N (up2 v 8 i (-1))) X rfl rfl rfl hlt hN dX0_init_98 rfl ?_
      refine zz_iinc (v := (nI (i + 1))) (lv' := [some (.ref h), some (.int x), some (.int (nI N)), some (.int (nI (i + 1)))]) X dX0_init_99 rfl (nI_1 _) (by decide) rfl ?_
      refine zz_goto (tgt := 87) X dX0_init_102 (by decide) ?_
      exact ih (i + 1) _ (by omega) hz
  exact loop N 0 rZ (Nat.zero_add _) rfl
