theorem gwS {w : Cond} {own : String} {idx : Nat} {y : MethodName} (h1 : Cond.methodLink own idx y ∈ lw_gd) (h2 : Cond.static y ∈ lw_gd) (h4 : Cond.initialized y.cls ∈ lw_gd) (h5 : w ∈ lw_gd) : GoodIn lw_gd (va_wsS own idx y (w :: lw_gd)) := by
  have g : ∀ a ∈ lw_gd, a ∈ lw_gd ∧ ((a.onTables && a.keeps) = true ∨ ∃ ty, a = .arrayClass ty) := fun a h => ⟨h, good_of_word (List.all_eq_true.mp lw_good a h)⟩
  intro a ha
  refine g a ?_
  unfold va_wsS at ha
  rcases List.mem_append.mp ha with q | q
  · simp only [List.mem_cons, List.not_mem_nil, or_false] at q
    rcases q with rfl | rfl | rfl
    · exact h1
    · exact h2
    · exact h4
  · rcases List.mem_cons.mp q with rfl | q
    · exact h5
    · exact q
/-- the first int of the script, 0 if there is none -/
def xs0 (L : Nat) (xs : Nat → Int32) : Int32 := if L = 0 then 0 else xs 0
set_option maxHeartbeats 4000000 in
theorem l_cell (l : Launch) (D : va_G) {b L : Nat} {xs : Nat → Int32} (hL : L < 2 ^ 31) (sz : Nat) : Met l yL_cell wsL_cell { frames := 0, cells := 0, slots := 0, locals := 0 } (va_Pc [.ref b, .int 0] (fun U => U.heap.size = sz ∧ va_X b L xs U U.heap ∧ b < sz)) (fun _ st oc t => oc = .returned (some (.int (xs0 L xs))) ∧ va_F (fun q => sz ≤ q) st t) 0 0 (fun q => sz ≤ q) := by
  refine Met.ofW (cc := cL_cell) (maxL := 2) (ret := some .int) (by decide) rfl ?_
  intro p e s m args below meth c s₁ B hml hv
  obtain ⟨rfl, hsz, hX, hbl⟩ := hv
  have hx := B.exec
  have hb := B.bytes
  have hr := B.returns
  have hts := atoms_spec (ws := wsL_cell) B.pre
  have hown : s.vm.findClass RL = some m.cls := findClass_of_methodNamed B.named
  have hlocks := B.notSynchronized
  subst hsz
  have hbA : ¬ (fun q : Nat => s.heap.size ≤ q) b := Nat.not_le.mpr hbl
  have hK : va_K D [] [] s := ⟨fun c q h => by simp at h, fun k q h => by simp at h⟩
  have X : zz_X p s m [Value.ref b, .int 0].toArray c cL_cell 2 wsL_cell RL D [] [] (fun q : Nat => s.heap.size ≤ q) := ⟨⟨hx, hb, hml, hown, hts⟩, hK, fun q h => h⟩
  have hl := lv_entry [Value.ref b, .int 0] (n := 2) (Nat.le_of_ble_eq_true rfl)
  rw [lg_entry_eq]
  have ret : ∀ (lv : List (Option Value)) (x : Int32), x = xs0 L xs → zz_V p l e (headSpec wsL_cell { frames := 0, cells := 0, slots := 0, locals := 0 }).room s m [Value.ref b, .int 0].toArray below meth c 0 0 (MQ below (fun _ st oc t => oc = .returned (some (.int (xs0 L xs))) ∧ va_F (fun q => s.heap.size ≤ q) st t) [Value.ref b, .int 0].toArray s 0 0 (fun q => s.heap.size ≤ q)) 2 D [] (fun q : Nat => s.heap.size ≤ q) [] lv 13 [.int x] := by
    intro lv x ex H locs ls hP hD hS hl
    exact W.iret hx hb hr (fun t ht hW => ⟨by rw [ex], hS.F ht⟩) hS.2.2 dL_cell_13
  have go : zz_V p l e (headSpec wsL_cell { frames := 0, cells := 0, slots := 0, locals := 0 }).room s m [Value.ref b, .int 0].toArray below meth c 0 0 (MQ below (fun _ st oc t => oc = .returned (some (.int (xs0 L xs))) ∧ va_F (fun q => s.heap.size ≤ q) st t) [Value.ref b, .int 0].toArray s 0 0 (fun q => s.heap.size ≤ q)) 2 D [] (fun q : Nat => s.heap.size ≤ q) [] [some (.ref b), some (.int 0)] 0 [] := by
    refine zz_iload_n X dL_cell_0 rfl rfl ?_
    refine zz_aload_n X dL_cell_1 rfl rfl ?_
    refine zz_slen X hX hbl hbA dL_cell_2 ?_
    refine zz_icmp_ge (tgt := 12) X dL_cell_3 (by decide) (fun h1 => ?_) (fun h1 => ?_)
    · refine zz_iconst (v := 0) X dL_cell_12 (by decide) ?_
      refine ret _ _ ?_
      have h1 : nI L ≤ nI 0 := h1
      rw [nI_leI hL (by decide)] at h1
      rw [xs0, if_pos (by omega)]
    · have h0 : 0 < L := by
        rcases Nat.eq_zero_or_pos L with q | q
        · exact absurd (by rw [q]; decide) h1
        · exact q
      refine zz_aload_n X dL_cell_6 rfl rfl ?_
      refine zz_iload_n X dL_cell_7 rfl rfl ?_
      refine zz_sld (j := 0) X hX hbl hbA (by decide) h0 hL dL_cell_8 ?_
      refine zz_goto (tgt := 13) X dL_cell_9 (by decide) ?_
      exact ret _ _ (by rw [xs0, if_neg (by omega)])
  exact go s.heap [] _ (fun k q h => by simp at h) ⟨fun i j p q h => by simp at h, fun k q h => by simp at h⟩ va_S.rf (zz_L.entry (vs := [Value.ref b, .int 0]) (fun v hv => by simp only [List.mem_cons, List.not_mem_nil, or_false] at hv; rcases hv with rfl | rfl <;> rfl) rfl hl)
section LL
variable {p : Program} {l : Launch} {e : Env} {s : State} {m : MethodId} {args : Array Value} {below : List Frame} {meth : Method} {c : Code} {cells slots : Nat} {Q : State → Prop} {D : va_G} {tys : List (ClassId × FieldType)} {A : Nat → Prop} {ws : va_W} {lv : List (Option Value)} {pc : Nat} {st : List Value}
theorem ll_cell (X : zz_X p s m args c code 4 lw_gd RL D vwCl tys A) {b L : Nat} {xs : Nat → Int32} (hL : L < 2 ^ 31) (hX : va_X b L xs s s.heap) (hbl : b < s.heap.size) (hbA : ¬ A b) (hdg : decode code pc = .ok (.invokestatic 9, 3)) (hrm : (st.map fun v => v.category).sum ≤ 8) (hcs : cells ≤ room_1.cells ∧ slots ≤ room_1.slots)
    (k : zz_V p l e room_1 s m args below meth c cells slots Q 4 D vwCl A ws lv (pc + 3) (.int (xs0 L xs) :: st)) : zz_V p l e room_1 s m args below meth c cells slots Q 4 D vwCl A ws lv pc (.int 0 :: .ref b :: st) := by
  intro H locs ls hP hD hS hl T hT XX
  have hbH : H[b]? = s.heap[b]? := hS.2.1 b hbl hbA
  have hbz : b < H.size := Nat.lt_of_lt_of_le hbl hS.1
  have cw := va_cwS (R := room_1) (s := s) (args := args) (own := RL) (index := 9) (y := yL_cell) (bytes := cL_cell) (maxL := 2) (ret := some .int) (mc := 0) (ms := 0) (rm := { frames := 0, cells := 0, slots := 0, locals := 0 }) 2 X.1.2.2.2.2 (gwS lkL_9 stL_cell itL cdL_cell) rfl rfl rfl (by decide +kernel) ⟨Nat.le_of_ble_eq_true rfl, Nat.le_of_ble_eq_true rfl⟩
  obtain ⟨v, st₀, t, T', Lc, h0, X', hLc, e1, e2, ⟨hv, hz, hk⟩, stp⟩ := va_runS (p := p) (e := e) (meth := meth) (below := below) (H := H) (locs := locs) (cells := cells) (slots := slots) (g := F0 m pc ls (.int 0 :: .ref b :: st)) (As := [.ref b, .int 0]) (rest := st) X.1 (l_cell l D (b := b) (xs := xs) hL H.size) cw ⟨fun a U g mk q => by obtain ⟨q0, q1, q2, q3⟩ := q; exact ⟨q0, q1, va_X.moved (u := U) (U := U.calling g mk a) (Vm.Alike.refl U.vm) q2, q3⟩, fun U hU hW => ⟨rfl, by rw [hU], by rw [hU]; exact va_X.moved hW.alike (hX.kept hbH), hbz⟩⟩ rfl rfl hl.1 rfl (lv_room hrm) hdg hcs T hT XX
  have hv : v = some (.int (xs0 L xs)) := Outcome.returned.inj hv
  subst hv
  rw [h0] at hz hk
  rw [← e1] at hz hk
  have hkk : ∀ q : Nat, q < H.size → T'.heap[q]? = H[q]? := fun q h => hk q h (Nat.not_le.mpr h)
  have hP2 : va_P D vwCl ws T'.heap := hP.kept (fun j q hj => hkk q.1 (hP j q hj).lt)
  obtain ⟨t2, a1, b1⟩ := k T'.heap (locs ++ Lc) ls hP2 hD ⟨Nat.le_trans hS.1 hz, fun q h1 h2 => by rw [hkk q (Nat.lt_of_lt_of_le h1 hS.1)]; exact hS.2.1 q h1 h2, fun q hq => by
      rcases List.mem_append.mp hq with h | h
      · exact hS.2.2 q h
      · exact X.2.2 _ (Nat.le_trans hS.1 (hLc q h))⟩ hl T' rfl X'
  exact ⟨t2, stp t2 a1, b1⟩
variable {h h2 N : Nat} {a a2 : Nat → Nat} {ca ca2 : Nat → ClassId} {u u2 v v2 : St}
abbrev zz_W (p : Program) (l : Launch) (e : Env) (s : State) (m : MethodId) (args : Array Value) (below : List Frame) (meth : Method) (c : Code) (Q : State → Prop) (D : va_G) (A : Nat → Prop) : va_W → List (Option Value) → Nat → List Value → Prop := zz_V p l e room_1 s m args below meth c 20 400 Q 4 D vwCl A
theorem ll_ring (X : zz_X p s m args c code 4 lw_gd RL D vwCl (tyP ca ++ tyM ca2) A) {y : MethodName} {bytes : ByteArray} {maxL index n : Nat} {ret : Option FieldType} {wy : List Cond} {rm : Room} {As rest : List Value} {x : Int32} (hC : cP l D h a ca N y wy rm As u (some (.int x)) u2) (cw : CallW room_1 s args RL RX0 index y bytes maxL ret wy rm 0 0 n) (hn : As.length = n) (hst : st = As.reverse ++ .ref h :: rest) (hrm : (rest.map fun v => v.category).sum ≤ 8) (hdg : decode code pc = .ok (.invokevirtual index, 3))
    (k : zz_W p l e s m args below meth c Q D A (wM h2 a2 ca2 v ++ wP h a ca N u2) lv (pc + 3) (.int x :: rest)) : zz_W p l e s m args below meth c Q D A (wP h a ca N u ++ wM h2 a2 ca2 v) lv pc st :=
  zz_call (q0 := 0) (wr := wM h2 a2 ca2 v) (ws' := wM h2 a2 ca2 v ++ wP h a ca N u2) X hC (X.2.1.sub [0, 1, 2, 3, 4, 5, 6, 7, 8] rfl) cw rfl rfl hn hst hrm hdg ⟨by decide, by decide⟩ [0, 1, 2, 3, 4, 5, 6, 7, 8, 9] [10, 11, 12, 13, 14, 15, 16, 17, 18, 19] rfl rfl rfl (by decide) (by decide) (by decide) rfl k
theorem ll_mod (X : zz_X p s m args c code 4 lw_gd RL D vwCl (tyP ca ++ tyM ca2) A) {y : MethodName} {bytes : ByteArray} {maxL index n : Nat} {ret : Option FieldType} {wy : List Cond} {rm : Room} {As rest : List Value} {x : Int32} (hC : cM l D h2 a2 ca2 y wy rm As v (some (.int x)) v2) (cw : CallW room_1 s args RL RX1 index y bytes maxL ret wy rm 0 0 n) (hn : As.length = n) (hst : st = As.reverse ++ .ref h2 :: rest) (hrm : (rest.map fun v => v.category).sum ≤ 8) (hdg : decode code pc = .ok (.invokevirtual index, 3))
    (k : zz_W p l e s m args below meth c Q D A (wP h a ca N u ++ wM h2 a2 ca2 v2) lv (pc + 3) (.int x :: rest)) : zz_W p l e s m args below meth c Q D A (wM h2 a2 ca2 v ++ wP h a ca N u) lv pc st :=
  zz_call (q0 := 0) (wr := wP h a ca N u) (ws' := wP h a ca N u ++ wM h2 a2 ca2 v2) X hC (X.2.1.sub [9, 10, 11, 12, 13, 14, 15, 16, 17] rfl) cw rfl rfl hn hst hrm hdg ⟨by decide, by decide⟩ [0, 1, 2, 3, 4, 5, 6, 7, 8, 9] [10, 11, 12, 13, 14, 15, 16, 17, 18, 19] rfl rfl rfl (by decide) (by decide) (by decide) rfl k
end LL
theorem ll_cmp {i L : Nat} (hi : i < 2 ^ 30) (hL : L < 2 ^ 30) : (nI L - 3 < nI i) ↔ L < i + 3 := by
  rw [Int32.lt_iff_toInt_lt, show (3 : Int32) = nI 3 from rfl, pk_sub_toInt hL (by decide), nI_toInt (by omega)]
  omega
set_option maxHeartbeats 4000000 in
set_option maxRecDepth 100000 in
theorem law_loop {p : Program} {l : Launch} {e : Env} {s : State} {m' : MethodId} {below : List Frame} {meth : Method} {c : Code} {b L : Nat} {xs : Nat → Int32} {D : va_G} {h h2 N : Nat} {a a2 : Nat → Nat} {ca ca2 : Nat → ClassId} (hL : L ≤ 1537) (C0 : lw_At p s m' meth c b L xs) (X : zz_X p s m' #[Value.ref b] c code 4 lw_gd RL D vwCl (tyP ca ++ tyM ca2) (fun q : Nat => s.heap.size ≤ q)) (hN4 : N ≤ 4) :
    ∀ (k n i : Nat) (u v : St), L < i + 3 + 3 * k → i = 3 * n + 1 → i < L + 4 → zN N n u v → zz_W p l e s m' #[Value.ref b] below meth c (lw_Z below #[Value.ref b] s) D (fun q : Nat => s.heap.size ≤ q) (wP h a ca N u ++ wM h2 a2 ca2 v) [some (.ref b), some (.ref h), some (.ref h2), some (.int (nI i))] 28 [] := by
  obtain ⟨hx, hb, hr, hml, hown, hts, hX, hbl, hlocks, hgv⟩ := C0
  have hN : N < 2 ^ 31 := by omega
  have hbA : ¬ (fun q : Nat => s.heap.size ≤ q) b := Nat.not_le.mpr hbl
  have fin : ∀ (ws : va_W) (lv : List (Option Value)), zz_W p l e s m' #[Value.ref b] below meth c (lw_Z below #[Value.ref b] s) D (fun q : Nat => s.heap.size ≤ q) ws lv 450 [] := by
    intro ws lv
    refine zz_iconst (v := 1) X dL_law_450 (by decide) ?_
    intro H locs ls hP hD hS hl
    refine va_forget (fun q hq => hS.2.2 q hq) ?_
    refine W.widen (k := 600000) (n := 7302250) (by decide) (by decide) ?_
    exact lw_ret hx hb hr hlocks dL_law_451
  have head : ∀ (i : Nat) (u v : St), i < 2 ^ 30 → (¬ L < i + 3 → zz_W p l e s m' #[Value.ref b] below meth c (lw_Z below #[Value.ref b] s) D (fun q : Nat => s.heap.size ≤ q) (wP h a ca N u ++ wM h2 a2 ca2 v) [some (.ref b), some (.ref h), some (.ref h2), some (.int (nI i))] 36 []) → zz_W p l e s m' #[Value.ref b] below meth c (lw_Z below #[Value.ref b] s) D (fun q : Nat => s.heap.size ≤ q) (wP h a ca N u ++ wM h2 a2 ca2 v) [some (.ref b), some (.ref h), some (.ref h2), some (.int (nI i))] 28 [] := by
    intro i u v hi kf
    refine zz_iload_n X dL_law_28 rfl rfl ?_
    refine zz_aload_n X dL_law_29 rfl rfl ?_
    refine zz_slen X hX hbl hbA dL_law_30 ?_
    refine zz_iconst (v := 3) X dL_law_31 (by decide) ?_
    refine zz_isub X dL_law_32 ?_
    exact zz_icmp_gt (tgt := 450) X dL_law_33 (by decide) (fun _ => fin _ _) (fun q => kf (fun z => q ((ll_cmp hi (by omega)).mpr z)))
  intro k
  induction k with
  | zero =>
    intro n i u v h1 h3 h5 hR
    exact head i u v (by omega) (fun q => absurd h1 q)
  | succ k ih =>
    intro n i u v h1 h3 h5 hR
    refine head i u v (by omega) (fun h4 => ?_)
    have next : ∀ (u v : St), zN N (n + 1) u v → zz_W p l e s m' #[Value.ref b] below meth c (lw_Z below #[Value.ref b] s) D (fun q : Nat => s.heap.size ≤ q) (wP h a ca N u ++ wM h2 a2 ca2 v) [some (.ref b), some (.ref h), some (.ref h2), some (.int (nI i))] 444 [] := by
      intro u v hR
      refine zz_iinc (v := nI (i + 3)) (lv' := [some (.ref b), some (.ref h), some (.ref h2), some (.int (nI (i + 3)))]) X dL_law_444 rfl (nI_add i 3) (by decide) rfl ?_
      refine zz_goto (tgt := 28) X dL_law_447 (by decide) ?_
      exact ih (n + 1) (i + 3) u v (by omega) (by omega) (by omega) hR
    have e1 : nI i + 1 = nI (i + 1) := nI_1 i
    have e2 : nI i + 2 = nI (i + 2) := nI_add i 2
    obtain ⟨m, t, hB⟩ := hR
    have hn6 : n < 600 := by omega
    refine zz_aload_n X dL_law_36 rfl rfl ?_
    refine zz_iload_n X dL_law_37 rfl rfl ?_
    refine zz_sld (j := i) X hX hbl hbA rfl (by omega) (by omega) dL_law_38 ?_
    refine zz_bipush (v := 15) X dL_law_39 (by decide) ?_
    refine zz_iand X dL_law_41 ?_
    obtain ⟨d, hd, ed⟩ := pk_andE (xs i) (m := 15) 4 (by decide)
    refine zz_top ed ?_
    obtain ⟨x, hxx⟩ : ∃ x, x = xs (i + 1) := ⟨_, rfl⟩
    obtain ⟨y, hyy⟩ : ∃ y, y = xs (i + 2) := ⟨_, rfl⟩
    rcases (show d = 0 ∨ d = 1 ∨ d = 2 ∨ d = 3 ∨ d = 4 ∨ d = 5 ∨ d = 6 ∨ d = 7 ∨ d = 8 ∨ d = 9 ∨ d = 10 ∨ d = 11 ∨ d = 12 ∨ d = 13 ∨ d = 14 ∨ d = 15 by omega) with rfl | rfl | rfl | rfl | rfl | rfl | rfl | rfl | rfl | rfl | rfl | rfl | rfl | rfl | rfl | rfl
    · refine zz_tabIn (tgt := 112) X dL_law_42 (by decide) (by decide) rfl (by decide) ?_
      refine zz_aload_n X dL_law_112 rfl rfl ?_
      refine ll_ring (rest := []) X (c_first hN u) (cwV 0 X.1.2.2.2.2 (gwL lkL_21 imX0_first seX0_first itX0 cdX0_first) rfl rfl rfl hdX0_first ⟨Nat.le_of_ble_eq_true rfl, Nat.le_of_ble_eq_true rfl⟩) rfl rfl (Nat.le_of_ble_eq_true rfl) dL_law_113 ?_
      refine zz_aload_n X dL_law_116 rfl rfl ?_
      refine ll_mod (rest := [.int ((rFst u).1)]) X (m_first v m hB.m hB.m15 hB.th) (cwV 0 X.1.2.2.2.2 (gwL lkL_25 imX1_first seX1_first itX1 cdX1_first) rfl rfl rfl hdX1_first ⟨Nat.le_of_ble_eq_true rfl, Nat.le_of_ble_eq_true rfl⟩) rfl rfl (Nat.le_of_ble_eq_true rfl) dL_law_117 ?_
      obtain ⟨es, hs⟩ := sim_first hB hn6
      refine zz_icmp_eq (tgt := 444) X dL_law_120 (by decide) (fun _ => next _ _ hs) (fun hq => absurd es hq)
    · refine zz_tabIn (tgt := 125) X dL_law_42 (by decide) (by decide) rfl (by decide) ?_
      refine zz_aload_n X dL_law_125 rfl rfl ?_
      refine zz_aload_n X dL_law_126 rfl rfl ?_
      refine zz_iload_n X dL_law_127 rfl rfl ?_
      refine zz_iconst (v := 1) X dL_law_128 (by decide) ?_
      refine zz_iadd X dL_law_129 ?_
      refine zz_top e1 ?_
      refine zz_sld (j := i + 1) X hX hbl hbA rfl (by omega) (by omega) dL_law_130 ?_
      refine zz_top hxx.symm ?_
      refine ll_ring (rest := []) X (c_pick hN u hB.I x) (cwV 1 X.1.2.2.2.2 (gwL lkL_26 imX0_pick seX0_pick itX0 cdX0_pick) rfl rfl rfl hdX0_pick ⟨Nat.le_of_ble_eq_true rfl, Nat.le_of_ble_eq_true rfl⟩) rfl rfl (Nat.le_of_ble_eq_true rfl) dL_law_131 ?_
      refine zz_aload_n X dL_law_134 rfl rfl ?_
      refine zz_aload_n X dL_law_135 rfl rfl ?_
      refine zz_iload_n X dL_law_136 rfl rfl ?_
      refine zz_iconst (v := 1) X dL_law_137 (by decide) ?_
      refine zz_iadd X dL_law_138 ?_
      refine zz_top e1 ?_
      refine zz_sld (j := i + 1) X hX hbl hbA rfl (by omega) (by omega) dL_law_139 ?_
      refine zz_top hxx.symm ?_
      refine ll_mod (rest := [.int ((rPck N u x).1)]) X (m_pick v m hB.m hB.m15 hB.th t hB.t.1 hB.t.2 x) (cwV 1 X.1.2.2.2.2 (gwL lkL_30 imX1_pick seX1_pick itX1 cdX1_pick) rfl rfl rfl hdX1_pick ⟨Nat.le_of_ble_eq_true rfl, Nat.le_of_ble_eq_true rfl⟩) rfl rfl (Nat.le_of_ble_eq_true rfl) dL_law_140 ?_
      obtain ⟨es, hs⟩ := sim_pick hB hn6 x
      refine zz_icmp_eq (tgt := 444) X dL_law_143 (by decide) (fun _ => next _ _ hs) (fun hq => absurd es hq)
    · refine zz_tabIn (tgt := 148) X dL_law_42 (by decide) (by decide) rfl (by decide) ?_
      refine zz_aload_n X dL_law_148 rfl rfl ?_
      refine zz_aload_n X dL_law_149 rfl rfl ?_
      refine zz_iload_n X dL_law_150 rfl rfl ?_
      refine zz_iconst (v := 1) X dL_law_151 (by decide) ?_
      refine zz_iadd X dL_law_152 ?_
      refine zz_top e1 ?_
      refine zz_sld (j := i + 1) X hX hbl hbA rfl (by omega) (by omega) dL_law_153 ?_
      refine zz_top hxx.symm ?_
      refine ll_ring (rest := []) X (c_fork hN u hB.I x) (cwV 1 X.1.2.2.2.2 (gwL lkL_31 imX0_fork seX0_fork itX0 cdX0_fork) rfl rfl rfl hdX0_fork ⟨Nat.le_of_ble_eq_true rfl, Nat.le_of_ble_eq_true rfl⟩) rfl rfl (Nat.le_of_ble_eq_true rfl) dL_law_154 ?_
      refine zz_aload_n X dL_law_157 rfl rfl ?_
      refine zz_aload_n X dL_law_158 rfl rfl ?_
      refine zz_iload_n X dL_law_159 rfl rfl ?_
      refine zz_iconst (v := 1) X dL_law_160 (by decide) ?_
      refine zz_iadd X dL_law_161 ?_
      refine zz_top e1 ?_
      refine zz_sld (j := i + 1) X hX hbl hbA rfl (by omega) (by omega) dL_law_162 ?_
      refine zz_top hxx.symm ?_
      refine ll_mod (rest := [.int ((rFrk N u x).1)]) X (m_fork v m hB.m hB.m15 hB.th x) (cwV 1 X.1.2.2.2.2 (gwL lkL_34 imX1_fork seX1_fork itX1 cdX1_fork) rfl rfl rfl hdX1_fork ⟨Nat.le_of_ble_eq_true rfl, Nat.le_of_ble_eq_true rfl⟩) rfl rfl (Nat.le_of_ble_eq_true rfl) dL_law_163 ?_
      obtain ⟨es, hs⟩ := sim_fork hB hn6 x
      refine zz_icmp_eq (tgt := 444) X dL_law_166 (by decide) (fun _ => next _ _ hs) (fun hq => absurd es hq)
    · refine zz_tabIn (tgt := 171) X dL_law_42 (by decide) (by decide) rfl (by decide) ?_
      refine zz_aload_n X dL_law_171 rfl rfl ?_
      refine zz_aload_n X dL_law_172 rfl rfl ?_
      refine zz_iload_n X dL_law_173 rfl rfl ?_
      refine zz_iconst (v := 1) X dL_law_174 (by decide) ?_
      refine zz_iadd X dL_law_175 ?_
      refine zz_top e1 ?_
      refine zz_sld (j := i + 1) X hX hbl hbA rfl (by omega) (by omega) dL_law_176 ?_
      refine zz_top hxx.symm ?_
      refine zz_aload_n X dL_law_177 rfl rfl ?_
      refine zz_iload_n X dL_law_178 rfl rfl ?_
      refine zz_iconst (v := 2) X dL_law_179 (by decide) ?_
      refine zz_iadd X dL_law_180 ?_
      refine zz_top e2 ?_
      refine zz_sld (j := i + 2) X hX hbl hbA rfl (by omega) (by omega) dL_law_181 ?_
      refine zz_top hyy.symm ?_
      refine ll_ring (rest := []) X (c_exit hN u hB.I x y) (cwV 2 X.1.2.2.2.2 (gwL lkL_35 imX0_exit seX0_exit itX0 cdX0_exit) rfl rfl rfl hdX0_exit ⟨Nat.le_of_ble_eq_true rfl, Nat.le_of_ble_eq_true rfl⟩) rfl rfl (Nat.le_of_ble_eq_true rfl) dL_law_182 ?_
      refine zz_aload_n X dL_law_185 rfl rfl ?_
      refine zz_aload_n X dL_law_186 rfl rfl ?_
      refine zz_iload_n X dL_law_187 rfl rfl ?_
      refine zz_iconst (v := 1) X dL_law_188 (by decide) ?_
      refine zz_iadd X dL_law_189 ?_
      refine zz_top e1 ?_
      refine zz_sld (j := i + 1) X hX hbl hbA rfl (by omega) (by omega) dL_law_190 ?_
      refine zz_top hxx.symm ?_
      refine zz_aload_n X dL_law_191 rfl rfl ?_
      refine zz_iload_n X dL_law_192 rfl rfl ?_
      refine zz_iconst (v := 2) X dL_law_193 (by decide) ?_
      refine zz_iadd X dL_law_194 ?_
      refine zz_top e2 ?_
      refine zz_sld (j := i + 2) X hX hbl hbA rfl (by omega) (by omega) dL_law_195 ?_
      refine zz_top hyy.symm ?_
      refine ll_mod (rest := [.int ((rExt N u x y).1)]) X (m_exit v m hB.m hB.m15 hB.th x y) (cwV 2 X.1.2.2.2.2 (gwL lkL_39 imX1_exit seX1_exit itX1 cdX1_exit) rfl rfl rfl hdX1_exit ⟨Nat.le_of_ble_eq_true rfl, Nat.le_of_ble_eq_true rfl⟩) rfl rfl (Nat.le_of_ble_eq_true rfl) dL_law_196 ?_
      obtain ⟨es, hs⟩ := sim_exit hB hn6 x y
      refine zz_icmp_eq (tgt := 444) X dL_law_199 (by decide) (fun _ => next _ _ hs) (fun hq => absurd es hq)
    · refine zz_tabIn (tgt := 204) X dL_law_42 (by decide) (by decide) rfl (by decide) ?_
      refine zz_aload_n X dL_law_204 rfl rfl ?_
      refine zz_aload_n X dL_law_205 rfl rfl ?_
      refine zz_iload_n X dL_law_206 rfl rfl ?_
      refine zz_iconst (v := 1) X dL_law_207 (by decide) ?_
      refine zz_iadd X dL_law_208 ?_
      refine zz_top e1 ?_
      refine zz_sld (j := i + 1) X hX hbl hbA rfl (by omega) (by omega) dL_law_209 ?_
      refine zz_top hxx.symm ?_
      refine ll_ring (rest := []) X (c_await hN u hB.I x) (cwV 1 X.1.2.2.2.2 (gwL lkL_40 imX0_await seX0_await itX0 cdX0_await) rfl rfl rfl hdX0_await ⟨Nat.le_of_ble_eq_true rfl, Nat.le_of_ble_eq_true rfl⟩) rfl rfl (Nat.le_of_ble_eq_true rfl) dL_law_210 ?_
      refine zz_aload_n X dL_law_213 rfl rfl ?_
      refine zz_aload_n X dL_law_214 rfl rfl ?_
      refine zz_iload_n X dL_law_215 rfl rfl ?_
      refine zz_iconst (v := 1) X dL_law_216 (by decide) ?_
      refine zz_iadd X dL_law_217 ?_
      refine zz_top e1 ?_
      refine zz_sld (j := i + 1) X hX hbl hbA rfl (by omega) (by omega) dL_law_218 ?_
      refine zz_top hxx.symm ?_
      refine ll_mod (rest := [.int ((rAwt N u x).1)]) X (m_await v m hB.m hB.m15 hB.th hB.b x) (cwV 1 X.1.2.2.2.2 (gwL lkL_43 imX1_await seX1_await itX1 cdX1_await) rfl rfl rfl hdX1_await ⟨Nat.le_of_ble_eq_true rfl, Nat.le_of_ble_eq_true rfl⟩) rfl rfl (Nat.le_of_ble_eq_true rfl) dL_law_219 ?_
      obtain ⟨es, hs⟩ := sim_await hB hn6 x
      refine zz_icmp_eq (tgt := 444) X dL_law_222 (by decide) (fun _ => next _ _ hs) (fun hq => absurd es hq)
    · refine zz_tabIn (tgt := 227) X dL_law_42 (by decide) (by decide) rfl (by decide) ?_
      refine zz_aload_n X dL_law_227 rfl rfl ?_
      refine ll_ring (rest := []) X (c_status hN u) (cwV 0 X.1.2.2.2.2 (gwL lkL_44 imX0_status seX0_status itX0 cdX0_status) rfl rfl rfl hdX0_status ⟨Nat.le_of_ble_eq_true rfl, Nat.le_of_ble_eq_true rfl⟩) rfl rfl (Nat.le_of_ble_eq_true rfl) dL_law_228 ?_
      refine zz_aload_n X dL_law_231 rfl rfl ?_
      refine ll_mod (rest := [.int (u 9 3)]) X (m_status v m hB.m hB.m15 hB.th) (cwV 0 X.1.2.2.2.2 (gwL lkL_48 imX1_status seX1_status itX1 cdX1_status) rfl rfl rfl hdX1_status ⟨Nat.le_of_ble_eq_true rfl, Nat.le_of_ble_eq_true rfl⟩) rfl rfl (Nat.le_of_ble_eq_true rfl) dL_law_232 ?_
      obtain ⟨es, hs⟩ := sim_status hB hn6
      refine zz_icmp_eq (tgt := 444) X dL_law_235 (by decide) (fun _ => next _ _ hs) (fun hq => absurd es hq)
    · refine zz_tabIn (tgt := 240) X dL_law_42 (by decide) (by decide) rfl (by decide) ?_
      refine zz_aload_n X dL_law_240 rfl rfl ?_
      refine zz_aload_n X dL_law_241 rfl rfl ?_
      refine zz_iload_n X dL_law_242 rfl rfl ?_
      refine zz_iconst (v := 1) X dL_law_243 (by decide) ?_
      refine zz_iadd X dL_law_244 ?_
      refine zz_top e1 ?_
      refine zz_sld (j := i + 1) X hX hbl hbA rfl (by omega) (by omega) dL_law_245 ?_
      refine zz_top hxx.symm ?_
      refine zz_aload_n X dL_law_246 rfl rfl ?_
      refine zz_iload_n X dL_law_247 rfl rfl ?_
      refine zz_iconst (v := 2) X dL_law_248 (by decide) ?_
      refine zz_iadd X dL_law_249 ?_
      refine zz_top e2 ?_
      refine zz_sld (j := i + 2) X hX hbl hbA rfl (by omega) (by omega) dL_law_250 ?_
      refine zz_top hyy.symm ?_
      refine ll_ring (rest := []) X (c_block hN u hB.I x y) (cwV 2 X.1.2.2.2.2 (gwL lkL_49 imX0_block seX0_block itX0 cdX0_block) rfl rfl rfl hdX0_block ⟨Nat.le_of_ble_eq_true rfl, Nat.le_of_ble_eq_true rfl⟩) rfl rfl (Nat.le_of_ble_eq_true rfl) dL_law_251 ?_
      refine zz_aload_n X dL_law_254 rfl rfl ?_
      refine zz_aload_n X dL_law_255 rfl rfl ?_
      refine zz_iload_n X dL_law_256 rfl rfl ?_
      refine zz_iconst (v := 1) X dL_law_257 (by decide) ?_
      refine zz_iadd X dL_law_258 ?_
      refine zz_top e1 ?_
      refine zz_sld (j := i + 1) X hX hbl hbA rfl (by omega) (by omega) dL_law_259 ?_
      refine zz_top hxx.symm ?_
      refine zz_aload_n X dL_law_260 rfl rfl ?_
      refine zz_iload_n X dL_law_261 rfl rfl ?_
      refine zz_iconst (v := 2) X dL_law_262 (by decide) ?_
      refine zz_iadd X dL_law_263 ?_
      refine zz_top e2 ?_
      refine zz_sld (j := i + 2) X hX hbl hbA rfl (by omega) (by omega) dL_law_264 ?_
      refine zz_top hyy.symm ?_
      refine ll_mod (rest := [.int ((rBlo N u x y).1)]) X (m_block v m hB.m hB.m15 hB.th x y) (cwV 2 X.1.2.2.2.2 (gwL lkL_52 imX1_block seX1_block itX1 cdX1_block) rfl rfl rfl hdX1_block ⟨Nat.le_of_ble_eq_true rfl, Nat.le_of_ble_eq_true rfl⟩) rfl rfl (Nat.le_of_ble_eq_true rfl) dL_law_265 ?_
      obtain ⟨es, hs⟩ := sim_block hB hn6 x y
      refine zz_icmp_eq (tgt := 444) X dL_law_268 (by decide) (fun _ => next _ _ hs) (fun hq => absurd es hq)
    · refine zz_tabIn (tgt := 273) X dL_law_42 (by decide) (by decide) rfl (by decide) ?_
      refine zz_aload_n X dL_law_273 rfl rfl ?_
      refine zz_aload_n X dL_law_274 rfl rfl ?_
      refine zz_iload_n X dL_law_275 rfl rfl ?_
      refine zz_iconst (v := 1) X dL_law_276 (by decide) ?_
      refine zz_iadd X dL_law_277 ?_
      refine zz_top e1 ?_
      refine zz_sld (j := i + 1) X hX hbl hbA rfl (by omega) (by omega) dL_law_278 ?_
      refine zz_top hxx.symm ?_
      refine zz_aload_n X dL_law_279 rfl rfl ?_
      refine zz_iload_n X dL_law_280 rfl rfl ?_
      refine zz_iconst (v := 2) X dL_law_281 (by decide) ?_
      refine zz_iadd X dL_law_282 ?_
      refine zz_top e2 ?_
      refine zz_sld (j := i + 2) X hX hbl hbA rfl (by omega) (by omega) dL_law_283 ?_
      refine zz_top hyy.symm ?_
      refine ll_ring (rest := []) X (c_sleep hN u hB.I x y) (cwV 2 X.1.2.2.2.2 (gwL lkL_53 imX0_sleep seX0_sleep itX0 cdX0_sleep) rfl rfl rfl hdX0_sleep ⟨Nat.le_of_ble_eq_true rfl, Nat.le_of_ble_eq_true rfl⟩) rfl rfl (Nat.le_of_ble_eq_true rfl) dL_law_284 ?_
      refine zz_aload_n X dL_law_287 rfl rfl ?_
      refine zz_aload_n X dL_law_288 rfl rfl ?_
      refine zz_iload_n X dL_law_289 rfl rfl ?_
      refine zz_iconst (v := 1) X dL_law_290 (by decide) ?_
      refine zz_iadd X dL_law_291 ?_
      refine zz_top e1 ?_
      refine zz_sld (j := i + 1) X hX hbl hbA rfl (by omega) (by omega) dL_law_292 ?_
      refine zz_top hxx.symm ?_
      refine zz_aload_n X dL_law_293 rfl rfl ?_
      refine zz_iload_n X dL_law_294 rfl rfl ?_
      refine zz_iconst (v := 2) X dL_law_295 (by decide) ?_
      refine zz_iadd X dL_law_296 ?_
      refine zz_top e2 ?_
      refine zz_sld (j := i + 2) X hX hbl hbA rfl (by omega) (by omega) dL_law_297 ?_
      refine zz_top hyy.symm ?_
      refine ll_mod (rest := [.int ((rSlp N u x y).1)]) X (m_sleep v m hB.m hB.m15 hB.th x y) (cwV 2 X.1.2.2.2.2 (gwL lkL_56 imX1_sleep seX1_sleep itX1 cdX1_sleep) rfl rfl rfl hdX1_sleep ⟨Nat.le_of_ble_eq_true rfl, Nat.le_of_ble_eq_true rfl⟩) rfl rfl (Nat.le_of_ble_eq_true rfl) dL_law_298 ?_
      obtain ⟨es, hs⟩ := sim_sleep hB hn6 x y
      refine zz_icmp_eq (tgt := 444) X dL_law_301 (by decide) (fun _ => next _ _ hs) (fun hq => absurd es hq)
    · refine zz_tabIn (tgt := 306) X dL_law_42 (by decide) (by decide) rfl (by decide) ?_
      refine zz_aload_n X dL_law_306 rfl rfl ?_
      refine zz_aload_n X dL_law_307 rfl rfl ?_
      refine zz_iload_n X dL_law_308 rfl rfl ?_
      refine zz_iconst (v := 1) X dL_law_309 (by decide) ?_
      refine zz_iadd X dL_law_310 ?_
      refine zz_top e1 ?_
      refine zz_sld (j := i + 1) X hX hbl hbA rfl (by omega) (by omega) dL_law_311 ?_
      refine zz_top hxx.symm ?_
      refine ll_ring (rest := []) X (c_wake hN u x) (cwV 1 X.1.2.2.2.2 (gwL lkL_57 imX0_wake seX0_wake itX0 cdX0_wake) rfl rfl rfl hdX0_wake ⟨Nat.le_of_ble_eq_true rfl, Nat.le_of_ble_eq_true rfl⟩) rfl rfl (Nat.le_of_ble_eq_true rfl) dL_law_312 ?_
      refine zz_aload_n X dL_law_315 rfl rfl ?_
      refine zz_aload_n X dL_law_316 rfl rfl ?_
      refine zz_iload_n X dL_law_317 rfl rfl ?_
      refine zz_iconst (v := 1) X dL_law_318 (by decide) ?_
      refine zz_iadd X dL_law_319 ?_
      refine zz_top e1 ?_
      refine zz_sld (j := i + 1) X hX hbl hbA rfl (by omega) (by omega) dL_law_320 ?_
      refine zz_top hxx.symm ?_
      refine ll_mod (rest := [.int (nI (rWak u x).1)]) X (m_wake v m hB.m hB.m15 hB.th x) (cwV 1 X.1.2.2.2.2 (gwL lkL_60 imX1_wake seX1_wake itX1 cdX1_wake) rfl rfl rfl hdX1_wake ⟨Nat.le_of_ble_eq_true rfl, Nat.le_of_ble_eq_true rfl⟩) rfl rfl (Nat.le_of_ble_eq_true rfl) dL_law_321 ?_
      obtain ⟨es, hs⟩ := sim_wake hB hn6 x
      refine zz_icmp_eq (tgt := 444) X dL_law_324 (by decide) (fun _ => next _ _ hs) (fun hq => absurd es hq)
    · refine zz_tabIn (tgt := 329) X dL_law_42 (by decide) (by decide) rfl (by decide) ?_
      refine zz_aload_n X dL_law_329 rfl rfl ?_
      refine zz_aload_n X dL_law_330 rfl rfl ?_
      refine zz_iload_n X dL_law_331 rfl rfl ?_
      refine zz_iconst (v := 1) X dL_law_332 (by decide) ?_
      refine zz_iadd X dL_law_333 ?_
      refine zz_top e1 ?_
      refine zz_sld (j := i + 1) X hX hbl hbA rfl (by omega) (by omega) dL_law_334 ?_
      refine zz_top hxx.symm ?_
      refine ll_ring (rest := []) X (c_rest hN u hB.I x) (cwV 1 X.1.2.2.2.2 (gwL lkL_61 imX0_rest seX0_rest itX0 cdX0_rest) rfl rfl rfl hdX0_rest ⟨Nat.le_of_ble_eq_true rfl, Nat.le_of_ble_eq_true rfl⟩) rfl rfl (Nat.le_of_ble_eq_true rfl) dL_law_335 ?_
      refine zz_aload_n X dL_law_338 rfl rfl ?_
      refine zz_aload_n X dL_law_339 rfl rfl ?_
      refine zz_iload_n X dL_law_340 rfl rfl ?_
      refine zz_iconst (v := 1) X dL_law_341 (by decide) ?_
      refine zz_iadd X dL_law_342 ?_
      refine zz_top e1 ?_
      refine zz_sld (j := i + 1) X hX hbl hbA rfl (by omega) (by omega) dL_law_343 ?_
      refine zz_top hxx.symm ?_
      refine ll_mod (rest := [.int ((rRst N u x).1)]) X (m_rest v m hB.m hB.m15 hB.th x) (cwV 1 X.1.2.2.2.2 (gwL lkL_64 imX1_rest seX1_rest itX1 cdX1_rest) rfl rfl rfl hdX1_rest ⟨Nat.le_of_ble_eq_true rfl, Nat.le_of_ble_eq_true rfl⟩) rfl rfl (Nat.le_of_ble_eq_true rfl) dL_law_344 ?_
      obtain ⟨es, hs⟩ := sim_rest hB hn6 x
      refine zz_icmp_eq (tgt := 444) X dL_law_347 (by decide) (fun _ => next _ _ hs) (fun hq => absurd es hq)
    · refine zz_tabIn (tgt := 352) X dL_law_42 (by decide) (by decide) rfl (by decide) ?_
      refine zz_aload_n X dL_law_352 rfl rfl ?_
      refine ll_ring (rest := []) X (c_tick hN u hB.I) (cwV 0 X.1.2.2.2.2 (gwL lkL_65 imX0_tick seX0_tick itX0 cdX0_tick) rfl rfl rfl hdX0_tick ⟨Nat.le_of_ble_eq_true rfl, Nat.le_of_ble_eq_true rfl⟩) rfl rfl (Nat.le_of_ble_eq_true rfl) dL_law_353 ?_
      refine zz_aload_n X dL_law_356 rfl rfl ?_
      refine ll_mod (rest := [.int ((rTck N u).1)]) X (m_tick v m hB.m hB.m15 hB.th) (cwV 0 X.1.2.2.2.2 (gwL lkL_68 imX1_tick seX1_tick itX1 cdX1_tick) rfl rfl rfl hdX1_tick ⟨Nat.le_of_ble_eq_true rfl, Nat.le_of_ble_eq_true rfl⟩) rfl rfl (Nat.le_of_ble_eq_true rfl) dL_law_357 ?_
      obtain ⟨es, hs⟩ := sim_tick hB hn6
      refine zz_icmp_eq (tgt := 444) X dL_law_360 (by decide) (fun _ => next _ _ hs) (fun hq => absurd es hq)
    · refine zz_tabIn (tgt := 365) X dL_law_42 (by decide) (by decide) rfl (by decide) ?_
      refine zz_aload_n X dL_law_365 rfl rfl ?_
      refine zz_aload_n X dL_law_366 rfl rfl ?_
      refine zz_iload_n X dL_law_367 rfl rfl ?_
      refine zz_iconst (v := 1) X dL_law_368 (by decide) ?_
      refine zz_iadd X dL_law_369 ?_
      refine zz_top e1 ?_
      refine zz_sld (j := i + 1) X hX hbl hbA rfl (by omega) (by omega) dL_law_370 ?_
      refine zz_top hxx.symm ?_
      refine ll_ring (rest := []) X (c_kill hN u x) (cwV 1 X.1.2.2.2.2 (gwL lkL_69 imX0_kill seX0_kill itX0 cdX0_kill) rfl rfl rfl hdX0_kill ⟨Nat.le_of_ble_eq_true rfl, Nat.le_of_ble_eq_true rfl⟩) rfl rfl (Nat.le_of_ble_eq_true rfl) dL_law_371 ?_
      refine zz_aload_n X dL_law_374 rfl rfl ?_
      refine zz_aload_n X dL_law_375 rfl rfl ?_
      refine zz_iload_n X dL_law_376 rfl rfl ?_
      refine zz_iconst (v := 1) X dL_law_377 (by decide) ?_
      refine zz_iadd X dL_law_378 ?_
      refine zz_top e1 ?_
      refine zz_sld (j := i + 1) X hX hbl hbA rfl (by omega) (by omega) dL_law_379 ?_
      refine zz_top hxx.symm ?_
      refine ll_mod (rest := [.int ((rKil u x).1)]) X (m_kill v m hB.m hB.m15 hB.th x) (cwV 1 X.1.2.2.2.2 (gwL lkL_73 imX1_kill seX1_kill itX1 cdX1_kill) rfl rfl rfl hdX1_kill ⟨Nat.le_of_ble_eq_true rfl, Nat.le_of_ble_eq_true rfl⟩) rfl rfl (Nat.le_of_ble_eq_true rfl) dL_law_380 ?_
      obtain ⟨es, hs⟩ := sim_kill hB hn6 x
      refine zz_icmp_eq (tgt := 444) X dL_law_383 (by decide) (fun _ => next _ _ hs) (fun hq => absurd es hq)
    · refine zz_tabIn (tgt := 388) X dL_law_42 (by decide) (by decide) rfl (by decide) ?_
      refine zz_aload_n X dL_law_388 rfl rfl ?_
      refine zz_aload_n X dL_law_389 rfl rfl ?_
      refine zz_iload_n X dL_law_390 rfl rfl ?_
      refine zz_iconst (v := 1) X dL_law_391 (by decide) ?_
      refine zz_iadd X dL_law_392 ?_
      refine zz_top e1 ?_
      refine zz_sld (j := i + 1) X hX hbl hbA rfl (by omega) (by omega) dL_law_393 ?_
      refine zz_top hxx.symm ?_
      refine zz_aload_n X dL_law_394 rfl rfl ?_
      refine zz_iload_n X dL_law_395 rfl rfl ?_
      refine zz_iconst (v := 2) X dL_law_396 (by decide) ?_
      refine zz_iadd X dL_law_397 ?_
      refine zz_top e2 ?_
      refine zz_sld (j := i + 2) X hX hbl hbA rfl (by omega) (by omega) dL_law_398 ?_
      refine zz_top hyy.symm ?_
      refine ll_ring (rest := []) X (c_about hN u x y) (cwV 2 X.1.2.2.2.2 (gwL lkL_74 imX0_about seX0_about itX0 cdX0_about) rfl rfl rfl hdX0_about ⟨Nat.le_of_ble_eq_true rfl, Nat.le_of_ble_eq_true rfl⟩) rfl rfl (Nat.le_of_ble_eq_true rfl) dL_law_399 ?_
      refine zz_aload_n X dL_law_402 rfl rfl ?_
      refine zz_aload_n X dL_law_403 rfl rfl ?_
      refine zz_iload_n X dL_law_404 rfl rfl ?_
      refine zz_iconst (v := 1) X dL_law_405 (by decide) ?_
      refine zz_iadd X dL_law_406 ?_
      refine zz_top e1 ?_
      refine zz_sld (j := i + 1) X hX hbl hbA rfl (by omega) (by omega) dL_law_407 ?_
      refine zz_top hxx.symm ?_
      refine zz_aload_n X dL_law_408 rfl rfl ?_
      refine zz_iload_n X dL_law_409 rfl rfl ?_
      refine zz_iconst (v := 2) X dL_law_410 (by decide) ?_
      refine zz_iadd X dL_law_411 ?_
      refine zz_top e2 ?_
      refine zz_sld (j := i + 2) X hX hbl hbA rfl (by omega) (by omega) dL_law_412 ?_
      refine zz_top hyy.symm ?_
      refine ll_mod (rest := [.int (rAbt N u x y)]) X (m_about v m hB.m hB.m15 hB.th x y) (cwV 2 X.1.2.2.2.2 (gwL lkL_77 imX1_about seX1_about itX1 cdX1_about) rfl rfl rfl hdX1_about ⟨Nat.le_of_ble_eq_true rfl, Nat.le_of_ble_eq_true rfl⟩) rfl rfl (Nat.le_of_ble_eq_true rfl) dL_law_413 ?_
      obtain ⟨es, hs⟩ := sim_about hB hn6 x y
      refine zz_icmp_eq (tgt := 444) X dL_law_416 (by decide) (fun _ => next _ _ hs) (fun hq => absurd es hq)
    · refine zz_tabIn (tgt := 421) X dL_law_42 (by decide) (by decide) rfl (by decide) ?_
      refine zz_aload_n X dL_law_421 rfl rfl ?_
      refine zz_aload_n X dL_law_422 rfl rfl ?_
      refine zz_iload_n X dL_law_423 rfl rfl ?_
      refine zz_iconst (v := 1) X dL_law_424 (by decide) ?_
      refine zz_iadd X dL_law_425 ?_
      refine zz_top e1 ?_
      refine zz_sld (j := i + 1) X hX hbl hbA rfl (by omega) (by omega) dL_law_426 ?_
      refine zz_top hxx.symm ?_
      refine ll_ring (rest := []) X (c_count hN u x) (cwV 1 X.1.2.2.2.2 (gwL lkL_78 imX0_count seX0_count itX0 cdX0_count) rfl rfl rfl hdX0_count ⟨Nat.le_of_ble_eq_true rfl, Nat.le_of_ble_eq_true rfl⟩) rfl rfl (Nat.le_of_ble_eq_true rfl) dL_law_427 ?_
      refine zz_aload_n X dL_law_430 rfl rfl ?_
      refine zz_aload_n X dL_law_431 rfl rfl ?_
      refine zz_iload_n X dL_law_432 rfl rfl ?_
      refine zz_iconst (v := 1) X dL_law_433 (by decide) ?_
      refine zz_iadd X dL_law_434 ?_
      refine zz_top e1 ?_
      refine zz_sld (j := i + 1) X hX hbl hbA rfl (by omega) (by omega) dL_law_435 ?_
      refine zz_top hxx.symm ?_
      refine ll_mod (rest := [.int (rCnt u x)]) X (m_count v m hB.m hB.m15 hB.th x) (cwV 1 X.1.2.2.2.2 (gwL lkL_81 imX1_count seX1_count itX1 cdX1_count) rfl rfl rfl hdX1_count ⟨Nat.le_of_ble_eq_true rfl, Nat.le_of_ble_eq_true rfl⟩) rfl rfl (Nat.le_of_ble_eq_true rfl) dL_law_436 ?_
      obtain ⟨es, hs⟩ := sim_count hB hn6 x
      refine zz_icmp_eq (tgt := 444) X dL_law_439 (by decide) (fun _ => next _ _ hs) (fun hq => absurd es hq)
    · refine zz_tabOut (tgt := 444) X dL_law_42 (by decide) (by decide) ?_
      exact next _ _ (sim_status hB hn6).2
    · refine zz_tabOut (tgt := 444) X dL_law_42 (by decide) (by decide) ?_
      exact next _ _ (sim_status hB hn6).2
set_option maxHeartbeats 4000000 in
set_option maxRecDepth 100000 in
/-- THE LAW, from its entry -/
theorem whole_start {p : Program} {e : Env} {s : State} {m : MethodId} {below : List Frame} {meth : Method} {c : Code} (l : Launch) {b L : Nat} {xs : Nat → Int32} (hL : L ≤ 1537) (C0 : lw_At p s m meth c b L xs) : W p l e room_1 s m #[Value.ref b] below meth c s.heap [] 0 0 (lw_Z below #[Value.ref b] s) (entryFrame m ([Value.ref b] : List Value).toArray 4) := by
  obtain ⟨hx, hb, hr, hml, hown, hts, hX, hbl, hlocks, hgv⟩ := id C0
  have hbA : ¬ (fun q : Nat => s.heap.size ≤ q) b := Nat.not_le.mpr hbl
  obtain ⟨c0, iS0, hKn0⟩ := u_known (C := RX0) (T := TX0) (N := 13) (n := 13) hts (fun w h => gdt (inX0 w h)) (hts _ (gdt isX0))
  obtain ⟨c1, iS1, hKn1⟩ := u_known (C := RX1) (T := TX1) (N := 16) (n := 16) hts (fun w h => gdt (inX1 w h)) (hts _ (gdt isX1))
  obtain ⟨D, hKc⟩ : ∃ D : va_G, ∀ (k : Nat) (q : vw_C), vwCl[k]? = some q → u_Kn s q.1 q.2.1 q.2.2 (D.1 k) (D.2 k) := by
    refine ⟨(fun k => if k = 0 then c0 else c1, fun k => if k = 0 then iS0 else iS1), ?_⟩
    intro k q hq
    match k, hq with
    | 0, hq => cases hq; exact hKn0
    | 1, hq => cases hq; exact hKn1
    | k + 2, hq => simp [vwCl] at hq
  have hK : va_K D vwCl [] s := ⟨hKc, fun k q h => by simp at h⟩
  have X : zz_X p s m #[Value.ref b] c code 4 lw_gd RL D vwCl [] (fun q : Nat => s.heap.size ≤ q) := ⟨⟨hx, hb, hml, hown, fun w h => hts w (gdt h)⟩, hK, fun q h => h⟩
  have hl := lv_entry ([.ref b]) (n := 4) (Nat.le_of_ble_eq_true rfl)
  rw [lg_entry_eq]
  have go : zz_V p l e room_1 s m #[Value.ref b] below meth c 0 0 (lw_Z below #[Value.ref b] s) 4 D vwCl (fun q : Nat => s.heap.size ≤ q) [] [some (.ref b), none, none, none] 0 [] := by
    refine zz_new (ci := 0) (fs := [.null, .null, .null, .null, .null, .null, .null, .null, .null, .int 0, .int 0, .int 0, .int 0]) X inX0 tyX0 tyX0_ok clL_7 isX0 itX0 rfl (fun j hj => by rcases (show j = 0 ∨ j = 1 ∨ j = 2 ∨ j = 3 ∨ j = 4 ∨ j = 5 ∨ j = 6 ∨ j = 7 ∨ j = 8 ∨ j = 9 ∨ j = 10 ∨ j = 11 ∨ j = 12 by omega) with rfl | rfl | rfl | rfl | rfl | rfl | rfl | rfl | rfl | rfl | rfl | rfl | rfl <;> rfl) (by decide) (by decide) dL_law_0 (fun h => ?_)
    refine zz_dup X dL_law_3 rfl ?_
    refine zz_aload_n X dL_law_4 rfl rfl ?_
    refine zz_iconst (v := 0) X dL_law_5 (by decide) ?_
    refine ll_cell X (by omega) hX hbl hbA dL_law_6 (Nat.le_of_ble_eq_true rfl) ⟨by decide, by decide⟩ ?_
    refine zz_callI (As := [.int (xs0 L xs)]) (rest := [.ref h]) (wr := []) X (c_init (xs0 L xs)) (cwI 1 X.1.2.2.2.2 (gwI cdX0_init) rfl rfl rfl (X.1.2.2.2.2 _ itX0) (X.1.2.2.2.2 _ lkL_15) (X.1.2.2.2.2 _ imX0_init) rfl hdX0_init ⟨Nat.le_of_ble_eq_true rfl, Nat.le_of_ble_eq_true rfl⟩) rfl rfl (Nat.le_of_ble_eq_true rfl) dL_law_9 ⟨by decide, by decide⟩ [0] [] rfl rfl rfl (by decide) (by decide) (fun i hi => absurd hi (by simp)) (fun z _ X => ?_)
    obtain ⟨a, ca⟩ := z
    refine zz_ws (ws' := wP h a ca (rN (xs0 L xs)) (rU0 (rN (xs0 L xs)))) rfl ?_
    refine zz_astore_n (lv' := [some (.ref b), some (.ref h), none, none]) X dL_law_12 rfl (by decide) rfl ?_
    refine zz_new (ci := 1) (fs := [.int 0, .int 0, .int 0, .int 0, .int 0, .int 0, .int 0, .null, .null, .null, .null, .null, .null, .null, .null, .null]) X inX1 tyX1 tyX1_ok clL_18 isX1 itX1 rfl (fun j hj => by rcases (show j = 0 ∨ j = 1 ∨ j = 2 ∨ j = 3 ∨ j = 4 ∨ j = 5 ∨ j = 6 ∨ j = 7 ∨ j = 8 ∨ j = 9 ∨ j = 10 ∨ j = 11 ∨ j = 12 ∨ j = 13 ∨ j = 14 ∨ j = 15 by omega) with rfl | rfl | rfl | rfl | rfl | rfl | rfl | rfl | rfl | rfl | rfl | rfl | rfl | rfl | rfl | rfl <;> rfl) (by decide) (by decide) dL_law_13 (fun h2 => ?_)
    refine zz_dup X dL_law_16 rfl ?_
    refine zz_aload_n X dL_law_17 rfl rfl ?_
    refine zz_iconst (v := 0) X dL_law_18 (by decide) ?_
    refine ll_cell X (by omega) hX hbl hbA dL_law_19 (Nat.le_of_ble_eq_true rfl) ⟨by decide, by decide⟩ ?_
    refine zz_callI (As := [.int (xs0 L xs)]) (rest := [.ref h2]) (wr := wP h a ca (rN (xs0 L xs)) (rU0 (rN (xs0 L xs)))) X (m_init (xs0 L xs)) (cwI 1 X.1.2.2.2.2 (gwI cdX1_init) rfl rfl rfl (X.1.2.2.2.2 _ itX1) (X.1.2.2.2.2 _ lkL_20) (X.1.2.2.2.2 _ imX1_init) rfl hdX1_init ⟨Nat.le_of_ble_eq_true rfl, Nat.le_of_ble_eq_true rfl⟩) rfl rfl (Nat.le_of_ble_eq_true rfl) dL_law_22 ⟨by decide, by decide⟩ [10] [0, 1, 2, 3, 4, 5, 6, 7, 8, 9] rfl rfl rfl (by decide) (by decide) (by decide) (fun z _ X => ?_)
    obtain ⟨a2, ca2⟩ := z
    refine zz_ws (ws' := wP h a ca (rN (xs0 L xs)) (rU0 (rN (xs0 L xs))) ++ wM h2 a2 ca2 (mU0 (rN (xs0 L xs)))) rfl ?_
    refine zz_astore_n (lv' := [some (.ref b), some (.ref h), some (.ref h2), none]) X dL_law_25 rfl (by decide) rfl ?_
    refine zz_iconst (v := 1) X dL_law_26 (by decide) ?_
    refine zz_istore_n (lv' := [some (.ref b), some (.ref h), some (.ref h2), some (.int (nI 1))]) X dL_law_27 rfl (by decide) rfl ?_
    refine zz_widen (k2 := 20) (n2 := 400) (by decide) (by decide) ?_
    exact law_loop hL C0 X (rN_eq (xs0 L xs)).2.2 L 0 1 _ _ (by omega) rfl (by omega) (sim_new (rN_eq (xs0 L xs)).2.1 (rN_eq (xs0 L xs)).2.2)
  exact go s.heap [] _ (fun k q h => by simp at h) ⟨fun i j p q h => by simp at h, fun k q h => by simp at h⟩ va_S.rf (zz_L.entry (vs := [Value.ref b]) (fun v hv => by simp only [List.mem_cons, List.not_mem_nil, or_false] at hv; rcases hv with rfl; rfl) rfl hl)
