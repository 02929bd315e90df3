section
-- ===== PART A: goes FIRST, ahead of the names: the tables' words, and 'selects' of the private methods out of them =====
/-- a private method of a class that the tables say can be made, by its rows of tables_1 -/
def lw_okq (q : MethodName × Nat) : Prop := (q.1.cls ≠ "java/lang/invoke/MethodHandle" ∧ q.1.cls ≠ "java/lang/invoke/VarHandle") ∧ Cond.instantiable q.1.cls q.2 ∈ tables_1 ∧ Cond.privateMethod q.1 ∈ tables_1 ∧ Cond.instanceMethod q.1 ∈ tables_1
theorem lw_p0 : lw_okq (⟨"ProcRing", "isEmptyRing", "()Z"⟩, 13) := ⟨⟨by decide +kernel, by decide +kernel⟩, List.mem_of_getElem? (i := 5) (by decide +kernel), List.mem_of_getElem? (i := 65) (by decide +kernel), List.mem_of_getElem? (i := 66) (by decide +kernel)⟩
theorem lw_p1 : lw_okq (⟨"ProcRing", "settle", "(III)V"⟩, 13) := ⟨⟨by decide +kernel, by decide +kernel⟩, List.mem_of_getElem? (i := 5) (by decide +kernel), List.mem_of_getElem? (i := 69) (by decide +kernel), List.mem_of_getElem? (i := 70) (by decide +kernel)⟩
theorem lw_p2 : lw_okq (⟨"ProcRing", "isProcessor", "(I)Z"⟩, 13) := ⟨⟨by decide +kernel, by decide +kernel⟩, List.mem_of_getElem? (i := 5) (by decide +kernel), List.mem_of_getElem? (i := 77) (by decide +kernel), List.mem_of_getElem? (i := 78) (by decide +kernel)⟩
theorem lw_p3 : lw_okq (⟨"ProcRing", "nextReady", "()I"⟩, 13) := ⟨⟨by decide +kernel, by decide +kernel⟩, List.mem_of_getElem? (i := 5) (by decide +kernel), List.mem_of_getElem? (i := 81) (by decide +kernel), List.mem_of_getElem? (i := 82) (by decide +kernel)⟩
theorem lw_p4 : lw_okq (⟨"ProcRing", "placeOn", "(I)I"⟩, 13) := ⟨⟨by decide +kernel, by decide +kernel⟩, List.mem_of_getElem? (i := 5) (by decide +kernel), List.mem_of_getElem? (i := 89) (by decide +kernel), List.mem_of_getElem? (i := 90) (by decide +kernel)⟩
theorem lw_p5 : lw_okq (⟨"ProcRing", "firstFree", "()I"⟩, 13) := ⟨⟨by decide +kernel, by decide +kernel⟩, List.mem_of_getElem? (i := 5) (by decide +kernel), List.mem_of_getElem? (i := 93) (by decide +kernel), List.mem_of_getElem? (i := 94) (by decide +kernel)⟩
theorem lw_p6 : lw_okq (⟨"ProcRing", "emptyRing", "()V"⟩, 13) := ⟨⟨by decide +kernel, by decide +kernel⟩, List.mem_of_getElem? (i := 5) (by decide +kernel), List.mem_of_getElem? (i := 101) (by decide +kernel), List.mem_of_getElem? (i := 102) (by decide +kernel)⟩
theorem lw_p7 : lw_okq (⟨"ProcRing", "clearPlace", "(I)V"⟩, 13) := ⟨⟨by decide +kernel, by decide +kernel⟩, List.mem_of_getElem? (i := 5) (by decide +kernel), List.mem_of_getElem? (i := 105) (by decide +kernel), List.mem_of_getElem? (i := 106) (by decide +kernel)⟩
theorem lw_p8 : lw_okq (⟨"ProcRing", "takeOff", "(III)V"⟩, 13) := ⟨⟨by decide +kernel, by decide +kernel⟩, List.mem_of_getElem? (i := 5) (by decide +kernel), List.mem_of_getElem? (i := 109) (by decide +kernel), List.mem_of_getElem? (i := 110) (by decide +kernel)⟩
theorem lw_p9 : lw_okq (⟨"ProcRing", "handOnChildren", "(I)V"⟩, 13) := ⟨⟨by decide +kernel, by decide +kernel⟩, List.mem_of_getElem? (i := 5) (by decide +kernel), List.mem_of_getElem? (i := 113) (by decide +kernel), List.mem_of_getElem? (i := 114) (by decide +kernel)⟩
theorem lw_p10 : lw_okq (⟨"ProcRing", "isChild", "(II)Z"⟩, 13) := ⟨⟨by decide +kernel, by decide +kernel⟩, List.mem_of_getElem? (i := 5) (by decide +kernel), List.mem_of_getElem? (i := 117) (by decide +kernel), List.mem_of_getElem? (i := 118) (by decide +kernel)⟩
theorem lw_p11 : lw_okq (⟨"ProcRing", "tellOfZombie", "(I)V"⟩, 13) := ⟨⟨by decide +kernel, by decide +kernel⟩, List.mem_of_getElem? (i := 5) (by decide +kernel), List.mem_of_getElem? (i := 121) (by decide +kernel), List.mem_of_getElem? (i := 122) (by decide +kernel)⟩
theorem lw_p12 : lw_okq (⟨"ProcRing", "placeOf", "(I)I"⟩, 13) := ⟨⟨by decide +kernel, by decide +kernel⟩, List.mem_of_getElem? (i := 5) (by decide +kernel), List.mem_of_getElem? (i := 125) (by decide +kernel), List.mem_of_getElem? (i := 126) (by decide +kernel)⟩
theorem lw_p13 : lw_okq (⟨"ProcRing", "isBlockedFor", "(II)Z"⟩, 13) := ⟨⟨by decide +kernel, by decide +kernel⟩, List.mem_of_getElem? (i := 5) (by decide +kernel), List.mem_of_getElem? (i := 129) (by decide +kernel), List.mem_of_getElem? (i := 130) (by decide +kernel)⟩
theorem lw_p14 : lw_okq (⟨"ProcRing", "makeReady", "(I)V"⟩, 13) := ⟨⟨by decide +kernel, by decide +kernel⟩, List.mem_of_getElem? (i := 5) (by decide +kernel), List.mem_of_getElem? (i := 133) (by decide +kernel), List.mem_of_getElem? (i := 134) (by decide +kernel)⟩
theorem lw_p15 : lw_okq (⟨"ProcRing", "hasChild", "(I)Z"⟩, 13) := ⟨⟨by decide +kernel, by decide +kernel⟩, List.mem_of_getElem? (i := 5) (by decide +kernel), List.mem_of_getElem? (i := 141) (by decide +kernel), List.mem_of_getElem? (i := 142) (by decide +kernel)⟩
def lw_privs_1 : List (MethodName × Nat) := [(⟨"ProcRing", "isEmptyRing", "()Z"⟩, 13), (⟨"ProcRing", "settle", "(III)V"⟩, 13), (⟨"ProcRing", "isProcessor", "(I)Z"⟩, 13), (⟨"ProcRing", "nextReady", "()I"⟩, 13), (⟨"ProcRing", "placeOn", "(I)I"⟩, 13), (⟨"ProcRing", "firstFree", "()I"⟩, 13), (⟨"ProcRing", "emptyRing", "()V"⟩, 13), (⟨"ProcRing", "clearPlace", "(I)V"⟩, 13), (⟨"ProcRing", "takeOff", "(III)V"⟩, 13), (⟨"ProcRing", "handOnChildren", "(I)V"⟩, 13), (⟨"ProcRing", "isChild", "(II)Z"⟩, 13), (⟨"ProcRing", "tellOfZombie", "(I)V"⟩, 13), (⟨"ProcRing", "placeOf", "(I)I"⟩, 13), (⟨"ProcRing", "isBlockedFor", "(II)Z"⟩, 13), (⟨"ProcRing", "makeReady", "(I)V"⟩, 13), (⟨"ProcRing", "hasChild", "(I)Z"⟩, 13)]
theorem lw_r1 : ∀ q ∈ lw_privs_1, lw_okq q := List.forall_mem_cons.mpr ⟨lw_p0, List.forall_mem_cons.mpr ⟨lw_p1, List.forall_mem_cons.mpr ⟨lw_p2, List.forall_mem_cons.mpr ⟨lw_p3, List.forall_mem_cons.mpr ⟨lw_p4, List.forall_mem_cons.mpr ⟨lw_p5, List.forall_mem_cons.mpr ⟨lw_p6, List.forall_mem_cons.mpr ⟨lw_p7, List.forall_mem_cons.mpr ⟨lw_p8, List.forall_mem_cons.mpr ⟨lw_p9, List.forall_mem_cons.mpr ⟨lw_p10, List.forall_mem_cons.mpr ⟨lw_p11, List.forall_mem_cons.mpr ⟨lw_p12, List.forall_mem_cons.mpr ⟨lw_p13, List.forall_mem_cons.mpr ⟨lw_p14, List.forall_mem_cons.mpr ⟨lw_p15, fun _ h => absurd h List.not_mem_nil⟩⟩⟩⟩⟩⟩⟩⟩⟩⟩⟩⟩⟩⟩⟩⟩
theorem lw_p16 : lw_okq (⟨"ProcRing", "firstZombieChild", "(I)I"⟩, 13) := ⟨⟨by decide +kernel, by decide +kernel⟩, List.mem_of_getElem? (i := 5) (by decide +kernel), List.mem_of_getElem? (i := 145) (by decide +kernel), List.mem_of_getElem? (i := 146) (by decide +kernel)⟩
theorem lw_p17 : lw_okq (⟨"ProcRing", "countDown", "(I)V"⟩, 13) := ⟨⟨by decide +kernel, by decide +kernel⟩, List.mem_of_getElem? (i := 5) (by decide +kernel), List.mem_of_getElem? (i := 174) (by decide +kernel), List.mem_of_getElem? (i := 175) (by decide +kernel)⟩
theorem lw_p18 : lw_okq (⟨"ProcRing", "processorOf", "(I)I"⟩, 13) := ⟨⟨by decide +kernel, by decide +kernel⟩, List.mem_of_getElem? (i := 5) (by decide +kernel), List.mem_of_getElem? (i := 186) (by decide +kernel), List.mem_of_getElem? (i := 187) (by decide +kernel)⟩
theorem lw_p19 : lw_okq (⟨"ProcRingModel", "add", "(II)I"⟩, 16) := ⟨⟨by decide +kernel, by decide +kernel⟩, List.mem_of_getElem? (i := 197) (by decide +kernel), List.mem_of_getElem? (i := 256) (by decide +kernel), List.mem_of_getElem? (i := 257) (by decide +kernel)⟩
theorem lw_p20 : lw_okq (⟨"ProcRingModel", "running", "(I)I"⟩, 16) := ⟨⟨by decide +kernel, by decide +kernel⟩, List.mem_of_getElem? (i := 197) (by decide +kernel), List.mem_of_getElem? (i := 264) (by decide +kernel), List.mem_of_getElem? (i := 265) (by decide +kernel)⟩
theorem lw_p21 : lw_okq (⟨"ProcRingModel", "ofPlace", "(I)I"⟩, 16) := ⟨⟨by decide +kernel, by decide +kernel⟩, List.mem_of_getElem? (i := 197) (by decide +kernel), List.mem_of_getElem? (i := 268) (by decide +kernel), List.mem_of_getElem? (i := 269) (by decide +kernel)⟩
theorem lw_p22 : lw_okq (⟨"ProcRingModel", "state", "(I)I"⟩, 16) := ⟨⟨by decide +kernel, by decide +kernel⟩, List.mem_of_getElem? (i := 197) (by decide +kernel), List.mem_of_getElem? (i := 272) (by decide +kernel), List.mem_of_getElem? (i := 273) (by decide +kernel)⟩
theorem lw_p23 : lw_okq (⟨"ProcRingModel", "endedChild", "(I)I"⟩, 16) := ⟨⟨by decide +kernel, by decide +kernel⟩, List.mem_of_getElem? (i := 197) (by decide +kernel), List.mem_of_getElem? (i := 276) (by decide +kernel), List.mem_of_getElem? (i := 277) (by decide +kernel)⟩
theorem lw_p24 : lw_okq (⟨"ProcRingModel", "vacant", "()I"⟩, 16) := ⟨⟨by decide +kernel, by decide +kernel⟩, List.mem_of_getElem? (i := 197) (by decide +kernel), List.mem_of_getElem? (i := 284) (by decide +kernel), List.mem_of_getElem? (i := 285) (by decide +kernel)⟩
theorem lw_p25 : lw_okq (⟨"ProcRingModel", "waitsFor", "(III)I"⟩, 16) := ⟨⟨by decide +kernel, by decide +kernel⟩, List.mem_of_getElem? (i := 197) (by decide +kernel), List.mem_of_getElem? (i := 296) (by decide +kernel), List.mem_of_getElem? (i := 297) (by decide +kernel)⟩
theorem lw_p26 : lw_okq (⟨"ProcRingModel", "remove", "(I)V"⟩, 16) := ⟨⟨by decide +kernel, by decide +kernel⟩, List.mem_of_getElem? (i := 197) (by decide +kernel), List.mem_of_getElem? (i := 300) (by decide +kernel), List.mem_of_getElem? (i := 301) (by decide +kernel)⟩
theorem lw_p27 : lw_okq (⟨"ProcRingModel", "ofNumber", "(I)I"⟩, 16) := ⟨⟨by decide +kernel, by decide +kernel⟩, List.mem_of_getElem? (i := 197) (by decide +kernel), List.mem_of_getElem? (i := 333) (by decide +kernel), List.mem_of_getElem? (i := 334) (by decide +kernel)⟩
def lw_privs_2 : List (MethodName × Nat) := [(⟨"ProcRing", "firstZombieChild", "(I)I"⟩, 13), (⟨"ProcRing", "countDown", "(I)V"⟩, 13), (⟨"ProcRing", "processorOf", "(I)I"⟩, 13), (⟨"ProcRingModel", "add", "(II)I"⟩, 16), (⟨"ProcRingModel", "running", "(I)I"⟩, 16), (⟨"ProcRingModel", "ofPlace", "(I)I"⟩, 16), (⟨"ProcRingModel", "state", "(I)I"⟩, 16), (⟨"ProcRingModel", "endedChild", "(I)I"⟩, 16), (⟨"ProcRingModel", "vacant", "()I"⟩, 16), (⟨"ProcRingModel", "waitsFor", "(III)I"⟩, 16), (⟨"ProcRingModel", "remove", "(I)V"⟩, 16), (⟨"ProcRingModel", "ofNumber", "(I)I"⟩, 16)]
theorem lw_r2 : ∀ q ∈ lw_privs_2, lw_okq q := List.forall_mem_cons.mpr ⟨lw_p16, List.forall_mem_cons.mpr ⟨lw_p17, List.forall_mem_cons.mpr ⟨lw_p18, List.forall_mem_cons.mpr ⟨lw_p19, List.forall_mem_cons.mpr ⟨lw_p20, List.forall_mem_cons.mpr ⟨lw_p21, List.forall_mem_cons.mpr ⟨lw_p22, List.forall_mem_cons.mpr ⟨lw_p23, List.forall_mem_cons.mpr ⟨lw_p24, List.forall_mem_cons.mpr ⟨lw_p25, List.forall_mem_cons.mpr ⟨lw_p26, List.forall_mem_cons.mpr ⟨lw_p27, fun _ h => absurd h List.not_mem_nil⟩⟩⟩⟩⟩⟩⟩⟩⟩⟩⟩⟩
def lw_privs : List (MethodName × Nat) := lw_privs_1 ++ (lw_privs_2)
def lw_tbl : List Cond := k2_sels lw_privs ++ tables_1
theorem lw_privs_ok : ∀ q ∈ lw_privs, lw_okq q := by
  show ∀ q ∈ lw_privs_1 ++ (lw_privs_2), lw_okq q
  exact List.forall_mem_append.mpr ⟨lw_r1, lw_r2⟩
def lw_gd : List Cond := lw_tbl.filter goodWord
theorem lw_good : lw_gd.all goodWord = true := List.all_eq_true.mpr (fun w h => (List.mem_filter.mp h).2)
theorem gdm {w : Cond} {i : Nat} (h : lw_tbl[i]? = some w) (g : goodWord w = true) : w ∈ lw_gd := List.mem_filter.mpr ⟨List.mem_of_getElem? h, g⟩
theorem gdt {w : Cond} (h : w ∈ lw_gd) : w ∈ lw_tbl := (List.mem_filter.mp h).1
theorem mc {a b : Cond} {l : List Cond} (h : a ∈ l) : a ∈ b :: l := List.mem_cons_of_mem _ h
/-- a callee's words, by memberships -/
theorem gw {x w : Cond} {own C : String} {idx : Nat} {y : MethodName} (h1 : Cond.methodLink own idx y ∈ lw_gd) (h2 : Cond.instanceMethod y ∈ lw_gd) (h3 : Cond.selects C y y ∈ lw_gd) (h4 : Cond.initialized C ∈ lw_gd) (h5 : w ∈ lw_gd) : GoodIn (x :: lw_gd) (wsV own idx C y (w :: lw_gd)) := by
  have g : ∀ a ∈ lw_gd, a ∈ x :: lw_gd ∧ ((a.onTables && a.keeps) = true ∨ ∃ ty, a = .arrayClass ty) := fun a h => ⟨List.mem_cons_of_mem _ h, good_of_word (List.all_eq_true.mp lw_good a h)⟩
  intro a ha
  refine g a ?_
  unfold wsV at ha
  rcases List.mem_append.mp ha with q | q
  · simp only [List.mem_cons, List.not_mem_nil, or_false] at q
    rcases q with rfl | rfl | rfl | rfl
    · exact h1
    · exact h2
    · exact h3
    · exact h4
  · rcases List.mem_cons.mp q with rfl | q
    · exact h5
    · exact q
theorem gwL {w : Cond} {own C : String} {idx : Nat} {y : MethodName} (h1 : Cond.methodLink own idx y ∈ lw_gd) (h2 : Cond.instanceMethod y ∈ lw_gd) (h3 : Cond.selects C y y ∈ lw_gd) (h4 : Cond.initialized C ∈ lw_gd) (h5 : w ∈ lw_gd) : GoodIn lw_gd (wsV own idx C y (w :: lw_gd)) := by
  have g : ∀ a ∈ lw_gd, a ∈ lw_gd ∧ ((a.onTables && a.keeps) = true ∨ ∃ ty, a = .arrayClass ty) := fun a h => ⟨h, good_of_word (List.all_eq_true.mp lw_good a h)⟩
  intro a ha
  refine g a ?_
  unfold wsV at ha
  rcases List.mem_append.mp ha with q | q
  · simp only [List.mem_cons, List.not_mem_nil, or_false] at q
    rcases q with rfl | rfl | rfl | rfl
    · exact h1
    · exact h2
    · exact h3
    · exact h4
  · rcases List.mem_cons.mp q with rfl | q
    · exact h5
    · exact q
theorem gwI {w : Cond} (h5 : w ∈ lw_gd) : GoodIn lw_gd (w :: lw_gd) := by
  intro a ha
  have h : a ∈ lw_gd := by
    rcases List.mem_cons.mp ha with rfl | q
    · exact h5
    · exact q
  exact ⟨h, good_of_word (List.all_eq_true.mp lw_good a h)⟩
end
section
/-- the locals by place; every one that is known is of one slot -/
def zz_L (ls : Array Slot) (nL : Nat) (lv : List (Option Value)) : Prop := ls.size = nL ∧ lv_wf ls ∧ ∀ (i : Nat) (v : Value), lv[i]? = some (some v) → ls[i]? = some (.val v) ∧ v.category = 1
def zz_at (lv : List (Option Value)) (i : Nat) : Option (Nat × Value) := match lv[i]? with
  | some (some v) => some (i, v)
  | _ => none
def zz_pairs (lv : List (Option Value)) : List (Nat × Value) := (List.range lv.length).filterMap (zz_at lv)
theorem zz_at_some {lv : List (Option Value)} {i : Nat} {q : Nat × Value} (h : zz_at lv i = some q) : q.1 = i ∧ lv[i]? = some (some q.2) := by
  unfold zz_at at h
  split at h
  · rename_i v hv
    cases h
    exact ⟨rfl, hv⟩
  · cases h
theorem zz_at_of {lv : List (Option Value)} {i : Nat} {v : Value} (h : lv[i]? = some (some v)) : zz_at lv i = some (i, v) := by
  unfold zz_at
  rw [h]
theorem zz_L.has {ls : Array Slot} {nL : Nat} {lv : List (Option Value)} (h : zz_L ls nL lv) : lv_has ls nL (zz_pairs lv) := by
  refine ⟨h.1, h.2.1, fun q hq => ?_⟩
  obtain ⟨i, -, hi⟩ := List.mem_filterMap.mp hq
  obtain ⟨e1, e2⟩ := zz_at_some hi
  rw [e1]
  exact (h.2.2 i q.2 e2).1
theorem zz_pairs_of {lv : List (Option Value)} {i : Nat} {v : Value} (h : lv[i]? = some (some v)) : (i, v) ∈ zz_pairs lv :=
  List.mem_filterMap.mpr ⟨i, List.mem_range.mpr (List.getElem?_eq_some_iff.mp h).1, zz_at_of h⟩
theorem zz_L.put {ls ls' : Array Slot} {nL i : Nat} {v : Value} {lv : List (Option Value)} (h : zz_L ls nL lv) (hv : v.category = 1) (h' : lv_has ls' nL ((i, v) :: (zz_pairs lv).filter (fun q => !(q.1 == i) && !(q.1 + 1 == i && q.2.category == 2)))) : zz_L ls' nL (lv.set i (some v)) := by
  refine ⟨h'.1, h'.2.1, fun j w hj => ?_⟩
  rw [List.getElem?_set] at hj
  by_cases e : i = j
  · subst e
    rw [if_pos rfl] at hj
    by_cases hlt : i < lv.length
    · rw [if_pos hlt] at hj
      cases hj
      exact ⟨h'.2.2 (i, v) List.mem_cons_self, hv⟩
    · rw [if_neg hlt] at hj
      cases hj
  · rw [if_neg e] at hj
    have hw := h.2.2 j w hj
    refine ⟨h'.2.2 (j, w) (List.mem_cons_of_mem _ (List.mem_filter.mpr ⟨zz_pairs_of hj, ?_⟩)), hw.2⟩
    have e2 : ¬ j = i := fun q => e q.symm
    simp [e2, hw.2]
theorem zz_L.iff {ls : Array Slot} {nL i : Nat} {v : Value} {lv : List (Option Value)} (h : zz_L ls nL lv) (hv : lv[i]? = some (some v)) : ls[i]? = some (.val v) := (h.2.2 i v hv).1
theorem zz_args_mem : ∀ (vs : List Value) (n : Nat), (∀ v ∈ vs, v.category = 1) → ∀ (i : Nat) (v : Value), vs[i]? = some v → (n + i, v) ∈ lv_args n vs
  | [], n, _, i, v, h => by simp at h
  | a :: t, n, hc, 0, v, h => by
    have h : some a = some v := h
    cases h
    simp [lv_args]
  | a :: t, n, hc, i + 1, v, h => by
    have h : t[i]? = some v := h
    have ha : a.category = 1 := hc a List.mem_cons_self
    have := zz_args_mem t (n + 1) (fun w hw => hc w (List.mem_cons_of_mem _ hw)) i v h
    rw [show n + (i + 1) = n + 1 + i by omega]
    simp only [lv_args, ha]
    exact List.mem_cons_of_mem _ this
theorem zz_L.entry {vs : List Value} {n : Nat} (hc : ∀ v ∈ vs, v.category = 1) {lv : List (Option Value)} (hlv : lv = vs.map some ++ List.replicate (n - vs.length) none) {ls : Array Slot} (h : lv_has ls n (lv_args 0 vs)) : zz_L ls n lv := by
  refine ⟨h.1, h.2.1, fun i v hi => ?_⟩
  have hi2 : vs[i]? = some v := by
    subst hlv
    rw [List.getElem?_append] at hi
    split at hi
    · simpa using hi
    · rw [List.getElem?_replicate] at hi
      split at hi <;> cases hi
  have := zz_args_mem vs 0 hc i v hi2
  rw [Nat.zero_add] at this
  exact ⟨h.2.2 (i, v) this, hc v (List.mem_of_getElem? hi2)⟩
/-- what stays during a method: the machine, the code, its words, the tables -/
def zz_X (p : Program) (s : State) (m : MethodId) (args : Array Value) (c : Code) (cc : ByteArray) (nL : Nat) (Ts : List Cond) (own : String) (D : va_G) (cl : List vw_C) (tys : List (ClassId × FieldType)) (A : Nat → Prop) : Prop := CallFix p m c cc nL s args Ts own ∧ va_K D cl tys s ∧ ∀ q, s.heap.size ≤ q → A q
/-- at pc, with these locals, this stack, this world: it comes to Q -/
def zz_V (p : Program) (l : Launch) (e : Env) (R : Room) (s : State) (m : MethodId) (args : Array Value) (below : List Frame) (meth : Method) (c : Code) (cells slots : Nat) (Q : State → Prop) (nL : Nat) (D : va_G) (cl : List vw_C) (A : Nat → Prop) (ws : va_W) (lv : List (Option Value)) (pc : Nat) (st : List Value) : Prop :=
  ∀ (H : Heap) (locs : List Loc) (ls : Array Slot), va_P D cl ws H → va_D A ws → va_S A s.heap H locs → zz_L ls nL lv → W p l e R s m args below meth c H locs cells slots Q (F0 m pc ls st)
section ZV
variable {p : Program} {l : Launch} {e : Env} {R : Room} {s : State} {m : MethodId} {args : Array Value} {below : List Frame} {meth : Method} {c : Code} {cells slots : Nat} {Q : State → Prop} {cc : ByteArray} {nL : Nat} {Ts : List Cond} {own : String} {D : va_G} {cl : List vw_C} {tys : List (ClassId × FieldType)} {A : Nat → Prop} {ws ws' : va_W} {lv lv' : List (Option Value)} {pc : Nat} {st : List Value}
theorem zz_iconst (X : zz_X p s m args c cc nL Ts own D cl tys A) {n : Int} {v : Int32} (hdg : decode cc pc = .ok (.iconst n, 1)) (hv : Int32.ofInt n = v) (k : zz_V p l e R s m args below meth c cells slots Q nL D cl A ws lv (pc + 1) (.int v :: st)) : zz_V p l e R s m args below meth c cells slots Q nL D cl A ws lv pc st := fun H locs ls hP hD hS hl => lv_iconst X.1.1 X.1.2.1 hdg hv (k H locs ls hP hD hS hl)
theorem zz_bipush (X : zz_X p s m args c cc nL Ts own D cl tys A) {n : Int} {v : Int32} (hdg : decode cc pc = .ok (.bipush n, 2)) (hv : (Int8.ofInt n).toInt32 = v) (k : zz_V p l e R s m args below meth c cells slots Q nL D cl A ws lv (pc + 2) (.int v :: st)) : zz_V p l e R s m args below meth c cells slots Q nL D cl A ws lv pc st := fun H locs ls hP hD hS hl => lv_bipush X.1.1 X.1.2.1 hdg hv (k H locs ls hP hD hS hl)
theorem zz_sipush (X : zz_X p s m args c cc nL Ts own D cl tys A) {n : Int} {v : Int32} (hdg : decode cc pc = .ok (.sipush n, 3)) (hv : (Int16.ofInt n).toInt32 = v) (k : zz_V p l e R s m args below meth c cells slots Q nL D cl A ws lv (pc + 3) (.int v :: st)) : zz_V p l e R s m args below meth c cells slots Q nL D cl A ws lv pc st := fun H locs ls hP hD hS hl => lv_sipush X.1.1 X.1.2.1 hdg hv (k H locs ls hP hD hS hl)
theorem zz_ldc (X : zz_X p s m args c cc nL Ts own D cl tys A) {n : Nat} {v : Int32} (hdg : decode cc pc = .ok (.ldc n, 2)) (hv : Jvm.Cond.constant own n v ∈ Ts) (k : zz_V p l e R s m args below meth c cells slots Q nL D cl A ws lv (pc + 2) (.int v :: st)) : zz_V p l e R s m args below meth c cells slots Q nL D cl A ws lv pc st := fun H locs ls hP hD hS hl => lv_ldc X.1.1 X.1.2.1 X.1.2.2.2.1 (X.1.2.2.2.2 _ hv) hdg (k H locs ls hP hD hS hl)
theorem zz_iload_n (X : zz_X p s m args c cc nL Ts own D cl tys A) {n : Fin 4} {i : Nat} {x : Int32} (hdg : decode cc pc = .ok (.iload_n n, 1)) (hi : (n : Nat) = i) (hv : lv[i]? = some (some (.int x))) (k : zz_V p l e R s m args below meth c cells slots Q nL D cl A ws lv (pc + 1) (.int x :: st)) : zz_V p l e R s m args below meth c cells slots Q nL D cl A ws lv pc st := fun H locs ls hP hD hS hl => lv_iload_n X.1.1 X.1.2.1 hdg hi (hl.iff hv) (k H locs ls hP hD hS hl)
theorem zz_iload (X : zz_X p s m args c cc nL Ts own D cl tys A) {i : Nat} {x : Int32} (hdg : decode cc pc = .ok (.iload i, 2)) (hv : lv[i]? = some (some (.int x))) (k : zz_V p l e R s m args below meth c cells slots Q nL D cl A ws lv (pc + 2) (.int x :: st)) : zz_V p l e R s m args below meth c cells slots Q nL D cl A ws lv pc st := fun H locs ls hP hD hS hl => lv_iload X.1.1 X.1.2.1 hdg (hl.iff hv) (k H locs ls hP hD hS hl)
theorem zz_aload_n (X : zz_X p s m args c cc nL Ts own D cl tys A) {n : Fin 4} {i : Nat} {x : Nat} (hdg : decode cc pc = .ok (.aload_n n, 1)) (hi : (n : Nat) = i) (hv : lv[i]? = some (some (.ref x))) (k : zz_V p l e R s m args below meth c cells slots Q nL D cl A ws lv (pc + 1) (.ref x :: st)) : zz_V p l e R s m args below meth c cells slots Q nL D cl A ws lv pc st := fun H locs ls hP hD hS hl => lv_aload_n X.1.1 X.1.2.1 hdg hi (hl.iff hv) (k H locs ls hP hD hS hl)
theorem zz_aload (X : zz_X p s m args c cc nL Ts own D cl tys A) {i : Nat} {x : Nat} (hdg : decode cc pc = .ok (.aload i, 2)) (hv : lv[i]? = some (some (.ref x))) (k : zz_V p l e R s m args below meth c cells slots Q nL D cl A ws lv (pc + 2) (.ref x :: st)) : zz_V p l e R s m args below meth c cells slots Q nL D cl A ws lv pc st := fun H locs ls hP hD hS hl => lv_aload X.1.1 X.1.2.1 hdg (hl.iff hv) (k H locs ls hP hD hS hl)
theorem zz_istore_n (X : zz_X p s m args c cc nL Ts own D cl tys A) {n : Fin 4} {i : Nat} {x : Int32} (hdg : decode cc pc = .ok (.istore_n n, 1)) (hi : (n : Nat) = i) (hn : i < nL) (hv : lv.set i (some (.int x)) = lv') (k : zz_V p l e R s m args below meth c cells slots Q nL D cl A ws lv' (pc + 1) st) : zz_V p l e R s m args below meth c cells slots Q nL D cl A ws lv pc (.int x :: st) := fun H locs ls hP hD hS hl => lv_istore_n X.1.1 X.1.2.1 hdg hi hl.has hn rfl (fun ls1 hl1 => k H locs ls1 hP hD hS (hv ▸ hl.put rfl hl1))
theorem zz_istore (X : zz_X p s m args c cc nL Ts own D cl tys A) {i : Nat} {x : Int32} (hdg : decode cc pc = .ok (.istore i, 2)) (hn : i < nL) (hv : lv.set i (some (.int x)) = lv') (k : zz_V p l e R s m args below meth c cells slots Q nL D cl A ws lv' (pc + 2) st) : zz_V p l e R s m args below meth c cells slots Q nL D cl A ws lv pc (.int x :: st) := fun H locs ls hP hD hS hl => lv_istore X.1.1 X.1.2.1 hdg hl.has hn rfl (fun ls1 hl1 => k H locs ls1 hP hD hS (hv ▸ hl.put rfl hl1))
theorem zz_astore_n (X : zz_X p s m args c cc nL Ts own D cl tys A) {n : Fin 4} {i : Nat} {x : Nat} (hdg : decode cc pc = .ok (.astore_n n, 1)) (hi : (n : Nat) = i) (hn : i < nL) (hv : lv.set i (some (.ref x)) = lv') (k : zz_V p l e R s m args below meth c cells slots Q nL D cl A ws lv' (pc + 1) st) : zz_V p l e R s m args below meth c cells slots Q nL D cl A ws lv pc (.ref x :: st) := fun H locs ls hP hD hS hl => lv_astore_n X.1.1 X.1.2.1 hdg hi hl.has hn rfl (fun ls1 hl1 => k H locs ls1 hP hD hS (hv ▸ hl.put rfl hl1))
theorem zz_astore (X : zz_X p s m args c cc nL Ts own D cl tys A) {i : Nat} {x : Nat} (hdg : decode cc pc = .ok (.astore i, 2)) (hn : i < nL) (hv : lv.set i (some (.ref x)) = lv') (k : zz_V p l e R s m args below meth c cells slots Q nL D cl A ws lv' (pc + 2) st) : zz_V p l e R s m args below meth c cells slots Q nL D cl A ws lv pc (.ref x :: st) := fun H locs ls hP hD hS hl => lv_astore X.1.1 X.1.2.1 hdg hl.has hn rfl (fun ls1 hl1 => k H locs ls1 hP hD hS (hv ▸ hl.put rfl hl1))
theorem zz_iinc (X : zz_X p s m args c cc nL Ts own D cl tys A) {i : Nat} {n : Int} {x v : Int32} (hdg : decode cc pc = .ok (.iinc i n, 3)) (hx : lv[i]? = some (some (.int x))) (he : x + Int32.ofInt n = v) (hn : i < nL) (hv : lv.set i (some (.int v)) = lv') (k : zz_V p l e R s m args below meth c cells slots Q nL D cl A ws lv' (pc + 3) st) : zz_V p l e R s m args below meth c cells slots Q nL D cl A ws lv pc st := by
  intro H locs ls hP hD hS hl
  obtain ⟨j, hj⟩ := List.getElem?_of_mem (zz_pairs_of hx)
  exact lv_iinc X.1.1 X.1.2.1 hdg hl.has hj he hn rfl (fun ls1 hl1 => k H locs ls1 hP hD hS (hv ▸ hl.put rfl hl1))
theorem zz_iadd (X : zz_X p s m args c cc nL Ts own D cl tys A) {x y : Int32} (hdg : decode cc pc = .ok (.iadd, 1)) (k : zz_V p l e R s m args below meth c cells slots Q nL D cl A ws lv (pc + 1) (.int (x + y) :: st)) : zz_V p l e R s m args below meth c cells slots Q nL D cl A ws lv pc (.int y :: .int x :: st) := fun H locs ls hP hD hS hl => lv_iadd X.1.1 X.1.2.1 hdg (k H locs ls hP hD hS hl)
theorem zz_isub (X : zz_X p s m args c cc nL Ts own D cl tys A) {x y : Int32} (hdg : decode cc pc = .ok (.isub, 1)) (k : zz_V p l e R s m args below meth c cells slots Q nL D cl A ws lv (pc + 1) (.int (x - y) :: st)) : zz_V p l e R s m args below meth c cells slots Q nL D cl A ws lv pc (.int y :: .int x :: st) := fun H locs ls hP hD hS hl => lv_isub X.1.1 X.1.2.1 hdg (k H locs ls hP hD hS hl)
theorem zz_imul (X : zz_X p s m args c cc nL Ts own D cl tys A) {x y : Int32} (hdg : decode cc pc = .ok (.imul, 1)) (k : zz_V p l e R s m args below meth c cells slots Q nL D cl A ws lv (pc + 1) (.int (x * y) :: st)) : zz_V p l e R s m args below meth c cells slots Q nL D cl A ws lv pc (.int y :: .int x :: st) := fun H locs ls hP hD hS hl => lv_imul X.1.1 X.1.2.1 hdg (k H locs ls hP hD hS hl)
theorem zz_iand (X : zz_X p s m args c cc nL Ts own D cl tys A) {x y : Int32} (hdg : decode cc pc = .ok (.iand, 1)) (k : zz_V p l e R s m args below meth c cells slots Q nL D cl A ws lv (pc + 1) (.int (x &&& y) :: st)) : zz_V p l e R s m args below meth c cells slots Q nL D cl A ws lv pc (.int y :: .int x :: st) := fun H locs ls hP hD hS hl => lv_iand X.1.1 X.1.2.1 hdg (k H locs ls hP hD hS hl)
theorem zz_ior (X : zz_X p s m args c cc nL Ts own D cl tys A) {x y : Int32} (hdg : decode cc pc = .ok (.ior, 1)) (k : zz_V p l e R s m args below meth c cells slots Q nL D cl A ws lv (pc + 1) (.int (x ||| y) :: st)) : zz_V p l e R s m args below meth c cells slots Q nL D cl A ws lv pc (.int y :: .int x :: st) := fun H locs ls hP hD hS hl => lv_ior X.1.1 X.1.2.1 hdg (k H locs ls hP hD hS hl)
theorem zz_ixor (X : zz_X p s m args c cc nL Ts own D cl tys A) {x y : Int32} (hdg : decode cc pc = .ok (.ixor, 1)) (k : zz_V p l e R s m args below meth c cells slots Q nL D cl A ws lv (pc + 1) (.int (x ^^^ y) :: st)) : zz_V p l e R s m args below meth c cells slots Q nL D cl A ws lv pc (.int y :: .int x :: st) := fun H locs ls hP hD hS hl => lv_ixor X.1.1 X.1.2.1 hdg (k H locs ls hP hD hS hl)
theorem zz_irem (X : zz_X p s m args c cc nL Ts own D cl tys A) {x y : Int32} (hdg : decode cc pc = .ok (.irem, 1)) (hne : ¬ y = 0) (k : zz_V p l e R s m args below meth c cells slots Q nL D cl A ws lv (pc + 1) (.int (x - x / y * y) :: st)) : zz_V p l e R s m args below meth c cells slots Q nL D cl A ws lv pc (.int y :: .int x :: st) := fun H locs ls hP hD hS hl => lv_irem X.1.1 X.1.2.1 hdg hne (k H locs ls hP hD hS hl)
theorem zz_idiv (X : zz_X p s m args c cc nL Ts own D cl tys A) {x y : Int32} (hdg : decode cc pc = .ok (.idiv, 1)) (hne : ¬ y = 0) (k : zz_V p l e R s m args below meth c cells slots Q nL D cl A ws lv (pc + 1) (.int (x / y) :: st)) : zz_V p l e R s m args below meth c cells slots Q nL D cl A ws lv pc (.int y :: .int x :: st) := fun H locs ls hP hD hS hl => lv_idiv X.1.1 X.1.2.1 hdg hne (k H locs ls hP hD hS hl)
theorem zz_ineg (X : zz_X p s m args c cc nL Ts own D cl tys A) {x : Int32} (hdg : decode cc pc = .ok (.ineg, 1)) (k : zz_V p l e R s m args below meth c cells slots Q nL D cl A ws lv (pc + 1) (.int (-x) :: st)) : zz_V p l e R s m args below meth c cells slots Q nL D cl A ws lv pc (.int x :: st) := fun H locs ls hP hD hS hl => lv_ineg X.1.1 X.1.2.1 hdg (k H locs ls hP hD hS hl)
theorem zz_dup (X : zz_X p s m args c cc nL Ts own D cl tys A) {v : Value} (hdg : decode cc pc = .ok (.dup, 1)) (hv : v.category = 1) (k : zz_V p l e R s m args below meth c cells slots Q nL D cl A ws lv (pc + 1) (v :: v :: st)) : zz_V p l e R s m args below meth c cells slots Q nL D cl A ws lv pc (v :: st) := fun H locs ls hP hD hS hl => lv_dup X.1.1 X.1.2.1 hdg hv (k H locs ls hP hD hS hl)
theorem zz_pop (X : zz_X p s m args c cc nL Ts own D cl tys A) {v : Value} (hdg : decode cc pc = .ok (.pop, 1)) (hv : v.category = 1) (k : zz_V p l e R s m args below meth c cells slots Q nL D cl A ws lv (pc + 1) st) : zz_V p l e R s m args below meth c cells slots Q nL D cl A ws lv pc (v :: st) := fun H locs ls hP hD hS hl => lv_pop X.1.1 X.1.2.1 hdg hv (k H locs ls hP hD hS hl)
theorem zz_dup2 (X : zz_X p s m args c cc nL Ts own D cl tys A) {v v2 : Value} (hdg : decode cc pc = .ok (.dup2, 1)) (hv : v.category = 1) (hv2 : v2.category = 1) (k : zz_V p l e R s m args below meth c cells slots Q nL D cl A ws lv (pc + 1) (v :: v2 :: v :: v2 :: st)) : zz_V p l e R s m args below meth c cells slots Q nL D cl A ws lv pc (v :: v2 :: st) := fun H locs ls hP hD hS hl => lv_dup2_11 X.1.1 X.1.2.1 hdg hv hv2 (k H locs ls hP hD hS hl)
theorem zz_dup_x1 (X : zz_X p s m args c cc nL Ts own D cl tys A) {v v2 : Value} (hdg : decode cc pc = .ok (.dup_x1, 1)) (hv : v.category = 1) (hv2 : v2.category = 1) (k : zz_V p l e R s m args below meth c cells slots Q nL D cl A ws lv (pc + 1) (v :: v2 :: v :: st)) : zz_V p l e R s m args below meth c cells slots Q nL D cl A ws lv pc (v :: v2 :: st) := fun H locs ls hP hD hS hl => lv_dup_x1 X.1.1 X.1.2.1 hdg hv hv2 (k H locs ls hP hD hS hl)
theorem zz_goto (X : zz_X p s m args c cc nL Ts own D cl tys A) {off : Int} {tgt : Nat} (hdg : decode cc pc = .ok (.goto off, 3)) (ht : (pc : Int) + off = (tgt : Int)) (k : zz_V p l e R s m args below meth c cells slots Q nL D cl A ws lv tgt st) : zz_V p l e R s m args below meth c cells slots Q nL D cl A ws lv pc st := fun H locs ls hP hD hS hl => lv_goto X.1.1 X.1.2.1 hdg ht (k H locs ls hP hD hS hl)
theorem zz_if_eq (X : zz_X p s m args c cc nL Ts own D cl tys A) {x : Int32} {off : Int} {tgt : Nat} (hdg : decode cc pc = .ok (.ifCond .eq off, 3)) (ht : (pc : Int) + off = (tgt : Int)) (kt : x = 0 → zz_V p l e R s m args below meth c cells slots Q nL D cl A ws lv tgt st) (kf : ¬ (x = 0) → zz_V p l e R s m args below meth c cells slots Q nL D cl A ws lv (pc + 3) st) : zz_V p l e R s m args below meth c cells slots Q nL D cl A ws lv pc (.int x :: st) := fun H locs ls hP hD hS hl => lv_if_eq X.1.1 X.1.2.1 hdg ht (fun h => kt h H locs ls hP hD hS hl) (fun h => kf h H locs ls hP hD hS hl)
theorem zz_icmp_eq (X : zz_X p s m args c cc nL Ts own D cl tys A) {x y : Int32} {off : Int} {tgt : Nat} (hdg : decode cc pc = .ok (.if_icmp .eq off, 3)) (ht : (pc : Int) + off = (tgt : Int)) (kt : x = y → zz_V p l e R s m args below meth c cells slots Q nL D cl A ws lv tgt st) (kf : ¬ (x = y) → zz_V p l e R s m args below meth c cells slots Q nL D cl A ws lv (pc + 3) st) : zz_V p l e R s m args below meth c cells slots Q nL D cl A ws lv pc (.int y :: .int x :: st) := fun H locs ls hP hD hS hl => lv_icmp_eq X.1.1 X.1.2.1 hdg ht (fun h => kt h H locs ls hP hD hS hl) (fun h => kf h H locs ls hP hD hS hl)
theorem zz_if_ne (X : zz_X p s m args c cc nL Ts own D cl tys A) {x : Int32} {off : Int} {tgt : Nat} (hdg : decode cc pc = .ok (.ifCond .ne off, 3)) (ht : (pc : Int) + off = (tgt : Int)) (kt : ¬ x = 0 → zz_V p l e R s m args below meth c cells slots Q nL D cl A ws lv tgt st) (kf : x = 0 → zz_V p l e R s m args below meth c cells slots Q nL D cl A ws lv (pc + 3) st) : zz_V p l e R s m args below meth c cells slots Q nL D cl A ws lv pc (.int x :: st) := fun H locs ls hP hD hS hl => lv_if_ne X.1.1 X.1.2.1 hdg ht (fun h => kt h H locs ls hP hD hS hl) (fun h => kf h H locs ls hP hD hS hl)
theorem zz_icmp_ne (X : zz_X p s m args c cc nL Ts own D cl tys A) {x y : Int32} {off : Int} {tgt : Nat} (hdg : decode cc pc = .ok (.if_icmp .ne off, 3)) (ht : (pc : Int) + off = (tgt : Int)) (kt : ¬ x = y → zz_V p l e R s m args below meth c cells slots Q nL D cl A ws lv tgt st) (kf : x = y → zz_V p l e R s m args below meth c cells slots Q nL D cl A ws lv (pc + 3) st) : zz_V p l e R s m args below meth c cells slots Q nL D cl A ws lv pc (.int y :: .int x :: st) := fun H locs ls hP hD hS hl => lv_icmp_ne X.1.1 X.1.2.1 hdg ht (fun h => kt h H locs ls hP hD hS hl) (fun h => kf h H locs ls hP hD hS hl)
theorem zz_if_lt (X : zz_X p s m args c cc nL Ts own D cl tys A) {x : Int32} {off : Int} {tgt : Nat} (hdg : decode cc pc = .ok (.ifCond .lt off, 3)) (ht : (pc : Int) + off = (tgt : Int)) (kt : x < 0 → zz_V p l e R s m args below meth c cells slots Q nL D cl A ws lv tgt st) (kf : ¬ (x < 0) → zz_V p l e R s m args below meth c cells slots Q nL D cl A ws lv (pc + 3) st) : zz_V p l e R s m args below meth c cells slots Q nL D cl A ws lv pc (.int x :: st) := fun H locs ls hP hD hS hl => lv_if_lt X.1.1 X.1.2.1 hdg ht (fun h => kt h H locs ls hP hD hS hl) (fun h => kf h H locs ls hP hD hS hl)
theorem zz_icmp_lt (X : zz_X p s m args c cc nL Ts own D cl tys A) {x y : Int32} {off : Int} {tgt : Nat} (hdg : decode cc pc = .ok (.if_icmp .lt off, 3)) (ht : (pc : Int) + off = (tgt : Int)) (kt : x < y → zz_V p l e R s m args below meth c cells slots Q nL D cl A ws lv tgt st) (kf : ¬ (x < y) → zz_V p l e R s m args below meth c cells slots Q nL D cl A ws lv (pc + 3) st) : zz_V p l e R s m args below meth c cells slots Q nL D cl A ws lv pc (.int y :: .int x :: st) := fun H locs ls hP hD hS hl => lv_icmp_lt X.1.1 X.1.2.1 hdg ht (fun h => kt h H locs ls hP hD hS hl) (fun h => kf h H locs ls hP hD hS hl)
theorem zz_if_ge (X : zz_X p s m args c cc nL Ts own D cl tys A) {x : Int32} {off : Int} {tgt : Nat} (hdg : decode cc pc = .ok (.ifCond .ge off, 3)) (ht : (pc : Int) + off = (tgt : Int)) (kt : 0 ≤ x → zz_V p l e R s m args below meth c cells slots Q nL D cl A ws lv tgt st) (kf : ¬ (0 ≤ x) → zz_V p l e R s m args below meth c cells slots Q nL D cl A ws lv (pc + 3) st) : zz_V p l e R s m args below meth c cells slots Q nL D cl A ws lv pc (.int x :: st) := fun H locs ls hP hD hS hl => lv_if_ge X.1.1 X.1.2.1 hdg ht (fun h => kt h H locs ls hP hD hS hl) (fun h => kf h H locs ls hP hD hS hl)
theorem zz_icmp_ge (X : zz_X p s m args c cc nL Ts own D cl tys A) {x y : Int32} {off : Int} {tgt : Nat} (hdg : decode cc pc = .ok (.if_icmp .ge off, 3)) (ht : (pc : Int) + off = (tgt : Int)) (kt : y ≤ x → zz_V p l e R s m args below meth c cells slots Q nL D cl A ws lv tgt st) (kf : ¬ (y ≤ x) → zz_V p l e R s m args below meth c cells slots Q nL D cl A ws lv (pc + 3) st) : zz_V p l e R s m args below meth c cells slots Q nL D cl A ws lv pc (.int y :: .int x :: st) := fun H locs ls hP hD hS hl => lv_icmp_ge X.1.1 X.1.2.1 hdg ht (fun h => kt h H locs ls hP hD hS hl) (fun h => kf h H locs ls hP hD hS hl)
theorem zz_if_gt (X : zz_X p s m args c cc nL Ts own D cl tys A) {x : Int32} {off : Int} {tgt : Nat} (hdg : decode cc pc = .ok (.ifCond .gt off, 3)) (ht : (pc : Int) + off = (tgt : Int)) (kt : 0 < x → zz_V p l e R s m args below meth c cells slots Q nL D cl A ws lv tgt st) (kf : ¬ (0 < x) → zz_V p l e R s m args below meth c cells slots Q nL D cl A ws lv (pc + 3) st) : zz_V p l e R s m args below meth c cells slots Q nL D cl A ws lv pc (.int x :: st) := fun H locs ls hP hD hS hl => lv_if_gt X.1.1 X.1.2.1 hdg ht (fun h => kt h H locs ls hP hD hS hl) (fun h => kf h H locs ls hP hD hS hl)
theorem zz_icmp_gt (X : zz_X p s m args c cc nL Ts own D cl tys A) {x y : Int32} {off : Int} {tgt : Nat} (hdg : decode cc pc = .ok (.if_icmp .gt off, 3)) (ht : (pc : Int) + off = (tgt : Int)) (kt : y < x → zz_V p l e R s m args below meth c cells slots Q nL D cl A ws lv tgt st) (kf : ¬ (y < x) → zz_V p l e R s m args below meth c cells slots Q nL D cl A ws lv (pc + 3) st) : zz_V p l e R s m args below meth c cells slots Q nL D cl A ws lv pc (.int y :: .int x :: st) := fun H locs ls hP hD hS hl => lv_icmp_gt X.1.1 X.1.2.1 hdg ht (fun h => kt h H locs ls hP hD hS hl) (fun h => kf h H locs ls hP hD hS hl)
theorem zz_if_le (X : zz_X p s m args c cc nL Ts own D cl tys A) {x : Int32} {off : Int} {tgt : Nat} (hdg : decode cc pc = .ok (.ifCond .le off, 3)) (ht : (pc : Int) + off = (tgt : Int)) (kt : x ≤ 0 → zz_V p l e R s m args below meth c cells slots Q nL D cl A ws lv tgt st) (kf : ¬ (x ≤ 0) → zz_V p l e R s m args below meth c cells slots Q nL D cl A ws lv (pc + 3) st) : zz_V p l e R s m args below meth c cells slots Q nL D cl A ws lv pc (.int x :: st) := fun H locs ls hP hD hS hl => lv_if_le X.1.1 X.1.2.1 hdg ht (fun h => kt h H locs ls hP hD hS hl) (fun h => kf h H locs ls hP hD hS hl)
theorem zz_icmp_le (X : zz_X p s m args c cc nL Ts own D cl tys A) {x y : Int32} {off : Int} {tgt : Nat} (hdg : decode cc pc = .ok (.if_icmp .le off, 3)) (ht : (pc : Int) + off = (tgt : Int)) (kt : x ≤ y → zz_V p l e R s m args below meth c cells slots Q nL D cl A ws lv tgt st) (kf : ¬ (x ≤ y) → zz_V p l e R s m args below meth c cells slots Q nL D cl A ws lv (pc + 3) st) : zz_V p l e R s m args below meth c cells slots Q nL D cl A ws lv pc (.int y :: .int x :: st) := fun H locs ls hP hD hS hl => lv_icmp_le X.1.1 X.1.2.1 hdg ht (fun h => kt h H locs ls hP hD hS hl) (fun h => kf h H locs ls hP hD hS hl)
theorem zz_topi {x : Int32} (k : ∀ y : Int32, y = x → zz_V p l e R s m args below meth c cells slots Q nL D cl A ws lv pc (.int y :: st)) : zz_V p l e R s m args below meth c cells slots Q nL D cl A ws lv pc (.int x :: st) := k x rfl
theorem zz_top {x y : Int32} (h : x = y) (k : zz_V p l e R s m args below meth c cells slots Q nL D cl A ws lv pc (.int y :: st)) : zz_V p l e R s m args below meth c cells slots Q nL D cl A ws lv pc (.int x :: st) := h ▸ k
theorem zz_ws (h : ws = ws') (k : zz_V p l e R s m args below meth c cells slots Q nL D cl A ws' lv pc st) : zz_V p l e R s m args below meth c cells slots Q nL D cl A ws lv pc st := h ▸ k
theorem zz_lv (h : lv = lv') (k : zz_V p l e R s m args below meth c cells slots Q nL D cl A ws lv' pc st) : zz_V p l e R s m args below meth c cells slots Q nL D cl A ws lv pc st := h ▸ k
theorem zz_pc {pc2 : Nat} (h : pc = pc2) (k : zz_V p l e R s m args below meth c cells slots Q nL D cl A ws lv pc2 st) : zz_V p l e R s m args below meth c cells slots Q nL D cl A ws lv pc st := h ▸ k
theorem zz_drop {n : Nat} (k : zz_V p l e R s m args below meth c cells slots Q nL D cl A ws (lv.take n) pc st) : zz_V p l e R s m args below meth c cells slots Q nL D cl A ws lv pc st := fun H locs ls hP hD hS hl => k H locs ls hP hD hS ⟨hl.1, hl.2.1, fun i v h => hl.2.2 i v (by
  rw [List.getElem?_take] at h
  split at h
  · exact h
  · cases h)⟩
theorem zz_tabIn (X : zz_X p s m args c cc nL Ts own D cl tys A) {dflt lo hi : Int} {offs : Array Int} {len : Nat} {x : Int32} {off : Int} {tgt : Nat} (hdg : decode cc pc = .ok (.tableswitch dflt lo hi offs, len)) (h1 : ¬ x.toInt < lo) (h2 : ¬ hi < x.toInt) (ho : offs[(x.toInt - lo).toNat]? = some off) (ht : (pc : Int) + off = (tgt : Int)) (k : zz_V p l e R s m args below meth c cells slots Q nL D cl A ws lv tgt st) : zz_V p l e R s m args below meth c cells slots Q nL D cl A ws lv pc (.int x :: st) := fun H locs ls hP hD hS hl => lv_tableIn X.1.1 X.1.2.1 hdg h1 h2 ho ht (k H locs ls hP hD hS hl)
theorem zz_tabOut (X : zz_X p s m args c cc nL Ts own D cl tys A) {dflt lo hi : Int} {offs : Array Int} {len : Nat} {x : Int32} {tgt : Nat} (hdg : decode cc pc = .ok (.tableswitch dflt lo hi offs, len)) (h : x.toInt < lo ∨ hi < x.toInt) (ht : (pc : Int) + dflt = (tgt : Int)) (k : zz_V p l e R s m args below meth c cells slots Q nL D cl A ws lv tgt st) : zz_V p l e R s m args below meth c cells slots Q nL D cl A ws lv pc (.int x :: st) := fun H locs ls hP hD hS hl => lv_tableOut X.1.1 X.1.2.1 hdg h ht (k H locs ls hP hD hS hl)
theorem zz_lookup (X : zz_X p s m args c cc nL Ts own D cl tys A) {dflt : Int} {ps : Array (Int × Int)} {len : Nat} {x : Int32} {off : Int} {tgt : Nat} (hdg : decode cc pc = .ok (.lookupswitch dflt ps, len)) (hp : (ps.toList.zip (ps.toList.drop 1)).all (fun (a, next) => a.1 < next.1) = true) (ho : Op.lookupswitch.offset ps.toList dflt x.toInt = off) (ht : (pc : Int) + off = (tgt : Int)) (k : zz_V p l e R s m args below meth c cells slots Q nL D cl A ws lv tgt st) : zz_V p l e R s m args below meth c cells slots Q nL D cl A ws lv pc (.int x :: st) := fun H locs ls hP hD hS hl => lv_lookup X.1.1 X.1.2.1 hdg hp ho ht (k H locs ls hP hD hS hl)
theorem zz_get (X : zz_X p s m args c cc nL Ts own D cl tys A) {C : String} {T : u_T} {N ci index q0 a k0 : Nat} {fs : List Value} {v : Value} (hin : ∀ w ∈ u_ws C T N, w ∈ Ts) (he : ws[q0]? = some (a, .inr (ci, fs))) (hc : cl[ci]? = some (C, T, N)) (hk : k0 < N) (hlink : Cond.fieldLink own index (T k0).1 (T k0).2.1 (T k0).2.2.1 ∈ Ts) (hv : fs[k0]? = some v) (hdg : decode cc pc = .ok (.getfield index, 3)) (k : zz_V p l e R s m args below meth c cells slots Q nL D cl A ws lv (pc + 3) (v :: st)) : zz_V p l e R s m args below meth c cells slots Q nL D cl A ws lv pc (.ref a :: st) := fun H locs ls hP hD hS hl => va_get X.1.1 X.1.2.1 X.1.2.2.2.2 hin X.1.2.2.2.1 X.2.1 hP q0 he hc k0 hk (X.1.2.2.2.2 _ hlink) (fun _ h9 => h9) hv hdg (k H locs ls hP hD hS hl)
theorem zz_puti (X : zz_X p s m args c cc nL Ts own D cl tys A) {C : String} {T : u_T} {N ci index q0 a k0 : Nat} {fs : List Value} {v : Int32} (hin : ∀ w ∈ u_ws C T N, w ∈ Ts) (ty0 : Nat → FieldType) (hty : ∀ k, k < N → parseFieldDescriptor (T k).2.2.1 = some (ty0 k)) (hnm : ∀ a, a < N → ∀ b, b < N → a ≠ b → (T a).2.1 ≠ (T b).2.1) (he : ws[q0]? = some (a, .inr (ci, fs))) (hc : cl[ci]? = some (C, T, N)) (hk : k0 < N) (hlink : Cond.fieldLink own index (T k0).1 (T k0).2.1 (T k0).2.2.1 ∈ Ts) (hfin : (T k0).2.2.2 = false) (hd : parseFieldDescriptor (T k0).2.2.1 = some .int) (hfs : k0 < fs.length) (hdg : decode cc pc = .ok (.putfield index, 3)) (hw : ws.set q0 (a, .inr (ci, fs.set k0 (.int v))) = ws') (k : zz_V p l e R s m args below meth c cells slots Q nL D cl A ws' lv (pc + 3) st) : zz_V p l e R s m args below meth c cells slots Q nL D cl A ws lv pc (.int v :: .ref a :: st) := fun H locs ls hP hD hS hl => va_put X.1.1 X.1.2.1 X.1.2.2.2.2 hin ty0 hty hnm X.1.2.2.2.1 X.2.1 hP hD hS q0 he hc k0 hk (X.1.2.2.2.2 _ hlink) (fun _ h9 => h9) hfin hd rfl rfl hfs hdg (fun H1 locs1 hP1 hD1 hS1 => k H1 locs1 ls (hw ▸ hP1) (hw ▸ hD1) hS1 hl)
theorem zz_iald (X : zz_X p s m args c cc nL Ts own D cl tys A) {q0 t0 a n j : Nat} {cA : ClassId} {f : Nat → Int32} {i : Int32} (ha : ws[q0]? = some (a, .inl (cA, n, .inl f))) (ht : tys[t0]? = some (cA, .int)) (hi : i = nI j) (hj : j < n) (hn : n < 2 ^ 31) (hdg : decode cc pc = .ok (.iaload, 1)) (k : zz_V p l e R s m args below meth c cells slots Q nL D cl A ws lv (pc + 1) (.int (f j) :: st)) : zz_V p l e R s m args below meth c cells slots Q nL D cl A ws lv pc (.int i :: .ref a :: st) := fun H locs ls hP hD hS hl => va_iald X.1.1 X.1.2.1 X.2.1 hP q0 t0 ha ht (by rw [hi]; exact vp_in_nI hj hn) hdg (by rw [hi, nI_clamp (Nat.lt_trans hj hn)]; exact k H locs ls hP hD hS hl)
theorem zz_zald (X : zz_X p s m args c cc nL Ts own D cl tys A) {q0 t0 a n j : Nat} {cA : ClassId} {f : Nat → Int32} {i : Int32} (ha : ws[q0]? = some (a, .inl (cA, n, .inl f))) (ht : tys[t0]? = some (cA, .boolean)) (hi : i = nI j) (hj : j < n) (hn : n < 2 ^ 31) (hdg : decode cc pc = .ok (.baload, 1)) (k : zz_V p l e R s m args below meth c cells slots Q nL D cl A ws lv (pc + 1) (.int (f j) :: st)) : zz_V p l e R s m args below meth c cells slots Q nL D cl A ws lv pc (.int i :: .ref a :: st) := fun H locs ls hP hD hS hl => va_zald X.1.1 X.1.2.1 X.2.1 hP q0 t0 ha ht (by rw [hi]; exact vp_in_nI hj hn) hdg (by rw [hi, nI_clamp (Nat.lt_trans hj hn)]; exact k H locs ls hP hD hS hl)
theorem zz_iast (X : zz_X p s m args c cc nL Ts own D cl tys A) {q0 t0 a n j : Nat} {cA : ClassId} {f : Nat → Int32} {i x : Int32} (ha : ws[q0]? = some (a, .inl (cA, n, .inl f))) (ht : tys[t0]? = some (cA, .int)) (hi : i = nI j) (hj : j < n) (hn : n < 2 ^ 31) (hdg : decode cc pc = .ok (.iastore, 1)) (hw : ws.set q0 (a, .inl (cA, n, .inl (upd f j x))) = ws') (k : zz_V p l e R s m args below meth c cells slots Q nL D cl A ws' lv (pc + 1) st) : zz_V p l e R s m args below meth c cells slots Q nL D cl A ws lv pc (.int x :: .int i :: .ref a :: st) := fun H locs ls hP hD hS hl => va_iast X.1.1 X.1.2.1 X.2.1 hP hD hS q0 t0 ha ht (by rw [hi]; exact vp_in_nI hj hn) hdg (fun H1 locs1 hP1 hD1 hS1 => k H1 locs1 ls (by rw [hi, nI_clamp (Nat.lt_trans hj hn)] at hP1; exact hw ▸ hP1) (by rw [hi, nI_clamp (Nat.lt_trans hj hn)] at hD1; exact hw ▸ hD1) hS1 hl)
theorem zz_zast (X : zz_X p s m args c cc nL Ts own D cl tys A) {q0 t0 a n j : Nat} {cA : ClassId} {f : Nat → Int32} {i x : Int32} (ha : ws[q0]? = some (a, .inl (cA, n, .inl f))) (ht : tys[t0]? = some (cA, .boolean)) (hi : i = nI j) (hj : j < n) (hn : n < 2 ^ 31) (hx : vp_nar .boolean x = x) (hdg : decode cc pc = .ok (.bastore, 1)) (hw : ws.set q0 (a, .inl (cA, n, .inl (upd f j x))) = ws') (k : zz_V p l e R s m args below meth c cells slots Q nL D cl A ws' lv (pc + 1) st) : zz_V p l e R s m args below meth c cells slots Q nL D cl A ws lv pc (.int x :: .int i :: .ref a :: st) := fun H locs ls hP hD hS hl => va_zast X.1.1 X.1.2.1 X.2.1 hP hD hS q0 t0 ha ht (by rw [hi]; exact vp_in_nI hj hn) hdg (fun H1 locs1 hP1 hD1 hS1 => k H1 locs1 ls (by rw [hi, nI_clamp (Nat.lt_trans hj hn), hx] at hP1; exact hw ▸ hP1) (by rw [hi, nI_clamp (Nat.lt_trans hj hn), hx] at hD1; exact hw ▸ hD1) hS1 hl)
theorem zz_alen (X : zz_X p s m args c cc nL Ts own D cl tys A) {q0 t0 a n : Nat} {cA : ClassId} {ty : FieldType} {f : Nat → Int32} (ha : ws[q0]? = some (a, .inl (cA, n, .inl f))) (ht : tys[t0]? = some (cA, ty)) (hdg : decode cc pc = .ok (.arraylength, 1)) (k : zz_V p l e R s m args below meth c cells slots Q nL D cl A ws lv (pc + 1) (.int (nI n) :: st)) : zz_V p l e R s m args below meth c cells slots Q nL D cl A ws lv pc (.ref a :: st) := fun H locs ls hP hD hS hl => va_alen X.1.1 X.1.2.1 X.2.1 hP q0 t0 ha ht rfl hdg (k H locs ls hP hD hS hl)
theorem zz_sld (X : zz_X p s m args c cc nL Ts own D cl tys A) {b L : Nat} {xs : Nat → Int32} {i : Int32} {j : Nat} (hX : va_X b L xs s s.heap) (hbl : b < s.heap.size) (hbA : ¬ A b) (hi : i = nI j) (hj : j < L) (hn : L < 2 ^ 31) (hdg : decode cc pc = .ok (.iaload, 1)) (k : zz_V p l e R s m args below meth c cells slots Q nL D cl A ws lv (pc + 1) (.int (xs j) :: st)) : zz_V p l e R s m args below meth c cells slots Q nL D cl A ws lv pc (.int i :: .ref b :: st) := fun H locs ls hP hD hS hl => va_sld X.1.1 X.1.2.1 hX hbl hbA hS (by rw [hi]; exact vp_in_nI hj hn) hdg (by rw [hi, nI_clamp (Nat.lt_trans hj hn)]; exact k H locs ls hP hD hS hl)
theorem zz_slen (X : zz_X p s m args c cc nL Ts own D cl tys A) {b L : Nat} {xs : Nat → Int32} (hX : va_X b L xs s s.heap) (hbl : b < s.heap.size) (hbA : ¬ A b) (hdg : decode cc pc = .ok (.arraylength, 1)) (k : zz_V p l e R s m args below meth c cells slots Q nL D cl A ws lv (pc + 1) (.int (nI L) :: st)) : zz_V p l e R s m args below meth c cells slots Q nL D cl A ws lv pc (.ref b :: st) := fun H locs ls hP hD hS hl => va_slen X.1.1 X.1.2.1 hX hbl hbA hS hdg (k H locs ls hP hD hS hl)
theorem zz_newa (X : zz_X p s m args c cc nL Ts own D cl tys A) {atype : ArrayType} {ty : FieldType} {n : Int32} {N' : Nat} {a0 : vp_A} (harr : Cond.arrayClass (newarray.typeOf atype) ∈ Ts) (hty : newarray.typeOf atype = ty) (ha : ∀ cA : ClassId, vp_cell cA a0 = arrV cA N' (fun _ => defaultValue ty)) (hn : ¬ n < 0) (hN : n.toNatClampNeg = N') (hbytes : N' * componentBytes ty ≤ 536870912) (hcells : cells + 1 ≤ R.cells) (hslots : slots + N' ≤ R.slots) (hdg : decode cc pc = .ok (.newarray atype, 2))
    (k : ∀ (q : Nat) (cA : ClassId), zz_X p s m args c cc nL Ts own D cl (tys ++ [(cA, ty)]) A → zz_V p l e R s m args below meth c (cells + 1) (slots + N') Q nL D cl A (ws ++ [(q, .inl (cA, a0))]) lv (pc + 2) (.ref q :: st)) : zz_V p l e R s m args below meth c cells slots Q nL D cl A ws lv pc (.int n :: st) := fun H locs ls hP hD hS hl => va_newa X.1.1 X.1.2.1 (X.1.2.2.2.2 _ harr) hty X.2.1 hP hD hS X.2.2 ha hn hN hbytes hcells hslots hdg (fun q cA H1 hK1 hP1 hD1 hS1 => k q cA ⟨X.1, hK1, X.2.2⟩ H1 locs ls hP1 hD1 hS1 hl)
theorem zz_new (X : zz_X p s m args c cc nL Ts own D cl tys A) {C : String} {T : u_T} {N ci index : Nat} {fs : List Value} (hin : ∀ w ∈ u_ws C T N, w ∈ Ts) (ty : Nat → FieldType) (hty : ∀ k, k < N → parseFieldDescriptor (T k).2.2.1 = some (ty k)) (hcl : Cond.classLink own index C ∈ Ts) (hinst : Cond.instantiable C N ∈ Ts) (hini : Cond.initialized C ∈ Ts) (hc : cl[ci]? = some (C, T, N)) (hfs : ∀ j, j < N → defaultValue (ty j) = vp_V fs j) (hcells : cells + 1 ≤ R.cells) (hslots : slots + N ≤ R.slots) (hdg : decode cc pc = .ok (.new index, 3))
    (k : ∀ q : Nat, zz_V p l e R s m args below meth c (cells + 1) (slots + N) Q nL D cl A (ws ++ [(q, .inr (ci, fs))]) lv (pc + 3) (.ref q :: st)) : zz_V p l e R s m args below meth c cells slots Q nL D cl A ws lv pc st := fun H locs ls hP hD hS hl => va_new X.1.1 X.1.2.1 X.1.2.2.2.2 hin ty hty X.1.2.2.2.1 (X.1.2.2.2.2 _ hcl) (X.1.2.2.2.2 _ hinst) (X.1.2.2.2.2 _ hini) X.2.1 hP hD hS X.2.2 hc hfs hcells hslots hdg (fun q H1 hP1 hD1 hS1 => k q H1 locs ls hP1 hD1 hS1 hl)
theorem zz_putF (X : zz_X p s m args c cc nL Ts own D cl tys A) {C : String} {T : u_T} {N ci index q0 a k0 : Nat} {fs : List Value} {ty : FieldType} {v : Value} (hin : ∀ w ∈ u_ws C T N, w ∈ Ts) (ty0 : Nat → FieldType) (hty : ∀ k, k < N → parseFieldDescriptor (T k).2.2.1 = some (ty0 k)) (hnm : ∀ a, a < N → ∀ b, b < N → a ≠ b → (T a).2.1 ≠ (T b).2.1) (he : ws[q0]? = some (a, .inr (ci, fs))) (hc : cl[ci]? = some (C, T, N)) (hk : k0 < N) (hlink : Cond.fieldLink own index (T k0).1 (T k0).2.1 (T k0).2.2.1 ∈ Ts) (hfin : (T k0).2.2.2 = true) (hini : meth.name = "<init>") (hdecl : (T k0).1 = own) (hd : parseFieldDescriptor (T k0).2.2.1 = some ty) (hn : narrow ty v = v) (hfit : fits ty v = true) (hfs : k0 < fs.length) (hdg : decode cc pc = .ok (.putfield index, 3)) (hw : ws.set q0 (a, .inr (ci, fs.set k0 v)) = ws') (k : zz_V p l e R s m args below meth c cells slots Q nL D cl A ws' lv (pc + 3) st) : zz_V p l e R s m args below meth c cells slots Q nL D cl A ws lv pc (v :: .ref a :: st) := fun H locs ls hP hD hS hl => va_putF X.1.1 X.1.2.1 X.1.2.2.2.2 hin ty0 hty hnm X.1.2.2.2.1 X.2.1 hP hD hS q0 he hc k0 hk (X.1.2.2.2.2 _ hlink) (fun _ h9 => h9) hfin hini hdecl hd hn hfit hfs hdg (fun H1 locs1 hP1 hD1 hS1 => k H1 locs1 ls (hw ▸ hP1) (hw ▸ hD1) hS1 hl)
theorem zz_objInit (X : zz_X p s m args c cc nL Ts own D cl tys A) {idx a : Nat} (h1 : Cond.methodLink own idx Lib.objectInit ∈ Ts) (h2 : Cond.instanceMethod Lib.objectInit ∈ Ts) (h3 : Cond.code Lib.objectInit ⟨#[0xb1]⟩ 1 none ∈ Ts) (hdg : decode cc pc = .ok (.invokespecial idx, 3)) (hfr : 1 ≤ R.frames) (hlo : ∀ ls : Array Slot, 2 * (F0 m pc ls (.ref a :: st)).monitorRoom + (st.map fun v => v.category).sum + 12 ≤ R.locals) (k : zz_V p l e R s m args below meth c cells slots Q nL D cl A ws lv (pc + 3) st) : zz_V p l e R s m args below meth c cells slots Q nL D cl A ws lv pc (.ref a :: st) := fun H locs ls hP hD hS hl => W.objInit X.1.1 X.1.2.1 X.1.2.2.2.1 (X.1.2.2.2.2 _ h1) (X.1.2.2.2.2 _ h2) (X.1.2.2.2.2 _ h3) rfl (by rw [X.1.2.2.1]; exact hl.1) rfl hdg hfr (hlo ls) (k H locs ls hP hD hS hl)
theorem zz_mmax (X : zz_X p s m args c cc nL Ts own D cl tys A) {index : Nat} {x y : Int32} (h1 : Cond.methodLink own index Lib.Math.max.name ∈ Ts) (h2 : Cond.static Lib.Math.max.name ∈ Ts) (h3 : Cond.initialized "java/lang/Math" ∈ Ts) (h4 : Cond.code Lib.Math.max.name Lib.Math.max.code 2 (some .int) ∈ Ts) (hfr : 1 ≤ R.frames) (hlo : (st.map fun v => v.category).sum + 13 ≤ R.locals) (hcs : cells ≤ R.cells ∧ slots ≤ R.slots) (hdg : decode cc pc = .ok (.invokestatic index, 3)) (k : zz_V p l e R s m args below meth c cells slots Q nL D cl A ws lv (pc + 3) (.int (if x < y then y else x) :: st)) : zz_V p l e R s m args below meth c cells slots Q nL D cl A ws lv pc (.int y :: .int x :: st) := fun H locs ls hP hD hS hl => va_mmax X.1.1 X.1.2.1 (by rw [X.1.2.2.1]; exact hl.1.symm) X.1.2.2.2.1 (X.1.2.2.2.2 _ h1) (X.1.2.2.2.2 _ h2) (X.1.2.2.2.2 _ h3) (X.1.2.2.2.2 _ h4) hfr hlo hcs.1 hcs.2 hdg (k H locs ls hP hD hS hl)
theorem zz_mmin (X : zz_X p s m args c cc nL Ts own D cl tys A) {index : Nat} {x y : Int32} (h1 : Cond.methodLink own index Lib.Math.min.name ∈ Ts) (h2 : Cond.static Lib.Math.min.name ∈ Ts) (h3 : Cond.initialized "java/lang/Math" ∈ Ts) (h4 : Cond.code Lib.Math.min.name Lib.Math.min.code 2 (some .int) ∈ Ts) (hfr : 1 ≤ R.frames) (hlo : (st.map fun v => v.category).sum + 13 ≤ R.locals) (hcs : cells ≤ R.cells ∧ slots ≤ R.slots) (hdg : decode cc pc = .ok (.invokestatic index, 3)) (k : zz_V p l e R s m args below meth c cells slots Q nL D cl A ws lv (pc + 3) (.int (if y < x then y else x) :: st)) : zz_V p l e R s m args below meth c cells slots Q nL D cl A ws lv pc (.int y :: .int x :: st) := fun H locs ls hP hD hS hl => va_mmin X.1.1 X.1.2.1 (by rw [X.1.2.2.1]; exact hl.1.symm) X.1.2.2.2.1 (X.1.2.2.2.2 _ h1) (X.1.2.2.2.2 _ h2) (X.1.2.2.2.2 _ h3) (X.1.2.2.2.2 _ h4) hfr hlo hcs.1 hcs.2 hdg (k H locs ls hP hD hS hl)
theorem zz_widen {k2 n2 : Nat} (h1 : cells ≤ k2) (h2 : slots ≤ n2) (k : zz_V p l e R s m args below meth c k2 n2 Q nL D cl A ws lv pc st) : zz_V p l e R s m args below meth c cells slots Q nL D cl A ws lv pc st := fun H locs ls hP hD hS hl => W.widen (k := k2) (n := n2) h1 h2 (k H locs ls hP hD hS hl)
end ZV
/-- a contract: from the world w1 and these arguments the answer is r and the world w2; nothing is made, nothing else is changed -/
def zz_C (l : Launch) (D : va_G) (cl : List vw_C) (tys : List (ClassId × FieldType)) (y : MethodName) (wy : List Cond) (rm : Room) (As : List Value) (w1 : va_W) (r : Option Value) (w2 : va_W) : Prop :=
  ∀ sz : Nat, Met l y wy rm (va_Pc As (fun U => U.heap.size = sz ∧ va_P D cl w1 U.heap ∧ va_K D cl tys U ∧ va_D (fun _ => True) w1)) (fun _ st oc t => (oc = .returned r ∧ va_P D cl w2 t.heap ∧ va_D (va_A w1 sz) w2) ∧ va_F (va_A w1 sz) st t) 0 0 (va_A w1 sz)
section ZC
variable {l : Launch} {D : va_G} {cl : List vw_C} {tys : List (ClassId × FieldType)}
theorem zz_blind {As : List Value} {sz : Nat} {w1 : va_W} : FrameBlind (va_Pc As (fun U => U.heap.size = sz ∧ va_P D cl w1 U.heap ∧ va_K D cl tys U ∧ va_D (fun _ => True) w1)) := fun a U g mk q => by
  obtain ⟨q0, q1, qP, qK, qD⟩ := q
  exact ⟨q0, q1, qP, va_K.moved (u := U) (U := U.calling g mk a) (Vm.Alike.refl U.vm) qK, qD⟩
/-- a method keeps its contract: walk its body; the ends are given -/
theorem zz_C.of {y : MethodName} {bytes : ByteArray} {maxL : Nat} {ret : Option FieldType} {wy wy' : List Cond} {rm : Room} {As : List Value} {w1 w2 : va_W} {r : Option Value} {lv0 : List (Option Value)} (hy : plainName y.cls = true) (hw : wy = Cond.code y bytes maxL ret :: wy') (hlen : (lg_sl As).length ≤ maxL) (hcat : As.all (fun v => v.category == 1) = true) (hlv : lv0 = As.map some ++ List.replicate (maxL - As.length) none)
    (body : ∀ (p : Program) (e : Env) (s : State) (m : MethodId) (below : List Frame) (meth : Method) (c : Code) (A : Nat → Prop) (Q : State → Prop), zz_X p s m As.toArray c bytes maxL wy y.cls D cl tys A →
      (∀ (ws : va_W) (lv : List (Option Value)) (pc : Nat) (x : Int32) (ty : FieldType), ret = some ty → narrow ty (.int x) = .int x → decode bytes pc = .ok (.ireturn, 1) → r = some (.int x) → w2 = ws → zz_V p l e rm s m As.toArray below meth c 0 0 Q maxL D cl A ws lv pc [.int x]) →
      (∀ (ws : va_W) (lv : List (Option Value)) (pc : Nat), ret = none → decode bytes pc = .ok (.return_, 1) → r = none → w2 = ws → zz_V p l e rm s m As.toArray below meth c 0 0 Q maxL D cl A ws lv pc []) →
      zz_V p l e rm s m As.toArray below meth c 0 0 Q maxL D cl A w1 lv0 0 []) : zz_C l D cl tys y wy rm As w1 r w2 := by
  intro sz
  refine Met.ofW (cc := bytes) (maxL := maxL) (ret := ret) hy hw ?_
  intro p e s m args below meth c s₁ B hml hv
  obtain ⟨rfl, hsz, hP, hK, hD0⟩ := hv
  have hx := B.exec
  have hb := B.bytes
  have hr := B.returns
  have hts := atoms_spec (ws := wy) B.pre
  have hown : s.vm.findClass y.cls = some m.cls := findClass_of_methodNamed B.named
  have hlocks := B.notSynchronized
  subst hsz
  have hD := hD0.self (sz := s.heap.size)
  have hA : ∀ q : Nat, s.heap.size ≤ q → va_A w1 s.heap.size q := fun q h => Or.inr h
  have hl := lv_entry As (n := maxL) hlen
  rw [lg_entry_eq]
  refine body p e s m below meth c (va_A w1 s.heap.size) _ ⟨⟨hx, hb, hml, hown, hts⟩, hK, hA⟩ ?_ ?_ s.heap [] _ hP hD va_S.rf (zz_L.entry (fun v hv => by simpa using List.all_eq_true.mp hcat v hv) hlv hl)
  · intro ws lv pc x ty h1 h2 h3 h4 h5 H locs ls hP hD hS hl
    subst h5
    exact W.zret hx hb (hr.trans h1) h2 (fun t ht hW => ⟨⟨by rw [h4], by rw [ht]; exact hP, hD⟩, hS.F ht⟩) hS.2.2 h3
  · intro ws lv pc h1 h3 h4 h5 H locs ls hP hD hS hl
    subst h5
    exact W.vret hx hb (hr.trans h1) (fun t ht hW => ⟨⟨by rw [h4], by rw [ht]; exact hP, hD⟩, hS.F ht⟩) hS.2.2 h3
variable {p : Program} {e : Env} {R : Room} {s : State} {m : MethodId} {args : Array Value} {below : List Frame} {meth : Method} {c : Code} {cells slots : Nat} {Q : State → Prop} {cc : ByteArray} {nL : Nat} {Ts : List Cond} {own : String} {A : Nat → Prop} {ws ws' : va_W} {lv lv' : List (Option Value)} {pc : Nat} {st : List Value}
/-- a call by contract: the callee's cells out of the world, what came back beside the rest -/
theorem zz_call (X : zz_X p s m args c cc nL Ts own D cl tys A) {tysC : List (ClassId × FieldType)} {y : MethodName} {bytes : ByteArray} {maxL index n h q0 ci : Nat} {ret : Option FieldType} {wy : List Cond} {rm : Room} {C : String} {As rest : List Value} {r : Option Value} {w1 w2 wr : va_W} {T : u_T} {N : Nat} {fs : List Value}
    (hC : zz_C l D cl tysC y wy rm (.ref h :: As) w1 r w2) (hK1 : va_K D cl tysC s) (cw : CallW R s args own C index y bytes maxL ret wy rm 0 0 n) (he : ws[q0]? = some (h, .inr (ci, fs))) (hc : cl[ci]? = some (C, T, N)) (hn : As.length = n) (hst : st = As.reverse ++ .ref h :: rest) (hrm : (rest.map fun v => v.category).sum ≤ 8) (hdg : decode cc pc = .ok (.invokevirtual index, 3)) (hcs : cells ≤ R.cells ∧ slots ≤ R.slots)
    (isC isR : List Nat) (hsF : isC.filterMap (fun i => ws[i]?) = w1) (hsC : isC.map (fun i => ws[i]?) = w1.map some) (hsR : isR.map (fun i => ws[i]?) = wr.map some) (hnC : va_nd isC = true) (hnR : va_nd isR = true) (hdis : ∀ i ∈ isR, i ∉ isC) (hw : wr ++ w2 = ws')
    (k : zz_V p l e R s m args below meth c cells slots Q nL D cl A ws' lv (pc + 3) (r.toList ++ rest)) : zz_V p l e R s m args below meth c cells slots Q nL D cl A ws lv pc st := by
  intro H locs ls hP hD hS hl T hT XX
  have hPc := hP.sub isC hsF
  have hDc := hD.sub isC hnC hsC
  have hFc := va_free (wc := w1) hD hS X.2.2 isC hsC
  obtain ⟨v, st₀, t, T', L, h0, X', hL, e1, e2, ⟨⟨hv, hP1, hD1⟩, hz, hk⟩, stp⟩ := va_runV (p := p) (e := e) (meth := meth) (below := below) (H := H) (locs := locs) (cells := cells) (slots := slots) (g := F0 m pc ls st) (As := As) (rest := rest) X.1 (hC H.size) cw ⟨zz_blind, va_recv X.2.1 hP hc he, fun U hU hW => ⟨rfl, by rw [hU], by rw [hU]; exact hPc, va_K.moved hW.alike hK1, hDc.weaken (fun _ _ _ _ => trivial)⟩⟩ rfl hn hl.1 hst (lv_room hrm) hdg hcs T hT XX
  rw [h0] at hz hk
  have hv : v = r := Outcome.returned.inj hv
  subst hv
  rw [← e1] at hP1 hz hk
  obtain ⟨hP2, hD2⟩ := va_join (wr := wr) (w1 := w2) hP hD isC isR hsC hsR hnR hdis hk hFc hP1 hD1
  obtain ⟨t2, a1, b1⟩ := k T'.heap (locs ++ L) ls (hw ▸ hP2) (hw ▸ hD2) ⟨Nat.le_trans hS.1 hz, fun q h1 h2 => by rw [hk q (Nat.lt_of_lt_of_le h1 hS.1) (fun z => h2 (hFc q z))]; exact hS.2.1 q h1 h2, fun q hq => by
      rcases List.mem_append.mp hq with h | h
      · exact hS.2.2 q h
      · exact hFc _ (hL q h)⟩ hl T' rfl X'
  exact ⟨t2, stp t2 a1, b1⟩
end ZC
/-- a constructor's contract: the world w2 z for some z with ok; at most mc cells of ms slots are new -/
def zz_CI (l : Launch) (D : va_G) (cl : List vw_C) (y : MethodName) (wy : List Cond) (rm : Room) (As : List Value) (w1 : va_W) {S : Type} (tys2 : S → List (ClassId × FieldType)) (w2 : S → va_W) (ok : S → Prop) (mc ms : Nat) : Prop :=
  ∀ sz : Nat, Met l y wy rm (va_Pc As (fun U => U.heap.size = sz ∧ va_P D cl w1 U.heap ∧ va_K D cl [] U ∧ va_D (fun _ => True) w1)) (va_Qv ok (fun z t => va_P D cl (w2 z) t.heap ∧ va_K D cl (tys2 z) t ∧ va_D (va_A w1 sz) (w2 z)) (va_A w1 sz)) mc ms (va_A w1 sz)
section ZI
variable {l : Launch} {D : va_G} {cl : List vw_C} {tys : List (ClassId × FieldType)}
theorem zz_CI.of {y : MethodName} {bytes : ByteArray} {maxL mc ms : Nat} {wy wy' : List Cond} {rm : Room} {As : List Value} {w1 : va_W} {S : Type} {tys2 : S → List (ClassId × FieldType)} {w2 : S → va_W} {ok : S → Prop} {lv0 : List (Option Value)} (hy : plainName y.cls = true) (hini : y.name = "<init>") (hw : wy = Cond.code y bytes maxL none :: wy') (hlen : (lg_sl As).length ≤ maxL) (hcat : As.all (fun v => v.category == 1) = true) (hlv : lv0 = As.map some ++ List.replicate (maxL - As.length) none)
    (body : ∀ (p : Program) (e : Env) (s : State) (m : MethodId) (below : List Frame) (meth : Method) (c : Code) (A : Nat → Prop) (Q : State → Prop), zz_X p s m As.toArray c bytes maxL wy y.cls D cl [] A → meth.name = "<init>" →
      (∀ (z : S) (tys : List (ClassId × FieldType)) (ws : va_W) (lv : List (Option Value)) (pc cells slots : Nat), zz_X p s m As.toArray c bytes maxL wy y.cls D cl tys A → decode bytes pc = .ok (.return_, 1) → ok z → tys2 z = tys → w2 z = ws → cells ≤ mc → slots ≤ ms → zz_V p l e rm s m As.toArray below meth c cells slots Q maxL D cl A ws lv pc []) →
      zz_V p l e rm s m As.toArray below meth c 0 0 Q maxL D cl A w1 lv0 0 []) : zz_CI l D cl y wy rm As w1 tys2 w2 ok mc ms := by
  intro sz
  refine Met.ofW (cc := bytes) (maxL := maxL) (ret := none) hy hw ?_
  intro p e s m args below meth c s₁ B hml hv
  obtain ⟨rfl, hsz, hP, hK, hD0⟩ := hv
  have hx := B.exec
  have hb := B.bytes
  have hr := B.returns
  have hts := atoms_spec (ws := wy) B.pre
  have hown : s.vm.findClass y.cls = some m.cls := findClass_of_methodNamed B.named
  have hlocks := B.notSynchronized
  have hin : meth.name = "<init>" := (name_of_methodNamed B.named B.method).1.trans hini
  subst hsz
  have hD := hD0.self (sz := s.heap.size)
  have hA : ∀ q : Nat, s.heap.size ≤ q → va_A w1 s.heap.size q := fun q h => Or.inr h
  have hl := lv_entry As (n := maxL) hlen
  rw [lg_entry_eq]
  refine body p e s m below meth c (va_A w1 s.heap.size) _ ⟨⟨hx, hb, hml, hown, hts⟩, hK, hA⟩ hin ?_ s.heap [] _ hP hD va_S.rf (zz_L.entry (fun v hv => by simpa using List.all_eq_true.mp hcat v hv) hlv hl)
  intro z tys ws lv pc cells slots X h3 h4 h5 h6 h7 h8 H locs ls hP hD hS hl
  subst h5
  subst h6
  refine W.widen (k := mc) (n := ms) h7 h8 ?_
  exact W.vret hx hb hr (fun t ht hW => ⟨⟨z, rfl, h4, by rw [ht]; exact hP, va_K.moved hW.alike X.2.1, hD⟩, hS.F ht⟩) hS.2.2 h3
variable {p : Program} {e : Env} {R : Room} {s : State} {m : MethodId} {args : Array Value} {below : List Frame} {meth : Method} {c : Code} {cells slots : Nat} {Q : State → Prop} {cc : ByteArray} {nL : Nat} {Ts : List Cond} {own : String} {A : Nat → Prop} {ws : va_W} {lv : List (Option Value)} {pc : Nat} {st : List Value}
theorem zz_callI (X : zz_X p s m args c cc nL Ts own D cl tys A) {y : MethodName} {bytes : ByteArray} {maxL index n h mc ms : Nat} {wy : List Cond} {rm : Room} {As rest : List Value} {w1 wr : va_W} {S : Type} {tys2 : S → List (ClassId × FieldType)} {w2 : S → va_W} {ok : S → Prop}
    (hC : zz_CI l D cl y wy rm (.ref h :: As) w1 tys2 w2 ok mc ms) (cw : CallB R s args own index y bytes maxL none wy rm mc ms n ∧ y.name = "<init>" ∧ (Cond.instanceMethod y).before args s = true) (hn : As.length = n) (hst : st = As.reverse ++ .ref h :: rest) (hrm : (rest.map fun v => v.category).sum ≤ 8) (hdg : decode cc pc = .ok (.invokespecial index, 3)) (hcs : cells + mc ≤ R.cells ∧ slots + ms ≤ R.slots)
    (isC isR : List Nat) (hsF : isC.filterMap (fun i => ws[i]?) = w1) (hsC : isC.map (fun i => ws[i]?) = w1.map some) (hsR : isR.map (fun i => ws[i]?) = wr.map some) (hnC : va_nd isC = true) (hnR : va_nd isR = true) (hdis : ∀ i ∈ isR, i ∉ isC)
    (k : ∀ z : S, ok z → zz_X p s m args c cc nL Ts own D cl (tys ++ tys2 z) A → zz_V p l e R s m args below meth c (cells + mc) (slots + ms) Q nL D cl A (wr ++ w2 z) lv (pc + 3) rest) : zz_V p l e R s m args below meth c cells slots Q nL D cl A ws lv pc st := by
  intro H locs ls hP hD hS hl T hT XX
  have hPc := hP.sub isC hsF
  have hDc := hD.sub isC hnC hsC
  have hFc := va_free (wc := w1) hD hS X.2.2 isC hsC
  have hK0 : va_K D cl [] s := X.2.1.sub [] rfl
  obtain ⟨v, st₀, t, T', L, h0, X', hL, e1, e2, ⟨⟨z, hv, hok, hP1, hK1, hD1⟩, hz, hk⟩, stp⟩ := va_runI (p := p) (e := e) (meth := meth) (below := below) (H := H) (locs := locs) (cells := cells) (slots := slots) (g := F0 m pc ls st) (As := As) (rest := rest) X.1 (hC H.size) cw ⟨zz_blind, fun U hU hW => ⟨rfl, by rw [hU], by rw [hU]; exact hPc, va_K.moved hW.alike hK0, hDc.weaken (fun _ _ _ _ => trivial)⟩⟩ rfl hn hl.1 hst (lv_room hrm) hdg hcs T hT XX
  rw [h0] at hz hk
  have hv : v = none := Outcome.returned.inj hv
  subst hv
  rw [← e1] at hP1 hz hk
  have hal : s.vm.Alike t.vm := by rw [← e2]; exact X'.warmed.alike
  have hK2 := va_K.moved hal.symm hK1
  obtain ⟨hP2, hD2⟩ := va_join (wr := wr) (w1 := w2 z) hP hD isC isR hsC hsR hnR hdis hk hFc hP1 hD1
  obtain ⟨t2, a1, b1⟩ := k z hok ⟨X.1, X.2.1.app hK2, X.2.2⟩ T'.heap (locs ++ L) ls hP2 hD2 ⟨Nat.le_trans hS.1 hz, fun q h1 h2 => by rw [hk q (Nat.lt_of_lt_of_le h1 hS.1) (fun z => h2 (hFc q z))]; exact hS.2.1 q h1 h2, fun q hq => by
      rcases List.mem_append.mp hq with h | h
      · exact hS.2.2 q h
      · exact hFc _ (hL q h)⟩ hl T' rfl X'
  exact ⟨t2, stp t2 a1, b1⟩
end ZI
end
section
/-! THE CLASS'S STATE AS A NUMBER TABLE: rows 0..8 are its arrays, row 9 its four numbers (taken last, number last, ticks, status). -/
abbrev St : Type := Nat → Nat → Int32
def up2 (u : St) (k i : Nat) (x : Int32) : St := fun k' => bif Nat.beq k' k then upd (u k') i x else u k'
/-- the first place from i on, of n places, with P; -1 if none -/
def zs (P : Nat → Bool) : Nat → Nat → Int32
  | 0, _ => -1
  | n + 1, i => if P i = true then nI i else zs P n (i + 1)
/-- the same, places counted round from behind t -/
def zn (P : Nat → Bool) (t : Nat) : Nat → Nat → Int32
  | 0, _ => -1
  | n + 1, i => if P ((t + i) % 15) = true then nI ((t + i) % 15) else zn P t n (i + 1)
/-- how many of n places from i on have P, beside c -/
def zk (P : Nat → Bool) : Nat → Nat → Nat → Nat
  | 0, _, c => c
  | n + 1, i, c => zk P n (i + 1) (if P i = true then c + 1 else c)
/-- f at n places from i on -/
def zl {α : Type} (f : Nat → α → α) : Nat → Nat → α → α
  | 0, _, u => u
  | n + 1, i, u => zl f n (i + 1) (f i u)
theorem zs_cases (P : Nat → Bool) : ∀ (n i : Nat), (zs P n i = -1 ∧ ∀ j, i ≤ j → j < i + n → P j = false) ∨ ∃ j, i ≤ j ∧ j < i + n ∧ P j = true ∧ zs P n i = nI j ∧ ∀ k, i ≤ k → k < j → P k = false
  | 0, i => Or.inl ⟨rfl, fun j h1 h2 => absurd h2 (by omega)⟩
  | n + 1, i => by
    by_cases h : P i = true
    · exact Or.inr ⟨i, Nat.le_refl i, by omega, h, by simp [zs, h], fun k h1 h2 => absurd h2 (by omega)⟩
    · have hf : P i = false := by simpa using h
      have e : zs P (n + 1) i = zs P n (i + 1) := by simp [zs, hf]
      rcases zs_cases P n (i + 1) with ⟨h1, h2⟩ | ⟨j, h1, h2, h3, h4, h5⟩
      · refine Or.inl ⟨e.trans h1, fun j a b => ?_⟩
        rcases Nat.eq_or_lt_of_le a with q | q
        · rw [← q]; exact hf
        · exact h2 j (by omega) (by omega)
      · refine Or.inr ⟨j, by omega, by omega, h3, e.trans h4, fun k a b => ?_⟩
        rcases Nat.eq_or_lt_of_le a with q | q
        · rw [← q]; exact hf
        · exact h5 k (by omega) b
theorem zn_cases (P : Nat → Bool) (t : Nat) : ∀ (n i : Nat), (zn P t n i = -1 ∧ ∀ j, i ≤ j → j < i + n → P ((t + j) % 15) = false) ∨ ∃ j, i ≤ j ∧ j < i + n ∧ P ((t + j) % 15) = true ∧ zn P t n i = nI ((t + j) % 15) ∧ ∀ k, i ≤ k → k < j → P ((t + k) % 15) = false
  | 0, i => Or.inl ⟨rfl, fun j h1 h2 => absurd h2 (by omega)⟩
  | n + 1, i => by
    by_cases h : P ((t + i) % 15) = true
    · exact Or.inr ⟨i, Nat.le_refl i, by omega, h, by simp [zn, h], fun k h1 h2 => absurd h2 (by omega)⟩
    · have hf : P ((t + i) % 15) = false := by simpa using h
      have e : zn P t (n + 1) i = zn P t n (i + 1) := by simp [zn, hf]
      rcases zn_cases P t n (i + 1) with ⟨h1, h2⟩ | ⟨j, h1, h2, h3, h4, h5⟩
      · refine Or.inl ⟨e.trans h1, fun j a b => ?_⟩
        rcases Nat.eq_or_lt_of_le a with q | q
        · rw [← q]; exact hf
        · exact h2 j (by omega) (by omega)
      · refine Or.inr ⟨j, by omega, by omega, h3, e.trans h4, fun k a b => ?_⟩
        rcases Nat.eq_or_lt_of_le a with q | q
        · rw [← q]; exact hf
        · exact h5 k (by omega) b
theorem zn_P_in {P : Nat → Bool} {t : Nat} (h : ¬ zn P t 15 1 = -1) : ∃ j, j < 15 ∧ P j = true ∧ zn P t 15 1 = nI j := by
  rcases zn_cases P t 15 1 with ⟨a, -⟩ | ⟨j, -, b, c, d, -⟩
  · exact absurd a h
  · exact ⟨(t + j) % 15, Nat.mod_lt _ (by decide), c, d⟩
theorem zz_six {y : Int32} (a : 0 ≤ y.toInt) (b : y.toInt ≤ 5) : y = 0 ∨ y = 1 ∨ y = 2 ∨ y = 3 ∨ y = 4 ∨ y = 5 := by
  have h : y.toInt = 0 ∨ y.toInt = 1 ∨ y.toInt = 2 ∨ y.toInt = 3 ∨ y.toInt = 4 ∨ y.toInt = 5 := by omega
  rcases h with q | q | q | q | q | q
  · exact Or.inl (Int32.toInt_inj.mp q)
  · exact Or.inr (Or.inl (Int32.toInt_inj.mp q))
  · exact Or.inr (Or.inr (Or.inl (Int32.toInt_inj.mp q)))
  · exact Or.inr (Or.inr (Or.inr (Or.inl (Int32.toInt_inj.mp q))))
  · exact Or.inr (Or.inr (Or.inr (Or.inr (Or.inl (Int32.toInt_inj.mp q)))))
  · exact Or.inr (Or.inr (Or.inr (Or.inr (Or.inr (Int32.toInt_inj.mp q)))))
theorem nI_m1 {j : Nat} (h : j < 2 ^ 31) : ¬ nI j = -1 := fun e => by
  have h1 := nI_toInt h
  rw [e] at h1
  have h2 : (-1 : Int32).toInt = -1 := by decide
  omega
def rIsE (u : St) : Int32 := if u 1 0 = 0 then 1 else 0
def rIsP (N : Nat) (x : Int32) : Int32 := if x < 0 then 0 else if nI N ≤ x then 0 else 1
def rBlk (u : St) (i : Nat) (r : Int32) : Int32 := if u 1 i = 3 then (if u 5 i = r then 1 else 0) else 0
def rChi (u : St) (i : Nat) (x : Int32) : Int32 := if u 1 i = 0 then 0 else if u 2 i = x then 1 else 0
def rOn (N : Nat) (u : St) (x : Int32) : Int32 := if rIsP N x = 0 then -1 else u 8 x.toNatClampNeg
def rPrc (N : Nat) (u : St) (x : Int32) : Int32 := zs (fun j => decide (u 8 j = x)) N 0
def rPlc (u : St) (x : Int32) : Int32 := zs (fun j => decide (¬ u 1 j = 0 ∧ u 0 j = x)) 15 0
def rFre (u : St) : Int32 := zs (fun j => decide (u 1 j = 0)) 15 0
def rHas (u : St) (x : Int32) : Int32 := if zs (fun j => decide (¬ rChi u j x = 0)) 15 0 = -1 then 0 else 1
def rFzc (u : St) (x : Int32) : Int32 := zs (fun j => decide (¬ rChi u j x = 0 ∧ u 1 j = 4)) 15 0
def rNxt (u : St) (t : Nat) : Int32 := zn (fun j => decide (u 1 j = 1)) t 15 1
def rSet (u : St) (i : Nat) (x y : Int32) : St := up2 (up2 (up2 u 0 i x) 2 i y) 1 i 1
def rClr (u : St) (i : Nat) : St := up2 (up2 (up2 (up2 (up2 (up2 (up2 (up2 u 0 i 0) 1 i 0) 2 i 0) 3 i 0) 4 i 0) 5 i 0) 6 i 0) 7 i 0
def rEmp (N : Nat) (u : St) : St := zl (fun i v => up2 v 8 i (-1)) N 0 (zl (fun i v => rClr v i) 15 0 u)
def rOff (u : St) (j i : Nat) (x : Int32) : St := up2 (up2 u 8 j (-1)) 1 i x
def rRdy (u : St) (i : Nat) : St := up2 (up2 u 1 i 1) 5 i 0
def rDwn (u : St) (i : Nat) : St := if 0 < (up2 u 7 i (u 7 i - 1)) 7 i then up2 u 7 i (u 7 i - 1) else rRdy (up2 u 7 i (u 7 i - 1)) i
def rTel (u : St) (x : Int32) : St := if rPlc u x = -1 then u else if rBlk u (rPlc u x).toNatClampNeg 2 = 0 then u else rRdy u (rPlc u x).toNatClampNeg
def rHnd1 (x : Int32) (i : Nat) (u : St) : St := if rChi u i x = 0 then u else if (up2 u 2 i 1) 1 i = 4 then rTel (up2 u 2 i 1) 1 else up2 u 2 i 1
def rHnd (u : St) (x : Int32) : St := zl (rHnd1 x) 15 0 u
theorem rIsP_ix {N : Nat} {x : Int32} (hN : N < 2 ^ 31) (h : ¬ rIsP N x = 0) : ∃ j, j < N ∧ x = nI j := by
  unfold rIsP at h
  rcases pk_ix x hN with q | q | q
  · rw [if_pos q] at h
    exact absurd rfl h
  · by_cases z : x < 0
    · rw [if_pos z] at h
      exact absurd rfl h
    · rw [if_neg z, if_pos q] at h
      exact absurd rfl h
  · exact q
theorem rIsP_in {N j : Nat} (hN : N < 2 ^ 31) (h : j < N) : rIsP N (nI j) = 1 := by
  unfold rIsP
  rw [if_neg (nI_pos (by omega)), if_neg (nI_ge h hN)]
theorem rOn_in {N j : Nat} {u : St} (hN : N < 2 ^ 31) (h : j < N) : rOn N u (nI j) = u 8 j := by
  unfold rOn
  rw [rIsP_in hN h, if_neg (by decide), nI_clamp (by omega)]
theorem zs_P_in {P : Nat → Bool} {n : Nat} (h : ¬ zs P n 0 = -1) : ∃ j, j < n ∧ P j = true ∧ zs P n 0 = nI j := by
  rcases zs_cases P n 0 with ⟨a, -⟩ | ⟨j, -, b, c, d, -⟩
  · exact absurd a h
  · exact ⟨j, by omega, c, d⟩
/-- what the walks need of a state: a processor holds a place or none; the place taken last is one -/
def rI (N : Nat) (u : St) : Prop := (∀ j, j < N → u 8 j = -1 ∨ ∃ i, i < 15 ∧ u 8 j = nI i) ∧ ∃ t, t < 15 ∧ u 9 0 = nI t
abbrev cl (x : Int32) : Nat := x.toNatClampNeg
theorem rOn_ix {N : Nat} {u : St} {x : Int32} (hN : N < 2 ^ 31) (hI : rI N u) (h : ¬ rOn N u x = -1) : ∃ j i, j < N ∧ i < 15 ∧ x = nI j ∧ rOn N u x = nI i := by
  by_cases hp : rIsP N x = 0
  · exact absurd (by unfold rOn; rw [if_pos hp]) h
  · obtain ⟨j, hj, rfl⟩ := rIsP_ix hN hp
    have e := rOn_in (u := u) hN hj
    rcases hI.1 j hj with q | ⟨i, hi, q⟩
    · exact absurd (e.trans q) h
    · exact ⟨j, i, hj, hi, rfl, e.trans q⟩
def rFst (u : St) : Int32 × St := if rIsE u = 0 then (0, u) else (1, rSet (up2 (up2 (up2 u 9 2 0) 9 0 14) 9 1 1) 0 1 0)
def rPck (N : Nat) (u : St) (x : Int32) : Int32 × St := if rIsP N x = 0 then (-1, u) else if u 8 (cl x) = -1 then (if rNxt u (cl (u 9 0)) = -1 then (-1, u) else (rNxt u (cl (u 9 0)), up2 (up2 (up2 u 1 (cl (rNxt u (cl (u 9 0)))) 2) 8 (cl x) (rNxt u (cl (u 9 0)))) 9 0 (rNxt u (cl (u 9 0))))) else (u 8 (cl x), u)
def rFrk (N : Nat) (u : St) (x : Int32) : Int32 × St := if rOn N u x = -1 then (-1, u) else if rFre u = -1 then (-1, u) else (rFre u, rSet (up2 u 9 1 (u 9 1 + 1)) (cl (rFre u)) ((up2 u 9 1 (u 9 1 + 1)) 9 1) ((up2 u 9 1 (u 9 1 + 1)) 0 (cl (rOn N u x))))
def rExt1 (u : St) (j i : Nat) (y : Int32) : St := up2 (rOff u j i 4) 4 i y
def rExt2 (u : St) (i : Nat) : St := rTel (rHnd u (u 0 i)) ((rHnd u (u 0 i)) 2 i)
def rExt (N : Nat) (u : St) (x y : Int32) : Int32 × St := if rOn N u x = -1 then (-1, u) else if rOn N u x = 0 then (rOn N u x, rEmp N (up2 u 9 3 y)) else (rOn N u x, rExt2 (rExt1 u (cl x) (cl (rOn N u x)) y) (cl (rOn N u x)))
def rAwt (N : Nat) (u : St) (x : Int32) : Int32 × St := if rOn N u x = -1 then (-1, u) else if rHas u (u 0 (cl (rOn N u x))) = 0 then (-1, u) else if rFzc u (u 0 (cl (rOn N u x))) = -1 then (0, up2 (rOff u (cl x) (cl (rOn N u x)) 3) 5 (cl (rOn N u x)) 2) else (u 0 (cl (rFzc u (u 0 (cl (rOn N u x))))), rClr (up2 u 9 3 (u 4 (cl (rFzc u (u 0 (cl (rOn N u x))))))) (cl (rFzc u (u 0 (cl (rOn N u x))))))
def rBlo (N : Nat) (u : St) (x y : Int32) : Int32 × St := if rOn N u x = -1 then (-1, u) else (rOn N u x, up2 (up2 (rOff u (cl x) (cl (rOn N u x)) 3) 5 (cl (rOn N u x)) 1) 6 (cl (rOn N u x)) y)
def rSlp (N : Nat) (u : St) (x y : Int32) : Int32 × St := if rOn N u x = -1 then (-1, u) else if 1 ≤ y then (rOn N u x, up2 (up2 (rOff u (cl x) (cl (rOn N u x)) 3) 5 (cl (rOn N u x)) 3) 7 (cl (rOn N u x)) y) else (rOn N u x, u)
def rWak1 (x : Int32) (i : Nat) (q : Nat × St) : Nat × St := if rBlk q.2 i 1 = 0 then q else if q.2 6 i = x then (q.1 + 1, rRdy q.2 i) else q
def rWak (u : St) (x : Int32) : Nat × St := zl (rWak1 x) 15 0 (0, u)
def rRst (N : Nat) (u : St) (x : Int32) : Int32 × St := if rOn N u x = -1 then (-1, u) else (rOn N u x, rOff u (cl x) (cl (rOn N u x)) 1)
def rTck1 (i : Nat) (v : St) : St := if rBlk v i 3 = 0 then v else rDwn v i
def rTck2 (N : Nat) (u : St) : St := zl (fun j v => (rRst N v (nI j)).2) N 0 (up2 u 9 2 (u 9 2 + 1))
def rTck (N : Nat) (u : St) : Int32 × St := if rIsE u = 0 then ((zl rTck1 15 0 (rTck2 N u)) 9 2, zl rTck1 15 0 (rTck2 N u)) else (-1, u)
def rKil (u : St) (x : Int32) : Int32 × St := if rPlc u x = -1 then (0, u) else if u 1 (cl (rPlc u x)) = 4 then (0, u) else if (up2 u 3 (cl (rPlc u x)) 1) 1 (cl (rPlc u x)) = 3 then (1, rRdy (up2 u 3 (cl (rPlc u x)) 1) (cl (rPlc u x))) else (1, up2 u 3 (cl (rPlc u x)) 1)
def rAbt (N : Nat) (u : St) (x y : Int32) : Int32 := if x < 0 then -1 else if x < 15 then (if u 1 (cl x) = 0 then (if y = 1 then 0 else -1) else if y = 0 then u 0 (cl x) else if y = 1 then u 1 (cl x) else if y = 2 then u 2 (cl x) else if y = 3 then (if u 3 (cl x) = 0 then 0 else 1) else if y = 4 then u 4 (cl x) else if y = 5 then rPrc N u x else -1) else -1
def rCnt (u : St) (x : Int32) : Int32 := if x < 0 then -1 else if x ≤ 4 then nI (zk (fun j => if x = 0 then decide (¬ u 1 j = 0) else decide (u 1 j = x)) 15 0 0) else -1
theorem rOff_I {N : Nat} {u : St} {j i : Nat} {x : Int32} (hI : rI N u) : rI N (rOff u j i x) := by
  refine ⟨fun k hk => ?_, hI.2⟩
  show upd (u 8) j (-1) k = -1 ∨ ∃ i, i < 15 ∧ upd (u 8) j (-1) k = nI i
  unfold upd
  by_cases e : k = j
  · exact Or.inl (if_pos e)
  · rw [if_neg e]
    exact hI.1 k hk
theorem rRst_I {N : Nat} {u : St} {x : Int32} (hI : rI N u) : rI N (rRst N u x).2 := by
  unfold rRst
  split
  · exact hI
  · exact rOff_I hI
def mk9 {α : Type} (x0 x1 x2 x3 x4 x5 x6 x7 x8 : α) : Nat → α := fun k => match k with
  | 0 => x0
  | 1 => x1
  | 2 => x2
  | 3 => x3
  | 4 => x4
  | 5 => x5
  | 6 => x6
  | 7 => x7
  | _ => x8
def rZ : St := fun _ _ => 0
def rNv (x : Int32) : Int32 := if 1 < (if x < 4 then x else 4) then (if x < 4 then x else 4) else 1
def rN (x : Int32) : Nat := cl (rNv x)
def rU0 (N : Nat) : St := up2 (up2 (up2 (up2 (zl (fun i v => up2 v 8 i (-1)) N 0 rZ) 9 0 14) 9 1 0) 9 2 0) 9 3 0
theorem rN_eq (x : Int32) : rNv x = nI (rN x) ∧ 1 ≤ rN x ∧ rN x ≤ 4 := by
  have h : 1 ≤ (rNv x).toInt ∧ (rNv x).toInt ≤ 4 := by
    unfold rNv
    have h4 : (4 : Int32).toInt = 4 := by decide
    have h1 : (1 : Int32).toInt = 1 := by decide
    by_cases a : x < 4
    · rw [if_pos a]
      by_cases b : 1 < x
      · rw [if_pos b]
        rw [Int32.lt_iff_toInt_lt] at a b
        omega
      · rw [if_neg b]
        omega
    · rw [if_neg a, if_pos (by decide)]
      omega
  have hp : ¬ rNv x < 0 := by
    rw [Int32.lt_iff_toInt_lt]
    have h0 : (0 : Int32).toInt = 0 := by decide
    omega
  obtain ⟨j, hj, e⟩ := nI_of hp
  have ej : rN x = j := by
    unfold rN cl
    rw [e, nI_clamp hj]
  rw [ej]
  refine ⟨e, ?_⟩
  rw [e, nI_toInt hj] at h
  omega
theorem up2_at (u : St) (k i : Nat) (x : Int32) (k' i' : Nat) : up2 u k i x k' i' = if k' = k ∧ i' = i then x else u k' i' := by
  unfold up2
  by_cases e : k' = k
  · subst e
    have : Nat.beq k' k' = true := Nat.beq_refl k'
    rw [this]
    simp [upd]
  · have : Nat.beq k' k = false := by
      rcases h : Nat.beq k' k with _ | _
      · rfl
      · exact absurd (Nat.eq_of_beq_eq_true h) e
    rw [this]
    simp [e]
theorem zs_congr {P Q : Nat → Bool} : ∀ (n i : Nat), (∀ j, i ≤ j → j < i + n → P j = Q j) → zs P n i = zs Q n i
  | 0, i, _ => rfl
  | n + 1, i, h => by
    have h0 := h i (Nat.le_refl i) (by omega)
    have h1 := zs_congr n (i + 1) (fun j a b => h j (by omega) (by omega))
    simp only [zs, h0, h1]
theorem zn_congr {P Q : Nat → Bool} {t : Nat} (h : ∀ j, j < 15 → P j = Q j) : ∀ (n i : Nat), zn P t n i = zn Q t n i
  | 0, i => rfl
  | n + 1, i => by
    have h0 := h ((t + i) % 15) (Nat.mod_lt _ (by decide))
    have h1 := zn_congr (t := t) h n (i + 1)
    simp only [zn, h0, h1]
theorem zk_congr {P Q : Nat → Bool} : ∀ (n i c : Nat), (∀ j, i ≤ j → j < i + n → P j = Q j) → zk P n i c = zk Q n i c
  | 0, i, c, _ => rfl
  | n + 1, i, c, h => by
    have h0 := h i (Nat.le_refl i) (by omega)
    simp only [zk, h0]
    exact zk_congr n (i + 1) _ (fun j a b => h j (by omega) (by omega))
theorem zl_rel {α β : Type} {f : Nat → α → α} {g : Nat → β → β} {Rel : α → β → Prop} : ∀ (n i : Nat) (u : α) (v : β), (∀ j x y, i ≤ j → j < i + n → Rel x y → Rel (f j x) (g j y)) → Rel u v → Rel (zl f n i u) (zl g n i v)
  | 0, i, u, v, _, h => h
  | n + 1, i, u, v, hs, h => zl_rel n (i + 1) _ _ (fun j x y a b r => hs j x y (by omega) (by omega) r) (hs i u v (Nat.le_refl i) (by omega) h)
theorem zl_inv {α : Type} {f : Nat → α → α} {I : Nat → α → Prop} : ∀ (n i : Nat) (u : α), (∀ j x, i ≤ j → j < i + n → I j x → I (j + 1) (f j x)) → I i u → I (i + n) (zl f n i u)
  | 0, i, u, _, h => h
  | n + 1, i, u, hs, h => by
    have := zl_inv (I := I) n (i + 1) (f i u) (fun j x a b r => hs j x (by omega) (by omega) r) (hs i u (Nat.le_refl i) (by omega) h)
    rw [show i + 1 + n = i + (n + 1) by omega] at this
    exact this
end
section
theorem me_obj : Cond.code objectInit ⟨#[0xb1]⟩ 1 none ∈ lw_gd := gdm (i := 39) (by decide +kernel) rfl
theorem im_obj : Cond.instanceMethod objectInit ∈ lw_gd := by decide +kernel
theorem st_min : Cond.static Lib.Math.min.name ∈ lw_gd := by decide +kernel
theorem cd_min : Cond.code Lib.Math.min.name Lib.Math.min.code 2 (some .int) ∈ lw_gd := gdm (i := 42) (by decide +kernel) rfl
theorem st_max : Cond.static Lib.Math.max.name ∈ lw_gd := by decide +kernel
theorem cd_max : Cond.code Lib.Math.max.name Lib.Math.max.code 2 (some .int) ∈ lw_gd := gdm (i := 45) (by decide +kernel) rfl
theorem it_math : Cond.initialized "java/lang/Math" ∈ lw_gd := by decide +kernel
theorem ar_int : Cond.arrayClass .int ∈ lw_gd := by decide +kernel
theorem ar_boolean : Cond.arrayClass .boolean ∈ lw_gd := by decide +kernel
def RX0 : String := "ProcRing"
def TX0 : u_T := fun k => match k with
  | 0 => ("ProcRing", "numbers", "[I", true)
  | 1 => ("ProcRing", "states", "[I", true)
  | 2 => ("ProcRing", "parents", "[I", true)
  | 3 => ("ProcRing", "killed", "[Z", true)
  | 4 => ("ProcRing", "endStatuses", "[I", true)
  | 5 => ("ProcRing", "waitsFor", "[I", true)
  | 6 => ("ProcRing", "channels", "[I", true)
  | 7 => ("ProcRing", "ticksLeft", "[I", true)
  | 8 => ("ProcRing", "placesOn", "[I", true)
  | 9 => ("ProcRing", "takenLast", "I", false)
  | 10 => ("ProcRing", "numberLast", "I", false)
  | 11 => ("ProcRing", "ticks", "I", false)
  | _ => ("ProcRing", "statusLatest", "I", false)
def tyX0 : Nat → FieldType := fun k => match k with
  | 0 => .array .int
  | 1 => .array .int
  | 2 => .array .int
  | 3 => .array .boolean
  | 4 => .array .int
  | 5 => .array .int
  | 6 => .array .int
  | 7 => .array .int
  | 8 => .array .int
  | 9 => .int
  | 10 => .int
  | 11 => .int
  | _ => .int
theorem nmX0 : ∀ a, a < 13 → ∀ b, b < 13 → a ≠ b → (TX0 a).2.1 ≠ (TX0 b).2.1 := by decide +kernel
theorem tyX0_ok : ∀ k, k < 13 → parseFieldDescriptor (TX0 k).2.2.1 = some (tyX0 k) := by decide +kernel
set_option maxRecDepth 100000 in
theorem inX0 : ∀ w ∈ u_ws RX0 TX0 13, w ∈ lw_gd := by decide +kernel
theorem imX0 {x : Cond} : ∀ w ∈ u_ws RX0 TX0 13, w ∈ x :: lw_gd := fun w h => List.mem_cons_of_mem _ (inX0 w h)
theorem itX0 : Cond.initialized RX0 ∈ lw_gd := by decide +kernel
theorem isX0 : Cond.instantiable RX0 13 ∈ lw_gd := by decide +kernel
theorem flX0_18 : Cond.fieldLink RX0 18 (TX0 0).1 (TX0 0).2.1 (TX0 0).2.2.1 ∈ lw_gd := gdm (i := 46) (by decide +kernel) rfl
theorem flX0_22 : Cond.fieldLink RX0 22 (TX0 1).1 (TX0 1).2.1 (TX0 1).2.2.1 ∈ lw_gd := gdm (i := 47) (by decide +kernel) rfl
theorem flX0_25 : Cond.fieldLink RX0 25 (TX0 2).1 (TX0 2).2.1 (TX0 2).2.2.1 ∈ lw_gd := gdm (i := 48) (by decide +kernel) rfl
theorem flX0_28 : Cond.fieldLink RX0 28 (TX0 3).1 (TX0 3).2.1 (TX0 3).2.2.1 ∈ lw_gd := gdm (i := 49) (by decide +kernel) rfl
theorem flX0_32 : Cond.fieldLink RX0 32 (TX0 4).1 (TX0 4).2.1 (TX0 4).2.2.1 ∈ lw_gd := gdm (i := 50) (by decide +kernel) rfl
theorem flX0_35 : Cond.fieldLink RX0 35 (TX0 5).1 (TX0 5).2.1 (TX0 5).2.2.1 ∈ lw_gd := gdm (i := 51) (by decide +kernel) rfl
theorem flX0_38 : Cond.fieldLink RX0 38 (TX0 6).1 (TX0 6).2.1 (TX0 6).2.2.1 ∈ lw_gd := gdm (i := 52) (by decide +kernel) rfl
theorem flX0_41 : Cond.fieldLink RX0 41 (TX0 7).1 (TX0 7).2.1 (TX0 7).2.2.1 ∈ lw_gd := gdm (i := 53) (by decide +kernel) rfl
theorem flX0_44 : Cond.fieldLink RX0 44 (TX0 8).1 (TX0 8).2.1 (TX0 8).2.2.1 ∈ lw_gd := gdm (i := 54) (by decide +kernel) rfl
theorem flX0_47 : Cond.fieldLink RX0 47 (TX0 9).1 (TX0 9).2.1 (TX0 9).2.2.1 ∈ lw_gd := gdm (i := 55) (by decide +kernel) rfl
theorem flX0_51 : Cond.fieldLink RX0 51 (TX0 10).1 (TX0 10).2.1 (TX0 10).2.2.1 ∈ lw_gd := gdm (i := 56) (by decide +kernel) rfl
theorem flX0_54 : Cond.fieldLink RX0 54 (TX0 11).1 (TX0 11).2.1 (TX0 11).2.2.1 ∈ lw_gd := gdm (i := 57) (by decide +kernel) rfl
theorem flX0_57 : Cond.fieldLink RX0 57 (TX0 12).1 (TX0 12).2.1 (TX0 12).2.2.1 ∈ lw_gd := gdm (i := 58) (by decide +kernel) rfl
abbrev cX0_init : ByteArray := prog_1_method_1_code
def yX0_init : MethodName := ⟨RX0, "<init>", "(I)V"⟩
def wsX0_init : List Cond := .code yX0_init cX0_init 4 none :: lw_gd
theorem cdX0_init : Cond.code yX0_init cX0_init 4 none ∈ lw_gd := gdm (i := 36) (by decide +kernel) rfl
theorem imX0_init : Cond.instanceMethod yX0_init ∈ lw_gd := by decide +kernel
theorem hdX0_init : yX0_init.cls ≠ "java/lang/invoke/MethodHandle" ∧ yX0_init.cls ≠ "java/lang/invoke/VarHandle" ∧ (parseMethodDescriptor yX0_init.desc).map (fun d => d.parameters.length) = some 1 := by decide +kernel
abbrev cX0_first : ByteArray := prog_1_method_2_code
def yX0_first : MethodName := ⟨RX0, "first", "()Z"⟩
def wsX0_first : List Cond := .code yX0_first cX0_first 1 (some .boolean) :: lw_gd
theorem cdX0_first : Cond.code yX0_first cX0_first 1 (some .boolean) ∈ lw_gd := gdm (i := 91) (by decide +kernel) rfl
theorem imX0_first : Cond.instanceMethod yX0_first ∈ lw_gd := by decide +kernel
theorem seX0_first : Cond.selects RX0 yX0_first yX0_first ∈ lw_gd := by decide +kernel
theorem hdX0_first : yX0_first.cls = RX0 ∧ yX0_first.cls ≠ "java/lang/invoke/MethodHandle" ∧ yX0_first.cls ≠ "java/lang/invoke/VarHandle" ∧ (parseMethodDescriptor yX0_first.desc).map (fun d => d.parameters.length) = some 0 := by decide +kernel
abbrev cX0_isEmptyRing : ByteArray := prog_1_method_16_code
def yX0_isEmptyRing : MethodName := ⟨RX0, "isEmptyRing", "()Z"⟩
def wsX0_isEmptyRing : List Cond := .code yX0_isEmptyRing cX0_isEmptyRing 1 (some .boolean) :: lw_gd
theorem cdX0_isEmptyRing : Cond.code yX0_isEmptyRing cX0_isEmptyRing 1 (some .boolean) ∈ lw_gd := gdm (i := 95) (by decide +kernel) rfl
theorem imX0_isEmptyRing : Cond.instanceMethod yX0_isEmptyRing ∈ lw_gd := by decide +kernel
theorem seX0_isEmptyRing : Cond.selects RX0 yX0_isEmptyRing yX0_isEmptyRing ∈ lw_gd := by decide +kernel
theorem hdX0_isEmptyRing : yX0_isEmptyRing.cls = RX0 ∧ yX0_isEmptyRing.cls ≠ "java/lang/invoke/MethodHandle" ∧ yX0_isEmptyRing.cls ≠ "java/lang/invoke/VarHandle" ∧ (parseMethodDescriptor yX0_isEmptyRing.desc).map (fun d => d.parameters.length) = some 0 := by decide +kernel
abbrev cX0_settle : ByteArray := prog_1_method_27_code
def yX0_settle : MethodName := ⟨RX0, "settle", "(III)V"⟩
def wsX0_settle : List Cond := .code yX0_settle cX0_settle 4 none :: lw_gd
theorem cdX0_settle : Cond.code yX0_settle cX0_settle 4 none ∈ lw_gd := gdm (i := 99) (by decide +kernel) rfl
theorem imX0_settle : Cond.instanceMethod yX0_settle ∈ lw_gd := by decide +kernel
theorem seX0_settle : Cond.selects RX0 yX0_settle yX0_settle ∈ lw_gd := by decide +kernel
theorem hdX0_settle : yX0_settle.cls = RX0 ∧ yX0_settle.cls ≠ "java/lang/invoke/MethodHandle" ∧ yX0_settle.cls ≠ "java/lang/invoke/VarHandle" ∧ (parseMethodDescriptor yX0_settle.desc).map (fun d => d.parameters.length) = some 3 := by decide +kernel
abbrev cX0_pick : ByteArray := prog_1_method_3_code
def yX0_pick : MethodName := ⟨RX0, "pick", "(I)I"⟩
def wsX0_pick : List Cond := .code yX0_pick cX0_pick 3 (some .int) :: lw_gd
theorem cdX0_pick : Cond.code yX0_pick cX0_pick 3 (some .int) ∈ lw_gd := gdm (i := 103) (by decide +kernel) rfl
theorem imX0_pick : Cond.instanceMethod yX0_pick ∈ lw_gd := by decide +kernel
theorem seX0_pick : Cond.selects RX0 yX0_pick yX0_pick ∈ lw_gd := by decide +kernel
theorem hdX0_pick : yX0_pick.cls = RX0 ∧ yX0_pick.cls ≠ "java/lang/invoke/MethodHandle" ∧ yX0_pick.cls ≠ "java/lang/invoke/VarHandle" ∧ (parseMethodDescriptor yX0_pick.desc).map (fun d => d.parameters.length) = some 1 := by decide +kernel
abbrev cX0_isProcessor : ByteArray := prog_1_method_17_code
def yX0_isProcessor : MethodName := ⟨RX0, "isProcessor", "(I)Z"⟩
def wsX0_isProcessor : List Cond := .code yX0_isProcessor cX0_isProcessor 2 (some .boolean) :: lw_gd
theorem cdX0_isProcessor : Cond.code yX0_isProcessor cX0_isProcessor 2 (some .boolean) ∈ lw_gd := gdm (i := 107) (by decide +kernel) rfl
theorem imX0_isProcessor : Cond.instanceMethod yX0_isProcessor ∈ lw_gd := by decide +kernel
theorem seX0_isProcessor : Cond.selects RX0 yX0_isProcessor yX0_isProcessor ∈ lw_gd := by decide +kernel
theorem hdX0_isProcessor : yX0_isProcessor.cls = RX0 ∧ yX0_isProcessor.cls ≠ "java/lang/invoke/MethodHandle" ∧ yX0_isProcessor.cls ≠ "java/lang/invoke/VarHandle" ∧ (parseMethodDescriptor yX0_isProcessor.desc).map (fun d => d.parameters.length) = some 1 := by decide +kernel
abbrev cX0_nextReady : ByteArray := prog_1_method_23_code
def yX0_nextReady : MethodName := ⟨RX0, "nextReady", "()I"⟩
def wsX0_nextReady : List Cond := .code yX0_nextReady cX0_nextReady 3 (some .int) :: lw_gd
theorem cdX0_nextReady : Cond.code yX0_nextReady cX0_nextReady 3 (some .int) ∈ lw_gd := gdm (i := 111) (by decide +kernel) rfl
theorem imX0_nextReady : Cond.instanceMethod yX0_nextReady ∈ lw_gd := by decide +kernel
theorem seX0_nextReady : Cond.selects RX0 yX0_nextReady yX0_nextReady ∈ lw_gd := by decide +kernel
theorem hdX0_nextReady : yX0_nextReady.cls = RX0 ∧ yX0_nextReady.cls ≠ "java/lang/invoke/MethodHandle" ∧ yX0_nextReady.cls ≠ "java/lang/invoke/VarHandle" ∧ (parseMethodDescriptor yX0_nextReady.desc).map (fun d => d.parameters.length) = some 0 := by decide +kernel
abbrev cX0_fork : ByteArray := prog_1_method_4_code
def yX0_fork : MethodName := ⟨RX0, "fork", "(I)I"⟩
def wsX0_fork : List Cond := .code yX0_fork cX0_fork 4 (some .int) :: lw_gd
theorem cdX0_fork : Cond.code yX0_fork cX0_fork 4 (some .int) ∈ lw_gd := gdm (i := 115) (by decide +kernel) rfl
theorem imX0_fork : Cond.instanceMethod yX0_fork ∈ lw_gd := by decide +kernel
theorem seX0_fork : Cond.selects RX0 yX0_fork yX0_fork ∈ lw_gd := by decide +kernel
theorem hdX0_fork : yX0_fork.cls = RX0 ∧ yX0_fork.cls ≠ "java/lang/invoke/MethodHandle" ∧ yX0_fork.cls ≠ "java/lang/invoke/VarHandle" ∧ (parseMethodDescriptor yX0_fork.desc).map (fun d => d.parameters.length) = some 1 := by decide +kernel
abbrev cX0_placeOn : ByteArray := prog_1_method_20_code
def yX0_placeOn : MethodName := ⟨RX0, "placeOn", "(I)I"⟩
def wsX0_placeOn : List Cond := .code yX0_placeOn cX0_placeOn 2 (some .int) :: lw_gd
theorem cdX0_placeOn : Cond.code yX0_placeOn cX0_placeOn 2 (some .int) ∈ lw_gd := gdm (i := 119) (by decide +kernel) rfl
theorem imX0_placeOn : Cond.instanceMethod yX0_placeOn ∈ lw_gd := by decide +kernel
theorem seX0_placeOn : Cond.selects RX0 yX0_placeOn yX0_placeOn ∈ lw_gd := by decide +kernel
theorem hdX0_placeOn : yX0_placeOn.cls = RX0 ∧ yX0_placeOn.cls ≠ "java/lang/invoke/MethodHandle" ∧ yX0_placeOn.cls ≠ "java/lang/invoke/VarHandle" ∧ (parseMethodDescriptor yX0_placeOn.desc).map (fun d => d.parameters.length) = some 1 := by decide +kernel
abbrev cX0_firstFree : ByteArray := prog_1_method_24_code
def yX0_firstFree : MethodName := ⟨RX0, "firstFree", "()I"⟩
def wsX0_firstFree : List Cond := .code yX0_firstFree cX0_firstFree 2 (some .int) :: lw_gd
theorem cdX0_firstFree : Cond.code yX0_firstFree cX0_firstFree 2 (some .int) ∈ lw_gd := gdm (i := 123) (by decide +kernel) rfl
theorem imX0_firstFree : Cond.instanceMethod yX0_firstFree ∈ lw_gd := by decide +kernel
theorem seX0_firstFree : Cond.selects RX0 yX0_firstFree yX0_firstFree ∈ lw_gd := by decide +kernel
theorem hdX0_firstFree : yX0_firstFree.cls = RX0 ∧ yX0_firstFree.cls ≠ "java/lang/invoke/MethodHandle" ∧ yX0_firstFree.cls ≠ "java/lang/invoke/VarHandle" ∧ (parseMethodDescriptor yX0_firstFree.desc).map (fun d => d.parameters.length) = some 0 := by decide +kernel
abbrev cX0_exit : ByteArray := prog_1_method_5_code
def yX0_exit : MethodName := ⟨RX0, "exit", "(II)I"⟩
def wsX0_exit : List Cond := .code yX0_exit cX0_exit 4 (some .int) :: lw_gd
theorem cdX0_exit : Cond.code yX0_exit cX0_exit 4 (some .int) ∈ lw_gd := gdm (i := 127) (by decide +kernel) rfl
theorem imX0_exit : Cond.instanceMethod yX0_exit ∈ lw_gd := by decide +kernel
theorem seX0_exit : Cond.selects RX0 yX0_exit yX0_exit ∈ lw_gd := by decide +kernel
theorem hdX0_exit : yX0_exit.cls = RX0 ∧ yX0_exit.cls ≠ "java/lang/invoke/MethodHandle" ∧ yX0_exit.cls ≠ "java/lang/invoke/VarHandle" ∧ (parseMethodDescriptor yX0_exit.desc).map (fun d => d.parameters.length) = some 2 := by decide +kernel
abbrev cX0_emptyRing : ByteArray := prog_1_method_29_code
def yX0_emptyRing : MethodName := ⟨RX0, "emptyRing", "()V"⟩
def wsX0_emptyRing : List Cond := .code yX0_emptyRing cX0_emptyRing 2 none :: lw_gd
theorem cdX0_emptyRing : Cond.code yX0_emptyRing cX0_emptyRing 2 none ∈ lw_gd := gdm (i := 131) (by decide +kernel) rfl
theorem imX0_emptyRing : Cond.instanceMethod yX0_emptyRing ∈ lw_gd := by decide +kernel
theorem seX0_emptyRing : Cond.selects RX0 yX0_emptyRing yX0_emptyRing ∈ lw_gd := by decide +kernel
theorem hdX0_emptyRing : yX0_emptyRing.cls = RX0 ∧ yX0_emptyRing.cls ≠ "java/lang/invoke/MethodHandle" ∧ yX0_emptyRing.cls ≠ "java/lang/invoke/VarHandle" ∧ (parseMethodDescriptor yX0_emptyRing.desc).map (fun d => d.parameters.length) = some 0 := by decide +kernel
abbrev cX0_clearPlace : ByteArray := prog_1_method_28_code
def yX0_clearPlace : MethodName := ⟨RX0, "clearPlace", "(I)V"⟩
def wsX0_clearPlace : List Cond := .code yX0_clearPlace cX0_clearPlace 2 none :: lw_gd
theorem cdX0_clearPlace : Cond.code yX0_clearPlace cX0_clearPlace 2 none ∈ lw_gd := gdm (i := 135) (by decide +kernel) rfl
theorem imX0_clearPlace : Cond.instanceMethod yX0_clearPlace ∈ lw_gd := by decide +kernel
theorem seX0_clearPlace : Cond.selects RX0 yX0_clearPlace yX0_clearPlace ∈ lw_gd := by decide +kernel
theorem hdX0_clearPlace : yX0_clearPlace.cls = RX0 ∧ yX0_clearPlace.cls ≠ "java/lang/invoke/MethodHandle" ∧ yX0_clearPlace.cls ≠ "java/lang/invoke/VarHandle" ∧ (parseMethodDescriptor yX0_clearPlace.desc).map (fun d => d.parameters.length) = some 1 := by decide +kernel
abbrev cX0_takeOff : ByteArray := prog_1_method_30_code
def yX0_takeOff : MethodName := ⟨RX0, "takeOff", "(III)V"⟩
def wsX0_takeOff : List Cond := .code yX0_takeOff cX0_takeOff 4 none :: lw_gd
theorem cdX0_takeOff : Cond.code yX0_takeOff cX0_takeOff 4 none ∈ lw_gd := gdm (i := 139) (by decide +kernel) rfl
theorem imX0_takeOff : Cond.instanceMethod yX0_takeOff ∈ lw_gd := by decide +kernel
theorem seX0_takeOff : Cond.selects RX0 yX0_takeOff yX0_takeOff ∈ lw_gd := by decide +kernel
theorem hdX0_takeOff : yX0_takeOff.cls = RX0 ∧ yX0_takeOff.cls ≠ "java/lang/invoke/MethodHandle" ∧ yX0_takeOff.cls ≠ "java/lang/invoke/VarHandle" ∧ (parseMethodDescriptor yX0_takeOff.desc).map (fun d => d.parameters.length) = some 3 := by decide +kernel
abbrev cX0_handOnChildren : ByteArray := prog_1_method_33_code
def yX0_handOnChildren : MethodName := ⟨RX0, "handOnChildren", "(I)V"⟩
def wsX0_handOnChildren : List Cond := .code yX0_handOnChildren cX0_handOnChildren 3 none :: lw_gd
theorem cdX0_handOnChildren : Cond.code yX0_handOnChildren cX0_handOnChildren 3 none ∈ lw_gd := gdm (i := 143) (by decide +kernel) rfl
theorem imX0_handOnChildren : Cond.instanceMethod yX0_handOnChildren ∈ lw_gd := by decide +kernel
theorem seX0_handOnChildren : Cond.selects RX0 yX0_handOnChildren yX0_handOnChildren ∈ lw_gd := by decide +kernel
theorem hdX0_handOnChildren : yX0_handOnChildren.cls = RX0 ∧ yX0_handOnChildren.cls ≠ "java/lang/invoke/MethodHandle" ∧ yX0_handOnChildren.cls ≠ "java/lang/invoke/VarHandle" ∧ (parseMethodDescriptor yX0_handOnChildren.desc).map (fun d => d.parameters.length) = some 1 := by decide +kernel
abbrev cX0_isChild : ByteArray := prog_1_method_19_code
def yX0_isChild : MethodName := ⟨RX0, "isChild", "(II)Z"⟩
def wsX0_isChild : List Cond := .code yX0_isChild cX0_isChild 3 (some .boolean) :: lw_gd
theorem cdX0_isChild : Cond.code yX0_isChild cX0_isChild 3 (some .boolean) ∈ lw_gd := gdm (i := 147) (by decide +kernel) rfl
theorem imX0_isChild : Cond.instanceMethod yX0_isChild ∈ lw_gd := by decide +kernel
theorem seX0_isChild : Cond.selects RX0 yX0_isChild yX0_isChild ∈ lw_gd := by decide +kernel
theorem hdX0_isChild : yX0_isChild.cls = RX0 ∧ yX0_isChild.cls ≠ "java/lang/invoke/MethodHandle" ∧ yX0_isChild.cls ≠ "java/lang/invoke/VarHandle" ∧ (parseMethodDescriptor yX0_isChild.desc).map (fun d => d.parameters.length) = some 2 := by decide +kernel
abbrev cX0_tellOfZombie : ByteArray := prog_1_method_34_code
def yX0_tellOfZombie : MethodName := ⟨RX0, "tellOfZombie", "(I)V"⟩
def wsX0_tellOfZombie : List Cond := .code yX0_tellOfZombie cX0_tellOfZombie 3 none :: lw_gd
theorem cdX0_tellOfZombie : Cond.code yX0_tellOfZombie cX0_tellOfZombie 3 none ∈ lw_gd := gdm (i := 151) (by decide +kernel) rfl
theorem imX0_tellOfZombie : Cond.instanceMethod yX0_tellOfZombie ∈ lw_gd := by decide +kernel
theorem seX0_tellOfZombie : Cond.selects RX0 yX0_tellOfZombie yX0_tellOfZombie ∈ lw_gd := by decide +kernel
theorem hdX0_tellOfZombie : yX0_tellOfZombie.cls = RX0 ∧ yX0_tellOfZombie.cls ≠ "java/lang/invoke/MethodHandle" ∧ yX0_tellOfZombie.cls ≠ "java/lang/invoke/VarHandle" ∧ (parseMethodDescriptor yX0_tellOfZombie.desc).map (fun d => d.parameters.length) = some 1 := by decide +kernel
abbrev cX0_placeOf : ByteArray := prog_1_method_22_code
def yX0_placeOf : MethodName := ⟨RX0, "placeOf", "(I)I"⟩
def wsX0_placeOf : List Cond := .code yX0_placeOf cX0_placeOf 3 (some .int) :: lw_gd
theorem cdX0_placeOf : Cond.code yX0_placeOf cX0_placeOf 3 (some .int) ∈ lw_gd := gdm (i := 155) (by decide +kernel) rfl
theorem imX0_placeOf : Cond.instanceMethod yX0_placeOf ∈ lw_gd := by decide +kernel
theorem seX0_placeOf : Cond.selects RX0 yX0_placeOf yX0_placeOf ∈ lw_gd := by decide +kernel
theorem hdX0_placeOf : yX0_placeOf.cls = RX0 ∧ yX0_placeOf.cls ≠ "java/lang/invoke/MethodHandle" ∧ yX0_placeOf.cls ≠ "java/lang/invoke/VarHandle" ∧ (parseMethodDescriptor yX0_placeOf.desc).map (fun d => d.parameters.length) = some 1 := by decide +kernel
abbrev cX0_isBlockedFor : ByteArray := prog_1_method_18_code
def yX0_isBlockedFor : MethodName := ⟨RX0, "isBlockedFor", "(II)Z"⟩
def wsX0_isBlockedFor : List Cond := .code yX0_isBlockedFor cX0_isBlockedFor 3 (some .boolean) :: lw_gd
theorem cdX0_isBlockedFor : Cond.code yX0_isBlockedFor cX0_isBlockedFor 3 (some .boolean) ∈ lw_gd := gdm (i := 159) (by decide +kernel) rfl
theorem imX0_isBlockedFor : Cond.instanceMethod yX0_isBlockedFor ∈ lw_gd := by decide +kernel
theorem seX0_isBlockedFor : Cond.selects RX0 yX0_isBlockedFor yX0_isBlockedFor ∈ lw_gd := by decide +kernel
theorem hdX0_isBlockedFor : yX0_isBlockedFor.cls = RX0 ∧ yX0_isBlockedFor.cls ≠ "java/lang/invoke/MethodHandle" ∧ yX0_isBlockedFor.cls ≠ "java/lang/invoke/VarHandle" ∧ (parseMethodDescriptor yX0_isBlockedFor.desc).map (fun d => d.parameters.length) = some 2 := by decide +kernel
abbrev cX0_makeReady : ByteArray := prog_1_method_31_code
def yX0_makeReady : MethodName := ⟨RX0, "makeReady", "(I)V"⟩
def wsX0_makeReady : List Cond := .code yX0_makeReady cX0_makeReady 2 none :: lw_gd
theorem cdX0_makeReady : Cond.code yX0_makeReady cX0_makeReady 2 none ∈ lw_gd := gdm (i := 163) (by decide +kernel) rfl
theorem imX0_makeReady : Cond.instanceMethod yX0_makeReady ∈ lw_gd := by decide +kernel
theorem seX0_makeReady : Cond.selects RX0 yX0_makeReady yX0_makeReady ∈ lw_gd := by decide +kernel
theorem hdX0_makeReady : yX0_makeReady.cls = RX0 ∧ yX0_makeReady.cls ≠ "java/lang/invoke/MethodHandle" ∧ yX0_makeReady.cls ≠ "java/lang/invoke/VarHandle" ∧ (parseMethodDescriptor yX0_makeReady.desc).map (fun d => d.parameters.length) = some 1 := by decide +kernel
abbrev cX0_await : ByteArray := prog_1_method_6_code
def yX0_await : MethodName := ⟨RX0, "await", "(I)I"⟩
def wsX0_await : List Cond := .code yX0_await cX0_await 5 (some .int) :: lw_gd
theorem cdX0_await : Cond.code yX0_await cX0_await 5 (some .int) ∈ lw_gd := gdm (i := 167) (by decide +kernel) rfl
theorem imX0_await : Cond.instanceMethod yX0_await ∈ lw_gd := by decide +kernel
theorem seX0_await : Cond.selects RX0 yX0_await yX0_await ∈ lw_gd := by decide +kernel
theorem hdX0_await : yX0_await.cls = RX0 ∧ yX0_await.cls ≠ "java/lang/invoke/MethodHandle" ∧ yX0_await.cls ≠ "java/lang/invoke/VarHandle" ∧ (parseMethodDescriptor yX0_await.desc).map (fun d => d.parameters.length) = some 1 := by decide +kernel
abbrev cX0_hasChild : ByteArray := prog_1_method_25_code
def yX0_hasChild : MethodName := ⟨RX0, "hasChild", "(I)Z"⟩
def wsX0_hasChild : List Cond := .code yX0_hasChild cX0_hasChild 3 (some .boolean) :: lw_gd
theorem cdX0_hasChild : Cond.code yX0_hasChild cX0_hasChild 3 (some .boolean) ∈ lw_gd := gdm (i := 171) (by decide +kernel) rfl
theorem imX0_hasChild : Cond.instanceMethod yX0_hasChild ∈ lw_gd := by decide +kernel
theorem seX0_hasChild : Cond.selects RX0 yX0_hasChild yX0_hasChild ∈ lw_gd := by decide +kernel
theorem hdX0_hasChild : yX0_hasChild.cls = RX0 ∧ yX0_hasChild.cls ≠ "java/lang/invoke/MethodHandle" ∧ yX0_hasChild.cls ≠ "java/lang/invoke/VarHandle" ∧ (parseMethodDescriptor yX0_hasChild.desc).map (fun d => d.parameters.length) = some 1 := by decide +kernel
abbrev cX0_firstZombieChild : ByteArray := prog_1_method_26_code
def yX0_firstZombieChild : MethodName := ⟨RX0, "firstZombieChild", "(I)I"⟩
def wsX0_firstZombieChild : List Cond := .code yX0_firstZombieChild cX0_firstZombieChild 3 (some .int) :: lw_gd
theorem cdX0_firstZombieChild : Cond.code yX0_firstZombieChild cX0_firstZombieChild 3 (some .int) ∈ lw_gd := gdm (i := 175) (by decide +kernel) rfl
theorem imX0_firstZombieChild : Cond.instanceMethod yX0_firstZombieChild ∈ lw_gd := by decide +kernel
theorem seX0_firstZombieChild : Cond.selects RX0 yX0_firstZombieChild yX0_firstZombieChild ∈ lw_gd := by decide +kernel
theorem hdX0_firstZombieChild : yX0_firstZombieChild.cls = RX0 ∧ yX0_firstZombieChild.cls ≠ "java/lang/invoke/MethodHandle" ∧ yX0_firstZombieChild.cls ≠ "java/lang/invoke/VarHandle" ∧ (parseMethodDescriptor yX0_firstZombieChild.desc).map (fun d => d.parameters.length) = some 1 := by decide +kernel
abbrev cX0_status : ByteArray := prog_1_method_7_code
def yX0_status : MethodName := ⟨RX0, "status", "()I"⟩
def wsX0_status : List Cond := .code yX0_status cX0_status 1 (some .int) :: lw_gd
theorem cdX0_status : Cond.code yX0_status cX0_status 1 (some .int) ∈ lw_gd := gdm (i := 179) (by decide +kernel) rfl
theorem imX0_status : Cond.instanceMethod yX0_status ∈ lw_gd := by decide +kernel
theorem seX0_status : Cond.selects RX0 yX0_status yX0_status ∈ lw_gd := by decide +kernel
theorem hdX0_status : yX0_status.cls = RX0 ∧ yX0_status.cls ≠ "java/lang/invoke/MethodHandle" ∧ yX0_status.cls ≠ "java/lang/invoke/VarHandle" ∧ (parseMethodDescriptor yX0_status.desc).map (fun d => d.parameters.length) = some 0 := by decide +kernel
abbrev cX0_block : ByteArray := prog_1_method_8_code
def yX0_block : MethodName := ⟨RX0, "block", "(II)I"⟩
def wsX0_block : List Cond := .code yX0_block cX0_block 4 (some .int) :: lw_gd
theorem cdX0_block : Cond.code yX0_block cX0_block 4 (some .int) ∈ lw_gd := gdm (i := 183) (by decide +kernel) rfl
theorem imX0_block : Cond.instanceMethod yX0_block ∈ lw_gd := by decide +kernel
theorem seX0_block : Cond.selects RX0 yX0_block yX0_block ∈ lw_gd := by decide +kernel
theorem hdX0_block : yX0_block.cls = RX0 ∧ yX0_block.cls ≠ "java/lang/invoke/MethodHandle" ∧ yX0_block.cls ≠ "java/lang/invoke/VarHandle" ∧ (parseMethodDescriptor yX0_block.desc).map (fun d => d.parameters.length) = some 2 := by decide +kernel
abbrev cX0_sleep : ByteArray := prog_1_method_9_code
def yX0_sleep : MethodName := ⟨RX0, "sleep", "(II)I"⟩
def wsX0_sleep : List Cond := .code yX0_sleep cX0_sleep 4 (some .int) :: lw_gd
theorem cdX0_sleep : Cond.code yX0_sleep cX0_sleep 4 (some .int) ∈ lw_gd := gdm (i := 187) (by decide +kernel) rfl
theorem imX0_sleep : Cond.instanceMethod yX0_sleep ∈ lw_gd := by decide +kernel
theorem seX0_sleep : Cond.selects RX0 yX0_sleep yX0_sleep ∈ lw_gd := by decide +kernel
theorem hdX0_sleep : yX0_sleep.cls = RX0 ∧ yX0_sleep.cls ≠ "java/lang/invoke/MethodHandle" ∧ yX0_sleep.cls ≠ "java/lang/invoke/VarHandle" ∧ (parseMethodDescriptor yX0_sleep.desc).map (fun d => d.parameters.length) = some 2 := by decide +kernel
abbrev cX0_wake : ByteArray := prog_1_method_10_code
def yX0_wake : MethodName := ⟨RX0, "wake", "(I)I"⟩
def wsX0_wake : List Cond := .code yX0_wake cX0_wake 4 (some .int) :: lw_gd
theorem cdX0_wake : Cond.code yX0_wake cX0_wake 4 (some .int) ∈ lw_gd := gdm (i := 191) (by decide +kernel) rfl
theorem imX0_wake : Cond.instanceMethod yX0_wake ∈ lw_gd := by decide +kernel
theorem seX0_wake : Cond.selects RX0 yX0_wake yX0_wake ∈ lw_gd := by decide +kernel
theorem hdX0_wake : yX0_wake.cls = RX0 ∧ yX0_wake.cls ≠ "java/lang/invoke/MethodHandle" ∧ yX0_wake.cls ≠ "java/lang/invoke/VarHandle" ∧ (parseMethodDescriptor yX0_wake.desc).map (fun d => d.parameters.length) = some 1 := by decide +kernel
abbrev cX0_rest : ByteArray := prog_1_method_11_code
def yX0_rest : MethodName := ⟨RX0, "rest", "(I)I"⟩
def wsX0_rest : List Cond := .code yX0_rest cX0_rest 3 (some .int) :: lw_gd
theorem cdX0_rest : Cond.code yX0_rest cX0_rest 3 (some .int) ∈ lw_gd := gdm (i := 195) (by decide +kernel) rfl
theorem imX0_rest : Cond.instanceMethod yX0_rest ∈ lw_gd := by decide +kernel
theorem seX0_rest : Cond.selects RX0 yX0_rest yX0_rest ∈ lw_gd := by decide +kernel
theorem hdX0_rest : yX0_rest.cls = RX0 ∧ yX0_rest.cls ≠ "java/lang/invoke/MethodHandle" ∧ yX0_rest.cls ≠ "java/lang/invoke/VarHandle" ∧ (parseMethodDescriptor yX0_rest.desc).map (fun d => d.parameters.length) = some 1 := by decide +kernel
abbrev cX0_tick : ByteArray := prog_1_method_12_code
def yX0_tick : MethodName := ⟨RX0, "tick", "()I"⟩
def wsX0_tick : List Cond := .code yX0_tick cX0_tick 2 (some .int) :: lw_gd
theorem cdX0_tick : Cond.code yX0_tick cX0_tick 2 (some .int) ∈ lw_gd := gdm (i := 199) (by decide +kernel) rfl
theorem imX0_tick : Cond.instanceMethod yX0_tick ∈ lw_gd := by decide +kernel
theorem seX0_tick : Cond.selects RX0 yX0_tick yX0_tick ∈ lw_gd := by decide +kernel
theorem hdX0_tick : yX0_tick.cls = RX0 ∧ yX0_tick.cls ≠ "java/lang/invoke/MethodHandle" ∧ yX0_tick.cls ≠ "java/lang/invoke/VarHandle" ∧ (parseMethodDescriptor yX0_tick.desc).map (fun d => d.parameters.length) = some 0 := by decide +kernel
abbrev cX0_countDown : ByteArray := prog_1_method_32_code
def yX0_countDown : MethodName := ⟨RX0, "countDown", "(I)V"⟩
def wsX0_countDown : List Cond := .code yX0_countDown cX0_countDown 2 none :: lw_gd
theorem cdX0_countDown : Cond.code yX0_countDown cX0_countDown 2 none ∈ lw_gd := gdm (i := 204) (by decide +kernel) rfl
theorem imX0_countDown : Cond.instanceMethod yX0_countDown ∈ lw_gd := by decide +kernel
theorem seX0_countDown : Cond.selects RX0 yX0_countDown yX0_countDown ∈ lw_gd := by decide +kernel
theorem hdX0_countDown : yX0_countDown.cls = RX0 ∧ yX0_countDown.cls ≠ "java/lang/invoke/MethodHandle" ∧ yX0_countDown.cls ≠ "java/lang/invoke/VarHandle" ∧ (parseMethodDescriptor yX0_countDown.desc).map (fun d => d.parameters.length) = some 1 := by decide +kernel
abbrev cX0_kill : ByteArray := prog_1_method_13_code
def yX0_kill : MethodName := ⟨RX0, "kill", "(I)Z"⟩
def wsX0_kill : List Cond := .code yX0_kill cX0_kill 3 (some .boolean) :: lw_gd
theorem cdX0_kill : Cond.code yX0_kill cX0_kill 3 (some .boolean) ∈ lw_gd := gdm (i := 208) (by decide +kernel) rfl
theorem imX0_kill : Cond.instanceMethod yX0_kill ∈ lw_gd := by decide +kernel
theorem seX0_kill : Cond.selects RX0 yX0_kill yX0_kill ∈ lw_gd := by decide +kernel
theorem hdX0_kill : yX0_kill.cls = RX0 ∧ yX0_kill.cls ≠ "java/lang/invoke/MethodHandle" ∧ yX0_kill.cls ≠ "java/lang/invoke/VarHandle" ∧ (parseMethodDescriptor yX0_kill.desc).map (fun d => d.parameters.length) = some 1 := by decide +kernel
abbrev cX0_about : ByteArray := prog_1_method_14_code
def yX0_about : MethodName := ⟨RX0, "about", "(II)I"⟩
def wsX0_about : List Cond := .code yX0_about cX0_about 3 (some .int) :: lw_gd
theorem cdX0_about : Cond.code yX0_about cX0_about 3 (some .int) ∈ lw_gd := gdm (i := 212) (by decide +kernel) rfl
theorem imX0_about : Cond.instanceMethod yX0_about ∈ lw_gd := by decide +kernel
theorem seX0_about : Cond.selects RX0 yX0_about yX0_about ∈ lw_gd := by decide +kernel
theorem hdX0_about : yX0_about.cls = RX0 ∧ yX0_about.cls ≠ "java/lang/invoke/MethodHandle" ∧ yX0_about.cls ≠ "java/lang/invoke/VarHandle" ∧ (parseMethodDescriptor yX0_about.desc).map (fun d => d.parameters.length) = some 2 := by decide +kernel
abbrev cX0_processorOf : ByteArray := prog_1_method_21_code
def yX0_processorOf : MethodName := ⟨RX0, "processorOf", "(I)I"⟩
def wsX0_processorOf : List Cond := .code yX0_processorOf cX0_processorOf 3 (some .int) :: lw_gd
theorem cdX0_processorOf : Cond.code yX0_processorOf cX0_processorOf 3 (some .int) ∈ lw_gd := gdm (i := 216) (by decide +kernel) rfl
theorem imX0_processorOf : Cond.instanceMethod yX0_processorOf ∈ lw_gd := by decide +kernel
theorem seX0_processorOf : Cond.selects RX0 yX0_processorOf yX0_processorOf ∈ lw_gd := by decide +kernel
theorem hdX0_processorOf : yX0_processorOf.cls = RX0 ∧ yX0_processorOf.cls ≠ "java/lang/invoke/MethodHandle" ∧ yX0_processorOf.cls ≠ "java/lang/invoke/VarHandle" ∧ (parseMethodDescriptor yX0_processorOf.desc).map (fun d => d.parameters.length) = some 1 := by decide +kernel
abbrev cX0_count : ByteArray := prog_1_method_15_code
def yX0_count : MethodName := ⟨RX0, "count", "(I)I"⟩
def wsX0_count : List Cond := .code yX0_count cX0_count 5 (some .int) :: lw_gd
theorem cdX0_count : Cond.code yX0_count cX0_count 5 (some .int) ∈ lw_gd := gdm (i := 220) (by decide +kernel) rfl
theorem imX0_count : Cond.instanceMethod yX0_count ∈ lw_gd := by decide +kernel
theorem seX0_count : Cond.selects RX0 yX0_count yX0_count ∈ lw_gd := by decide +kernel
theorem hdX0_count : yX0_count.cls = RX0 ∧ yX0_count.cls ≠ "java/lang/invoke/MethodHandle" ∧ yX0_count.cls ≠ "java/lang/invoke/VarHandle" ∧ (parseMethodDescriptor yX0_count.desc).map (fun d => d.parameters.length) = some 1 := by decide +kernel
def RX1 : String := "ProcRingModel"
def TX1 : u_T := fun k => match k with
  | 0 => ("ProcRingModel", "thrown", "I", false)
  | 1 => ("ProcRingModel", "processors", "I", true)
  | 2 => ("ProcRingModel", "many", "I", false)
  | 3 => ("ProcRingModel", "ticks", "I", false)
  | 4 => ("ProcRingModel", "latest", "I", false)
  | 5 => ("ProcRingModel", "taken", "I", false)
  | 6 => ("ProcRingModel", "status", "I", false)
  | 7 => ("ProcRingModel", "number", "[I", true)
  | 8 => ("ProcRingModel", "place", "[I", true)
  | 9 => ("ProcRingModel", "parent", "[I", true)
  | 10 => ("ProcRingModel", "ended", "[Z", true)
  | 11 => ("ProcRingModel", "result", "[I", true)
  | 12 => ("ProcRingModel", "killed", "[Z", true)
  | 13 => ("ProcRingModel", "on", "[I", true)
  | 14 => ("ProcRingModel", "waits", "[I", true)
  | _ => ("ProcRingModel", "which", "[I", true)
def tyX1 : Nat → FieldType := fun k => match k with
  | 0 => .int
  | 1 => .int
  | 2 => .int
  | 3 => .int
  | 4 => .int
  | 5 => .int
  | 6 => .int
  | 7 => .array .int
  | 8 => .array .int
  | 9 => .array .int
  | 10 => .array .boolean
  | 11 => .array .int
  | 12 => .array .boolean
  | 13 => .array .int
  | 14 => .array .int
  | _ => .array .int
theorem nmX1 : ∀ a, a < 16 → ∀ b, b < 16 → a ≠ b → (TX1 a).2.1 ≠ (TX1 b).2.1 := by decide +kernel
theorem tyX1_ok : ∀ k, k < 16 → parseFieldDescriptor (TX1 k).2.2.1 = some (tyX1 k) := by decide +kernel
set_option maxRecDepth 100000 in
theorem inX1 : ∀ w ∈ u_ws RX1 TX1 16, w ∈ lw_gd := by decide +kernel
theorem imX1 {x : Cond} : ∀ w ∈ u_ws RX1 TX1 16, w ∈ x :: lw_gd := fun w h => List.mem_cons_of_mem _ (inX1 w h)
theorem itX1 : Cond.initialized RX1 ∈ lw_gd := by decide +kernel
theorem isX1 : Cond.instantiable RX1 16 ∈ lw_gd := by decide +kernel
theorem flX1_42 : Cond.fieldLink RX1 42 (TX1 0).1 (TX1 0).2.1 (TX1 0).2.2.1 ∈ lw_gd := gdm (i := 230) (by decide +kernel) rfl
theorem flX1_38 : Cond.fieldLink RX1 38 (TX1 1).1 (TX1 1).2.1 (TX1 1).2.2.1 ∈ lw_gd := gdm (i := 231) (by decide +kernel) rfl
theorem flX1_45 : Cond.fieldLink RX1 45 (TX1 2).1 (TX1 2).2.1 (TX1 2).2.2.1 ∈ lw_gd := gdm (i := 232) (by decide +kernel) rfl
theorem flX1_55 : Cond.fieldLink RX1 55 (TX1 3).1 (TX1 3).2.1 (TX1 3).2.2.1 ∈ lw_gd := gdm (i := 233) (by decide +kernel) rfl
theorem flX1_58 : Cond.fieldLink RX1 58 (TX1 4).1 (TX1 4).2.1 (TX1 4).2.2.1 ∈ lw_gd := gdm (i := 234) (by decide +kernel) rfl
theorem flX1_61 : Cond.fieldLink RX1 61 (TX1 5).1 (TX1 5).2.1 (TX1 5).2.2.1 ∈ lw_gd := gdm (i := 235) (by decide +kernel) rfl
theorem flX1_78 : Cond.fieldLink RX1 78 (TX1 6).1 (TX1 6).2.1 (TX1 6).2.2.1 ∈ lw_gd := gdm (i := 236) (by decide +kernel) rfl
theorem flX1_7 : Cond.fieldLink RX1 7 (TX1 7).1 (TX1 7).2.1 (TX1 7).2.2.1 ∈ lw_gd := gdm (i := 237) (by decide +kernel) rfl
theorem flX1_13 : Cond.fieldLink RX1 13 (TX1 8).1 (TX1 8).2.1 (TX1 8).2.2.1 ∈ lw_gd := gdm (i := 238) (by decide +kernel) rfl
theorem flX1_16 : Cond.fieldLink RX1 16 (TX1 9).1 (TX1 9).2.1 (TX1 9).2.2.1 ∈ lw_gd := gdm (i := 239) (by decide +kernel) rfl
theorem flX1_19 : Cond.fieldLink RX1 19 (TX1 10).1 (TX1 10).2.1 (TX1 10).2.2.1 ∈ lw_gd := gdm (i := 240) (by decide +kernel) rfl
theorem flX1_23 : Cond.fieldLink RX1 23 (TX1 11).1 (TX1 11).2.1 (TX1 11).2.2.1 ∈ lw_gd := gdm (i := 241) (by decide +kernel) rfl
theorem flX1_26 : Cond.fieldLink RX1 26 (TX1 12).1 (TX1 12).2.1 (TX1 12).2.2.1 ∈ lw_gd := gdm (i := 242) (by decide +kernel) rfl
theorem flX1_29 : Cond.fieldLink RX1 29 (TX1 13).1 (TX1 13).2.1 (TX1 13).2.2.1 ∈ lw_gd := gdm (i := 243) (by decide +kernel) rfl
theorem flX1_32 : Cond.fieldLink RX1 32 (TX1 14).1 (TX1 14).2.1 (TX1 14).2.2.1 ∈ lw_gd := gdm (i := 244) (by decide +kernel) rfl
theorem flX1_35 : Cond.fieldLink RX1 35 (TX1 15).1 (TX1 15).2.1 (TX1 15).2.2.1 ∈ lw_gd := gdm (i := 245) (by decide +kernel) rfl
abbrev cX1_init : ByteArray := prog_3_method_1_code
def yX1_init : MethodName := ⟨RX1, "<init>", "(I)V"⟩
def wsX1_init : List Cond := .code yX1_init cX1_init 2 none :: lw_gd
theorem cdX1_init : Cond.code yX1_init cX1_init 2 none ∈ lw_gd := gdm (i := 228) (by decide +kernel) rfl
theorem imX1_init : Cond.instanceMethod yX1_init ∈ lw_gd := by decide +kernel
theorem hdX1_init : yX1_init.cls ≠ "java/lang/invoke/MethodHandle" ∧ yX1_init.cls ≠ "java/lang/invoke/VarHandle" ∧ (parseMethodDescriptor yX1_init.desc).map (fun d => d.parameters.length) = some 1 := by decide +kernel
abbrev cX1_first : ByteArray := prog_3_method_11_code
def yX1_first : MethodName := ⟨RX1, "first", "()Z"⟩
def wsX1_first : List Cond := .code yX1_first cX1_first 2 (some .boolean) :: lw_gd
theorem cdX1_first : Cond.code yX1_first cX1_first 2 (some .boolean) ∈ lw_gd := gdm (i := 282) (by decide +kernel) rfl
theorem imX1_first : Cond.instanceMethod yX1_first ∈ lw_gd := by decide +kernel
theorem seX1_first : Cond.selects RX1 yX1_first yX1_first ∈ lw_gd := by decide +kernel
theorem hdX1_first : yX1_first.cls = RX1 ∧ yX1_first.cls ≠ "java/lang/invoke/MethodHandle" ∧ yX1_first.cls ≠ "java/lang/invoke/VarHandle" ∧ (parseMethodDescriptor yX1_first.desc).map (fun d => d.parameters.length) = some 0 := by decide +kernel
abbrev cX1_add : ByteArray := prog_3_method_9_code
def yX1_add : MethodName := ⟨RX1, "add", "(II)I"⟩
def wsX1_add : List Cond := .code yX1_add cX1_add 3 (some .int) :: lw_gd
theorem cdX1_add : Cond.code yX1_add cX1_add 3 (some .int) ∈ lw_gd := gdm (i := 286) (by decide +kernel) rfl
theorem imX1_add : Cond.instanceMethod yX1_add ∈ lw_gd := by decide +kernel
theorem seX1_add : Cond.selects RX1 yX1_add yX1_add ∈ lw_gd := by decide +kernel
theorem hdX1_add : yX1_add.cls = RX1 ∧ yX1_add.cls ≠ "java/lang/invoke/MethodHandle" ∧ yX1_add.cls ≠ "java/lang/invoke/VarHandle" ∧ (parseMethodDescriptor yX1_add.desc).map (fun d => d.parameters.length) = some 2 := by decide +kernel
abbrev cX1_pick : ByteArray := prog_3_method_12_code
def yX1_pick : MethodName := ⟨RX1, "pick", "(I)I"⟩
def wsX1_pick : List Cond := .code yX1_pick cX1_pick 5 (some .int) :: lw_gd
theorem cdX1_pick : Cond.code yX1_pick cX1_pick 5 (some .int) ∈ lw_gd := gdm (i := 290) (by decide +kernel) rfl
theorem imX1_pick : Cond.instanceMethod yX1_pick ∈ lw_gd := by decide +kernel
theorem seX1_pick : Cond.selects RX1 yX1_pick yX1_pick ∈ lw_gd := by decide +kernel
theorem hdX1_pick : yX1_pick.cls = RX1 ∧ yX1_pick.cls ≠ "java/lang/invoke/MethodHandle" ∧ yX1_pick.cls ≠ "java/lang/invoke/VarHandle" ∧ (parseMethodDescriptor yX1_pick.desc).map (fun d => d.parameters.length) = some 1 := by decide +kernel
abbrev cX1_running : ByteArray := prog_3_method_5_code
def yX1_running : MethodName := ⟨RX1, "running", "(I)I"⟩
def wsX1_running : List Cond := .code yX1_running cX1_running 4 (some .int) :: lw_gd
theorem cdX1_running : Cond.code yX1_running cX1_running 4 (some .int) ∈ lw_gd := gdm (i := 294) (by decide +kernel) rfl
theorem imX1_running : Cond.instanceMethod yX1_running ∈ lw_gd := by decide +kernel
theorem seX1_running : Cond.selects RX1 yX1_running yX1_running ∈ lw_gd := by decide +kernel
theorem hdX1_running : yX1_running.cls = RX1 ∧ yX1_running.cls ≠ "java/lang/invoke/MethodHandle" ∧ yX1_running.cls ≠ "java/lang/invoke/VarHandle" ∧ (parseMethodDescriptor yX1_running.desc).map (fun d => d.parameters.length) = some 1 := by decide +kernel
abbrev cX1_ofPlace : ByteArray := prog_3_method_3_code
def yX1_ofPlace : MethodName := ⟨RX1, "ofPlace", "(I)I"⟩
def wsX1_ofPlace : List Cond := .code yX1_ofPlace cX1_ofPlace 4 (some .int) :: lw_gd
theorem cdX1_ofPlace : Cond.code yX1_ofPlace cX1_ofPlace 4 (some .int) ∈ lw_gd := gdm (i := 298) (by decide +kernel) rfl
theorem imX1_ofPlace : Cond.instanceMethod yX1_ofPlace ∈ lw_gd := by decide +kernel
theorem seX1_ofPlace : Cond.selects RX1 yX1_ofPlace yX1_ofPlace ∈ lw_gd := by decide +kernel
theorem hdX1_ofPlace : yX1_ofPlace.cls = RX1 ∧ yX1_ofPlace.cls ≠ "java/lang/invoke/MethodHandle" ∧ yX1_ofPlace.cls ≠ "java/lang/invoke/VarHandle" ∧ (parseMethodDescriptor yX1_ofPlace.desc).map (fun d => d.parameters.length) = some 1 := by decide +kernel
abbrev cX1_state : ByteArray := prog_3_method_8_code
def yX1_state : MethodName := ⟨RX1, "state", "(I)I"⟩
def wsX1_state : List Cond := .code yX1_state cX1_state 3 (some .int) :: lw_gd
theorem cdX1_state : Cond.code yX1_state cX1_state 3 (some .int) ∈ lw_gd := gdm (i := 302) (by decide +kernel) rfl
theorem imX1_state : Cond.instanceMethod yX1_state ∈ lw_gd := by decide +kernel
theorem seX1_state : Cond.selects RX1 yX1_state yX1_state ∈ lw_gd := by decide +kernel
theorem hdX1_state : yX1_state.cls = RX1 ∧ yX1_state.cls ≠ "java/lang/invoke/MethodHandle" ∧ yX1_state.cls ≠ "java/lang/invoke/VarHandle" ∧ (parseMethodDescriptor yX1_state.desc).map (fun d => d.parameters.length) = some 1 := by decide +kernel
abbrev cX1_endedChild : ByteArray := prog_3_method_7_code
def yX1_endedChild : MethodName := ⟨RX1, "endedChild", "(I)I"⟩
def wsX1_endedChild : List Cond := .code yX1_endedChild cX1_endedChild 4 (some .int) :: lw_gd
theorem cdX1_endedChild : Cond.code yX1_endedChild cX1_endedChild 4 (some .int) ∈ lw_gd := gdm (i := 306) (by decide +kernel) rfl
theorem imX1_endedChild : Cond.instanceMethod yX1_endedChild ∈ lw_gd := by decide +kernel
theorem seX1_endedChild : Cond.selects RX1 yX1_endedChild yX1_endedChild ∈ lw_gd := by decide +kernel
theorem hdX1_endedChild : yX1_endedChild.cls = RX1 ∧ yX1_endedChild.cls ≠ "java/lang/invoke/MethodHandle" ∧ yX1_endedChild.cls ≠ "java/lang/invoke/VarHandle" ∧ (parseMethodDescriptor yX1_endedChild.desc).map (fun d => d.parameters.length) = some 1 := by decide +kernel
abbrev cX1_fork : ByteArray := prog_3_method_13_code
def yX1_fork : MethodName := ⟨RX1, "fork", "(I)I"⟩
def wsX1_fork : List Cond := .code yX1_fork cX1_fork 4 (some .int) :: lw_gd
theorem cdX1_fork : Cond.code yX1_fork cX1_fork 4 (some .int) ∈ lw_gd := gdm (i := 310) (by decide +kernel) rfl
theorem imX1_fork : Cond.instanceMethod yX1_fork ∈ lw_gd := by decide +kernel
theorem seX1_fork : Cond.selects RX1 yX1_fork yX1_fork ∈ lw_gd := by decide +kernel
theorem hdX1_fork : yX1_fork.cls = RX1 ∧ yX1_fork.cls ≠ "java/lang/invoke/MethodHandle" ∧ yX1_fork.cls ≠ "java/lang/invoke/VarHandle" ∧ (parseMethodDescriptor yX1_fork.desc).map (fun d => d.parameters.length) = some 1 := by decide +kernel
abbrev cX1_vacant : ByteArray := prog_3_method_6_code
def yX1_vacant : MethodName := ⟨RX1, "vacant", "()I"⟩
def wsX1_vacant : List Cond := .code yX1_vacant cX1_vacant 2 (some .int) :: lw_gd
theorem cdX1_vacant : Cond.code yX1_vacant cX1_vacant 2 (some .int) ∈ lw_gd := gdm (i := 314) (by decide +kernel) rfl
theorem imX1_vacant : Cond.instanceMethod yX1_vacant ∈ lw_gd := by decide +kernel
theorem seX1_vacant : Cond.selects RX1 yX1_vacant yX1_vacant ∈ lw_gd := by decide +kernel
theorem hdX1_vacant : yX1_vacant.cls = RX1 ∧ yX1_vacant.cls ≠ "java/lang/invoke/MethodHandle" ∧ yX1_vacant.cls ≠ "java/lang/invoke/VarHandle" ∧ (parseMethodDescriptor yX1_vacant.desc).map (fun d => d.parameters.length) = some 0 := by decide +kernel
abbrev cX1_exit : ByteArray := prog_3_method_14_code
def yX1_exit : MethodName := ⟨RX1, "exit", "(II)I"⟩
def wsX1_exit : List Cond := .code yX1_exit cX1_exit 6 (some .int) :: lw_gd
theorem cdX1_exit : Cond.code yX1_exit cX1_exit 6 (some .int) ∈ lw_gd := gdm (i := 318) (by decide +kernel) rfl
theorem imX1_exit : Cond.instanceMethod yX1_exit ∈ lw_gd := by decide +kernel
theorem seX1_exit : Cond.selects RX1 yX1_exit yX1_exit ∈ lw_gd := by decide +kernel
theorem hdX1_exit : yX1_exit.cls = RX1 ∧ yX1_exit.cls ≠ "java/lang/invoke/MethodHandle" ∧ yX1_exit.cls ≠ "java/lang/invoke/VarHandle" ∧ (parseMethodDescriptor yX1_exit.desc).map (fun d => d.parameters.length) = some 2 := by decide +kernel
abbrev cX1_await : ByteArray := prog_3_method_15_code
def yX1_await : MethodName := ⟨RX1, "await", "(I)I"⟩
def wsX1_await : List Cond := .code yX1_await cX1_await 6 (some .int) :: lw_gd
theorem cdX1_await : Cond.code yX1_await cX1_await 6 (some .int) ∈ lw_gd := gdm (i := 322) (by decide +kernel) rfl
theorem imX1_await : Cond.instanceMethod yX1_await ∈ lw_gd := by decide +kernel
theorem seX1_await : Cond.selects RX1 yX1_await yX1_await ∈ lw_gd := by decide +kernel
theorem hdX1_await : yX1_await.cls = RX1 ∧ yX1_await.cls ≠ "java/lang/invoke/MethodHandle" ∧ yX1_await.cls ≠ "java/lang/invoke/VarHandle" ∧ (parseMethodDescriptor yX1_await.desc).map (fun d => d.parameters.length) = some 1 := by decide +kernel
abbrev cX1_waitsFor : ByteArray := prog_3_method_17_code
def yX1_waitsFor : MethodName := ⟨RX1, "waitsFor", "(III)I"⟩
def wsX1_waitsFor : List Cond := .code yX1_waitsFor cX1_waitsFor 4 (some .int) :: lw_gd
theorem cdX1_waitsFor : Cond.code yX1_waitsFor cX1_waitsFor 4 (some .int) ∈ lw_gd := gdm (i := 326) (by decide +kernel) rfl
theorem imX1_waitsFor : Cond.instanceMethod yX1_waitsFor ∈ lw_gd := by decide +kernel
theorem seX1_waitsFor : Cond.selects RX1 yX1_waitsFor yX1_waitsFor ∈ lw_gd := by decide +kernel
theorem hdX1_waitsFor : yX1_waitsFor.cls = RX1 ∧ yX1_waitsFor.cls ≠ "java/lang/invoke/MethodHandle" ∧ yX1_waitsFor.cls ≠ "java/lang/invoke/VarHandle" ∧ (parseMethodDescriptor yX1_waitsFor.desc).map (fun d => d.parameters.length) = some 3 := by decide +kernel
abbrev cX1_remove : ByteArray := prog_3_method_10_code
def yX1_remove : MethodName := ⟨RX1, "remove", "(I)V"⟩
def wsX1_remove : List Cond := .code yX1_remove cX1_remove 3 none :: lw_gd
theorem cdX1_remove : Cond.code yX1_remove cX1_remove 3 none ∈ lw_gd := gdm (i := 330) (by decide +kernel) rfl
theorem imX1_remove : Cond.instanceMethod yX1_remove ∈ lw_gd := by decide +kernel
theorem seX1_remove : Cond.selects RX1 yX1_remove yX1_remove ∈ lw_gd := by decide +kernel
theorem hdX1_remove : yX1_remove.cls = RX1 ∧ yX1_remove.cls ≠ "java/lang/invoke/MethodHandle" ∧ yX1_remove.cls ≠ "java/lang/invoke/VarHandle" ∧ (parseMethodDescriptor yX1_remove.desc).map (fun d => d.parameters.length) = some 1 := by decide +kernel
abbrev cX1_status : ByteArray := prog_3_method_16_code
def yX1_status : MethodName := ⟨RX1, "status", "()I"⟩
def wsX1_status : List Cond := .code yX1_status cX1_status 1 (some .int) :: lw_gd
theorem cdX1_status : Cond.code yX1_status cX1_status 1 (some .int) ∈ lw_gd := gdm (i := 334) (by decide +kernel) rfl
theorem imX1_status : Cond.instanceMethod yX1_status ∈ lw_gd := by decide +kernel
theorem seX1_status : Cond.selects RX1 yX1_status yX1_status ∈ lw_gd := by decide +kernel
theorem hdX1_status : yX1_status.cls = RX1 ∧ yX1_status.cls ≠ "java/lang/invoke/MethodHandle" ∧ yX1_status.cls ≠ "java/lang/invoke/VarHandle" ∧ (parseMethodDescriptor yX1_status.desc).map (fun d => d.parameters.length) = some 0 := by decide +kernel
abbrev cX1_block : ByteArray := prog_3_method_18_code
def yX1_block : MethodName := ⟨RX1, "block", "(II)I"⟩
def wsX1_block : List Cond := .code yX1_block cX1_block 4 (some .int) :: lw_gd
theorem cdX1_block : Cond.code yX1_block cX1_block 4 (some .int) ∈ lw_gd := gdm (i := 338) (by decide +kernel) rfl
theorem imX1_block : Cond.instanceMethod yX1_block ∈ lw_gd := by decide +kernel
theorem seX1_block : Cond.selects RX1 yX1_block yX1_block ∈ lw_gd := by decide +kernel
theorem hdX1_block : yX1_block.cls = RX1 ∧ yX1_block.cls ≠ "java/lang/invoke/MethodHandle" ∧ yX1_block.cls ≠ "java/lang/invoke/VarHandle" ∧ (parseMethodDescriptor yX1_block.desc).map (fun d => d.parameters.length) = some 2 := by decide +kernel
abbrev cX1_sleep : ByteArray := prog_3_method_19_code
def yX1_sleep : MethodName := ⟨RX1, "sleep", "(II)I"⟩
def wsX1_sleep : List Cond := .code yX1_sleep cX1_sleep 4 (some .int) :: lw_gd
theorem cdX1_sleep : Cond.code yX1_sleep cX1_sleep 4 (some .int) ∈ lw_gd := gdm (i := 342) (by decide +kernel) rfl
theorem imX1_sleep : Cond.instanceMethod yX1_sleep ∈ lw_gd := by decide +kernel
theorem seX1_sleep : Cond.selects RX1 yX1_sleep yX1_sleep ∈ lw_gd := by decide +kernel
theorem hdX1_sleep : yX1_sleep.cls = RX1 ∧ yX1_sleep.cls ≠ "java/lang/invoke/MethodHandle" ∧ yX1_sleep.cls ≠ "java/lang/invoke/VarHandle" ∧ (parseMethodDescriptor yX1_sleep.desc).map (fun d => d.parameters.length) = some 2 := by decide +kernel
abbrev cX1_wake : ByteArray := prog_3_method_20_code
def yX1_wake : MethodName := ⟨RX1, "wake", "(I)I"⟩
def wsX1_wake : List Cond := .code yX1_wake cX1_wake 4 (some .int) :: lw_gd
theorem cdX1_wake : Cond.code yX1_wake cX1_wake 4 (some .int) ∈ lw_gd := gdm (i := 347) (by decide +kernel) rfl
theorem imX1_wake : Cond.instanceMethod yX1_wake ∈ lw_gd := by decide +kernel
theorem seX1_wake : Cond.selects RX1 yX1_wake yX1_wake ∈ lw_gd := by decide +kernel
theorem hdX1_wake : yX1_wake.cls = RX1 ∧ yX1_wake.cls ≠ "java/lang/invoke/MethodHandle" ∧ yX1_wake.cls ≠ "java/lang/invoke/VarHandle" ∧ (parseMethodDescriptor yX1_wake.desc).map (fun d => d.parameters.length) = some 1 := by decide +kernel
abbrev cX1_rest : ByteArray := prog_3_method_21_code
def yX1_rest : MethodName := ⟨RX1, "rest", "(I)I"⟩
def wsX1_rest : List Cond := .code yX1_rest cX1_rest 3 (some .int) :: lw_gd
theorem cdX1_rest : Cond.code yX1_rest cX1_rest 3 (some .int) ∈ lw_gd := gdm (i := 351) (by decide +kernel) rfl
theorem imX1_rest : Cond.instanceMethod yX1_rest ∈ lw_gd := by decide +kernel
theorem seX1_rest : Cond.selects RX1 yX1_rest yX1_rest ∈ lw_gd := by decide +kernel
theorem hdX1_rest : yX1_rest.cls = RX1 ∧ yX1_rest.cls ≠ "java/lang/invoke/MethodHandle" ∧ yX1_rest.cls ≠ "java/lang/invoke/VarHandle" ∧ (parseMethodDescriptor yX1_rest.desc).map (fun d => d.parameters.length) = some 1 := by decide +kernel
abbrev cX1_tick : ByteArray := prog_3_method_22_code
def yX1_tick : MethodName := ⟨RX1, "tick", "()I"⟩
def wsX1_tick : List Cond := .code yX1_tick cX1_tick 2 (some .int) :: lw_gd
theorem cdX1_tick : Cond.code yX1_tick cX1_tick 2 (some .int) ∈ lw_gd := gdm (i := 355) (by decide +kernel) rfl
theorem imX1_tick : Cond.instanceMethod yX1_tick ∈ lw_gd := by decide +kernel
theorem seX1_tick : Cond.selects RX1 yX1_tick yX1_tick ∈ lw_gd := by decide +kernel
theorem hdX1_tick : yX1_tick.cls = RX1 ∧ yX1_tick.cls ≠ "java/lang/invoke/MethodHandle" ∧ yX1_tick.cls ≠ "java/lang/invoke/VarHandle" ∧ (parseMethodDescriptor yX1_tick.desc).map (fun d => d.parameters.length) = some 0 := by decide +kernel
abbrev cX1_kill : ByteArray := prog_3_method_23_code
def yX1_kill : MethodName := ⟨RX1, "kill", "(I)Z"⟩
def wsX1_kill : List Cond := .code yX1_kill cX1_kill 3 (some .boolean) :: lw_gd
theorem cdX1_kill : Cond.code yX1_kill cX1_kill 3 (some .boolean) ∈ lw_gd := gdm (i := 359) (by decide +kernel) rfl
theorem imX1_kill : Cond.instanceMethod yX1_kill ∈ lw_gd := by decide +kernel
theorem seX1_kill : Cond.selects RX1 yX1_kill yX1_kill ∈ lw_gd := by decide +kernel
theorem hdX1_kill : yX1_kill.cls = RX1 ∧ yX1_kill.cls ≠ "java/lang/invoke/MethodHandle" ∧ yX1_kill.cls ≠ "java/lang/invoke/VarHandle" ∧ (parseMethodDescriptor yX1_kill.desc).map (fun d => d.parameters.length) = some 1 := by decide +kernel
abbrev cX1_ofNumber : ByteArray := prog_3_method_4_code
def yX1_ofNumber : MethodName := ⟨RX1, "ofNumber", "(I)I"⟩
def wsX1_ofNumber : List Cond := .code yX1_ofNumber cX1_ofNumber 4 (some .int) :: lw_gd
theorem cdX1_ofNumber : Cond.code yX1_ofNumber cX1_ofNumber 4 (some .int) ∈ lw_gd := gdm (i := 363) (by decide +kernel) rfl
theorem imX1_ofNumber : Cond.instanceMethod yX1_ofNumber ∈ lw_gd := by decide +kernel
theorem seX1_ofNumber : Cond.selects RX1 yX1_ofNumber yX1_ofNumber ∈ lw_gd := by decide +kernel
theorem hdX1_ofNumber : yX1_ofNumber.cls = RX1 ∧ yX1_ofNumber.cls ≠ "java/lang/invoke/MethodHandle" ∧ yX1_ofNumber.cls ≠ "java/lang/invoke/VarHandle" ∧ (parseMethodDescriptor yX1_ofNumber.desc).map (fun d => d.parameters.length) = some 1 := by decide +kernel
abbrev cX1_about : ByteArray := prog_3_method_24_code
def yX1_about : MethodName := ⟨RX1, "about", "(II)I"⟩
def wsX1_about : List Cond := .code yX1_about cX1_about 4 (some .int) :: lw_gd
theorem cdX1_about : Cond.code yX1_about cX1_about 4 (some .int) ∈ lw_gd := gdm (i := 367) (by decide +kernel) rfl
theorem imX1_about : Cond.instanceMethod yX1_about ∈ lw_gd := by decide +kernel
theorem seX1_about : Cond.selects RX1 yX1_about yX1_about ∈ lw_gd := by decide +kernel
theorem hdX1_about : yX1_about.cls = RX1 ∧ yX1_about.cls ≠ "java/lang/invoke/MethodHandle" ∧ yX1_about.cls ≠ "java/lang/invoke/VarHandle" ∧ (parseMethodDescriptor yX1_about.desc).map (fun d => d.parameters.length) = some 2 := by decide +kernel
abbrev cX1_count : ByteArray := prog_3_method_25_code
def yX1_count : MethodName := ⟨RX1, "count", "(I)I"⟩
def wsX1_count : List Cond := .code yX1_count cX1_count 4 (some .int) :: lw_gd
theorem cdX1_count : Cond.code yX1_count cX1_count 4 (some .int) ∈ lw_gd := gdm (i := 371) (by decide +kernel) rfl
theorem imX1_count : Cond.instanceMethod yX1_count ∈ lw_gd := by decide +kernel
theorem seX1_count : Cond.selects RX1 yX1_count yX1_count ∈ lw_gd := by decide +kernel
theorem hdX1_count : yX1_count.cls = RX1 ∧ yX1_count.cls ≠ "java/lang/invoke/MethodHandle" ∧ yX1_count.cls ≠ "java/lang/invoke/VarHandle" ∧ (parseMethodDescriptor yX1_count.desc).map (fun d => d.parameters.length) = some 1 := by decide +kernel
abbrev RL : String := "ProcRingLaw"
abbrev cL_cell : ByteArray := method_2_code
def yL_cell : MethodName := ⟨RL, "cell", "([II)I"⟩
def wsL_cell : List Cond := .code yL_cell cL_cell 2 (some .int) :: lw_gd
theorem cdL_cell : Cond.code yL_cell cL_cell 2 (some .int) ∈ lw_gd := gdm (i := 223) (by decide +kernel) rfl
theorem stL_cell : Cond.static yL_cell ∈ lw_gd := by decide +kernel
theorem itL : Cond.initialized RL ∈ lw_gd := by decide +kernel
theorem clL_7 : Cond.classLink RL 7 RX0 ∈ lw_gd := by decide +kernel
theorem lkL_15 : Cond.methodLink RL 15 yX0_init ∈ lw_gd := gdm (i := 34) (by decide +kernel) rfl
theorem lkX0_1 : Cond.methodLink RX0 1 objectInit ∈ lw_gd := gdm (i := 37) (by decide +kernel) rfl
theorem lkX0_9 : Cond.methodLink RX0 9 Lib.Math.min.name ∈ lw_gd := gdm (i := 40) (by decide +kernel) rfl
theorem lkX0_15 : Cond.methodLink RX0 15 Lib.Math.max.name ∈ lw_gd := gdm (i := 43) (by decide +kernel) rfl
theorem lkL_21 : Cond.methodLink RL 21 yX0_first ∈ lw_gd := gdm (i := 88) (by decide +kernel) rfl
theorem lkX0_60 : Cond.methodLink RX0 60 yX0_isEmptyRing ∈ lw_gd := gdm (i := 92) (by decide +kernel) rfl
theorem lkX0_64 : Cond.methodLink RX0 64 yX0_settle ∈ lw_gd := gdm (i := 96) (by decide +kernel) rfl
theorem lkL_26 : Cond.methodLink RL 26 yX0_pick ∈ lw_gd := gdm (i := 100) (by decide +kernel) rfl
theorem lkX0_68 : Cond.methodLink RX0 68 yX0_isProcessor ∈ lw_gd := gdm (i := 104) (by decide +kernel) rfl
theorem lkX0_72 : Cond.methodLink RX0 72 yX0_nextReady ∈ lw_gd := gdm (i := 108) (by decide +kernel) rfl
theorem lkL_31 : Cond.methodLink RL 31 yX0_fork ∈ lw_gd := gdm (i := 112) (by decide +kernel) rfl
theorem lkX0_76 : Cond.methodLink RX0 76 yX0_placeOn ∈ lw_gd := gdm (i := 116) (by decide +kernel) rfl
theorem lkX0_80 : Cond.methodLink RX0 80 yX0_firstFree ∈ lw_gd := gdm (i := 120) (by decide +kernel) rfl
theorem lkL_35 : Cond.methodLink RL 35 yX0_exit ∈ lw_gd := gdm (i := 124) (by decide +kernel) rfl
theorem lkX0_83 : Cond.methodLink RX0 83 yX0_emptyRing ∈ lw_gd := gdm (i := 128) (by decide +kernel) rfl
theorem lkX0_102 : Cond.methodLink RX0 102 yX0_clearPlace ∈ lw_gd := gdm (i := 132) (by decide +kernel) rfl
theorem lkX0_86 : Cond.methodLink RX0 86 yX0_takeOff ∈ lw_gd := gdm (i := 136) (by decide +kernel) rfl
theorem lkX0_89 : Cond.methodLink RX0 89 yX0_handOnChildren ∈ lw_gd := gdm (i := 140) (by decide +kernel) rfl
theorem lkX0_124 : Cond.methodLink RX0 124 yX0_isChild ∈ lw_gd := gdm (i := 144) (by decide +kernel) rfl
theorem lkX0_93 : Cond.methodLink RX0 93 yX0_tellOfZombie ∈ lw_gd := gdm (i := 148) (by decide +kernel) rfl
theorem lkX0_118 : Cond.methodLink RX0 118 yX0_placeOf ∈ lw_gd := gdm (i := 152) (by decide +kernel) rfl
theorem lkX0_105 : Cond.methodLink RX0 105 yX0_isBlockedFor ∈ lw_gd := gdm (i := 156) (by decide +kernel) rfl
theorem lkX0_109 : Cond.methodLink RX0 109 yX0_makeReady ∈ lw_gd := gdm (i := 160) (by decide +kernel) rfl
theorem lkL_40 : Cond.methodLink RL 40 yX0_await ∈ lw_gd := gdm (i := 164) (by decide +kernel) rfl
theorem lkX0_96 : Cond.methodLink RX0 96 yX0_hasChild ∈ lw_gd := gdm (i := 168) (by decide +kernel) rfl
theorem lkX0_99 : Cond.methodLink RX0 99 yX0_firstZombieChild ∈ lw_gd := gdm (i := 172) (by decide +kernel) rfl
theorem lkL_44 : Cond.methodLink RL 44 yX0_status ∈ lw_gd := gdm (i := 176) (by decide +kernel) rfl
theorem lkL_49 : Cond.methodLink RL 49 yX0_block ∈ lw_gd := gdm (i := 180) (by decide +kernel) rfl
theorem lkL_53 : Cond.methodLink RL 53 yX0_sleep ∈ lw_gd := gdm (i := 184) (by decide +kernel) rfl
theorem lkL_57 : Cond.methodLink RL 57 yX0_wake ∈ lw_gd := gdm (i := 188) (by decide +kernel) rfl
theorem lkL_61 : Cond.methodLink RL 61 yX0_rest ∈ lw_gd := gdm (i := 192) (by decide +kernel) rfl
theorem lkL_65 : Cond.methodLink RL 65 yX0_tick ∈ lw_gd := gdm (i := 196) (by decide +kernel) rfl
theorem lkX0_112 : Cond.methodLink RX0 112 yX0_rest ∈ lw_gd := gdm (i := 200) (by decide +kernel) rfl
theorem lkX0_115 : Cond.methodLink RX0 115 yX0_countDown ∈ lw_gd := gdm (i := 201) (by decide +kernel) rfl
theorem lkL_69 : Cond.methodLink RL 69 yX0_kill ∈ lw_gd := gdm (i := 205) (by decide +kernel) rfl
theorem lkL_74 : Cond.methodLink RL 74 yX0_about ∈ lw_gd := gdm (i := 209) (by decide +kernel) rfl
theorem lkX0_121 : Cond.methodLink RX0 121 yX0_processorOf ∈ lw_gd := gdm (i := 213) (by decide +kernel) rfl
theorem lkL_78 : Cond.methodLink RL 78 yX0_count ∈ lw_gd := gdm (i := 217) (by decide +kernel) rfl
theorem lkL_9 : Cond.methodLink RL 9 yL_cell ∈ lw_gd := gdm (i := 221) (by decide +kernel) rfl
theorem clL_18 : Cond.classLink RL 18 RX1 ∈ lw_gd := by decide +kernel
theorem lkL_20 : Cond.methodLink RL 20 yX1_init ∈ lw_gd := gdm (i := 226) (by decide +kernel) rfl
theorem lkX1_1 : Cond.methodLink RX1 1 objectInit ∈ lw_gd := gdm (i := 229) (by decide +kernel) rfl
theorem lkL_25 : Cond.methodLink RL 25 yX1_first ∈ lw_gd := gdm (i := 279) (by decide +kernel) rfl
theorem lkX1_64 : Cond.methodLink RX1 64 yX1_add ∈ lw_gd := gdm (i := 283) (by decide +kernel) rfl
theorem lkL_30 : Cond.methodLink RL 30 yX1_pick ∈ lw_gd := gdm (i := 287) (by decide +kernel) rfl
theorem lkX1_68 : Cond.methodLink RX1 68 yX1_running ∈ lw_gd := gdm (i := 291) (by decide +kernel) rfl
theorem lkX1_48 : Cond.methodLink RX1 48 yX1_ofPlace ∈ lw_gd := gdm (i := 295) (by decide +kernel) rfl
theorem lkX1_71 : Cond.methodLink RX1 71 yX1_state ∈ lw_gd := gdm (i := 299) (by decide +kernel) rfl
theorem lkX1_52 : Cond.methodLink RX1 52 yX1_endedChild ∈ lw_gd := gdm (i := 303) (by decide +kernel) rfl
theorem lkL_34 : Cond.methodLink RL 34 yX1_fork ∈ lw_gd := gdm (i := 307) (by decide +kernel) rfl
theorem lkX1_74 : Cond.methodLink RX1 74 yX1_vacant ∈ lw_gd := gdm (i := 311) (by decide +kernel) rfl
theorem lkL_39 : Cond.methodLink RL 39 yX1_exit ∈ lw_gd := gdm (i := 315) (by decide +kernel) rfl
theorem lkL_43 : Cond.methodLink RL 43 yX1_await ∈ lw_gd := gdm (i := 319) (by decide +kernel) rfl
theorem lkX1_81 : Cond.methodLink RX1 81 yX1_waitsFor ∈ lw_gd := gdm (i := 323) (by decide +kernel) rfl
theorem lkX1_85 : Cond.methodLink RX1 85 yX1_remove ∈ lw_gd := gdm (i := 327) (by decide +kernel) rfl
theorem lkL_48 : Cond.methodLink RL 48 yX1_status ∈ lw_gd := gdm (i := 331) (by decide +kernel) rfl
theorem lkL_52 : Cond.methodLink RL 52 yX1_block ∈ lw_gd := gdm (i := 335) (by decide +kernel) rfl
theorem lkL_56 : Cond.methodLink RL 56 yX1_sleep ∈ lw_gd := gdm (i := 339) (by decide +kernel) rfl
theorem lkL_60 : Cond.methodLink RL 60 yX1_wake ∈ lw_gd := gdm (i := 344) (by decide +kernel) rfl
theorem lkL_64 : Cond.methodLink RL 64 yX1_rest ∈ lw_gd := gdm (i := 348) (by decide +kernel) rfl
theorem lkL_68 : Cond.methodLink RL 68 yX1_tick ∈ lw_gd := gdm (i := 352) (by decide +kernel) rfl
theorem lkL_73 : Cond.methodLink RL 73 yX1_kill ∈ lw_gd := gdm (i := 356) (by decide +kernel) rfl
theorem lkX1_90 : Cond.methodLink RX1 90 yX1_ofNumber ∈ lw_gd := gdm (i := 360) (by decide +kernel) rfl
theorem lkL_77 : Cond.methodLink RL 77 yX1_about ∈ lw_gd := gdm (i := 364) (by decide +kernel) rfl
theorem lkL_81 : Cond.methodLink RL 81 yX1_count ∈ lw_gd := gdm (i := 368) (by decide +kernel) rfl
abbrev vwCl : List vw_C := [(RX0, TX0, 13), (RX1, TX1, 16)]
end
section
theorem dX0_init_0 : decode cX0_init 0 = .ok (.aload_n 0, 1) := by decide +kernel
theorem dX0_init_1 : decode cX0_init 1 = .ok (.invokespecial 1, 3) := by decide +kernel
theorem dX0_init_4 : decode cX0_init 4 = .ok (.iconst 1, 1) := by decide +kernel
theorem dX0_init_5 : decode cX0_init 5 = .ok (.iconst 4, 1) := by decide +kernel
theorem dX0_init_6 : decode cX0_init 6 = .ok (.iload_n 1, 1) := by decide +kernel
theorem dX0_init_7 : decode cX0_init 7 = .ok (.invokestatic 9, 3) := by decide +kernel
theorem dX0_init_10 : decode cX0_init 10 = .ok (.invokestatic 15, 3) := by decide +kernel
theorem dX0_init_13 : decode cX0_init 13 = .ok (.istore_n 2, 1) := by decide +kernel
theorem dX0_init_14 : decode cX0_init 14 = .ok (.aload_n 0, 1) := by decide +kernel
theorem dX0_init_15 : decode cX0_init 15 = .ok (.bipush 15, 2) := by decide +kernel
theorem dX0_init_17 : decode cX0_init 17 = .ok (.newarray .int, 2) := by decide +kernel
theorem dX0_init_19 : decode cX0_init 19 = .ok (.putfield 18, 3) := by decide +kernel
theorem dX0_init_22 : decode cX0_init 22 = .ok (.aload_n 0, 1) := by decide +kernel
theorem dX0_init_23 : decode cX0_init 23 = .ok (.bipush 15, 2) := by decide +kernel
theorem dX0_init_25 : decode cX0_init 25 = .ok (.newarray .int, 2) := by decide +kernel
theorem dX0_init_27 : decode cX0_init 27 = .ok (.putfield 22, 3) := by decide +kernel
theorem dX0_init_30 : decode cX0_init 30 = .ok (.aload_n 0, 1) := by decide +kernel
theorem dX0_init_31 : decode cX0_init 31 = .ok (.bipush 15, 2) := by decide +kernel
theorem dX0_init_33 : decode cX0_init 33 = .ok (.newarray .int, 2) := by decide +kernel
theorem dX0_init_35 : decode cX0_init 35 = .ok (.putfield 25, 3) := by decide +kernel
theorem dX0_init_38 : decode cX0_init 38 = .ok (.aload_n 0, 1) := by decide +kernel
theorem dX0_init_39 : decode cX0_init 39 = .ok (.bipush 15, 2) := by decide +kernel
theorem dX0_init_41 : decode cX0_init 41 = .ok (.newarray .boolean, 2) := by decide +kernel
theorem dX0_init_43 : decode cX0_init 43 = .ok (.putfield 28, 3) := by decide +kernel
theorem dX0_init_46 : decode cX0_init 46 = .ok (.aload_n 0, 1) := by decide +kernel
theorem dX0_init_47 : decode cX0_init 47 = .ok (.bipush 15, 2) := by decide +kernel
theorem dX0_init_49 : decode cX0_init 49 = .ok (.newarray .int, 2) := by decide +kernel
theorem dX0_init_51 : decode cX0_init 51 = .ok (.putfield 32, 3) := by decide +kernel
theorem dX0_init_54 : decode cX0_init 54 = .ok (.aload_n 0, 1) := by decide +kernel
theorem dX0_init_55 : decode cX0_init 55 = .ok (.bipush 15, 2) := by decide +kernel
theorem dX0_init_57 : decode cX0_init 57 = .ok (.newarray .int, 2) := by decide +kernel
theorem dX0_init_59 : decode cX0_init 59 = .ok (.putfield 35, 3) := by decide +kernel
theorem dX0_init_62 : decode cX0_init 62 = .ok (.aload_n 0, 1) := by decide +kernel
theorem dX0_init_63 : decode cX0_init 63 = .ok (.bipush 15, 2) := by decide +kernel
theorem dX0_init_65 : decode cX0_init 65 = .ok (.newarray .int, 2) := by decide +kernel
theorem dX0_init_67 : decode cX0_init 67 = .ok (.putfield 38, 3) := by decide +kernel
theorem dX0_init_70 : decode cX0_init 70 = .ok (.aload_n 0, 1) := by decide +kernel
theorem dX0_init_71 : decode cX0_init 71 = .ok (.bipush 15, 2) := by decide +kernel
theorem dX0_init_73 : decode cX0_init 73 = .ok (.newarray .int, 2) := by decide +kernel
theorem dX0_init_75 : decode cX0_init 75 = .ok (.putfield 41, 3) := by decide +kernel
theorem dX0_init_78 : decode cX0_init 78 = .ok (.aload_n 0, 1) := by decide +kernel
theorem dX0_init_79 : decode cX0_init 79 = .ok (.iload_n 2, 1) := by decide +kernel
theorem dX0_init_80 : decode cX0_init 80 = .ok (.newarray .int, 2) := by decide +kernel
theorem dX0_init_82 : decode cX0_init 82 = .ok (.putfield 44, 3) := by decide +kernel
theorem dX0_init_85 : decode cX0_init 85 = .ok (.iconst 0, 1) := by decide +kernel
theorem dX0_init_86 : decode cX0_init 86 = .ok (.istore_n 3, 1) := by decide +kernel
theorem dX0_init_87 : decode cX0_init 87 = .ok (.iload_n 3, 1) := by decide +kernel
theorem dX0_init_88 : decode cX0_init 88 = .ok (.iload_n 2, 1) := by decide +kernel
theorem dX0_init_89 : decode cX0_init 89 = .ok (.if_icmp .ge 16, 3) := by decide +kernel
theorem dX0_init_92 : decode cX0_init 92 = .ok (.aload_n 0, 1) := by decide +kernel
theorem dX0_init_93 : decode cX0_init 93 = .ok (.getfield 44, 3) := by decide +kernel
theorem dX0_init_96 : decode cX0_init 96 = .ok (.iload_n 3, 1) := by decide +kernel
theorem dX0_init_97 : decode cX0_init 97 = .ok (.iconst (-1), 1) := by decide +kernel
theorem dX0_init_98 : decode cX0_init 98 = .ok (.iastore, 1) := by decide +kernel
theorem dX0_init_99 : decode cX0_init 99 = .ok (.iinc 3 1, 3) := by decide +kernel
theorem dX0_init_102 : decode cX0_init 102 = .ok (.goto (-15), 3) := by decide +kernel
theorem dX0_init_105 : decode cX0_init 105 = .ok (.aload_n 0, 1) := by decide +kernel
theorem dX0_init_106 : decode cX0_init 106 = .ok (.bipush 14, 2) := by decide +kernel
theorem dX0_init_108 : decode cX0_init 108 = .ok (.putfield 47, 3) := by decide +kernel
theorem dX0_init_111 : decode cX0_init 111 = .ok (.aload_n 0, 1) := by decide +kernel
theorem dX0_init_112 : decode cX0_init 112 = .ok (.iconst 0, 1) := by decide +kernel
theorem dX0_init_113 : decode cX0_init 113 = .ok (.putfield 51, 3) := by decide +kernel
theorem dX0_init_116 : decode cX0_init 116 = .ok (.aload_n 0, 1) := by decide +kernel
theorem dX0_init_117 : decode cX0_init 117 = .ok (.iconst 0, 1) := by decide +kernel
theorem dX0_init_118 : decode cX0_init 118 = .ok (.putfield 54, 3) := by decide +kernel
theorem dX0_init_121 : decode cX0_init 121 = .ok (.aload_n 0, 1) := by decide +kernel
theorem dX0_init_122 : decode cX0_init 122 = .ok (.iconst 0, 1) := by decide +kernel
theorem dX0_init_123 : decode cX0_init 123 = .ok (.putfield 57, 3) := by decide +kernel
theorem dX0_init_126 : decode cX0_init 126 = .ok (.return_, 1) := by decide +kernel
theorem dX0_first_0 : decode cX0_first 0 = .ok (.aload_n 0, 1) := by decide +kernel
theorem dX0_first_1 : decode cX0_first 1 = .ok (.invokevirtual 60, 3) := by decide +kernel
theorem dX0_first_4 : decode cX0_first 4 = .ok (.ifCond .ne 5, 3) := by decide +kernel
theorem dX0_first_7 : decode cX0_first 7 = .ok (.iconst 0, 1) := by decide +kernel
theorem dX0_first_8 : decode cX0_first 8 = .ok (.ireturn, 1) := by decide +kernel
theorem dX0_first_9 : decode cX0_first 9 = .ok (.aload_n 0, 1) := by decide +kernel
theorem dX0_first_10 : decode cX0_first 10 = .ok (.iconst 0, 1) := by decide +kernel
theorem dX0_first_11 : decode cX0_first 11 = .ok (.putfield 54, 3) := by decide +kernel
theorem dX0_first_14 : decode cX0_first 14 = .ok (.aload_n 0, 1) := by decide +kernel
theorem dX0_first_15 : decode cX0_first 15 = .ok (.bipush 14, 2) := by decide +kernel
theorem dX0_first_17 : decode cX0_first 17 = .ok (.putfield 47, 3) := by decide +kernel
theorem dX0_first_20 : decode cX0_first 20 = .ok (.aload_n 0, 1) := by decide +kernel
theorem dX0_first_21 : decode cX0_first 21 = .ok (.iconst 1, 1) := by decide +kernel
theorem dX0_first_22 : decode cX0_first 22 = .ok (.putfield 51, 3) := by decide +kernel
theorem dX0_first_25 : decode cX0_first 25 = .ok (.aload_n 0, 1) := by decide +kernel
theorem dX0_first_26 : decode cX0_first 26 = .ok (.iconst 0, 1) := by decide +kernel
theorem dX0_first_27 : decode cX0_first 27 = .ok (.iconst 1, 1) := by decide +kernel
theorem dX0_first_28 : decode cX0_first 28 = .ok (.iconst 0, 1) := by decide +kernel
theorem dX0_first_29 : decode cX0_first 29 = .ok (.invokevirtual 64, 3) := by decide +kernel
theorem dX0_first_32 : decode cX0_first 32 = .ok (.iconst 1, 1) := by decide +kernel
theorem dX0_first_33 : decode cX0_first 33 = .ok (.ireturn, 1) := by decide +kernel
theorem dX0_pick_0 : decode cX0_pick 0 = .ok (.aload_n 0, 1) := by decide +kernel
theorem dX0_pick_1 : decode cX0_pick 1 = .ok (.iload_n 1, 1) := by decide +kernel
theorem dX0_pick_2 : decode cX0_pick 2 = .ok (.invokevirtual 68, 3) := by decide +kernel
theorem dX0_pick_5 : decode cX0_pick 5 = .ok (.ifCond .ne 5, 3) := by decide +kernel
theorem dX0_pick_8 : decode cX0_pick 8 = .ok (.iconst (-1), 1) := by decide +kernel
theorem dX0_pick_9 : decode cX0_pick 9 = .ok (.ireturn, 1) := by decide +kernel
theorem dX0_pick_10 : decode cX0_pick 10 = .ok (.aload_n 0, 1) := by decide +kernel
theorem dX0_pick_11 : decode cX0_pick 11 = .ok (.getfield 44, 3) := by decide +kernel
theorem dX0_pick_14 : decode cX0_pick 14 = .ok (.iload_n 1, 1) := by decide +kernel
theorem dX0_pick_15 : decode cX0_pick 15 = .ok (.iaload, 1) := by decide +kernel
theorem dX0_pick_16 : decode cX0_pick 16 = .ok (.iconst (-1), 1) := by decide +kernel
theorem dX0_pick_17 : decode cX0_pick 17 = .ok (.if_icmp .eq 10, 3) := by decide +kernel
theorem dX0_pick_20 : decode cX0_pick 20 = .ok (.aload_n 0, 1) := by decide +kernel
theorem dX0_pick_21 : decode cX0_pick 21 = .ok (.getfield 44, 3) := by decide +kernel
theorem dX0_pick_24 : decode cX0_pick 24 = .ok (.iload_n 1, 1) := by decide +kernel
theorem dX0_pick_25 : decode cX0_pick 25 = .ok (.iaload, 1) := by decide +kernel
theorem dX0_pick_26 : decode cX0_pick 26 = .ok (.ireturn, 1) := by decide +kernel
theorem dX0_pick_27 : decode cX0_pick 27 = .ok (.aload_n 0, 1) := by decide +kernel
theorem dX0_pick_28 : decode cX0_pick 28 = .ok (.invokevirtual 72, 3) := by decide +kernel
theorem dX0_pick_31 : decode cX0_pick 31 = .ok (.istore_n 2, 1) := by decide +kernel
theorem dX0_pick_32 : decode cX0_pick 32 = .ok (.iload_n 2, 1) := by decide +kernel
theorem dX0_pick_33 : decode cX0_pick 33 = .ok (.iconst (-1), 1) := by decide +kernel
theorem dX0_pick_34 : decode cX0_pick 34 = .ok (.if_icmp .ne 5, 3) := by decide +kernel
theorem dX0_pick_37 : decode cX0_pick 37 = .ok (.iconst (-1), 1) := by decide +kernel
theorem dX0_pick_38 : decode cX0_pick 38 = .ok (.ireturn, 1) := by decide +kernel
theorem dX0_pick_39 : decode cX0_pick 39 = .ok (.aload_n 0, 1) := by decide +kernel
theorem dX0_pick_40 : decode cX0_pick 40 = .ok (.getfield 22, 3) := by decide +kernel
theorem dX0_pick_43 : decode cX0_pick 43 = .ok (.iload_n 2, 1) := by decide +kernel
theorem dX0_pick_44 : decode cX0_pick 44 = .ok (.iconst 2, 1) := by decide +kernel
theorem dX0_pick_45 : decode cX0_pick 45 = .ok (.iastore, 1) := by decide +kernel
theorem dX0_pick_46 : decode cX0_pick 46 = .ok (.aload_n 0, 1) := by decide +kernel
theorem dX0_pick_47 : decode cX0_pick 47 = .ok (.getfield 44, 3) := by decide +kernel
theorem dX0_pick_50 : decode cX0_pick 50 = .ok (.iload_n 1, 1) := by decide +kernel
theorem dX0_pick_51 : decode cX0_pick 51 = .ok (.iload_n 2, 1) := by decide +kernel
theorem dX0_pick_52 : decode cX0_pick 52 = .ok (.iastore, 1) := by decide +kernel
theorem dX0_pick_53 : decode cX0_pick 53 = .ok (.aload_n 0, 1) := by decide +kernel
theorem dX0_pick_54 : decode cX0_pick 54 = .ok (.iload_n 2, 1) := by decide +kernel
theorem dX0_pick_55 : decode cX0_pick 55 = .ok (.putfield 47, 3) := by decide +kernel
theorem dX0_pick_58 : decode cX0_pick 58 = .ok (.iload_n 2, 1) := by decide +kernel
theorem dX0_pick_59 : decode cX0_pick 59 = .ok (.ireturn, 1) := by decide +kernel
theorem dX0_fork_0 : decode cX0_fork 0 = .ok (.aload_n 0, 1) := by decide +kernel
theorem dX0_fork_1 : decode cX0_fork 1 = .ok (.iload_n 1, 1) := by decide +kernel
theorem dX0_fork_2 : decode cX0_fork 2 = .ok (.invokevirtual 76, 3) := by decide +kernel
theorem dX0_fork_5 : decode cX0_fork 5 = .ok (.istore_n 2, 1) := by decide +kernel
theorem dX0_fork_6 : decode cX0_fork 6 = .ok (.iload_n 2, 1) := by decide +kernel
theorem dX0_fork_7 : decode cX0_fork 7 = .ok (.iconst (-1), 1) := by decide +kernel
theorem dX0_fork_8 : decode cX0_fork 8 = .ok (.if_icmp .ne 5, 3) := by decide +kernel
theorem dX0_fork_11 : decode cX0_fork 11 = .ok (.iconst (-1), 1) := by decide +kernel
theorem dX0_fork_12 : decode cX0_fork 12 = .ok (.ireturn, 1) := by decide +kernel
theorem dX0_fork_13 : decode cX0_fork 13 = .ok (.aload_n 0, 1) := by decide +kernel
theorem dX0_fork_14 : decode cX0_fork 14 = .ok (.invokevirtual 80, 3) := by decide +kernel
theorem dX0_fork_17 : decode cX0_fork 17 = .ok (.istore_n 3, 1) := by decide +kernel
theorem dX0_fork_18 : decode cX0_fork 18 = .ok (.iload_n 3, 1) := by decide +kernel
theorem dX0_fork_19 : decode cX0_fork 19 = .ok (.iconst (-1), 1) := by decide +kernel
theorem dX0_fork_20 : decode cX0_fork 20 = .ok (.if_icmp .ne 5, 3) := by decide +kernel
theorem dX0_fork_23 : decode cX0_fork 23 = .ok (.iconst (-1), 1) := by decide +kernel
theorem dX0_fork_24 : decode cX0_fork 24 = .ok (.ireturn, 1) := by decide +kernel
theorem dX0_fork_25 : decode cX0_fork 25 = .ok (.aload_n 0, 1) := by decide +kernel
theorem dX0_fork_26 : decode cX0_fork 26 = .ok (.dup, 1) := by decide +kernel
theorem dX0_fork_27 : decode cX0_fork 27 = .ok (.getfield 51, 3) := by decide +kernel
theorem dX0_fork_30 : decode cX0_fork 30 = .ok (.iconst 1, 1) := by decide +kernel
theorem dX0_fork_31 : decode cX0_fork 31 = .ok (.iadd, 1) := by decide +kernel
theorem dX0_fork_32 : decode cX0_fork 32 = .ok (.putfield 51, 3) := by decide +kernel
theorem dX0_fork_35 : decode cX0_fork 35 = .ok (.aload_n 0, 1) := by decide +kernel
theorem dX0_fork_36 : decode cX0_fork 36 = .ok (.iload_n 3, 1) := by decide +kernel
theorem dX0_fork_37 : decode cX0_fork 37 = .ok (.aload_n 0, 1) := by decide +kernel
theorem dX0_fork_38 : decode cX0_fork 38 = .ok (.getfield 51, 3) := by decide +kernel
theorem dX0_fork_41 : decode cX0_fork 41 = .ok (.aload_n 0, 1) := by decide +kernel
theorem dX0_fork_42 : decode cX0_fork 42 = .ok (.getfield 18, 3) := by decide +kernel
theorem dX0_fork_45 : decode cX0_fork 45 = .ok (.iload_n 2, 1) := by decide +kernel
theorem dX0_fork_46 : decode cX0_fork 46 = .ok (.iaload, 1) := by decide +kernel
theorem dX0_fork_47 : decode cX0_fork 47 = .ok (.invokevirtual 64, 3) := by decide +kernel
theorem dX0_fork_50 : decode cX0_fork 50 = .ok (.iload_n 3, 1) := by decide +kernel
theorem dX0_fork_51 : decode cX0_fork 51 = .ok (.ireturn, 1) := by decide +kernel
theorem dX0_exit_0 : decode cX0_exit 0 = .ok (.aload_n 0, 1) := by decide +kernel
theorem dX0_exit_1 : decode cX0_exit 1 = .ok (.iload_n 1, 1) := by decide +kernel
theorem dX0_exit_2 : decode cX0_exit 2 = .ok (.invokevirtual 76, 3) := by decide +kernel
theorem dX0_exit_5 : decode cX0_exit 5 = .ok (.istore_n 3, 1) := by decide +kernel
theorem dX0_exit_6 : decode cX0_exit 6 = .ok (.iload_n 3, 1) := by decide +kernel
theorem dX0_exit_7 : decode cX0_exit 7 = .ok (.iconst (-1), 1) := by decide +kernel
theorem dX0_exit_8 : decode cX0_exit 8 = .ok (.if_icmp .ne 5, 3) := by decide +kernel
theorem dX0_exit_11 : decode cX0_exit 11 = .ok (.iconst (-1), 1) := by decide +kernel
theorem dX0_exit_12 : decode cX0_exit 12 = .ok (.ireturn, 1) := by decide +kernel
theorem dX0_exit_13 : decode cX0_exit 13 = .ok (.iload_n 3, 1) := by decide +kernel
theorem dX0_exit_14 : decode cX0_exit 14 = .ok (.ifCond .ne 14, 3) := by decide +kernel
theorem dX0_exit_17 : decode cX0_exit 17 = .ok (.aload_n 0, 1) := by decide +kernel
theorem dX0_exit_18 : decode cX0_exit 18 = .ok (.iload_n 2, 1) := by decide +kernel
theorem dX0_exit_19 : decode cX0_exit 19 = .ok (.putfield 57, 3) := by decide +kernel
theorem dX0_exit_22 : decode cX0_exit 22 = .ok (.aload_n 0, 1) := by decide +kernel
theorem dX0_exit_23 : decode cX0_exit 23 = .ok (.invokevirtual 83, 3) := by decide +kernel
theorem dX0_exit_26 : decode cX0_exit 26 = .ok (.iload_n 3, 1) := by decide +kernel
theorem dX0_exit_27 : decode cX0_exit 27 = .ok (.ireturn, 1) := by decide +kernel
theorem dX0_exit_28 : decode cX0_exit 28 = .ok (.aload_n 0, 1) := by decide +kernel
theorem dX0_exit_29 : decode cX0_exit 29 = .ok (.iload_n 1, 1) := by decide +kernel
theorem dX0_exit_30 : decode cX0_exit 30 = .ok (.iload_n 3, 1) := by decide +kernel
theorem dX0_exit_31 : decode cX0_exit 31 = .ok (.iconst 4, 1) := by decide +kernel
theorem dX0_exit_32 : decode cX0_exit 32 = .ok (.invokevirtual 86, 3) := by decide +kernel
theorem dX0_exit_35 : decode cX0_exit 35 = .ok (.aload_n 0, 1) := by decide +kernel
theorem dX0_exit_36 : decode cX0_exit 36 = .ok (.getfield 32, 3) := by decide +kernel
theorem dX0_exit_39 : decode cX0_exit 39 = .ok (.iload_n 3, 1) := by decide +kernel
theorem dX0_exit_40 : decode cX0_exit 40 = .ok (.iload_n 2, 1) := by decide +kernel
theorem dX0_exit_41 : decode cX0_exit 41 = .ok (.iastore, 1) := by decide +kernel
theorem dX0_exit_42 : decode cX0_exit 42 = .ok (.aload_n 0, 1) := by decide +kernel
theorem dX0_exit_43 : decode cX0_exit 43 = .ok (.aload_n 0, 1) := by decide +kernel
theorem dX0_exit_44 : decode cX0_exit 44 = .ok (.getfield 18, 3) := by decide +kernel
theorem dX0_exit_47 : decode cX0_exit 47 = .ok (.iload_n 3, 1) := by decide +kernel
theorem dX0_exit_48 : decode cX0_exit 48 = .ok (.iaload, 1) := by decide +kernel
theorem dX0_exit_49 : decode cX0_exit 49 = .ok (.invokevirtual 89, 3) := by decide +kernel
theorem dX0_exit_52 : decode cX0_exit 52 = .ok (.aload_n 0, 1) := by decide +kernel
theorem dX0_exit_53 : decode cX0_exit 53 = .ok (.aload_n 0, 1) := by decide +kernel
theorem dX0_exit_54 : decode cX0_exit 54 = .ok (.getfield 25, 3) := by decide +kernel
theorem dX0_exit_57 : decode cX0_exit 57 = .ok (.iload_n 3, 1) := by decide +kernel
theorem dX0_exit_58 : decode cX0_exit 58 = .ok (.iaload, 1) := by decide +kernel
theorem dX0_exit_59 : decode cX0_exit 59 = .ok (.invokevirtual 93, 3) := by decide +kernel
theorem dX0_exit_62 : decode cX0_exit 62 = .ok (.iload_n 3, 1) := by decide +kernel
theorem dX0_exit_63 : decode cX0_exit 63 = .ok (.ireturn, 1) := by decide +kernel
theorem dX0_await_0 : decode cX0_await 0 = .ok (.aload_n 0, 1) := by decide +kernel
theorem dX0_await_1 : decode cX0_await 1 = .ok (.iload_n 1, 1) := by decide +kernel
theorem dX0_await_2 : decode cX0_await 2 = .ok (.invokevirtual 76, 3) := by decide +kernel
theorem dX0_await_5 : decode cX0_await 5 = .ok (.istore_n 2, 1) := by decide +kernel
theorem dX0_await_6 : decode cX0_await 6 = .ok (.iload_n 2, 1) := by decide +kernel
theorem dX0_await_7 : decode cX0_await 7 = .ok (.iconst (-1), 1) := by decide +kernel
theorem dX0_await_8 : decode cX0_await 8 = .ok (.if_icmp .eq 16, 3) := by decide +kernel
theorem dX0_await_11 : decode cX0_await 11 = .ok (.aload_n 0, 1) := by decide +kernel
theorem dX0_await_12 : decode cX0_await 12 = .ok (.aload_n 0, 1) := by decide +kernel
theorem dX0_await_13 : decode cX0_await 13 = .ok (.getfield 18, 3) := by decide +kernel
theorem dX0_await_16 : decode cX0_await 16 = .ok (.iload_n 2, 1) := by decide +kernel
theorem dX0_await_17 : decode cX0_await 17 = .ok (.iaload, 1) := by decide +kernel
theorem dX0_await_18 : decode cX0_await 18 = .ok (.invokevirtual 96, 3) := by decide +kernel
theorem dX0_await_21 : decode cX0_await 21 = .ok (.ifCond .ne 5, 3) := by decide +kernel
theorem dX0_await_24 : decode cX0_await 24 = .ok (.iconst (-1), 1) := by decide +kernel
theorem dX0_await_25 : decode cX0_await 25 = .ok (.ireturn, 1) := by decide +kernel
theorem dX0_await_26 : decode cX0_await 26 = .ok (.aload_n 0, 1) := by decide +kernel
theorem dX0_await_27 : decode cX0_await 27 = .ok (.aload_n 0, 1) := by decide +kernel
theorem dX0_await_28 : decode cX0_await 28 = .ok (.getfield 18, 3) := by decide +kernel
theorem dX0_await_31 : decode cX0_await 31 = .ok (.iload_n 2, 1) := by decide +kernel
theorem dX0_await_32 : decode cX0_await 32 = .ok (.iaload, 1) := by decide +kernel
theorem dX0_await_33 : decode cX0_await 33 = .ok (.invokevirtual 99, 3) := by decide +kernel
theorem dX0_await_36 : decode cX0_await 36 = .ok (.istore_n 3, 1) := by decide +kernel
theorem dX0_await_37 : decode cX0_await 37 = .ok (.iload_n 3, 1) := by decide +kernel
theorem dX0_await_38 : decode cX0_await 38 = .ok (.iconst (-1), 1) := by decide +kernel
theorem dX0_await_39 : decode cX0_await 39 = .ok (.if_icmp .ne 19, 3) := by decide +kernel
theorem dX0_await_42 : decode cX0_await 42 = .ok (.aload_n 0, 1) := by decide +kernel
theorem dX0_await_43 : decode cX0_await 43 = .ok (.iload_n 1, 1) := by decide +kernel
theorem dX0_await_44 : decode cX0_await 44 = .ok (.iload_n 2, 1) := by decide +kernel
theorem dX0_await_45 : decode cX0_await 45 = .ok (.iconst 3, 1) := by decide +kernel
theorem dX0_await_46 : decode cX0_await 46 = .ok (.invokevirtual 86, 3) := by decide +kernel
theorem dX0_await_49 : decode cX0_await 49 = .ok (.aload_n 0, 1) := by decide +kernel
theorem dX0_await_50 : decode cX0_await 50 = .ok (.getfield 35, 3) := by decide +kernel
theorem dX0_await_53 : decode cX0_await 53 = .ok (.iload_n 2, 1) := by decide +kernel
theorem dX0_await_54 : decode cX0_await 54 = .ok (.iconst 2, 1) := by decide +kernel
theorem dX0_await_55 : decode cX0_await 55 = .ok (.iastore, 1) := by decide +kernel
theorem dX0_await_56 : decode cX0_await 56 = .ok (.iconst 0, 1) := by decide +kernel
theorem dX0_await_57 : decode cX0_await 57 = .ok (.ireturn, 1) := by decide +kernel
theorem dX0_await_58 : decode cX0_await 58 = .ok (.aload_n 0, 1) := by decide +kernel
theorem dX0_await_59 : decode cX0_await 59 = .ok (.getfield 18, 3) := by decide +kernel
theorem dX0_await_62 : decode cX0_await 62 = .ok (.iload_n 3, 1) := by decide +kernel
theorem dX0_await_63 : decode cX0_await 63 = .ok (.iaload, 1) := by decide +kernel
theorem dX0_await_64 : decode cX0_await 64 = .ok (.istore 4, 2) := by decide +kernel
theorem dX0_await_66 : decode cX0_await 66 = .ok (.aload_n 0, 1) := by decide +kernel
theorem dX0_await_67 : decode cX0_await 67 = .ok (.aload_n 0, 1) := by decide +kernel
theorem dX0_await_68 : decode cX0_await 68 = .ok (.getfield 32, 3) := by decide +kernel
theorem dX0_await_71 : decode cX0_await 71 = .ok (.iload_n 3, 1) := by decide +kernel
theorem dX0_await_72 : decode cX0_await 72 = .ok (.iaload, 1) := by decide +kernel
theorem dX0_await_73 : decode cX0_await 73 = .ok (.putfield 57, 3) := by decide +kernel
theorem dX0_await_76 : decode cX0_await 76 = .ok (.aload_n 0, 1) := by decide +kernel
theorem dX0_await_77 : decode cX0_await 77 = .ok (.iload_n 3, 1) := by decide +kernel
theorem dX0_await_78 : decode cX0_await 78 = .ok (.invokevirtual 102, 3) := by decide +kernel
theorem dX0_await_81 : decode cX0_await 81 = .ok (.iload 4, 2) := by decide +kernel
theorem dX0_await_83 : decode cX0_await 83 = .ok (.ireturn, 1) := by decide +kernel
theorem dX0_status_0 : decode cX0_status 0 = .ok (.aload_n 0, 1) := by decide +kernel
theorem dX0_status_1 : decode cX0_status 1 = .ok (.getfield 57, 3) := by decide +kernel
theorem dX0_status_4 : decode cX0_status 4 = .ok (.ireturn, 1) := by decide +kernel
theorem dX0_block_0 : decode cX0_block 0 = .ok (.aload_n 0, 1) := by decide +kernel
theorem dX0_block_1 : decode cX0_block 1 = .ok (.iload_n 1, 1) := by decide +kernel
theorem dX0_block_2 : decode cX0_block 2 = .ok (.invokevirtual 76, 3) := by decide +kernel
theorem dX0_block_5 : decode cX0_block 5 = .ok (.istore_n 3, 1) := by decide +kernel
theorem dX0_block_6 : decode cX0_block 6 = .ok (.iload_n 3, 1) := by decide +kernel
theorem dX0_block_7 : decode cX0_block 7 = .ok (.iconst (-1), 1) := by decide +kernel
theorem dX0_block_8 : decode cX0_block 8 = .ok (.if_icmp .ne 5, 3) := by decide +kernel
theorem dX0_block_11 : decode cX0_block 11 = .ok (.iconst (-1), 1) := by decide +kernel
theorem dX0_block_12 : decode cX0_block 12 = .ok (.ireturn, 1) := by decide +kernel
theorem dX0_block_13 : decode cX0_block 13 = .ok (.aload_n 0, 1) := by decide +kernel
theorem dX0_block_14 : decode cX0_block 14 = .ok (.iload_n 1, 1) := by decide +kernel
theorem dX0_block_15 : decode cX0_block 15 = .ok (.iload_n 3, 1) := by decide +kernel
theorem dX0_block_16 : decode cX0_block 16 = .ok (.iconst 3, 1) := by decide +kernel
theorem dX0_block_17 : decode cX0_block 17 = .ok (.invokevirtual 86, 3) := by decide +kernel
theorem dX0_block_20 : decode cX0_block 20 = .ok (.aload_n 0, 1) := by decide +kernel
theorem dX0_block_21 : decode cX0_block 21 = .ok (.getfield 35, 3) := by decide +kernel
theorem dX0_block_24 : decode cX0_block 24 = .ok (.iload_n 3, 1) := by decide +kernel
theorem dX0_block_25 : decode cX0_block 25 = .ok (.iconst 1, 1) := by decide +kernel
theorem dX0_block_26 : decode cX0_block 26 = .ok (.iastore, 1) := by decide +kernel
theorem dX0_block_27 : decode cX0_block 27 = .ok (.aload_n 0, 1) := by decide +kernel
theorem dX0_block_28 : decode cX0_block 28 = .ok (.getfield 38, 3) := by decide +kernel
theorem dX0_block_31 : decode cX0_block 31 = .ok (.iload_n 3, 1) := by decide +kernel
theorem dX0_block_32 : decode cX0_block 32 = .ok (.iload_n 2, 1) := by decide +kernel
theorem dX0_block_33 : decode cX0_block 33 = .ok (.iastore, 1) := by decide +kernel
theorem dX0_block_34 : decode cX0_block 34 = .ok (.iload_n 3, 1) := by decide +kernel
theorem dX0_block_35 : decode cX0_block 35 = .ok (.ireturn, 1) := by decide +kernel
theorem dX0_sleep_0 : decode cX0_sleep 0 = .ok (.aload_n 0, 1) := by decide +kernel
theorem dX0_sleep_1 : decode cX0_sleep 1 = .ok (.iload_n 1, 1) := by decide +kernel
theorem dX0_sleep_2 : decode cX0_sleep 2 = .ok (.invokevirtual 76, 3) := by decide +kernel
theorem dX0_sleep_5 : decode cX0_sleep 5 = .ok (.istore_n 3, 1) := by decide +kernel
theorem dX0_sleep_6 : decode cX0_sleep 6 = .ok (.iload_n 3, 1) := by decide +kernel
theorem dX0_sleep_7 : decode cX0_sleep 7 = .ok (.iconst (-1), 1) := by decide +kernel
theorem dX0_sleep_8 : decode cX0_sleep 8 = .ok (.if_icmp .eq 8, 3) := by decide +kernel
theorem dX0_sleep_11 : decode cX0_sleep 11 = .ok (.iload_n 2, 1) := by decide +kernel
theorem dX0_sleep_12 : decode cX0_sleep 12 = .ok (.iconst 1, 1) := by decide +kernel
theorem dX0_sleep_13 : decode cX0_sleep 13 = .ok (.if_icmp .ge 5, 3) := by decide +kernel
theorem dX0_sleep_16 : decode cX0_sleep 16 = .ok (.iload_n 3, 1) := by decide +kernel
theorem dX0_sleep_17 : decode cX0_sleep 17 = .ok (.ireturn, 1) := by decide +kernel
theorem dX0_sleep_18 : decode cX0_sleep 18 = .ok (.aload_n 0, 1) := by decide +kernel
theorem dX0_sleep_19 : decode cX0_sleep 19 = .ok (.iload_n 1, 1) := by decide +kernel
theorem dX0_sleep_20 : decode cX0_sleep 20 = .ok (.iload_n 3, 1) := by decide +kernel
theorem dX0_sleep_21 : decode cX0_sleep 21 = .ok (.iconst 3, 1) := by decide +kernel
theorem dX0_sleep_22 : decode cX0_sleep 22 = .ok (.invokevirtual 86, 3) := by decide +kernel
theorem dX0_sleep_25 : decode cX0_sleep 25 = .ok (.aload_n 0, 1) := by decide +kernel
theorem dX0_sleep_26 : decode cX0_sleep 26 = .ok (.getfield 35, 3) := by decide +kernel
theorem dX0_sleep_29 : decode cX0_sleep 29 = .ok (.iload_n 3, 1) := by decide +kernel
theorem dX0_sleep_30 : decode cX0_sleep 30 = .ok (.iconst 3, 1) := by decide +kernel
theorem dX0_sleep_31 : decode cX0_sleep 31 = .ok (.iastore, 1) := by decide +kernel
theorem dX0_sleep_32 : decode cX0_sleep 32 = .ok (.aload_n 0, 1) := by decide +kernel
theorem dX0_sleep_33 : decode cX0_sleep 33 = .ok (.getfield 41, 3) := by decide +kernel
theorem dX0_sleep_36 : decode cX0_sleep 36 = .ok (.iload_n 3, 1) := by decide +kernel
theorem dX0_sleep_37 : decode cX0_sleep 37 = .ok (.iload_n 2, 1) := by decide +kernel
theorem dX0_sleep_38 : decode cX0_sleep 38 = .ok (.iastore, 1) := by decide +kernel
theorem dX0_sleep_39 : decode cX0_sleep 39 = .ok (.iload_n 3, 1) := by decide +kernel
theorem dX0_sleep_40 : decode cX0_sleep 40 = .ok (.ireturn, 1) := by decide +kernel
theorem dX0_wake_0 : decode cX0_wake 0 = .ok (.iconst 0, 1) := by decide +kernel
theorem dX0_wake_1 : decode cX0_wake 1 = .ok (.istore_n 2, 1) := by decide +kernel
theorem dX0_wake_2 : decode cX0_wake 2 = .ok (.iconst 0, 1) := by decide +kernel
theorem dX0_wake_3 : decode cX0_wake 3 = .ok (.istore_n 3, 1) := by decide +kernel
theorem dX0_wake_4 : decode cX0_wake 4 = .ok (.iload_n 3, 1) := by decide +kernel
theorem dX0_wake_5 : decode cX0_wake 5 = .ok (.bipush 15, 2) := by decide +kernel
theorem dX0_wake_7 : decode cX0_wake 7 = .ok (.if_icmp .ge 36, 3) := by decide +kernel
theorem dX0_wake_10 : decode cX0_wake 10 = .ok (.aload_n 0, 1) := by decide +kernel
theorem dX0_wake_11 : decode cX0_wake 11 = .ok (.iload_n 3, 1) := by decide +kernel
theorem dX0_wake_12 : decode cX0_wake 12 = .ok (.iconst 1, 1) := by decide +kernel
theorem dX0_wake_13 : decode cX0_wake 13 = .ok (.invokevirtual 105, 3) := by decide +kernel
theorem dX0_wake_16 : decode cX0_wake 16 = .ok (.ifCond .eq 21, 3) := by decide +kernel
theorem dX0_wake_19 : decode cX0_wake 19 = .ok (.aload_n 0, 1) := by decide +kernel
theorem dX0_wake_20 : decode cX0_wake 20 = .ok (.getfield 38, 3) := by decide +kernel
theorem dX0_wake_23 : decode cX0_wake 23 = .ok (.iload_n 3, 1) := by decide +kernel
theorem dX0_wake_24 : decode cX0_wake 24 = .ok (.iaload, 1) := by decide +kernel
theorem dX0_wake_25 : decode cX0_wake 25 = .ok (.iload_n 1, 1) := by decide +kernel
theorem dX0_wake_26 : decode cX0_wake 26 = .ok (.if_icmp .ne 11, 3) := by decide +kernel
theorem dX0_wake_29 : decode cX0_wake 29 = .ok (.aload_n 0, 1) := by decide +kernel
theorem dX0_wake_30 : decode cX0_wake 30 = .ok (.iload_n 3, 1) := by decide +kernel
theorem dX0_wake_31 : decode cX0_wake 31 = .ok (.invokevirtual 109, 3) := by decide +kernel
theorem dX0_wake_34 : decode cX0_wake 34 = .ok (.iinc 2 1, 3) := by decide +kernel
theorem dX0_wake_37 : decode cX0_wake 37 = .ok (.iinc 3 1, 3) := by decide +kernel
theorem dX0_wake_40 : decode cX0_wake 40 = .ok (.goto (-36), 3) := by decide +kernel
theorem dX0_wake_43 : decode cX0_wake 43 = .ok (.iload_n 2, 1) := by decide +kernel
theorem dX0_wake_44 : decode cX0_wake 44 = .ok (.ireturn, 1) := by decide +kernel
theorem dX0_rest_0 : decode cX0_rest 0 = .ok (.aload_n 0, 1) := by decide +kernel
theorem dX0_rest_1 : decode cX0_rest 1 = .ok (.iload_n 1, 1) := by decide +kernel
theorem dX0_rest_2 : decode cX0_rest 2 = .ok (.invokevirtual 76, 3) := by decide +kernel
theorem dX0_rest_5 : decode cX0_rest 5 = .ok (.istore_n 2, 1) := by decide +kernel
theorem dX0_rest_6 : decode cX0_rest 6 = .ok (.iload_n 2, 1) := by decide +kernel
theorem dX0_rest_7 : decode cX0_rest 7 = .ok (.iconst (-1), 1) := by decide +kernel
theorem dX0_rest_8 : decode cX0_rest 8 = .ok (.if_icmp .ne 5, 3) := by decide +kernel
theorem dX0_rest_11 : decode cX0_rest 11 = .ok (.iconst (-1), 1) := by decide +kernel
theorem dX0_rest_12 : decode cX0_rest 12 = .ok (.ireturn, 1) := by decide +kernel
theorem dX0_rest_13 : decode cX0_rest 13 = .ok (.aload_n 0, 1) := by decide +kernel
theorem dX0_rest_14 : decode cX0_rest 14 = .ok (.iload_n 1, 1) := by decide +kernel
theorem dX0_rest_15 : decode cX0_rest 15 = .ok (.iload_n 2, 1) := by decide +kernel
theorem dX0_rest_16 : decode cX0_rest 16 = .ok (.iconst 1, 1) := by decide +kernel
theorem dX0_rest_17 : decode cX0_rest 17 = .ok (.invokevirtual 86, 3) := by decide +kernel
theorem dX0_rest_20 : decode cX0_rest 20 = .ok (.iload_n 2, 1) := by decide +kernel
theorem dX0_rest_21 : decode cX0_rest 21 = .ok (.ireturn, 1) := by decide +kernel
theorem dX0_tick_0 : decode cX0_tick 0 = .ok (.aload_n 0, 1) := by decide +kernel
theorem dX0_tick_1 : decode cX0_tick 1 = .ok (.invokevirtual 60, 3) := by decide +kernel
theorem dX0_tick_4 : decode cX0_tick 4 = .ok (.ifCond .eq 5, 3) := by decide +kernel
theorem dX0_tick_7 : decode cX0_tick 7 = .ok (.iconst (-1), 1) := by decide +kernel
theorem dX0_tick_8 : decode cX0_tick 8 = .ok (.ireturn, 1) := by decide +kernel
theorem dX0_tick_9 : decode cX0_tick 9 = .ok (.aload_n 0, 1) := by decide +kernel
theorem dX0_tick_10 : decode cX0_tick 10 = .ok (.dup, 1) := by decide +kernel
theorem dX0_tick_11 : decode cX0_tick 11 = .ok (.getfield 54, 3) := by decide +kernel
theorem dX0_tick_14 : decode cX0_tick 14 = .ok (.iconst 1, 1) := by decide +kernel
theorem dX0_tick_15 : decode cX0_tick 15 = .ok (.iadd, 1) := by decide +kernel
theorem dX0_tick_16 : decode cX0_tick 16 = .ok (.putfield 54, 3) := by decide +kernel
theorem dX0_tick_19 : decode cX0_tick 19 = .ok (.iconst 0, 1) := by decide +kernel
theorem dX0_tick_20 : decode cX0_tick 20 = .ok (.istore_n 1, 1) := by decide +kernel
theorem dX0_tick_21 : decode cX0_tick 21 = .ok (.iload_n 1, 1) := by decide +kernel
theorem dX0_tick_22 : decode cX0_tick 22 = .ok (.aload_n 0, 1) := by decide +kernel
theorem dX0_tick_23 : decode cX0_tick 23 = .ok (.getfield 44, 3) := by decide +kernel
theorem dX0_tick_26 : decode cX0_tick 26 = .ok (.arraylength, 1) := by decide +kernel
theorem dX0_tick_27 : decode cX0_tick 27 = .ok (.if_icmp .ge 15, 3) := by decide +kernel
theorem dX0_tick_30 : decode cX0_tick 30 = .ok (.aload_n 0, 1) := by decide +kernel
theorem dX0_tick_31 : decode cX0_tick 31 = .ok (.iload_n 1, 1) := by decide +kernel
theorem dX0_tick_32 : decode cX0_tick 32 = .ok (.invokevirtual 112, 3) := by decide +kernel
theorem dX0_tick_35 : decode cX0_tick 35 = .ok (.pop, 1) := by decide +kernel
theorem dX0_tick_36 : decode cX0_tick 36 = .ok (.iinc 1 1, 3) := by decide +kernel
theorem dX0_tick_39 : decode cX0_tick 39 = .ok (.goto (-18), 3) := by decide +kernel
theorem dX0_tick_42 : decode cX0_tick 42 = .ok (.iconst 0, 1) := by decide +kernel
theorem dX0_tick_43 : decode cX0_tick 43 = .ok (.istore_n 1, 1) := by decide +kernel
theorem dX0_tick_44 : decode cX0_tick 44 = .ok (.iload_n 1, 1) := by decide +kernel
theorem dX0_tick_45 : decode cX0_tick 45 = .ok (.bipush 15, 2) := by decide +kernel
theorem dX0_tick_47 : decode cX0_tick 47 = .ok (.if_icmp .ge 23, 3) := by decide +kernel
theorem dX0_tick_50 : decode cX0_tick 50 = .ok (.aload_n 0, 1) := by decide +kernel
theorem dX0_tick_51 : decode cX0_tick 51 = .ok (.iload_n 1, 1) := by decide +kernel
theorem dX0_tick_52 : decode cX0_tick 52 = .ok (.iconst 3, 1) := by decide +kernel
theorem dX0_tick_53 : decode cX0_tick 53 = .ok (.invokevirtual 105, 3) := by decide +kernel
theorem dX0_tick_56 : decode cX0_tick 56 = .ok (.ifCond .eq 8, 3) := by decide +kernel
theorem dX0_tick_59 : decode cX0_tick 59 = .ok (.aload_n 0, 1) := by decide +kernel
theorem dX0_tick_60 : decode cX0_tick 60 = .ok (.iload_n 1, 1) := by decide +kernel
theorem dX0_tick_61 : decode cX0_tick 61 = .ok (.invokevirtual 115, 3) := by decide +kernel
theorem dX0_tick_64 : decode cX0_tick 64 = .ok (.iinc 1 1, 3) := by decide +kernel
theorem dX0_tick_67 : decode cX0_tick 67 = .ok (.goto (-23), 3) := by decide +kernel
theorem dX0_tick_70 : decode cX0_tick 70 = .ok (.aload_n 0, 1) := by decide +kernel
theorem dX0_tick_71 : decode cX0_tick 71 = .ok (.getfield 54, 3) := by decide +kernel
theorem dX0_tick_74 : decode cX0_tick 74 = .ok (.ireturn, 1) := by decide +kernel
theorem dX0_kill_0 : decode cX0_kill 0 = .ok (.aload_n 0, 1) := by decide +kernel
theorem dX0_kill_1 : decode cX0_kill 1 = .ok (.iload_n 1, 1) := by decide +kernel
theorem dX0_kill_2 : decode cX0_kill 2 = .ok (.invokevirtual 118, 3) := by decide +kernel
theorem dX0_kill_5 : decode cX0_kill 5 = .ok (.istore_n 2, 1) := by decide +kernel
theorem dX0_kill_6 : decode cX0_kill 6 = .ok (.iload_n 2, 1) := by decide +kernel
theorem dX0_kill_7 : decode cX0_kill 7 = .ok (.iconst (-1), 1) := by decide +kernel
theorem dX0_kill_8 : decode cX0_kill 8 = .ok (.if_icmp .eq 13, 3) := by decide +kernel
theorem dX0_kill_11 : decode cX0_kill 11 = .ok (.aload_n 0, 1) := by decide +kernel
theorem dX0_kill_12 : decode cX0_kill 12 = .ok (.getfield 22, 3) := by decide +kernel
theorem dX0_kill_15 : decode cX0_kill 15 = .ok (.iload_n 2, 1) := by decide +kernel
theorem dX0_kill_16 : decode cX0_kill 16 = .ok (.iaload, 1) := by decide +kernel
theorem dX0_kill_17 : decode cX0_kill 17 = .ok (.iconst 4, 1) := by decide +kernel
theorem dX0_kill_18 : decode cX0_kill 18 = .ok (.if_icmp .ne 5, 3) := by decide +kernel
theorem dX0_kill_21 : decode cX0_kill 21 = .ok (.iconst 0, 1) := by decide +kernel
theorem dX0_kill_22 : decode cX0_kill 22 = .ok (.ireturn, 1) := by decide +kernel
theorem dX0_kill_23 : decode cX0_kill 23 = .ok (.aload_n 0, 1) := by decide +kernel
theorem dX0_kill_24 : decode cX0_kill 24 = .ok (.getfield 28, 3) := by decide +kernel
theorem dX0_kill_27 : decode cX0_kill 27 = .ok (.iload_n 2, 1) := by decide +kernel
theorem dX0_kill_28 : decode cX0_kill 28 = .ok (.iconst 1, 1) := by decide +kernel
theorem dX0_kill_29 : decode cX0_kill 29 = .ok (.bastore, 1) := by decide +kernel
theorem dX0_kill_30 : decode cX0_kill 30 = .ok (.aload_n 0, 1) := by decide +kernel
theorem dX0_kill_31 : decode cX0_kill 31 = .ok (.getfield 22, 3) := by decide +kernel
theorem dX0_kill_34 : decode cX0_kill 34 = .ok (.iload_n 2, 1) := by decide +kernel
theorem dX0_kill_35 : decode cX0_kill 35 = .ok (.iaload, 1) := by decide +kernel
theorem dX0_kill_36 : decode cX0_kill 36 = .ok (.iconst 3, 1) := by decide +kernel
theorem dX0_kill_37 : decode cX0_kill 37 = .ok (.if_icmp .ne 8, 3) := by decide +kernel
theorem dX0_kill_40 : decode cX0_kill 40 = .ok (.aload_n 0, 1) := by decide +kernel
theorem dX0_kill_41 : decode cX0_kill 41 = .ok (.iload_n 2, 1) := by decide +kernel
theorem dX0_kill_42 : decode cX0_kill 42 = .ok (.invokevirtual 109, 3) := by decide +kernel
theorem dX0_kill_45 : decode cX0_kill 45 = .ok (.iconst 1, 1) := by decide +kernel
theorem dX0_kill_46 : decode cX0_kill 46 = .ok (.ireturn, 1) := by decide +kernel
theorem dX0_about_0 : decode cX0_about 0 = .ok (.iload_n 1, 1) := by decide +kernel
theorem dX0_about_1 : decode cX0_about 1 = .ok (.ifCond .lt 9, 3) := by decide +kernel
theorem dX0_about_4 : decode cX0_about 4 = .ok (.iload_n 1, 1) := by decide +kernel
theorem dX0_about_5 : decode cX0_about 5 = .ok (.bipush 15, 2) := by decide +kernel
theorem dX0_about_7 : decode cX0_about 7 = .ok (.if_icmp .lt 5, 3) := by decide +kernel
theorem dX0_about_10 : decode cX0_about 10 = .ok (.iconst (-1), 1) := by decide +kernel
theorem dX0_about_11 : decode cX0_about 11 = .ok (.ireturn, 1) := by decide +kernel
theorem dX0_about_12 : decode cX0_about 12 = .ok (.aload_n 0, 1) := by decide +kernel
theorem dX0_about_13 : decode cX0_about 13 = .ok (.getfield 22, 3) := by decide +kernel
theorem dX0_about_16 : decode cX0_about 16 = .ok (.iload_n 1, 1) := by decide +kernel
theorem dX0_about_17 : decode cX0_about 17 = .ok (.iaload, 1) := by decide +kernel
theorem dX0_about_18 : decode cX0_about 18 = .ok (.ifCond .ne 14, 3) := by decide +kernel
theorem dX0_about_21 : decode cX0_about 21 = .ok (.iload_n 2, 1) := by decide +kernel
theorem dX0_about_22 : decode cX0_about 22 = .ok (.iconst 1, 1) := by decide +kernel
theorem dX0_about_23 : decode cX0_about 23 = .ok (.if_icmp .ne 7, 3) := by decide +kernel
theorem dX0_about_26 : decode cX0_about 26 = .ok (.iconst 0, 1) := by decide +kernel
theorem dX0_about_27 : decode cX0_about 27 = .ok (.goto 4, 3) := by decide +kernel
theorem dX0_about_30 : decode cX0_about 30 = .ok (.iconst (-1), 1) := by decide +kernel
theorem dX0_about_31 : decode cX0_about 31 = .ok (.ireturn, 1) := by decide +kernel
theorem dX0_about_32 : decode cX0_about 32 = .ok (.iload_n 2, 1) := by decide +kernel
theorem dX0_about_33 : decode cX0_about 33 = .ok (.tableswitch 88 0 5 #[39, 46, 53, 60, 75, 82], 39) := by decide +kernel
theorem dX0_about_72 : decode cX0_about 72 = .ok (.aload_n 0, 1) := by decide +kernel
theorem dX0_about_73 : decode cX0_about 73 = .ok (.getfield 18, 3) := by decide +kernel
theorem dX0_about_76 : decode cX0_about 76 = .ok (.iload_n 1, 1) := by decide +kernel
theorem dX0_about_77 : decode cX0_about 77 = .ok (.iaload, 1) := by decide +kernel
theorem dX0_about_78 : decode cX0_about 78 = .ok (.ireturn, 1) := by decide +kernel
theorem dX0_about_79 : decode cX0_about 79 = .ok (.aload_n 0, 1) := by decide +kernel
theorem dX0_about_80 : decode cX0_about 80 = .ok (.getfield 22, 3) := by decide +kernel
theorem dX0_about_83 : decode cX0_about 83 = .ok (.iload_n 1, 1) := by decide +kernel
theorem dX0_about_84 : decode cX0_about 84 = .ok (.iaload, 1) := by decide +kernel
theorem dX0_about_85 : decode cX0_about 85 = .ok (.ireturn, 1) := by decide +kernel
theorem dX0_about_86 : decode cX0_about 86 = .ok (.aload_n 0, 1) := by decide +kernel
theorem dX0_about_87 : decode cX0_about 87 = .ok (.getfield 25, 3) := by decide +kernel
theorem dX0_about_90 : decode cX0_about 90 = .ok (.iload_n 1, 1) := by decide +kernel
theorem dX0_about_91 : decode cX0_about 91 = .ok (.iaload, 1) := by decide +kernel
theorem dX0_about_92 : decode cX0_about 92 = .ok (.ireturn, 1) := by decide +kernel
theorem dX0_about_93 : decode cX0_about 93 = .ok (.aload_n 0, 1) := by decide +kernel
theorem dX0_about_94 : decode cX0_about 94 = .ok (.getfield 28, 3) := by decide +kernel
theorem dX0_about_97 : decode cX0_about 97 = .ok (.iload_n 1, 1) := by decide +kernel
theorem dX0_about_98 : decode cX0_about 98 = .ok (.baload, 1) := by decide +kernel
theorem dX0_about_99 : decode cX0_about 99 = .ok (.ifCond .eq 7, 3) := by decide +kernel
theorem dX0_about_102 : decode cX0_about 102 = .ok (.iconst 1, 1) := by decide +kernel
theorem dX0_about_103 : decode cX0_about 103 = .ok (.goto 4, 3) := by decide +kernel
theorem dX0_about_106 : decode cX0_about 106 = .ok (.iconst 0, 1) := by decide +kernel
theorem dX0_about_107 : decode cX0_about 107 = .ok (.ireturn, 1) := by decide +kernel
theorem dX0_about_108 : decode cX0_about 108 = .ok (.aload_n 0, 1) := by decide +kernel
theorem dX0_about_109 : decode cX0_about 109 = .ok (.getfield 32, 3) := by decide +kernel
theorem dX0_about_112 : decode cX0_about 112 = .ok (.iload_n 1, 1) := by decide +kernel
theorem dX0_about_113 : decode cX0_about 113 = .ok (.iaload, 1) := by decide +kernel
theorem dX0_about_114 : decode cX0_about 114 = .ok (.ireturn, 1) := by decide +kernel
theorem dX0_about_115 : decode cX0_about 115 = .ok (.aload_n 0, 1) := by decide +kernel
theorem dX0_about_116 : decode cX0_about 116 = .ok (.iload_n 1, 1) := by decide +kernel
theorem dX0_about_117 : decode cX0_about 117 = .ok (.invokevirtual 121, 3) := by decide +kernel
theorem dX0_about_120 : decode cX0_about 120 = .ok (.ireturn, 1) := by decide +kernel
theorem dX0_about_121 : decode cX0_about 121 = .ok (.iconst (-1), 1) := by decide +kernel
theorem dX0_about_122 : decode cX0_about 122 = .ok (.ireturn, 1) := by decide +kernel
theorem dX0_count_0 : decode cX0_count 0 = .ok (.iload_n 1, 1) := by decide +kernel
theorem dX0_count_1 : decode cX0_count 1 = .ok (.ifCond .lt 8, 3) := by decide +kernel
theorem dX0_count_4 : decode cX0_count 4 = .ok (.iload_n 1, 1) := by decide +kernel
theorem dX0_count_5 : decode cX0_count 5 = .ok (.iconst 4, 1) := by decide +kernel
theorem dX0_count_6 : decode cX0_count 6 = .ok (.if_icmp .le 5, 3) := by decide +kernel
theorem dX0_count_9 : decode cX0_count 9 = .ok (.iconst (-1), 1) := by decide +kernel
theorem dX0_count_10 : decode cX0_count 10 = .ok (.ireturn, 1) := by decide +kernel
theorem dX0_count_11 : decode cX0_count 11 = .ok (.iconst 0, 1) := by decide +kernel
theorem dX0_count_12 : decode cX0_count 12 = .ok (.istore_n 2, 1) := by decide +kernel
theorem dX0_count_13 : decode cX0_count 13 = .ok (.iconst 0, 1) := by decide +kernel
theorem dX0_count_14 : decode cX0_count 14 = .ok (.istore_n 3, 1) := by decide +kernel
theorem dX0_count_15 : decode cX0_count 15 = .ok (.iload_n 3, 1) := by decide +kernel
theorem dX0_count_16 : decode cX0_count 16 = .ok (.bipush 15, 2) := by decide +kernel
theorem dX0_count_18 : decode cX0_count 18 = .ok (.if_icmp .ge 55, 3) := by decide +kernel
theorem dX0_count_21 : decode cX0_count 21 = .ok (.iload_n 1, 1) := by decide +kernel
theorem dX0_count_22 : decode cX0_count 22 = .ok (.ifCond .ne 20, 3) := by decide +kernel
theorem dX0_count_25 : decode cX0_count 25 = .ok (.aload_n 0, 1) := by decide +kernel
theorem dX0_count_26 : decode cX0_count 26 = .ok (.getfield 22, 3) := by decide +kernel
theorem dX0_count_29 : decode cX0_count 29 = .ok (.iload_n 3, 1) := by decide +kernel
theorem dX0_count_30 : decode cX0_count 30 = .ok (.iaload, 1) := by decide +kernel
theorem dX0_count_31 : decode cX0_count 31 = .ok (.ifCond .eq 7, 3) := by decide +kernel
theorem dX0_count_34 : decode cX0_count 34 = .ok (.iconst 1, 1) := by decide +kernel
theorem dX0_count_35 : decode cX0_count 35 = .ok (.goto 22, 3) := by decide +kernel
theorem dX0_count_38 : decode cX0_count 38 = .ok (.iconst 0, 1) := by decide +kernel
theorem dX0_count_39 : decode cX0_count 39 = .ok (.goto 18, 3) := by decide +kernel
theorem dX0_count_42 : decode cX0_count 42 = .ok (.aload_n 0, 1) := by decide +kernel
theorem dX0_count_43 : decode cX0_count 43 = .ok (.getfield 22, 3) := by decide +kernel
theorem dX0_count_46 : decode cX0_count 46 = .ok (.iload_n 3, 1) := by decide +kernel
theorem dX0_count_47 : decode cX0_count 47 = .ok (.iaload, 1) := by decide +kernel
theorem dX0_count_48 : decode cX0_count 48 = .ok (.iload_n 1, 1) := by decide +kernel
theorem dX0_count_49 : decode cX0_count 49 = .ok (.if_icmp .ne 7, 3) := by decide +kernel
theorem dX0_count_52 : decode cX0_count 52 = .ok (.iconst 1, 1) := by decide +kernel
theorem dX0_count_53 : decode cX0_count 53 = .ok (.goto 4, 3) := by decide +kernel
theorem dX0_count_56 : decode cX0_count 56 = .ok (.iconst 0, 1) := by decide +kernel
theorem dX0_count_57 : decode cX0_count 57 = .ok (.istore 4, 2) := by decide +kernel
theorem dX0_count_59 : decode cX0_count 59 = .ok (.iload 4, 2) := by decide +kernel
theorem dX0_count_61 : decode cX0_count 61 = .ok (.ifCond .eq 6, 3) := by decide +kernel
theorem dX0_count_64 : decode cX0_count 64 = .ok (.iinc 2 1, 3) := by decide +kernel
theorem dX0_count_67 : decode cX0_count 67 = .ok (.iinc 3 1, 3) := by decide +kernel
theorem dX0_count_70 : decode cX0_count 70 = .ok (.goto (-55), 3) := by decide +kernel
theorem dX0_count_73 : decode cX0_count 73 = .ok (.iload_n 2, 1) := by decide +kernel
theorem dX0_count_74 : decode cX0_count 74 = .ok (.ireturn, 1) := by decide +kernel
theorem dX0_isEmptyRing_0 : decode cX0_isEmptyRing 0 = .ok (.aload_n 0, 1) := by decide +kernel
theorem dX0_isEmptyRing_1 : decode cX0_isEmptyRing 1 = .ok (.getfield 22, 3) := by decide +kernel
theorem dX0_isEmptyRing_4 : decode cX0_isEmptyRing 4 = .ok (.iconst 0, 1) := by decide +kernel
theorem dX0_isEmptyRing_5 : decode cX0_isEmptyRing 5 = .ok (.iaload, 1) := by decide +kernel
theorem dX0_isEmptyRing_6 : decode cX0_isEmptyRing 6 = .ok (.ifCond .ne 7, 3) := by decide +kernel
theorem dX0_isEmptyRing_9 : decode cX0_isEmptyRing 9 = .ok (.iconst 1, 1) := by decide +kernel
theorem dX0_isEmptyRing_10 : decode cX0_isEmptyRing 10 = .ok (.goto 4, 3) := by decide +kernel
theorem dX0_isEmptyRing_13 : decode cX0_isEmptyRing 13 = .ok (.iconst 0, 1) := by decide +kernel
theorem dX0_isEmptyRing_14 : decode cX0_isEmptyRing 14 = .ok (.ireturn, 1) := by decide +kernel
theorem dX0_isProcessor_0 : decode cX0_isProcessor 0 = .ok (.iload_n 1, 1) := by decide +kernel
theorem dX0_isProcessor_1 : decode cX0_isProcessor 1 = .ok (.ifCond .lt 16, 3) := by decide +kernel
theorem dX0_isProcessor_4 : decode cX0_isProcessor 4 = .ok (.iload_n 1, 1) := by decide +kernel
theorem dX0_isProcessor_5 : decode cX0_isProcessor 5 = .ok (.aload_n 0, 1) := by decide +kernel
theorem dX0_isProcessor_6 : decode cX0_isProcessor 6 = .ok (.getfield 44, 3) := by decide +kernel
theorem dX0_isProcessor_9 : decode cX0_isProcessor 9 = .ok (.arraylength, 1) := by decide +kernel
theorem dX0_isProcessor_10 : decode cX0_isProcessor 10 = .ok (.if_icmp .ge 7, 3) := by decide +kernel
theorem dX0_isProcessor_13 : decode cX0_isProcessor 13 = .ok (.iconst 1, 1) := by decide +kernel
theorem dX0_isProcessor_14 : decode cX0_isProcessor 14 = .ok (.goto 4, 3) := by decide +kernel
theorem dX0_isProcessor_17 : decode cX0_isProcessor 17 = .ok (.iconst 0, 1) := by decide +kernel
theorem dX0_isProcessor_18 : decode cX0_isProcessor 18 = .ok (.ireturn, 1) := by decide +kernel
theorem dX0_isBlockedFor_0 : decode cX0_isBlockedFor 0 = .ok (.aload_n 0, 1) := by decide +kernel
theorem dX0_isBlockedFor_1 : decode cX0_isBlockedFor 1 = .ok (.getfield 22, 3) := by decide +kernel
theorem dX0_isBlockedFor_4 : decode cX0_isBlockedFor 4 = .ok (.iload_n 1, 1) := by decide +kernel
theorem dX0_isBlockedFor_5 : decode cX0_isBlockedFor 5 = .ok (.iaload, 1) := by decide +kernel
theorem dX0_isBlockedFor_6 : decode cX0_isBlockedFor 6 = .ok (.iconst 3, 1) := by decide +kernel
theorem dX0_isBlockedFor_7 : decode cX0_isBlockedFor 7 = .ok (.if_icmp .ne 17, 3) := by decide +kernel
theorem dX0_isBlockedFor_10 : decode cX0_isBlockedFor 10 = .ok (.aload_n 0, 1) := by decide +kernel
theorem dX0_isBlockedFor_11 : decode cX0_isBlockedFor 11 = .ok (.getfield 35, 3) := by decide +kernel
theorem dX0_isBlockedFor_14 : decode cX0_isBlockedFor 14 = .ok (.iload_n 1, 1) := by decide +kernel
theorem dX0_isBlockedFor_15 : decode cX0_isBlockedFor 15 = .ok (.iaload, 1) := by decide +kernel
theorem dX0_isBlockedFor_16 : decode cX0_isBlockedFor 16 = .ok (.iload_n 2, 1) := by decide +kernel
theorem dX0_isBlockedFor_17 : decode cX0_isBlockedFor 17 = .ok (.if_icmp .ne 7, 3) := by decide +kernel
theorem dX0_isBlockedFor_20 : decode cX0_isBlockedFor 20 = .ok (.iconst 1, 1) := by decide +kernel
theorem dX0_isBlockedFor_21 : decode cX0_isBlockedFor 21 = .ok (.goto 4, 3) := by decide +kernel
theorem dX0_isBlockedFor_24 : decode cX0_isBlockedFor 24 = .ok (.iconst 0, 1) := by decide +kernel
theorem dX0_isBlockedFor_25 : decode cX0_isBlockedFor 25 = .ok (.ireturn, 1) := by decide +kernel
theorem dX0_isChild_0 : decode cX0_isChild 0 = .ok (.aload_n 0, 1) := by decide +kernel
theorem dX0_isChild_1 : decode cX0_isChild 1 = .ok (.getfield 22, 3) := by decide +kernel
theorem dX0_isChild_4 : decode cX0_isChild 4 = .ok (.iload_n 1, 1) := by decide +kernel
theorem dX0_isChild_5 : decode cX0_isChild 5 = .ok (.iaload, 1) := by decide +kernel
theorem dX0_isChild_6 : decode cX0_isChild 6 = .ok (.ifCond .eq 17, 3) := by decide +kernel
theorem dX0_isChild_9 : decode cX0_isChild 9 = .ok (.aload_n 0, 1) := by decide +kernel
theorem dX0_isChild_10 : decode cX0_isChild 10 = .ok (.getfield 25, 3) := by decide +kernel
theorem dX0_isChild_13 : decode cX0_isChild 13 = .ok (.iload_n 1, 1) := by decide +kernel
theorem dX0_isChild_14 : decode cX0_isChild 14 = .ok (.iaload, 1) := by decide +kernel
theorem dX0_isChild_15 : decode cX0_isChild 15 = .ok (.iload_n 2, 1) := by decide +kernel
theorem dX0_isChild_16 : decode cX0_isChild 16 = .ok (.if_icmp .ne 7, 3) := by decide +kernel
theorem dX0_isChild_19 : decode cX0_isChild 19 = .ok (.iconst 1, 1) := by decide +kernel
theorem dX0_isChild_20 : decode cX0_isChild 20 = .ok (.goto 4, 3) := by decide +kernel
theorem dX0_isChild_23 : decode cX0_isChild 23 = .ok (.iconst 0, 1) := by decide +kernel
theorem dX0_isChild_24 : decode cX0_isChild 24 = .ok (.ireturn, 1) := by decide +kernel
theorem dX0_placeOn_0 : decode cX0_placeOn 0 = .ok (.aload_n 0, 1) := by decide +kernel
theorem dX0_placeOn_1 : decode cX0_placeOn 1 = .ok (.iload_n 1, 1) := by decide +kernel
theorem dX0_placeOn_2 : decode cX0_placeOn 2 = .ok (.invokevirtual 68, 3) := by decide +kernel
theorem dX0_placeOn_5 : decode cX0_placeOn 5 = .ok (.ifCond .eq 12, 3) := by decide +kernel
theorem dX0_placeOn_8 : decode cX0_placeOn 8 = .ok (.aload_n 0, 1) := by decide +kernel
theorem dX0_placeOn_9 : decode cX0_placeOn 9 = .ok (.getfield 44, 3) := by decide +kernel
theorem dX0_placeOn_12 : decode cX0_placeOn 12 = .ok (.iload_n 1, 1) := by decide +kernel
theorem dX0_placeOn_13 : decode cX0_placeOn 13 = .ok (.iaload, 1) := by decide +kernel
theorem dX0_placeOn_14 : decode cX0_placeOn 14 = .ok (.goto 4, 3) := by decide +kernel
theorem dX0_placeOn_17 : decode cX0_placeOn 17 = .ok (.iconst (-1), 1) := by decide +kernel
theorem dX0_placeOn_18 : decode cX0_placeOn 18 = .ok (.ireturn, 1) := by decide +kernel
theorem dX0_processorOf_0 : decode cX0_processorOf 0 = .ok (.iconst 0, 1) := by decide +kernel
theorem dX0_processorOf_1 : decode cX0_processorOf 1 = .ok (.istore_n 2, 1) := by decide +kernel
theorem dX0_processorOf_2 : decode cX0_processorOf 2 = .ok (.iload_n 2, 1) := by decide +kernel
theorem dX0_processorOf_3 : decode cX0_processorOf 3 = .ok (.aload_n 0, 1) := by decide +kernel
theorem dX0_processorOf_4 : decode cX0_processorOf 4 = .ok (.getfield 44, 3) := by decide +kernel
theorem dX0_processorOf_7 : decode cX0_processorOf 7 = .ok (.arraylength, 1) := by decide +kernel
theorem dX0_processorOf_8 : decode cX0_processorOf 8 = .ok (.if_icmp .ge 21, 3) := by decide +kernel
theorem dX0_processorOf_11 : decode cX0_processorOf 11 = .ok (.aload_n 0, 1) := by decide +kernel
theorem dX0_processorOf_12 : decode cX0_processorOf 12 = .ok (.getfield 44, 3) := by decide +kernel
theorem dX0_processorOf_15 : decode cX0_processorOf 15 = .ok (.iload_n 2, 1) := by decide +kernel
theorem dX0_processorOf_16 : decode cX0_processorOf 16 = .ok (.iaload, 1) := by decide +kernel
theorem dX0_processorOf_17 : decode cX0_processorOf 17 = .ok (.iload_n 1, 1) := by decide +kernel
theorem dX0_processorOf_18 : decode cX0_processorOf 18 = .ok (.if_icmp .ne 5, 3) := by decide +kernel
theorem dX0_processorOf_21 : decode cX0_processorOf 21 = .ok (.iload_n 2, 1) := by decide +kernel
theorem dX0_processorOf_22 : decode cX0_processorOf 22 = .ok (.ireturn, 1) := by decide +kernel
theorem dX0_processorOf_23 : decode cX0_processorOf 23 = .ok (.iinc 2 1, 3) := by decide +kernel
theorem dX0_processorOf_26 : decode cX0_processorOf 26 = .ok (.goto (-24), 3) := by decide +kernel
theorem dX0_processorOf_29 : decode cX0_processorOf 29 = .ok (.iconst (-1), 1) := by decide +kernel
theorem dX0_processorOf_30 : decode cX0_processorOf 30 = .ok (.ireturn, 1) := by decide +kernel
theorem dX0_placeOf_0 : decode cX0_placeOf 0 = .ok (.iconst 0, 1) := by decide +kernel
theorem dX0_placeOf_1 : decode cX0_placeOf 1 = .ok (.istore_n 2, 1) := by decide +kernel
theorem dX0_placeOf_2 : decode cX0_placeOf 2 = .ok (.iload_n 2, 1) := by decide +kernel
theorem dX0_placeOf_3 : decode cX0_placeOf 3 = .ok (.bipush 15, 2) := by decide +kernel
theorem dX0_placeOf_5 : decode cX0_placeOf 5 = .ok (.if_icmp .ge 30, 3) := by decide +kernel
theorem dX0_placeOf_8 : decode cX0_placeOf 8 = .ok (.aload_n 0, 1) := by decide +kernel
theorem dX0_placeOf_9 : decode cX0_placeOf 9 = .ok (.getfield 22, 3) := by decide +kernel
theorem dX0_placeOf_12 : decode cX0_placeOf 12 = .ok (.iload_n 2, 1) := by decide +kernel
theorem dX0_placeOf_13 : decode cX0_placeOf 13 = .ok (.iaload, 1) := by decide +kernel
theorem dX0_placeOf_14 : decode cX0_placeOf 14 = .ok (.ifCond .eq 15, 3) := by decide +kernel
theorem dX0_placeOf_17 : decode cX0_placeOf 17 = .ok (.aload_n 0, 1) := by decide +kernel
theorem dX0_placeOf_18 : decode cX0_placeOf 18 = .ok (.getfield 18, 3) := by decide +kernel
theorem dX0_placeOf_21 : decode cX0_placeOf 21 = .ok (.iload_n 2, 1) := by decide +kernel
theorem dX0_placeOf_22 : decode cX0_placeOf 22 = .ok (.iaload, 1) := by decide +kernel
theorem dX0_placeOf_23 : decode cX0_placeOf 23 = .ok (.iload_n 1, 1) := by decide +kernel
theorem dX0_placeOf_24 : decode cX0_placeOf 24 = .ok (.if_icmp .ne 5, 3) := by decide +kernel
theorem dX0_placeOf_27 : decode cX0_placeOf 27 = .ok (.iload_n 2, 1) := by decide +kernel
theorem dX0_placeOf_28 : decode cX0_placeOf 28 = .ok (.ireturn, 1) := by decide +kernel
theorem dX0_placeOf_29 : decode cX0_placeOf 29 = .ok (.iinc 2 1, 3) := by decide +kernel
theorem dX0_placeOf_32 : decode cX0_placeOf 32 = .ok (.goto (-30), 3) := by decide +kernel
theorem dX0_placeOf_35 : decode cX0_placeOf 35 = .ok (.iconst (-1), 1) := by decide +kernel
theorem dX0_placeOf_36 : decode cX0_placeOf 36 = .ok (.ireturn, 1) := by decide +kernel
theorem dX0_nextReady_0 : decode cX0_nextReady 0 = .ok (.iconst 1, 1) := by decide +kernel
theorem dX0_nextReady_1 : decode cX0_nextReady 1 = .ok (.istore_n 1, 1) := by decide +kernel
theorem dX0_nextReady_2 : decode cX0_nextReady 2 = .ok (.iload_n 1, 1) := by decide +kernel
theorem dX0_nextReady_3 : decode cX0_nextReady 3 = .ok (.bipush 15, 2) := by decide +kernel
theorem dX0_nextReady_5 : decode cX0_nextReady 5 = .ok (.if_icmp .gt 31, 3) := by decide +kernel
theorem dX0_nextReady_8 : decode cX0_nextReady 8 = .ok (.aload_n 0, 1) := by decide +kernel
theorem dX0_nextReady_9 : decode cX0_nextReady 9 = .ok (.getfield 47, 3) := by decide +kernel
theorem dX0_nextReady_12 : decode cX0_nextReady 12 = .ok (.iload_n 1, 1) := by decide +kernel
theorem dX0_nextReady_13 : decode cX0_nextReady 13 = .ok (.iadd, 1) := by decide +kernel
theorem dX0_nextReady_14 : decode cX0_nextReady 14 = .ok (.bipush 15, 2) := by decide +kernel
theorem dX0_nextReady_16 : decode cX0_nextReady 16 = .ok (.irem, 1) := by decide +kernel
theorem dX0_nextReady_17 : decode cX0_nextReady 17 = .ok (.istore_n 2, 1) := by decide +kernel
theorem dX0_nextReady_18 : decode cX0_nextReady 18 = .ok (.aload_n 0, 1) := by decide +kernel
theorem dX0_nextReady_19 : decode cX0_nextReady 19 = .ok (.getfield 22, 3) := by decide +kernel
theorem dX0_nextReady_22 : decode cX0_nextReady 22 = .ok (.iload_n 2, 1) := by decide +kernel
theorem dX0_nextReady_23 : decode cX0_nextReady 23 = .ok (.iaload, 1) := by decide +kernel
theorem dX0_nextReady_24 : decode cX0_nextReady 24 = .ok (.iconst 1, 1) := by decide +kernel
theorem dX0_nextReady_25 : decode cX0_nextReady 25 = .ok (.if_icmp .ne 5, 3) := by decide +kernel
theorem dX0_nextReady_28 : decode cX0_nextReady 28 = .ok (.iload_n 2, 1) := by decide +kernel
theorem dX0_nextReady_29 : decode cX0_nextReady 29 = .ok (.ireturn, 1) := by decide +kernel
theorem dX0_nextReady_30 : decode cX0_nextReady 30 = .ok (.iinc 1 1, 3) := by decide +kernel
theorem dX0_nextReady_33 : decode cX0_nextReady 33 = .ok (.goto (-31), 3) := by decide +kernel
theorem dX0_nextReady_36 : decode cX0_nextReady 36 = .ok (.iconst (-1), 1) := by decide +kernel
theorem dX0_nextReady_37 : decode cX0_nextReady 37 = .ok (.ireturn, 1) := by decide +kernel
theorem dX0_firstFree_0 : decode cX0_firstFree 0 = .ok (.iconst 0, 1) := by decide +kernel
theorem dX0_firstFree_1 : decode cX0_firstFree 1 = .ok (.istore_n 1, 1) := by decide +kernel
theorem dX0_firstFree_2 : decode cX0_firstFree 2 = .ok (.iload_n 1, 1) := by decide +kernel
theorem dX0_firstFree_3 : decode cX0_firstFree 3 = .ok (.bipush 15, 2) := by decide +kernel
theorem dX0_firstFree_5 : decode cX0_firstFree 5 = .ok (.if_icmp .ge 20, 3) := by decide +kernel
theorem dX0_firstFree_8 : decode cX0_firstFree 8 = .ok (.aload_n 0, 1) := by decide +kernel
theorem dX0_firstFree_9 : decode cX0_firstFree 9 = .ok (.getfield 22, 3) := by decide +kernel
theorem dX0_firstFree_12 : decode cX0_firstFree 12 = .ok (.iload_n 1, 1) := by decide +kernel
theorem dX0_firstFree_13 : decode cX0_firstFree 13 = .ok (.iaload, 1) := by decide +kernel
theorem dX0_firstFree_14 : decode cX0_firstFree 14 = .ok (.ifCond .ne 5, 3) := by decide +kernel
theorem dX0_firstFree_17 : decode cX0_firstFree 17 = .ok (.iload_n 1, 1) := by decide +kernel
theorem dX0_firstFree_18 : decode cX0_firstFree 18 = .ok (.ireturn, 1) := by decide +kernel
theorem dX0_firstFree_19 : decode cX0_firstFree 19 = .ok (.iinc 1 1, 3) := by decide +kernel
theorem dX0_firstFree_22 : decode cX0_firstFree 22 = .ok (.goto (-20), 3) := by decide +kernel
theorem dX0_firstFree_25 : decode cX0_firstFree 25 = .ok (.iconst (-1), 1) := by decide +kernel
theorem dX0_firstFree_26 : decode cX0_firstFree 26 = .ok (.ireturn, 1) := by decide +kernel
theorem dX0_hasChild_0 : decode cX0_hasChild 0 = .ok (.iconst 0, 1) := by decide +kernel
theorem dX0_hasChild_1 : decode cX0_hasChild 1 = .ok (.istore_n 2, 1) := by decide +kernel
theorem dX0_hasChild_2 : decode cX0_hasChild 2 = .ok (.iload_n 2, 1) := by decide +kernel
theorem dX0_hasChild_3 : decode cX0_hasChild 3 = .ok (.bipush 15, 2) := by decide +kernel
theorem dX0_hasChild_5 : decode cX0_hasChild 5 = .ok (.if_icmp .ge 20, 3) := by decide +kernel
theorem dX0_hasChild_8 : decode cX0_hasChild 8 = .ok (.aload_n 0, 1) := by decide +kernel
theorem dX0_hasChild_9 : decode cX0_hasChild 9 = .ok (.iload_n 2, 1) := by decide +kernel
theorem dX0_hasChild_10 : decode cX0_hasChild 10 = .ok (.iload_n 1, 1) := by decide +kernel
theorem dX0_hasChild_11 : decode cX0_hasChild 11 = .ok (.invokevirtual 124, 3) := by decide +kernel
theorem dX0_hasChild_14 : decode cX0_hasChild 14 = .ok (.ifCond .eq 5, 3) := by decide +kernel
theorem dX0_hasChild_17 : decode cX0_hasChild 17 = .ok (.iconst 1, 1) := by decide +kernel
theorem dX0_hasChild_18 : decode cX0_hasChild 18 = .ok (.ireturn, 1) := by decide +kernel
theorem dX0_hasChild_19 : decode cX0_hasChild 19 = .ok (.iinc 2 1, 3) := by decide +kernel
theorem dX0_hasChild_22 : decode cX0_hasChild 22 = .ok (.goto (-20), 3) := by decide +kernel
theorem dX0_hasChild_25 : decode cX0_hasChild 25 = .ok (.iconst 0, 1) := by decide +kernel
theorem dX0_hasChild_26 : decode cX0_hasChild 26 = .ok (.ireturn, 1) := by decide +kernel
theorem dX0_firstZombieChild_0 : decode cX0_firstZombieChild 0 = .ok (.iconst 0, 1) := by decide +kernel
theorem dX0_firstZombieChild_1 : decode cX0_firstZombieChild 1 = .ok (.istore_n 2, 1) := by decide +kernel
theorem dX0_firstZombieChild_2 : decode cX0_firstZombieChild 2 = .ok (.iload_n 2, 1) := by decide +kernel
theorem dX0_firstZombieChild_3 : decode cX0_firstZombieChild 3 = .ok (.bipush 15, 2) := by decide +kernel
theorem dX0_firstZombieChild_5 : decode cX0_firstZombieChild 5 = .ok (.if_icmp .ge 30, 3) := by decide +kernel
theorem dX0_firstZombieChild_8 : decode cX0_firstZombieChild 8 = .ok (.aload_n 0, 1) := by decide +kernel
theorem dX0_firstZombieChild_9 : decode cX0_firstZombieChild 9 = .ok (.iload_n 2, 1) := by decide +kernel
theorem dX0_firstZombieChild_10 : decode cX0_firstZombieChild 10 = .ok (.iload_n 1, 1) := by decide +kernel
theorem dX0_firstZombieChild_11 : decode cX0_firstZombieChild 11 = .ok (.invokevirtual 124, 3) := by decide +kernel
theorem dX0_firstZombieChild_14 : decode cX0_firstZombieChild 14 = .ok (.ifCond .eq 15, 3) := by decide +kernel
theorem dX0_firstZombieChild_17 : decode cX0_firstZombieChild 17 = .ok (.aload_n 0, 1) := by decide +kernel
theorem dX0_firstZombieChild_18 : decode cX0_firstZombieChild 18 = .ok (.getfield 22, 3) := by decide +kernel
theorem dX0_firstZombieChild_21 : decode cX0_firstZombieChild 21 = .ok (.iload_n 2, 1) := by decide +kernel
theorem dX0_firstZombieChild_22 : decode cX0_firstZombieChild 22 = .ok (.iaload, 1) := by decide +kernel
theorem dX0_firstZombieChild_23 : decode cX0_firstZombieChild 23 = .ok (.iconst 4, 1) := by decide +kernel
theorem dX0_firstZombieChild_24 : decode cX0_firstZombieChild 24 = .ok (.if_icmp .ne 5, 3) := by decide +kernel
theorem dX0_firstZombieChild_27 : decode cX0_firstZombieChild 27 = .ok (.iload_n 2, 1) := by decide +kernel
theorem dX0_firstZombieChild_28 : decode cX0_firstZombieChild 28 = .ok (.ireturn, 1) := by decide +kernel
theorem dX0_firstZombieChild_29 : decode cX0_firstZombieChild 29 = .ok (.iinc 2 1, 3) := by decide +kernel
theorem dX0_firstZombieChild_32 : decode cX0_firstZombieChild 32 = .ok (.goto (-30), 3) := by decide +kernel
theorem dX0_firstZombieChild_35 : decode cX0_firstZombieChild 35 = .ok (.iconst (-1), 1) := by decide +kernel
theorem dX0_firstZombieChild_36 : decode cX0_firstZombieChild 36 = .ok (.ireturn, 1) := by decide +kernel
theorem dX0_settle_0 : decode cX0_settle 0 = .ok (.aload_n 0, 1) := by decide +kernel
theorem dX0_settle_1 : decode cX0_settle 1 = .ok (.getfield 18, 3) := by decide +kernel
theorem dX0_settle_4 : decode cX0_settle 4 = .ok (.iload_n 1, 1) := by decide +kernel
theorem dX0_settle_5 : decode cX0_settle 5 = .ok (.iload_n 2, 1) := by decide +kernel
theorem dX0_settle_6 : decode cX0_settle 6 = .ok (.iastore, 1) := by decide +kernel
theorem dX0_settle_7 : decode cX0_settle 7 = .ok (.aload_n 0, 1) := by decide +kernel
theorem dX0_settle_8 : decode cX0_settle 8 = .ok (.getfield 25, 3) := by decide +kernel
theorem dX0_settle_11 : decode cX0_settle 11 = .ok (.iload_n 1, 1) := by decide +kernel
theorem dX0_settle_12 : decode cX0_settle 12 = .ok (.iload_n 3, 1) := by decide +kernel
theorem dX0_settle_13 : decode cX0_settle 13 = .ok (.iastore, 1) := by decide +kernel
theorem dX0_settle_14 : decode cX0_settle 14 = .ok (.aload_n 0, 1) := by decide +kernel
theorem dX0_settle_15 : decode cX0_settle 15 = .ok (.getfield 22, 3) := by decide +kernel
theorem dX0_settle_18 : decode cX0_settle 18 = .ok (.iload_n 1, 1) := by decide +kernel
theorem dX0_settle_19 : decode cX0_settle 19 = .ok (.iconst 1, 1) := by decide +kernel
theorem dX0_settle_20 : decode cX0_settle 20 = .ok (.iastore, 1) := by decide +kernel
theorem dX0_settle_21 : decode cX0_settle 21 = .ok (.return_, 1) := by decide +kernel
theorem dX0_clearPlace_0 : decode cX0_clearPlace 0 = .ok (.aload_n 0, 1) := by decide +kernel
theorem dX0_clearPlace_1 : decode cX0_clearPlace 1 = .ok (.getfield 18, 3) := by decide +kernel
theorem dX0_clearPlace_4 : decode cX0_clearPlace 4 = .ok (.iload_n 1, 1) := by decide +kernel
theorem dX0_clearPlace_5 : decode cX0_clearPlace 5 = .ok (.iconst 0, 1) := by decide +kernel
theorem dX0_clearPlace_6 : decode cX0_clearPlace 6 = .ok (.iastore, 1) := by decide +kernel
theorem dX0_clearPlace_7 : decode cX0_clearPlace 7 = .ok (.aload_n 0, 1) := by decide +kernel
theorem dX0_clearPlace_8 : decode cX0_clearPlace 8 = .ok (.getfield 22, 3) := by decide +kernel
theorem dX0_clearPlace_11 : decode cX0_clearPlace 11 = .ok (.iload_n 1, 1) := by decide +kernel
theorem dX0_clearPlace_12 : decode cX0_clearPlace 12 = .ok (.iconst 0, 1) := by decide +kernel
theorem dX0_clearPlace_13 : decode cX0_clearPlace 13 = .ok (.iastore, 1) := by decide +kernel
theorem dX0_clearPlace_14 : decode cX0_clearPlace 14 = .ok (.aload_n 0, 1) := by decide +kernel
theorem dX0_clearPlace_15 : decode cX0_clearPlace 15 = .ok (.getfield 25, 3) := by decide +kernel
theorem dX0_clearPlace_18 : decode cX0_clearPlace 18 = .ok (.iload_n 1, 1) := by decide +kernel
theorem dX0_clearPlace_19 : decode cX0_clearPlace 19 = .ok (.iconst 0, 1) := by decide +kernel
theorem dX0_clearPlace_20 : decode cX0_clearPlace 20 = .ok (.iastore, 1) := by decide +kernel
theorem dX0_clearPlace_21 : decode cX0_clearPlace 21 = .ok (.aload_n 0, 1) := by decide +kernel
theorem dX0_clearPlace_22 : decode cX0_clearPlace 22 = .ok (.getfield 28, 3) := by decide +kernel
theorem dX0_clearPlace_25 : decode cX0_clearPlace 25 = .ok (.iload_n 1, 1) := by decide +kernel
theorem dX0_clearPlace_26 : decode cX0_clearPlace 26 = .ok (.iconst 0, 1) := by decide +kernel
theorem dX0_clearPlace_27 : decode cX0_clearPlace 27 = .ok (.bastore, 1) := by decide +kernel
theorem dX0_clearPlace_28 : decode cX0_clearPlace 28 = .ok (.aload_n 0, 1) := by decide +kernel
theorem dX0_clearPlace_29 : decode cX0_clearPlace 29 = .ok (.getfield 32, 3) := by decide +kernel
theorem dX0_clearPlace_32 : decode cX0_clearPlace 32 = .ok (.iload_n 1, 1) := by decide +kernel
theorem dX0_clearPlace_33 : decode cX0_clearPlace 33 = .ok (.iconst 0, 1) := by decide +kernel
theorem dX0_clearPlace_34 : decode cX0_clearPlace 34 = .ok (.iastore, 1) := by decide +kernel
theorem dX0_clearPlace_35 : decode cX0_clearPlace 35 = .ok (.aload_n 0, 1) := by decide +kernel
theorem dX0_clearPlace_36 : decode cX0_clearPlace 36 = .ok (.getfield 35, 3) := by decide +kernel
theorem dX0_clearPlace_39 : decode cX0_clearPlace 39 = .ok (.iload_n 1, 1) := by decide +kernel
theorem dX0_clearPlace_40 : decode cX0_clearPlace 40 = .ok (.iconst 0, 1) := by decide +kernel
theorem dX0_clearPlace_41 : decode cX0_clearPlace 41 = .ok (.iastore, 1) := by decide +kernel
theorem dX0_clearPlace_42 : decode cX0_clearPlace 42 = .ok (.aload_n 0, 1) := by decide +kernel
theorem dX0_clearPlace_43 : decode cX0_clearPlace 43 = .ok (.getfield 38, 3) := by decide +kernel
theorem dX0_clearPlace_46 : decode cX0_clearPlace 46 = .ok (.iload_n 1, 1) := by decide +kernel
theorem dX0_clearPlace_47 : decode cX0_clearPlace 47 = .ok (.iconst 0, 1) := by decide +kernel
theorem dX0_clearPlace_48 : decode cX0_clearPlace 48 = .ok (.iastore, 1) := by decide +kernel
theorem dX0_clearPlace_49 : decode cX0_clearPlace 49 = .ok (.aload_n 0, 1) := by decide +kernel
theorem dX0_clearPlace_50 : decode cX0_clearPlace 50 = .ok (.getfield 41, 3) := by decide +kernel
theorem dX0_clearPlace_53 : decode cX0_clearPlace 53 = .ok (.iload_n 1, 1) := by decide +kernel
theorem dX0_clearPlace_54 : decode cX0_clearPlace 54 = .ok (.iconst 0, 1) := by decide +kernel
theorem dX0_clearPlace_55 : decode cX0_clearPlace 55 = .ok (.iastore, 1) := by decide +kernel
theorem dX0_clearPlace_56 : decode cX0_clearPlace 56 = .ok (.return_, 1) := by decide +kernel
theorem dX0_emptyRing_0 : decode cX0_emptyRing 0 = .ok (.iconst 0, 1) := by decide +kernel
theorem dX0_emptyRing_1 : decode cX0_emptyRing 1 = .ok (.istore_n 1, 1) := by decide +kernel
theorem dX0_emptyRing_2 : decode cX0_emptyRing 2 = .ok (.iload_n 1, 1) := by decide +kernel
theorem dX0_emptyRing_3 : decode cX0_emptyRing 3 = .ok (.bipush 15, 2) := by decide +kernel
theorem dX0_emptyRing_5 : decode cX0_emptyRing 5 = .ok (.if_icmp .ge 14, 3) := by decide +kernel
theorem dX0_emptyRing_8 : decode cX0_emptyRing 8 = .ok (.aload_n 0, 1) := by decide +kernel
theorem dX0_emptyRing_9 : decode cX0_emptyRing 9 = .ok (.iload_n 1, 1) := by decide +kernel
theorem dX0_emptyRing_10 : decode cX0_emptyRing 10 = .ok (.invokevirtual 102, 3) := by decide +kernel
theorem dX0_emptyRing_13 : decode cX0_emptyRing 13 = .ok (.iinc 1 1, 3) := by decide +kernel
theorem dX0_emptyRing_16 : decode cX0_emptyRing 16 = .ok (.goto (-14), 3) := by decide +kernel
theorem dX0_emptyRing_19 : decode cX0_emptyRing 19 = .ok (.iconst 0, 1) := by decide +kernel
theorem dX0_emptyRing_20 : decode cX0_emptyRing 20 = .ok (.istore_n 1, 1) := by decide +kernel
theorem dX0_emptyRing_21 : decode cX0_emptyRing 21 = .ok (.iload_n 1, 1) := by decide +kernel
theorem dX0_emptyRing_22 : decode cX0_emptyRing 22 = .ok (.aload_n 0, 1) := by decide +kernel
theorem dX0_emptyRing_23 : decode cX0_emptyRing 23 = .ok (.getfield 44, 3) := by decide +kernel
theorem dX0_emptyRing_26 : decode cX0_emptyRing 26 = .ok (.arraylength, 1) := by decide +kernel
theorem dX0_emptyRing_27 : decode cX0_emptyRing 27 = .ok (.if_icmp .ge 16, 3) := by decide +kernel
theorem dX0_emptyRing_30 : decode cX0_emptyRing 30 = .ok (.aload_n 0, 1) := by decide +kernel
theorem dX0_emptyRing_31 : decode cX0_emptyRing 31 = .ok (.getfield 44, 3) := by decide +kernel
theorem dX0_emptyRing_34 : decode cX0_emptyRing 34 = .ok (.iload_n 1, 1) := by decide +kernel
theorem dX0_emptyRing_35 : decode cX0_emptyRing 35 = .ok (.iconst (-1), 1) := by decide +kernel
theorem dX0_emptyRing_36 : decode cX0_emptyRing 36 = .ok (.iastore, 1) := by decide +kernel
theorem dX0_emptyRing_37 : decode cX0_emptyRing 37 = .ok (.iinc 1 1, 3) := by decide +kernel
theorem dX0_emptyRing_40 : decode cX0_emptyRing 40 = .ok (.goto (-19), 3) := by decide +kernel
theorem dX0_emptyRing_43 : decode cX0_emptyRing 43 = .ok (.return_, 1) := by decide +kernel
theorem dX0_takeOff_0 : decode cX0_takeOff 0 = .ok (.aload_n 0, 1) := by decide +kernel
theorem dX0_takeOff_1 : decode cX0_takeOff 1 = .ok (.getfield 44, 3) := by decide +kernel
theorem dX0_takeOff_4 : decode cX0_takeOff 4 = .ok (.iload_n 1, 1) := by decide +kernel
theorem dX0_takeOff_5 : decode cX0_takeOff 5 = .ok (.iconst (-1), 1) := by decide +kernel
theorem dX0_takeOff_6 : decode cX0_takeOff 6 = .ok (.iastore, 1) := by decide +kernel
theorem dX0_takeOff_7 : decode cX0_takeOff 7 = .ok (.aload_n 0, 1) := by decide +kernel
theorem dX0_takeOff_8 : decode cX0_takeOff 8 = .ok (.getfield 22, 3) := by decide +kernel
theorem dX0_takeOff_11 : decode cX0_takeOff 11 = .ok (.iload_n 2, 1) := by decide +kernel
theorem dX0_takeOff_12 : decode cX0_takeOff 12 = .ok (.iload_n 3, 1) := by decide +kernel
theorem dX0_takeOff_13 : decode cX0_takeOff 13 = .ok (.iastore, 1) := by decide +kernel
theorem dX0_takeOff_14 : decode cX0_takeOff 14 = .ok (.return_, 1) := by decide +kernel
theorem dX0_makeReady_0 : decode cX0_makeReady 0 = .ok (.aload_n 0, 1) := by decide +kernel
theorem dX0_makeReady_1 : decode cX0_makeReady 1 = .ok (.getfield 22, 3) := by decide +kernel
theorem dX0_makeReady_4 : decode cX0_makeReady 4 = .ok (.iload_n 1, 1) := by decide +kernel
theorem dX0_makeReady_5 : decode cX0_makeReady 5 = .ok (.iconst 1, 1) := by decide +kernel
theorem dX0_makeReady_6 : decode cX0_makeReady 6 = .ok (.iastore, 1) := by decide +kernel
theorem dX0_makeReady_7 : decode cX0_makeReady 7 = .ok (.aload_n 0, 1) := by decide +kernel
theorem dX0_makeReady_8 : decode cX0_makeReady 8 = .ok (.getfield 35, 3) := by decide +kernel
theorem dX0_makeReady_11 : decode cX0_makeReady 11 = .ok (.iload_n 1, 1) := by decide +kernel
theorem dX0_makeReady_12 : decode cX0_makeReady 12 = .ok (.iconst 0, 1) := by decide +kernel
theorem dX0_makeReady_13 : decode cX0_makeReady 13 = .ok (.iastore, 1) := by decide +kernel
theorem dX0_makeReady_14 : decode cX0_makeReady 14 = .ok (.return_, 1) := by decide +kernel
theorem dX0_countDown_0 : decode cX0_countDown 0 = .ok (.aload_n 0, 1) := by decide +kernel
theorem dX0_countDown_1 : decode cX0_countDown 1 = .ok (.getfield 41, 3) := by decide +kernel
theorem dX0_countDown_4 : decode cX0_countDown 4 = .ok (.iload_n 1, 1) := by decide +kernel
theorem dX0_countDown_5 : decode cX0_countDown 5 = .ok (.dup2, 1) := by decide +kernel
theorem dX0_countDown_6 : decode cX0_countDown 6 = .ok (.iaload, 1) := by decide +kernel
theorem dX0_countDown_7 : decode cX0_countDown 7 = .ok (.iconst 1, 1) := by decide +kernel
theorem dX0_countDown_8 : decode cX0_countDown 8 = .ok (.isub, 1) := by decide +kernel
theorem dX0_countDown_9 : decode cX0_countDown 9 = .ok (.iastore, 1) := by decide +kernel
theorem dX0_countDown_10 : decode cX0_countDown 10 = .ok (.aload_n 0, 1) := by decide +kernel
theorem dX0_countDown_11 : decode cX0_countDown 11 = .ok (.getfield 41, 3) := by decide +kernel
theorem dX0_countDown_14 : decode cX0_countDown 14 = .ok (.iload_n 1, 1) := by decide +kernel
theorem dX0_countDown_15 : decode cX0_countDown 15 = .ok (.iaload, 1) := by decide +kernel
theorem dX0_countDown_16 : decode cX0_countDown 16 = .ok (.ifCond .gt 8, 3) := by decide +kernel
theorem dX0_countDown_19 : decode cX0_countDown 19 = .ok (.aload_n 0, 1) := by decide +kernel
theorem dX0_countDown_20 : decode cX0_countDown 20 = .ok (.iload_n 1, 1) := by decide +kernel
theorem dX0_countDown_21 : decode cX0_countDown 21 = .ok (.invokevirtual 109, 3) := by decide +kernel
theorem dX0_countDown_24 : decode cX0_countDown 24 = .ok (.return_, 1) := by decide +kernel
theorem dX0_handOnChildren_0 : decode cX0_handOnChildren 0 = .ok (.iconst 0, 1) := by decide +kernel
theorem dX0_handOnChildren_1 : decode cX0_handOnChildren 1 = .ok (.istore_n 2, 1) := by decide +kernel
theorem dX0_handOnChildren_2 : decode cX0_handOnChildren 2 = .ok (.iload_n 2, 1) := by decide +kernel
theorem dX0_handOnChildren_3 : decode cX0_handOnChildren 3 = .ok (.bipush 15, 2) := by decide +kernel
theorem dX0_handOnChildren_5 : decode cX0_handOnChildren 5 = .ok (.if_icmp .ge 40, 3) := by decide +kernel
theorem dX0_handOnChildren_8 : decode cX0_handOnChildren 8 = .ok (.aload_n 0, 1) := by decide +kernel
theorem dX0_handOnChildren_9 : decode cX0_handOnChildren 9 = .ok (.iload_n 2, 1) := by decide +kernel
theorem dX0_handOnChildren_10 : decode cX0_handOnChildren 10 = .ok (.iload_n 1, 1) := by decide +kernel
theorem dX0_handOnChildren_11 : decode cX0_handOnChildren 11 = .ok (.invokevirtual 124, 3) := by decide +kernel
theorem dX0_handOnChildren_14 : decode cX0_handOnChildren 14 = .ok (.ifCond .eq 25, 3) := by decide +kernel
theorem dX0_handOnChildren_17 : decode cX0_handOnChildren 17 = .ok (.aload_n 0, 1) := by decide +kernel
theorem dX0_handOnChildren_18 : decode cX0_handOnChildren 18 = .ok (.getfield 25, 3) := by decide +kernel
theorem dX0_handOnChildren_21 : decode cX0_handOnChildren 21 = .ok (.iload_n 2, 1) := by decide +kernel
theorem dX0_handOnChildren_22 : decode cX0_handOnChildren 22 = .ok (.iconst 1, 1) := by decide +kernel
theorem dX0_handOnChildren_23 : decode cX0_handOnChildren 23 = .ok (.iastore, 1) := by decide +kernel
theorem dX0_handOnChildren_24 : decode cX0_handOnChildren 24 = .ok (.aload_n 0, 1) := by decide +kernel
theorem dX0_handOnChildren_25 : decode cX0_handOnChildren 25 = .ok (.getfield 22, 3) := by decide +kernel
theorem dX0_handOnChildren_28 : decode cX0_handOnChildren 28 = .ok (.iload_n 2, 1) := by decide +kernel
theorem dX0_handOnChildren_29 : decode cX0_handOnChildren 29 = .ok (.iaload, 1) := by decide +kernel
theorem dX0_handOnChildren_30 : decode cX0_handOnChildren 30 = .ok (.iconst 4, 1) := by decide +kernel
theorem dX0_handOnChildren_31 : decode cX0_handOnChildren 31 = .ok (.if_icmp .ne 8, 3) := by decide +kernel
theorem dX0_handOnChildren_34 : decode cX0_handOnChildren 34 = .ok (.aload_n 0, 1) := by decide +kernel
theorem dX0_handOnChildren_35 : decode cX0_handOnChildren 35 = .ok (.iconst 1, 1) := by decide +kernel
theorem dX0_handOnChildren_36 : decode cX0_handOnChildren 36 = .ok (.invokevirtual 93, 3) := by decide +kernel
theorem dX0_handOnChildren_39 : decode cX0_handOnChildren 39 = .ok (.iinc 2 1, 3) := by decide +kernel
theorem dX0_handOnChildren_42 : decode cX0_handOnChildren 42 = .ok (.goto (-40), 3) := by decide +kernel
theorem dX0_handOnChildren_45 : decode cX0_handOnChildren 45 = .ok (.return_, 1) := by decide +kernel
theorem dX0_tellOfZombie_0 : decode cX0_tellOfZombie 0 = .ok (.aload_n 0, 1) := by decide +kernel
theorem dX0_tellOfZombie_1 : decode cX0_tellOfZombie 1 = .ok (.iload_n 1, 1) := by decide +kernel
theorem dX0_tellOfZombie_2 : decode cX0_tellOfZombie 2 = .ok (.invokevirtual 118, 3) := by decide +kernel
theorem dX0_tellOfZombie_5 : decode cX0_tellOfZombie 5 = .ok (.istore_n 2, 1) := by decide +kernel
theorem dX0_tellOfZombie_6 : decode cX0_tellOfZombie 6 = .ok (.iload_n 2, 1) := by decide +kernel
theorem dX0_tellOfZombie_7 : decode cX0_tellOfZombie 7 = .ok (.iconst (-1), 1) := by decide +kernel
theorem dX0_tellOfZombie_8 : decode cX0_tellOfZombie 8 = .ok (.if_icmp .eq 17, 3) := by decide +kernel
theorem dX0_tellOfZombie_11 : decode cX0_tellOfZombie 11 = .ok (.aload_n 0, 1) := by decide +kernel
theorem dX0_tellOfZombie_12 : decode cX0_tellOfZombie 12 = .ok (.iload_n 2, 1) := by decide +kernel
theorem dX0_tellOfZombie_13 : decode cX0_tellOfZombie 13 = .ok (.iconst 2, 1) := by decide +kernel
theorem dX0_tellOfZombie_14 : decode cX0_tellOfZombie 14 = .ok (.invokevirtual 105, 3) := by decide +kernel
theorem dX0_tellOfZombie_17 : decode cX0_tellOfZombie 17 = .ok (.ifCond .eq 8, 3) := by decide +kernel
theorem dX0_tellOfZombie_20 : decode cX0_tellOfZombie 20 = .ok (.aload_n 0, 1) := by decide +kernel
theorem dX0_tellOfZombie_21 : decode cX0_tellOfZombie 21 = .ok (.iload_n 2, 1) := by decide +kernel
theorem dX0_tellOfZombie_22 : decode cX0_tellOfZombie 22 = .ok (.invokevirtual 109, 3) := by decide +kernel
theorem dX0_tellOfZombie_25 : decode cX0_tellOfZombie 25 = .ok (.return_, 1) := by decide +kernel
end
section
theorem dX1_init_0 : decode cX1_init 0 = .ok (.aload_n 0, 1) := by decide +kernel
theorem dX1_init_1 : decode cX1_init 1 = .ok (.invokespecial 1, 3) := by decide +kernel
theorem dX1_init_4 : decode cX1_init 4 = .ok (.aload_n 0, 1) := by decide +kernel
theorem dX1_init_5 : decode cX1_init 5 = .ok (.bipush 16, 2) := by decide +kernel
theorem dX1_init_7 : decode cX1_init 7 = .ok (.newarray .int, 2) := by decide +kernel
theorem dX1_init_9 : decode cX1_init 9 = .ok (.putfield 7, 3) := by decide +kernel
theorem dX1_init_12 : decode cX1_init 12 = .ok (.aload_n 0, 1) := by decide +kernel
theorem dX1_init_13 : decode cX1_init 13 = .ok (.bipush 16, 2) := by decide +kernel
theorem dX1_init_15 : decode cX1_init 15 = .ok (.newarray .int, 2) := by decide +kernel
theorem dX1_init_17 : decode cX1_init 17 = .ok (.putfield 13, 3) := by decide +kernel
theorem dX1_init_20 : decode cX1_init 20 = .ok (.aload_n 0, 1) := by decide +kernel
theorem dX1_init_21 : decode cX1_init 21 = .ok (.bipush 16, 2) := by decide +kernel
theorem dX1_init_23 : decode cX1_init 23 = .ok (.newarray .int, 2) := by decide +kernel
theorem dX1_init_25 : decode cX1_init 25 = .ok (.putfield 16, 3) := by decide +kernel
theorem dX1_init_28 : decode cX1_init 28 = .ok (.aload_n 0, 1) := by decide +kernel
theorem dX1_init_29 : decode cX1_init 29 = .ok (.bipush 16, 2) := by decide +kernel
theorem dX1_init_31 : decode cX1_init 31 = .ok (.newarray .boolean, 2) := by decide +kernel
theorem dX1_init_33 : decode cX1_init 33 = .ok (.putfield 19, 3) := by decide +kernel
theorem dX1_init_36 : decode cX1_init 36 = .ok (.aload_n 0, 1) := by decide +kernel
theorem dX1_init_37 : decode cX1_init 37 = .ok (.bipush 16, 2) := by decide +kernel
theorem dX1_init_39 : decode cX1_init 39 = .ok (.newarray .int, 2) := by decide +kernel
theorem dX1_init_41 : decode cX1_init 41 = .ok (.putfield 23, 3) := by decide +kernel
theorem dX1_init_44 : decode cX1_init 44 = .ok (.aload_n 0, 1) := by decide +kernel
theorem dX1_init_45 : decode cX1_init 45 = .ok (.bipush 16, 2) := by decide +kernel
theorem dX1_init_47 : decode cX1_init 47 = .ok (.newarray .boolean, 2) := by decide +kernel
theorem dX1_init_49 : decode cX1_init 49 = .ok (.putfield 26, 3) := by decide +kernel
theorem dX1_init_52 : decode cX1_init 52 = .ok (.aload_n 0, 1) := by decide +kernel
theorem dX1_init_53 : decode cX1_init 53 = .ok (.bipush 16, 2) := by decide +kernel
theorem dX1_init_55 : decode cX1_init 55 = .ok (.newarray .int, 2) := by decide +kernel
theorem dX1_init_57 : decode cX1_init 57 = .ok (.putfield 29, 3) := by decide +kernel
theorem dX1_init_60 : decode cX1_init 60 = .ok (.aload_n 0, 1) := by decide +kernel
theorem dX1_init_61 : decode cX1_init 61 = .ok (.bipush 16, 2) := by decide +kernel
theorem dX1_init_63 : decode cX1_init 63 = .ok (.newarray .int, 2) := by decide +kernel
theorem dX1_init_65 : decode cX1_init 65 = .ok (.putfield 32, 3) := by decide +kernel
theorem dX1_init_68 : decode cX1_init 68 = .ok (.aload_n 0, 1) := by decide +kernel
theorem dX1_init_69 : decode cX1_init 69 = .ok (.bipush 16, 2) := by decide +kernel
theorem dX1_init_71 : decode cX1_init 71 = .ok (.newarray .int, 2) := by decide +kernel
theorem dX1_init_73 : decode cX1_init 73 = .ok (.putfield 35, 3) := by decide +kernel
theorem dX1_init_76 : decode cX1_init 76 = .ok (.aload_n 0, 1) := by decide +kernel
theorem dX1_init_77 : decode cX1_init 77 = .ok (.iload_n 1, 1) := by decide +kernel
theorem dX1_init_78 : decode cX1_init 78 = .ok (.iconst 1, 1) := by decide +kernel
theorem dX1_init_79 : decode cX1_init 79 = .ok (.if_icmp .ge 7, 3) := by decide +kernel
theorem dX1_init_82 : decode cX1_init 82 = .ok (.iconst 1, 1) := by decide +kernel
theorem dX1_init_83 : decode cX1_init 83 = .ok (.goto 13, 3) := by decide +kernel
theorem dX1_init_86 : decode cX1_init 86 = .ok (.iload_n 1, 1) := by decide +kernel
theorem dX1_init_87 : decode cX1_init 87 = .ok (.iconst 4, 1) := by decide +kernel
theorem dX1_init_88 : decode cX1_init 88 = .ok (.if_icmp .le 7, 3) := by decide +kernel
theorem dX1_init_91 : decode cX1_init 91 = .ok (.iconst 4, 1) := by decide +kernel
theorem dX1_init_92 : decode cX1_init 92 = .ok (.goto 4, 3) := by decide +kernel
theorem dX1_init_95 : decode cX1_init 95 = .ok (.iload_n 1, 1) := by decide +kernel
theorem dX1_init_96 : decode cX1_init 96 = .ok (.putfield 38, 3) := by decide +kernel
theorem dX1_init_99 : decode cX1_init 99 = .ok (.return_, 1) := by decide +kernel
theorem dX1_ofPlace_0 : decode cX1_ofPlace 0 = .ok (.iconst (-1), 1) := by decide +kernel
theorem dX1_ofPlace_1 : decode cX1_ofPlace 1 = .ok (.istore_n 2, 1) := by decide +kernel
theorem dX1_ofPlace_2 : decode cX1_ofPlace 2 = .ok (.iconst 0, 1) := by decide +kernel
theorem dX1_ofPlace_3 : decode cX1_ofPlace 3 = .ok (.istore_n 3, 1) := by decide +kernel
theorem dX1_ofPlace_4 : decode cX1_ofPlace 4 = .ok (.iload_n 3, 1) := by decide +kernel
theorem dX1_ofPlace_5 : decode cX1_ofPlace 5 = .ok (.aload_n 0, 1) := by decide +kernel
theorem dX1_ofPlace_6 : decode cX1_ofPlace 6 = .ok (.getfield 45, 3) := by decide +kernel
theorem dX1_ofPlace_9 : decode cX1_ofPlace 9 = .ok (.if_icmp .ge 25, 3) := by decide +kernel
theorem dX1_ofPlace_12 : decode cX1_ofPlace 12 = .ok (.aload_n 0, 1) := by decide +kernel
theorem dX1_ofPlace_13 : decode cX1_ofPlace 13 = .ok (.getfield 13, 3) := by decide +kernel
theorem dX1_ofPlace_16 : decode cX1_ofPlace 16 = .ok (.iload_n 3, 1) := by decide +kernel
theorem dX1_ofPlace_17 : decode cX1_ofPlace 17 = .ok (.iaload, 1) := by decide +kernel
theorem dX1_ofPlace_18 : decode cX1_ofPlace 18 = .ok (.iload_n 1, 1) := by decide +kernel
theorem dX1_ofPlace_19 : decode cX1_ofPlace 19 = .ok (.if_icmp .ne 7, 3) := by decide +kernel
theorem dX1_ofPlace_22 : decode cX1_ofPlace 22 = .ok (.iload_n 3, 1) := by decide +kernel
theorem dX1_ofPlace_23 : decode cX1_ofPlace 23 = .ok (.goto 4, 3) := by decide +kernel
theorem dX1_ofPlace_26 : decode cX1_ofPlace 26 = .ok (.iload_n 2, 1) := by decide +kernel
theorem dX1_ofPlace_27 : decode cX1_ofPlace 27 = .ok (.istore_n 2, 1) := by decide +kernel
theorem dX1_ofPlace_28 : decode cX1_ofPlace 28 = .ok (.iinc 3 1, 3) := by decide +kernel
theorem dX1_ofPlace_31 : decode cX1_ofPlace 31 = .ok (.goto (-27), 3) := by decide +kernel
theorem dX1_ofPlace_34 : decode cX1_ofPlace 34 = .ok (.iload_n 2, 1) := by decide +kernel
theorem dX1_ofPlace_35 : decode cX1_ofPlace 35 = .ok (.ireturn, 1) := by decide +kernel
theorem dX1_ofNumber_0 : decode cX1_ofNumber 0 = .ok (.iconst (-1), 1) := by decide +kernel
theorem dX1_ofNumber_1 : decode cX1_ofNumber 1 = .ok (.istore_n 2, 1) := by decide +kernel
theorem dX1_ofNumber_2 : decode cX1_ofNumber 2 = .ok (.iconst 0, 1) := by decide +kernel
theorem dX1_ofNumber_3 : decode cX1_ofNumber 3 = .ok (.istore_n 3, 1) := by decide +kernel
theorem dX1_ofNumber_4 : decode cX1_ofNumber 4 = .ok (.iload_n 3, 1) := by decide +kernel
theorem dX1_ofNumber_5 : decode cX1_ofNumber 5 = .ok (.aload_n 0, 1) := by decide +kernel
theorem dX1_ofNumber_6 : decode cX1_ofNumber 6 = .ok (.getfield 45, 3) := by decide +kernel
theorem dX1_ofNumber_9 : decode cX1_ofNumber 9 = .ok (.if_icmp .ge 25, 3) := by decide +kernel
theorem dX1_ofNumber_12 : decode cX1_ofNumber 12 = .ok (.aload_n 0, 1) := by decide +kernel
theorem dX1_ofNumber_13 : decode cX1_ofNumber 13 = .ok (.getfield 7, 3) := by decide +kernel
theorem dX1_ofNumber_16 : decode cX1_ofNumber 16 = .ok (.iload_n 3, 1) := by decide +kernel
theorem dX1_ofNumber_17 : decode cX1_ofNumber 17 = .ok (.iaload, 1) := by decide +kernel
theorem dX1_ofNumber_18 : decode cX1_ofNumber 18 = .ok (.iload_n 1, 1) := by decide +kernel
theorem dX1_ofNumber_19 : decode cX1_ofNumber 19 = .ok (.if_icmp .ne 7, 3) := by decide +kernel
theorem dX1_ofNumber_22 : decode cX1_ofNumber 22 = .ok (.iload_n 3, 1) := by decide +kernel
theorem dX1_ofNumber_23 : decode cX1_ofNumber 23 = .ok (.goto 4, 3) := by decide +kernel
theorem dX1_ofNumber_26 : decode cX1_ofNumber 26 = .ok (.iload_n 2, 1) := by decide +kernel
theorem dX1_ofNumber_27 : decode cX1_ofNumber 27 = .ok (.istore_n 2, 1) := by decide +kernel
theorem dX1_ofNumber_28 : decode cX1_ofNumber 28 = .ok (.iinc 3 1, 3) := by decide +kernel
theorem dX1_ofNumber_31 : decode cX1_ofNumber 31 = .ok (.goto (-27), 3) := by decide +kernel
theorem dX1_ofNumber_34 : decode cX1_ofNumber 34 = .ok (.iload_n 2, 1) := by decide +kernel
theorem dX1_ofNumber_35 : decode cX1_ofNumber 35 = .ok (.ireturn, 1) := by decide +kernel
theorem dX1_running_0 : decode cX1_running 0 = .ok (.iconst (-1), 1) := by decide +kernel
theorem dX1_running_1 : decode cX1_running 1 = .ok (.istore_n 2, 1) := by decide +kernel
theorem dX1_running_2 : decode cX1_running 2 = .ok (.iconst 0, 1) := by decide +kernel
theorem dX1_running_3 : decode cX1_running 3 = .ok (.istore_n 3, 1) := by decide +kernel
theorem dX1_running_4 : decode cX1_running 4 = .ok (.iload_n 3, 1) := by decide +kernel
theorem dX1_running_5 : decode cX1_running 5 = .ok (.aload_n 0, 1) := by decide +kernel
theorem dX1_running_6 : decode cX1_running 6 = .ok (.getfield 45, 3) := by decide +kernel
theorem dX1_running_9 : decode cX1_running 9 = .ok (.if_icmp .ge 37, 3) := by decide +kernel
theorem dX1_running_12 : decode cX1_running 12 = .ok (.iload_n 1, 1) := by decide +kernel
theorem dX1_running_13 : decode cX1_running 13 = .ok (.ifCond .lt 33, 3) := by decide +kernel
theorem dX1_running_16 : decode cX1_running 16 = .ok (.iload_n 1, 1) := by decide +kernel
theorem dX1_running_17 : decode cX1_running 17 = .ok (.aload_n 0, 1) := by decide +kernel
theorem dX1_running_18 : decode cX1_running 18 = .ok (.getfield 38, 3) := by decide +kernel
theorem dX1_running_21 : decode cX1_running 21 = .ok (.if_icmp .ge 25, 3) := by decide +kernel
theorem dX1_running_24 : decode cX1_running 24 = .ok (.aload_n 0, 1) := by decide +kernel
theorem dX1_running_25 : decode cX1_running 25 = .ok (.getfield 29, 3) := by decide +kernel
theorem dX1_running_28 : decode cX1_running 28 = .ok (.iload_n 3, 1) := by decide +kernel
theorem dX1_running_29 : decode cX1_running 29 = .ok (.iaload, 1) := by decide +kernel
theorem dX1_running_30 : decode cX1_running 30 = .ok (.iload_n 1, 1) := by decide +kernel
theorem dX1_running_31 : decode cX1_running 31 = .ok (.if_icmp .ne 7, 3) := by decide +kernel
theorem dX1_running_34 : decode cX1_running 34 = .ok (.iload_n 3, 1) := by decide +kernel
theorem dX1_running_35 : decode cX1_running 35 = .ok (.goto 4, 3) := by decide +kernel
theorem dX1_running_38 : decode cX1_running 38 = .ok (.iload_n 2, 1) := by decide +kernel
theorem dX1_running_39 : decode cX1_running 39 = .ok (.istore_n 2, 1) := by decide +kernel
theorem dX1_running_40 : decode cX1_running 40 = .ok (.iinc 3 1, 3) := by decide +kernel
theorem dX1_running_43 : decode cX1_running 43 = .ok (.goto (-39), 3) := by decide +kernel
theorem dX1_running_46 : decode cX1_running 46 = .ok (.iload_n 2, 1) := by decide +kernel
theorem dX1_running_47 : decode cX1_running 47 = .ok (.ireturn, 1) := by decide +kernel
theorem dX1_vacant_0 : decode cX1_vacant 0 = .ok (.iconst 0, 1) := by decide +kernel
theorem dX1_vacant_1 : decode cX1_vacant 1 = .ok (.istore_n 1, 1) := by decide +kernel
theorem dX1_vacant_2 : decode cX1_vacant 2 = .ok (.iload_n 1, 1) := by decide +kernel
theorem dX1_vacant_3 : decode cX1_vacant 3 = .ok (.bipush 15, 2) := by decide +kernel
theorem dX1_vacant_5 : decode cX1_vacant 5 = .ok (.if_icmp .ge 17, 3) := by decide +kernel
theorem dX1_vacant_8 : decode cX1_vacant 8 = .ok (.aload_n 0, 1) := by decide +kernel
theorem dX1_vacant_9 : decode cX1_vacant 9 = .ok (.iload_n 1, 1) := by decide +kernel
theorem dX1_vacant_10 : decode cX1_vacant 10 = .ok (.invokevirtual 48, 3) := by decide +kernel
theorem dX1_vacant_13 : decode cX1_vacant 13 = .ok (.ifCond .lt 9, 3) := by decide +kernel
theorem dX1_vacant_16 : decode cX1_vacant 16 = .ok (.iinc 1 1, 3) := by decide +kernel
theorem dX1_vacant_19 : decode cX1_vacant 19 = .ok (.goto (-17), 3) := by decide +kernel
theorem dX1_vacant_22 : decode cX1_vacant 22 = .ok (.iload_n 1, 1) := by decide +kernel
theorem dX1_vacant_23 : decode cX1_vacant 23 = .ok (.ireturn, 1) := by decide +kernel
theorem dX1_endedChild_0 : decode cX1_endedChild 0 = .ok (.iconst (-1), 1) := by decide +kernel
theorem dX1_endedChild_1 : decode cX1_endedChild 1 = .ok (.istore_n 2, 1) := by decide +kernel
theorem dX1_endedChild_2 : decode cX1_endedChild 2 = .ok (.iconst 0, 1) := by decide +kernel
theorem dX1_endedChild_3 : decode cX1_endedChild 3 = .ok (.istore_n 3, 1) := by decide +kernel
theorem dX1_endedChild_4 : decode cX1_endedChild 4 = .ok (.iload_n 3, 1) := by decide +kernel
theorem dX1_endedChild_5 : decode cX1_endedChild 5 = .ok (.aload_n 0, 1) := by decide +kernel
theorem dX1_endedChild_6 : decode cX1_endedChild 6 = .ok (.getfield 45, 3) := by decide +kernel
theorem dX1_endedChild_9 : decode cX1_endedChild 9 = .ok (.if_icmp .ge 54, 3) := by decide +kernel
theorem dX1_endedChild_12 : decode cX1_endedChild 12 = .ok (.aload_n 0, 1) := by decide +kernel
theorem dX1_endedChild_13 : decode cX1_endedChild 13 = .ok (.getfield 16, 3) := by decide +kernel
theorem dX1_endedChild_16 : decode cX1_endedChild 16 = .ok (.iload_n 3, 1) := by decide +kernel
theorem dX1_endedChild_17 : decode cX1_endedChild 17 = .ok (.iaload, 1) := by decide +kernel
theorem dX1_endedChild_18 : decode cX1_endedChild 18 = .ok (.aload_n 0, 1) := by decide +kernel
theorem dX1_endedChild_19 : decode cX1_endedChild 19 = .ok (.getfield 7, 3) := by decide +kernel
theorem dX1_endedChild_22 : decode cX1_endedChild 22 = .ok (.iload_n 1, 1) := by decide +kernel
theorem dX1_endedChild_23 : decode cX1_endedChild 23 = .ok (.iaload, 1) := by decide +kernel
theorem dX1_endedChild_24 : decode cX1_endedChild 24 = .ok (.if_icmp .ne 33, 3) := by decide +kernel
theorem dX1_endedChild_27 : decode cX1_endedChild 27 = .ok (.aload_n 0, 1) := by decide +kernel
theorem dX1_endedChild_28 : decode cX1_endedChild 28 = .ok (.getfield 19, 3) := by decide +kernel
theorem dX1_endedChild_31 : decode cX1_endedChild 31 = .ok (.iload_n 3, 1) := by decide +kernel
theorem dX1_endedChild_32 : decode cX1_endedChild 32 = .ok (.baload, 1) := by decide +kernel
theorem dX1_endedChild_33 : decode cX1_endedChild 33 = .ok (.ifCond .eq 24, 3) := by decide +kernel
theorem dX1_endedChild_36 : decode cX1_endedChild 36 = .ok (.iload_n 2, 1) := by decide +kernel
theorem dX1_endedChild_37 : decode cX1_endedChild 37 = .ok (.ifCond .lt 18, 3) := by decide +kernel
theorem dX1_endedChild_40 : decode cX1_endedChild 40 = .ok (.aload_n 0, 1) := by decide +kernel
theorem dX1_endedChild_41 : decode cX1_endedChild 41 = .ok (.getfield 13, 3) := by decide +kernel
theorem dX1_endedChild_44 : decode cX1_endedChild 44 = .ok (.iload_n 3, 1) := by decide +kernel
theorem dX1_endedChild_45 : decode cX1_endedChild 45 = .ok (.iaload, 1) := by decide +kernel
theorem dX1_endedChild_46 : decode cX1_endedChild 46 = .ok (.aload_n 0, 1) := by decide +kernel
theorem dX1_endedChild_47 : decode cX1_endedChild 47 = .ok (.getfield 13, 3) := by decide +kernel
theorem dX1_endedChild_50 : decode cX1_endedChild 50 = .ok (.iload_n 2, 1) := by decide +kernel
theorem dX1_endedChild_51 : decode cX1_endedChild 51 = .ok (.iaload, 1) := by decide +kernel
theorem dX1_endedChild_52 : decode cX1_endedChild 52 = .ok (.if_icmp .ge 5, 3) := by decide +kernel
theorem dX1_endedChild_55 : decode cX1_endedChild 55 = .ok (.iload_n 3, 1) := by decide +kernel
theorem dX1_endedChild_56 : decode cX1_endedChild 56 = .ok (.istore_n 2, 1) := by decide +kernel
theorem dX1_endedChild_57 : decode cX1_endedChild 57 = .ok (.iinc 3 1, 3) := by decide +kernel
theorem dX1_endedChild_60 : decode cX1_endedChild 60 = .ok (.goto (-56), 3) := by decide +kernel
theorem dX1_endedChild_63 : decode cX1_endedChild 63 = .ok (.iload_n 2, 1) := by decide +kernel
theorem dX1_endedChild_64 : decode cX1_endedChild 64 = .ok (.ireturn, 1) := by decide +kernel
theorem dX1_state_0 : decode cX1_state 0 = .ok (.aload_n 0, 1) := by decide +kernel
theorem dX1_state_1 : decode cX1_state 1 = .ok (.getfield 19, 3) := by decide +kernel
theorem dX1_state_4 : decode cX1_state 4 = .ok (.iload_n 1, 1) := by decide +kernel
theorem dX1_state_5 : decode cX1_state 5 = .ok (.baload, 1) := by decide +kernel
theorem dX1_state_6 : decode cX1_state 6 = .ok (.ifCond .eq 5, 3) := by decide +kernel
theorem dX1_state_9 : decode cX1_state 9 = .ok (.iconst 4, 1) := by decide +kernel
theorem dX1_state_10 : decode cX1_state 10 = .ok (.ireturn, 1) := by decide +kernel
theorem dX1_state_11 : decode cX1_state 11 = .ok (.aload_n 0, 1) := by decide +kernel
theorem dX1_state_12 : decode cX1_state 12 = .ok (.getfield 29, 3) := by decide +kernel
theorem dX1_state_15 : decode cX1_state 15 = .ok (.iload_n 1, 1) := by decide +kernel
theorem dX1_state_16 : decode cX1_state 16 = .ok (.iaload, 1) := by decide +kernel
theorem dX1_state_17 : decode cX1_state 17 = .ok (.ifCond .lt 5, 3) := by decide +kernel
theorem dX1_state_20 : decode cX1_state 20 = .ok (.iconst 2, 1) := by decide +kernel
theorem dX1_state_21 : decode cX1_state 21 = .ok (.ireturn, 1) := by decide +kernel
theorem dX1_state_22 : decode cX1_state 22 = .ok (.aload_n 0, 1) := by decide +kernel
theorem dX1_state_23 : decode cX1_state 23 = .ok (.getfield 32, 3) := by decide +kernel
theorem dX1_state_26 : decode cX1_state 26 = .ok (.iload_n 1, 1) := by decide +kernel
theorem dX1_state_27 : decode cX1_state 27 = .ok (.iaload, 1) := by decide +kernel
theorem dX1_state_28 : decode cX1_state 28 = .ok (.iconst 1, 1) := by decide +kernel
theorem dX1_state_29 : decode cX1_state 29 = .ok (.if_icmp .eq 44, 3) := by decide +kernel
theorem dX1_state_32 : decode cX1_state 32 = .ok (.aload_n 0, 1) := by decide +kernel
theorem dX1_state_33 : decode cX1_state 33 = .ok (.getfield 32, 3) := by decide +kernel
theorem dX1_state_36 : decode cX1_state 36 = .ok (.iload_n 1, 1) := by decide +kernel
theorem dX1_state_37 : decode cX1_state 37 = .ok (.iaload, 1) := by decide +kernel
theorem dX1_state_38 : decode cX1_state 38 = .ok (.iconst 2, 1) := by decide +kernel
theorem dX1_state_39 : decode cX1_state 39 = .ok (.if_icmp .ne 11, 3) := by decide +kernel
theorem dX1_state_42 : decode cX1_state 42 = .ok (.aload_n 0, 1) := by decide +kernel
theorem dX1_state_43 : decode cX1_state 43 = .ok (.iload_n 1, 1) := by decide +kernel
theorem dX1_state_44 : decode cX1_state 44 = .ok (.invokevirtual 52, 3) := by decide +kernel
theorem dX1_state_47 : decode cX1_state 47 = .ok (.ifCond .lt 26, 3) := by decide +kernel
theorem dX1_state_50 : decode cX1_state 50 = .ok (.aload_n 0, 1) := by decide +kernel
theorem dX1_state_51 : decode cX1_state 51 = .ok (.getfield 32, 3) := by decide +kernel
theorem dX1_state_54 : decode cX1_state 54 = .ok (.iload_n 1, 1) := by decide +kernel
theorem dX1_state_55 : decode cX1_state 55 = .ok (.iaload, 1) := by decide +kernel
theorem dX1_state_56 : decode cX1_state 56 = .ok (.iconst 3, 1) := by decide +kernel
theorem dX1_state_57 : decode cX1_state 57 = .ok (.if_icmp .ne 20, 3) := by decide +kernel
theorem dX1_state_60 : decode cX1_state 60 = .ok (.aload_n 0, 1) := by decide +kernel
theorem dX1_state_61 : decode cX1_state 61 = .ok (.getfield 55, 3) := by decide +kernel
theorem dX1_state_64 : decode cX1_state 64 = .ok (.aload_n 0, 1) := by decide +kernel
theorem dX1_state_65 : decode cX1_state 65 = .ok (.getfield 35, 3) := by decide +kernel
theorem dX1_state_68 : decode cX1_state 68 = .ok (.iload_n 1, 1) := by decide +kernel
theorem dX1_state_69 : decode cX1_state 69 = .ok (.iaload, 1) := by decide +kernel
theorem dX1_state_70 : decode cX1_state 70 = .ok (.if_icmp .ge 7, 3) := by decide +kernel
theorem dX1_state_73 : decode cX1_state 73 = .ok (.iconst 1, 1) := by decide +kernel
theorem dX1_state_74 : decode cX1_state 74 = .ok (.goto 4, 3) := by decide +kernel
theorem dX1_state_77 : decode cX1_state 77 = .ok (.iconst 0, 1) := by decide +kernel
theorem dX1_state_78 : decode cX1_state 78 = .ok (.istore_n 2, 1) := by decide +kernel
theorem dX1_state_79 : decode cX1_state 79 = .ok (.iload_n 2, 1) := by decide +kernel
theorem dX1_state_80 : decode cX1_state 80 = .ok (.ifCond .eq 7, 3) := by decide +kernel
theorem dX1_state_83 : decode cX1_state 83 = .ok (.iconst 3, 1) := by decide +kernel
theorem dX1_state_84 : decode cX1_state 84 = .ok (.goto 4, 3) := by decide +kernel
theorem dX1_state_87 : decode cX1_state 87 = .ok (.iconst 1, 1) := by decide +kernel
theorem dX1_state_88 : decode cX1_state 88 = .ok (.ireturn, 1) := by decide +kernel
theorem dX1_add_0 : decode cX1_add 0 = .ok (.aload_n 0, 1) := by decide +kernel
theorem dX1_add_1 : decode cX1_add 1 = .ok (.dup, 1) := by decide +kernel
theorem dX1_add_2 : decode cX1_add 2 = .ok (.getfield 58, 3) := by decide +kernel
theorem dX1_add_5 : decode cX1_add 5 = .ok (.iconst 1, 1) := by decide +kernel
theorem dX1_add_6 : decode cX1_add 6 = .ok (.iadd, 1) := by decide +kernel
theorem dX1_add_7 : decode cX1_add 7 = .ok (.putfield 58, 3) := by decide +kernel
theorem dX1_add_10 : decode cX1_add 10 = .ok (.aload_n 0, 1) := by decide +kernel
theorem dX1_add_11 : decode cX1_add 11 = .ok (.getfield 7, 3) := by decide +kernel
theorem dX1_add_14 : decode cX1_add 14 = .ok (.aload_n 0, 1) := by decide +kernel
theorem dX1_add_15 : decode cX1_add 15 = .ok (.getfield 45, 3) := by decide +kernel
theorem dX1_add_18 : decode cX1_add 18 = .ok (.aload_n 0, 1) := by decide +kernel
theorem dX1_add_19 : decode cX1_add 19 = .ok (.getfield 58, 3) := by decide +kernel
theorem dX1_add_22 : decode cX1_add 22 = .ok (.iastore, 1) := by decide +kernel
theorem dX1_add_23 : decode cX1_add 23 = .ok (.aload_n 0, 1) := by decide +kernel
theorem dX1_add_24 : decode cX1_add 24 = .ok (.getfield 13, 3) := by decide +kernel
theorem dX1_add_27 : decode cX1_add 27 = .ok (.aload_n 0, 1) := by decide +kernel
theorem dX1_add_28 : decode cX1_add 28 = .ok (.getfield 45, 3) := by decide +kernel
theorem dX1_add_31 : decode cX1_add 31 = .ok (.iload_n 1, 1) := by decide +kernel
theorem dX1_add_32 : decode cX1_add 32 = .ok (.iastore, 1) := by decide +kernel
theorem dX1_add_33 : decode cX1_add 33 = .ok (.aload_n 0, 1) := by decide +kernel
theorem dX1_add_34 : decode cX1_add 34 = .ok (.getfield 16, 3) := by decide +kernel
theorem dX1_add_37 : decode cX1_add 37 = .ok (.aload_n 0, 1) := by decide +kernel
theorem dX1_add_38 : decode cX1_add 38 = .ok (.getfield 45, 3) := by decide +kernel
theorem dX1_add_41 : decode cX1_add 41 = .ok (.iload_n 2, 1) := by decide +kernel
theorem dX1_add_42 : decode cX1_add 42 = .ok (.iastore, 1) := by decide +kernel
theorem dX1_add_43 : decode cX1_add 43 = .ok (.aload_n 0, 1) := by decide +kernel
theorem dX1_add_44 : decode cX1_add 44 = .ok (.getfield 19, 3) := by decide +kernel
theorem dX1_add_47 : decode cX1_add 47 = .ok (.aload_n 0, 1) := by decide +kernel
theorem dX1_add_48 : decode cX1_add 48 = .ok (.getfield 45, 3) := by decide +kernel
theorem dX1_add_51 : decode cX1_add 51 = .ok (.iconst 0, 1) := by decide +kernel
theorem dX1_add_52 : decode cX1_add 52 = .ok (.bastore, 1) := by decide +kernel
theorem dX1_add_53 : decode cX1_add 53 = .ok (.aload_n 0, 1) := by decide +kernel
theorem dX1_add_54 : decode cX1_add 54 = .ok (.getfield 23, 3) := by decide +kernel
theorem dX1_add_57 : decode cX1_add 57 = .ok (.aload_n 0, 1) := by decide +kernel
theorem dX1_add_58 : decode cX1_add 58 = .ok (.getfield 45, 3) := by decide +kernel
theorem dX1_add_61 : decode cX1_add 61 = .ok (.iconst 0, 1) := by decide +kernel
theorem dX1_add_62 : decode cX1_add 62 = .ok (.iastore, 1) := by decide +kernel
theorem dX1_add_63 : decode cX1_add 63 = .ok (.aload_n 0, 1) := by decide +kernel
theorem dX1_add_64 : decode cX1_add 64 = .ok (.getfield 26, 3) := by decide +kernel
theorem dX1_add_67 : decode cX1_add 67 = .ok (.aload_n 0, 1) := by decide +kernel
theorem dX1_add_68 : decode cX1_add 68 = .ok (.getfield 45, 3) := by decide +kernel
theorem dX1_add_71 : decode cX1_add 71 = .ok (.iconst 0, 1) := by decide +kernel
theorem dX1_add_72 : decode cX1_add 72 = .ok (.bastore, 1) := by decide +kernel
theorem dX1_add_73 : decode cX1_add 73 = .ok (.aload_n 0, 1) := by decide +kernel
theorem dX1_add_74 : decode cX1_add 74 = .ok (.getfield 29, 3) := by decide +kernel
theorem dX1_add_77 : decode cX1_add 77 = .ok (.aload_n 0, 1) := by decide +kernel
theorem dX1_add_78 : decode cX1_add 78 = .ok (.getfield 45, 3) := by decide +kernel
theorem dX1_add_81 : decode cX1_add 81 = .ok (.iconst (-1), 1) := by decide +kernel
theorem dX1_add_82 : decode cX1_add 82 = .ok (.iastore, 1) := by decide +kernel
theorem dX1_add_83 : decode cX1_add 83 = .ok (.aload_n 0, 1) := by decide +kernel
theorem dX1_add_84 : decode cX1_add 84 = .ok (.getfield 32, 3) := by decide +kernel
theorem dX1_add_87 : decode cX1_add 87 = .ok (.aload_n 0, 1) := by decide +kernel
theorem dX1_add_88 : decode cX1_add 88 = .ok (.getfield 45, 3) := by decide +kernel
theorem dX1_add_91 : decode cX1_add 91 = .ok (.iconst 0, 1) := by decide +kernel
theorem dX1_add_92 : decode cX1_add 92 = .ok (.iastore, 1) := by decide +kernel
theorem dX1_add_93 : decode cX1_add 93 = .ok (.aload_n 0, 1) := by decide +kernel
theorem dX1_add_94 : decode cX1_add 94 = .ok (.dup, 1) := by decide +kernel
theorem dX1_add_95 : decode cX1_add 95 = .ok (.getfield 45, 3) := by decide +kernel
theorem dX1_add_98 : decode cX1_add 98 = .ok (.iconst 1, 1) := by decide +kernel
theorem dX1_add_99 : decode cX1_add 99 = .ok (.iadd, 1) := by decide +kernel
theorem dX1_add_100 : decode cX1_add 100 = .ok (.putfield 45, 3) := by decide +kernel
theorem dX1_add_103 : decode cX1_add 103 = .ok (.iload_n 1, 1) := by decide +kernel
theorem dX1_add_104 : decode cX1_add 104 = .ok (.ireturn, 1) := by decide +kernel
theorem dX1_remove_0 : decode cX1_remove 0 = .ok (.aload_n 0, 1) := by decide +kernel
theorem dX1_remove_1 : decode cX1_remove 1 = .ok (.dup, 1) := by decide +kernel
theorem dX1_remove_2 : decode cX1_remove 2 = .ok (.getfield 45, 3) := by decide +kernel
theorem dX1_remove_5 : decode cX1_remove 5 = .ok (.iconst 1, 1) := by decide +kernel
theorem dX1_remove_6 : decode cX1_remove 6 = .ok (.isub, 1) := by decide +kernel
theorem dX1_remove_7 : decode cX1_remove 7 = .ok (.putfield 45, 3) := by decide +kernel
theorem dX1_remove_10 : decode cX1_remove 10 = .ok (.iload_n 1, 1) := by decide +kernel
theorem dX1_remove_11 : decode cX1_remove 11 = .ok (.istore_n 2, 1) := by decide +kernel
theorem dX1_remove_12 : decode cX1_remove 12 = .ok (.iload_n 2, 1) := by decide +kernel
theorem dX1_remove_13 : decode cX1_remove 13 = .ok (.aload_n 0, 1) := by decide +kernel
theorem dX1_remove_14 : decode cX1_remove 14 = .ok (.getfield 45, 3) := by decide +kernel
theorem dX1_remove_17 : decode cX1_remove 17 = .ok (.if_icmp .ge 135, 3) := by decide +kernel
theorem dX1_remove_20 : decode cX1_remove 20 = .ok (.aload_n 0, 1) := by decide +kernel
theorem dX1_remove_21 : decode cX1_remove 21 = .ok (.getfield 7, 3) := by decide +kernel
theorem dX1_remove_24 : decode cX1_remove 24 = .ok (.iload_n 2, 1) := by decide +kernel
theorem dX1_remove_25 : decode cX1_remove 25 = .ok (.aload_n 0, 1) := by decide +kernel
theorem dX1_remove_26 : decode cX1_remove 26 = .ok (.getfield 7, 3) := by decide +kernel
theorem dX1_remove_29 : decode cX1_remove 29 = .ok (.iload_n 2, 1) := by decide +kernel
theorem dX1_remove_30 : decode cX1_remove 30 = .ok (.iconst 1, 1) := by decide +kernel
theorem dX1_remove_31 : decode cX1_remove 31 = .ok (.iadd, 1) := by decide +kernel
theorem dX1_remove_32 : decode cX1_remove 32 = .ok (.iaload, 1) := by decide +kernel
theorem dX1_remove_33 : decode cX1_remove 33 = .ok (.iastore, 1) := by decide +kernel
theorem dX1_remove_34 : decode cX1_remove 34 = .ok (.aload_n 0, 1) := by decide +kernel
theorem dX1_remove_35 : decode cX1_remove 35 = .ok (.getfield 13, 3) := by decide +kernel
theorem dX1_remove_38 : decode cX1_remove 38 = .ok (.iload_n 2, 1) := by decide +kernel
theorem dX1_remove_39 : decode cX1_remove 39 = .ok (.aload_n 0, 1) := by decide +kernel
theorem dX1_remove_40 : decode cX1_remove 40 = .ok (.getfield 13, 3) := by decide +kernel
theorem dX1_remove_43 : decode cX1_remove 43 = .ok (.iload_n 2, 1) := by decide +kernel
theorem dX1_remove_44 : decode cX1_remove 44 = .ok (.iconst 1, 1) := by decide +kernel
theorem dX1_remove_45 : decode cX1_remove 45 = .ok (.iadd, 1) := by decide +kernel
theorem dX1_remove_46 : decode cX1_remove 46 = .ok (.iaload, 1) := by decide +kernel
theorem dX1_remove_47 : decode cX1_remove 47 = .ok (.iastore, 1) := by decide +kernel
theorem dX1_remove_48 : decode cX1_remove 48 = .ok (.aload_n 0, 1) := by decide +kernel
theorem dX1_remove_49 : decode cX1_remove 49 = .ok (.getfield 16, 3) := by decide +kernel
theorem dX1_remove_52 : decode cX1_remove 52 = .ok (.iload_n 2, 1) := by decide +kernel
theorem dX1_remove_53 : decode cX1_remove 53 = .ok (.aload_n 0, 1) := by decide +kernel
theorem dX1_remove_54 : decode cX1_remove 54 = .ok (.getfield 16, 3) := by decide +kernel
theorem dX1_remove_57 : decode cX1_remove 57 = .ok (.iload_n 2, 1) := by decide +kernel
theorem dX1_remove_58 : decode cX1_remove 58 = .ok (.iconst 1, 1) := by decide +kernel
theorem dX1_remove_59 : decode cX1_remove 59 = .ok (.iadd, 1) := by decide +kernel
theorem dX1_remove_60 : decode cX1_remove 60 = .ok (.iaload, 1) := by decide +kernel
theorem dX1_remove_61 : decode cX1_remove 61 = .ok (.iastore, 1) := by decide +kernel
theorem dX1_remove_62 : decode cX1_remove 62 = .ok (.aload_n 0, 1) := by decide +kernel
theorem dX1_remove_63 : decode cX1_remove 63 = .ok (.getfield 19, 3) := by decide +kernel
theorem dX1_remove_66 : decode cX1_remove 66 = .ok (.iload_n 2, 1) := by decide +kernel
theorem dX1_remove_67 : decode cX1_remove 67 = .ok (.aload_n 0, 1) := by decide +kernel
theorem dX1_remove_68 : decode cX1_remove 68 = .ok (.getfield 19, 3) := by decide +kernel
theorem dX1_remove_71 : decode cX1_remove 71 = .ok (.iload_n 2, 1) := by decide +kernel
theorem dX1_remove_72 : decode cX1_remove 72 = .ok (.iconst 1, 1) := by decide +kernel
theorem dX1_remove_73 : decode cX1_remove 73 = .ok (.iadd, 1) := by decide +kernel
theorem dX1_remove_74 : decode cX1_remove 74 = .ok (.baload, 1) := by decide +kernel
theorem dX1_remove_75 : decode cX1_remove 75 = .ok (.bastore, 1) := by decide +kernel
theorem dX1_remove_76 : decode cX1_remove 76 = .ok (.aload_n 0, 1) := by decide +kernel
theorem dX1_remove_77 : decode cX1_remove 77 = .ok (.getfield 23, 3) := by decide +kernel
theorem dX1_remove_80 : decode cX1_remove 80 = .ok (.iload_n 2, 1) := by decide +kernel
theorem dX1_remove_81 : decode cX1_remove 81 = .ok (.aload_n 0, 1) := by decide +kernel
theorem dX1_remove_82 : decode cX1_remove 82 = .ok (.getfield 23, 3) := by decide +kernel
theorem dX1_remove_85 : decode cX1_remove 85 = .ok (.iload_n 2, 1) := by decide +kernel
theorem dX1_remove_86 : decode cX1_remove 86 = .ok (.iconst 1, 1) := by decide +kernel
theorem dX1_remove_87 : decode cX1_remove 87 = .ok (.iadd, 1) := by decide +kernel
theorem dX1_remove_88 : decode cX1_remove 88 = .ok (.iaload, 1) := by decide +kernel
theorem dX1_remove_89 : decode cX1_remove 89 = .ok (.iastore, 1) := by decide +kernel
theorem dX1_remove_90 : decode cX1_remove 90 = .ok (.aload_n 0, 1) := by decide +kernel
theorem dX1_remove_91 : decode cX1_remove 91 = .ok (.getfield 26, 3) := by decide +kernel
theorem dX1_remove_94 : decode cX1_remove 94 = .ok (.iload_n 2, 1) := by decide +kernel
theorem dX1_remove_95 : decode cX1_remove 95 = .ok (.aload_n 0, 1) := by decide +kernel
theorem dX1_remove_96 : decode cX1_remove 96 = .ok (.getfield 26, 3) := by decide +kernel
theorem dX1_remove_99 : decode cX1_remove 99 = .ok (.iload_n 2, 1) := by decide +kernel
theorem dX1_remove_100 : decode cX1_remove 100 = .ok (.iconst 1, 1) := by decide +kernel
theorem dX1_remove_101 : decode cX1_remove 101 = .ok (.iadd, 1) := by decide +kernel
theorem dX1_remove_102 : decode cX1_remove 102 = .ok (.baload, 1) := by decide +kernel
theorem dX1_remove_103 : decode cX1_remove 103 = .ok (.bastore, 1) := by decide +kernel
theorem dX1_remove_104 : decode cX1_remove 104 = .ok (.aload_n 0, 1) := by decide +kernel
theorem dX1_remove_105 : decode cX1_remove 105 = .ok (.getfield 29, 3) := by decide +kernel
theorem dX1_remove_108 : decode cX1_remove 108 = .ok (.iload_n 2, 1) := by decide +kernel
theorem dX1_remove_109 : decode cX1_remove 109 = .ok (.aload_n 0, 1) := by decide +kernel
theorem dX1_remove_110 : decode cX1_remove 110 = .ok (.getfield 29, 3) := by decide +kernel
theorem dX1_remove_113 : decode cX1_remove 113 = .ok (.iload_n 2, 1) := by decide +kernel
theorem dX1_remove_114 : decode cX1_remove 114 = .ok (.iconst 1, 1) := by decide +kernel
theorem dX1_remove_115 : decode cX1_remove 115 = .ok (.iadd, 1) := by decide +kernel
theorem dX1_remove_116 : decode cX1_remove 116 = .ok (.iaload, 1) := by decide +kernel
theorem dX1_remove_117 : decode cX1_remove 117 = .ok (.iastore, 1) := by decide +kernel
theorem dX1_remove_118 : decode cX1_remove 118 = .ok (.aload_n 0, 1) := by decide +kernel
theorem dX1_remove_119 : decode cX1_remove 119 = .ok (.getfield 32, 3) := by decide +kernel
theorem dX1_remove_122 : decode cX1_remove 122 = .ok (.iload_n 2, 1) := by decide +kernel
theorem dX1_remove_123 : decode cX1_remove 123 = .ok (.aload_n 0, 1) := by decide +kernel
theorem dX1_remove_124 : decode cX1_remove 124 = .ok (.getfield 32, 3) := by decide +kernel
theorem dX1_remove_127 : decode cX1_remove 127 = .ok (.iload_n 2, 1) := by decide +kernel
theorem dX1_remove_128 : decode cX1_remove 128 = .ok (.iconst 1, 1) := by decide +kernel
theorem dX1_remove_129 : decode cX1_remove 129 = .ok (.iadd, 1) := by decide +kernel
theorem dX1_remove_130 : decode cX1_remove 130 = .ok (.iaload, 1) := by decide +kernel
theorem dX1_remove_131 : decode cX1_remove 131 = .ok (.iastore, 1) := by decide +kernel
theorem dX1_remove_132 : decode cX1_remove 132 = .ok (.aload_n 0, 1) := by decide +kernel
theorem dX1_remove_133 : decode cX1_remove 133 = .ok (.getfield 35, 3) := by decide +kernel
theorem dX1_remove_136 : decode cX1_remove 136 = .ok (.iload_n 2, 1) := by decide +kernel
theorem dX1_remove_137 : decode cX1_remove 137 = .ok (.aload_n 0, 1) := by decide +kernel
theorem dX1_remove_138 : decode cX1_remove 138 = .ok (.getfield 35, 3) := by decide +kernel
theorem dX1_remove_141 : decode cX1_remove 141 = .ok (.iload_n 2, 1) := by decide +kernel
theorem dX1_remove_142 : decode cX1_remove 142 = .ok (.iconst 1, 1) := by decide +kernel
theorem dX1_remove_143 : decode cX1_remove 143 = .ok (.iadd, 1) := by decide +kernel
theorem dX1_remove_144 : decode cX1_remove 144 = .ok (.iaload, 1) := by decide +kernel
theorem dX1_remove_145 : decode cX1_remove 145 = .ok (.iastore, 1) := by decide +kernel
theorem dX1_remove_146 : decode cX1_remove 146 = .ok (.iinc 2 1, 3) := by decide +kernel
theorem dX1_remove_149 : decode cX1_remove 149 = .ok (.goto (-137), 3) := by decide +kernel
theorem dX1_remove_152 : decode cX1_remove 152 = .ok (.return_, 1) := by decide +kernel
theorem dX1_first_0 : decode cX1_first 0 = .ok (.aload_n 0, 1) := by decide +kernel
theorem dX1_first_1 : decode cX1_first 1 = .ok (.iconst 0, 1) := by decide +kernel
theorem dX1_first_2 : decode cX1_first 2 = .ok (.putfield 42, 3) := by decide +kernel
theorem dX1_first_5 : decode cX1_first 5 = .ok (.aload_n 0, 1) := by decide +kernel
theorem dX1_first_6 : decode cX1_first 6 = .ok (.getfield 45, 3) := by decide +kernel
theorem dX1_first_9 : decode cX1_first 9 = .ok (.ifCond .le 5, 3) := by decide +kernel
theorem dX1_first_12 : decode cX1_first 12 = .ok (.iconst 0, 1) := by decide +kernel
theorem dX1_first_13 : decode cX1_first 13 = .ok (.ireturn, 1) := by decide +kernel
theorem dX1_first_14 : decode cX1_first 14 = .ok (.aload_n 0, 1) := by decide +kernel
theorem dX1_first_15 : decode cX1_first 15 = .ok (.iconst 0, 1) := by decide +kernel
theorem dX1_first_16 : decode cX1_first 16 = .ok (.putfield 55, 3) := by decide +kernel
theorem dX1_first_19 : decode cX1_first 19 = .ok (.aload_n 0, 1) := by decide +kernel
theorem dX1_first_20 : decode cX1_first 20 = .ok (.iconst 0, 1) := by decide +kernel
theorem dX1_first_21 : decode cX1_first 21 = .ok (.putfield 58, 3) := by decide +kernel
theorem dX1_first_24 : decode cX1_first 24 = .ok (.aload_n 0, 1) := by decide +kernel
theorem dX1_first_25 : decode cX1_first 25 = .ok (.bipush 14, 2) := by decide +kernel
theorem dX1_first_27 : decode cX1_first 27 = .ok (.putfield 61, 3) := by decide +kernel
theorem dX1_first_30 : decode cX1_first 30 = .ok (.aload_n 0, 1) := by decide +kernel
theorem dX1_first_31 : decode cX1_first 31 = .ok (.iconst 0, 1) := by decide +kernel
theorem dX1_first_32 : decode cX1_first 32 = .ok (.iconst 0, 1) := by decide +kernel
theorem dX1_first_33 : decode cX1_first 33 = .ok (.invokevirtual 64, 3) := by decide +kernel
theorem dX1_first_36 : decode cX1_first 36 = .ok (.istore_n 1, 1) := by decide +kernel
theorem dX1_first_37 : decode cX1_first 37 = .ok (.iconst 1, 1) := by decide +kernel
theorem dX1_first_38 : decode cX1_first 38 = .ok (.ireturn, 1) := by decide +kernel
theorem dX1_pick_0 : decode cX1_pick 0 = .ok (.aload_n 0, 1) := by decide +kernel
theorem dX1_pick_1 : decode cX1_pick 1 = .ok (.iconst 0, 1) := by decide +kernel
theorem dX1_pick_2 : decode cX1_pick 2 = .ok (.putfield 42, 3) := by decide +kernel
theorem dX1_pick_5 : decode cX1_pick 5 = .ok (.iload_n 1, 1) := by decide +kernel
theorem dX1_pick_6 : decode cX1_pick 6 = .ok (.ifCond .lt 11, 3) := by decide +kernel
theorem dX1_pick_9 : decode cX1_pick 9 = .ok (.iload_n 1, 1) := by decide +kernel
theorem dX1_pick_10 : decode cX1_pick 10 = .ok (.aload_n 0, 1) := by decide +kernel
theorem dX1_pick_11 : decode cX1_pick 11 = .ok (.getfield 38, 3) := by decide +kernel
theorem dX1_pick_14 : decode cX1_pick 14 = .ok (.if_icmp .lt 5, 3) := by decide +kernel
theorem dX1_pick_17 : decode cX1_pick 17 = .ok (.iconst (-1), 1) := by decide +kernel
theorem dX1_pick_18 : decode cX1_pick 18 = .ok (.ireturn, 1) := by decide +kernel
theorem dX1_pick_19 : decode cX1_pick 19 = .ok (.aload_n 0, 1) := by decide +kernel
theorem dX1_pick_20 : decode cX1_pick 20 = .ok (.iload_n 1, 1) := by decide +kernel
theorem dX1_pick_21 : decode cX1_pick 21 = .ok (.invokevirtual 68, 3) := by decide +kernel
theorem dX1_pick_24 : decode cX1_pick 24 = .ok (.istore_n 2, 1) := by decide +kernel
theorem dX1_pick_25 : decode cX1_pick 25 = .ok (.iconst 1, 1) := by decide +kernel
theorem dX1_pick_26 : decode cX1_pick 26 = .ok (.istore_n 3, 1) := by decide +kernel
theorem dX1_pick_27 : decode cX1_pick 27 = .ok (.iload_n 3, 1) := by decide +kernel
theorem dX1_pick_28 : decode cX1_pick 28 = .ok (.bipush 15, 2) := by decide +kernel
theorem dX1_pick_30 : decode cX1_pick 30 = .ok (.if_icmp .gt 50, 3) := by decide +kernel
theorem dX1_pick_33 : decode cX1_pick 33 = .ok (.iload_n 2, 1) := by decide +kernel
theorem dX1_pick_34 : decode cX1_pick 34 = .ok (.ifCond .ge 46, 3) := by decide +kernel
theorem dX1_pick_37 : decode cX1_pick 37 = .ok (.aload_n 0, 1) := by decide +kernel
theorem dX1_pick_38 : decode cX1_pick 38 = .ok (.aload_n 0, 1) := by decide +kernel
theorem dX1_pick_39 : decode cX1_pick 39 = .ok (.getfield 61, 3) := by decide +kernel
theorem dX1_pick_42 : decode cX1_pick 42 = .ok (.iload_n 3, 1) := by decide +kernel
theorem dX1_pick_43 : decode cX1_pick 43 = .ok (.iadd, 1) := by decide +kernel
theorem dX1_pick_44 : decode cX1_pick 44 = .ok (.bipush 15, 2) := by decide +kernel
theorem dX1_pick_46 : decode cX1_pick 46 = .ok (.irem, 1) := by decide +kernel
theorem dX1_pick_47 : decode cX1_pick 47 = .ok (.invokevirtual 48, 3) := by decide +kernel
theorem dX1_pick_50 : decode cX1_pick 50 = .ok (.istore 4, 2) := by decide +kernel
theorem dX1_pick_52 : decode cX1_pick 52 = .ok (.iload 4, 2) := by decide +kernel
theorem dX1_pick_54 : decode cX1_pick 54 = .ok (.ifCond .lt 18, 3) := by decide +kernel
theorem dX1_pick_57 : decode cX1_pick 57 = .ok (.aload_n 0, 1) := by decide +kernel
theorem dX1_pick_58 : decode cX1_pick 58 = .ok (.iload 4, 2) := by decide +kernel
theorem dX1_pick_60 : decode cX1_pick 60 = .ok (.invokevirtual 71, 3) := by decide +kernel
theorem dX1_pick_63 : decode cX1_pick 63 = .ok (.iconst 1, 1) := by decide +kernel
theorem dX1_pick_64 : decode cX1_pick 64 = .ok (.if_icmp .ne 8, 3) := by decide +kernel
theorem dX1_pick_67 : decode cX1_pick 67 = .ok (.iload 4, 2) := by decide +kernel
theorem dX1_pick_69 : decode cX1_pick 69 = .ok (.goto 4, 3) := by decide +kernel
theorem dX1_pick_72 : decode cX1_pick 72 = .ok (.iconst (-1), 1) := by decide +kernel
theorem dX1_pick_73 : decode cX1_pick 73 = .ok (.istore_n 2, 1) := by decide +kernel
theorem dX1_pick_74 : decode cX1_pick 74 = .ok (.iinc 3 1, 3) := by decide +kernel
theorem dX1_pick_77 : decode cX1_pick 77 = .ok (.goto (-50), 3) := by decide +kernel
theorem dX1_pick_80 : decode cX1_pick 80 = .ok (.iload_n 2, 1) := by decide +kernel
theorem dX1_pick_81 : decode cX1_pick 81 = .ok (.ifCond .ge 5, 3) := by decide +kernel
theorem dX1_pick_84 : decode cX1_pick 84 = .ok (.iconst (-1), 1) := by decide +kernel
theorem dX1_pick_85 : decode cX1_pick 85 = .ok (.ireturn, 1) := by decide +kernel
theorem dX1_pick_86 : decode cX1_pick 86 = .ok (.aload_n 0, 1) := by decide +kernel
theorem dX1_pick_87 : decode cX1_pick 87 = .ok (.getfield 29, 3) := by decide +kernel
theorem dX1_pick_90 : decode cX1_pick 90 = .ok (.iload_n 2, 1) := by decide +kernel
theorem dX1_pick_91 : decode cX1_pick 91 = .ok (.iaload, 1) := by decide +kernel
theorem dX1_pick_92 : decode cX1_pick 92 = .ok (.iload_n 1, 1) := by decide +kernel
theorem dX1_pick_93 : decode cX1_pick 93 = .ok (.if_icmp .eq 27, 3) := by decide +kernel
theorem dX1_pick_96 : decode cX1_pick 96 = .ok (.aload_n 0, 1) := by decide +kernel
theorem dX1_pick_97 : decode cX1_pick 97 = .ok (.getfield 29, 3) := by decide +kernel
theorem dX1_pick_100 : decode cX1_pick 100 = .ok (.iload_n 2, 1) := by decide +kernel
theorem dX1_pick_101 : decode cX1_pick 101 = .ok (.iload_n 1, 1) := by decide +kernel
theorem dX1_pick_102 : decode cX1_pick 102 = .ok (.iastore, 1) := by decide +kernel
theorem dX1_pick_103 : decode cX1_pick 103 = .ok (.aload_n 0, 1) := by decide +kernel
theorem dX1_pick_104 : decode cX1_pick 104 = .ok (.getfield 32, 3) := by decide +kernel
theorem dX1_pick_107 : decode cX1_pick 107 = .ok (.iload_n 2, 1) := by decide +kernel
theorem dX1_pick_108 : decode cX1_pick 108 = .ok (.iconst 0, 1) := by decide +kernel
theorem dX1_pick_109 : decode cX1_pick 109 = .ok (.iastore, 1) := by decide +kernel
theorem dX1_pick_110 : decode cX1_pick 110 = .ok (.aload_n 0, 1) := by decide +kernel
theorem dX1_pick_111 : decode cX1_pick 111 = .ok (.aload_n 0, 1) := by decide +kernel
theorem dX1_pick_112 : decode cX1_pick 112 = .ok (.getfield 13, 3) := by decide +kernel
theorem dX1_pick_115 : decode cX1_pick 115 = .ok (.iload_n 2, 1) := by decide +kernel
theorem dX1_pick_116 : decode cX1_pick 116 = .ok (.iaload, 1) := by decide +kernel
theorem dX1_pick_117 : decode cX1_pick 117 = .ok (.putfield 61, 3) := by decide +kernel
theorem dX1_pick_120 : decode cX1_pick 120 = .ok (.aload_n 0, 1) := by decide +kernel
theorem dX1_pick_121 : decode cX1_pick 121 = .ok (.getfield 13, 3) := by decide +kernel
theorem dX1_pick_124 : decode cX1_pick 124 = .ok (.iload_n 2, 1) := by decide +kernel
theorem dX1_pick_125 : decode cX1_pick 125 = .ok (.iaload, 1) := by decide +kernel
theorem dX1_pick_126 : decode cX1_pick 126 = .ok (.ireturn, 1) := by decide +kernel
theorem dX1_fork_0 : decode cX1_fork 0 = .ok (.aload_n 0, 1) := by decide +kernel
theorem dX1_fork_1 : decode cX1_fork 1 = .ok (.iconst 0, 1) := by decide +kernel
theorem dX1_fork_2 : decode cX1_fork 2 = .ok (.putfield 42, 3) := by decide +kernel
theorem dX1_fork_5 : decode cX1_fork 5 = .ok (.aload_n 0, 1) := by decide +kernel
theorem dX1_fork_6 : decode cX1_fork 6 = .ok (.iload_n 1, 1) := by decide +kernel
theorem dX1_fork_7 : decode cX1_fork 7 = .ok (.invokevirtual 68, 3) := by decide +kernel
theorem dX1_fork_10 : decode cX1_fork 10 = .ok (.istore_n 2, 1) := by decide +kernel
theorem dX1_fork_11 : decode cX1_fork 11 = .ok (.aload_n 0, 1) := by decide +kernel
theorem dX1_fork_12 : decode cX1_fork 12 = .ok (.invokevirtual 74, 3) := by decide +kernel
theorem dX1_fork_15 : decode cX1_fork 15 = .ok (.istore_n 3, 1) := by decide +kernel
theorem dX1_fork_16 : decode cX1_fork 16 = .ok (.iload_n 2, 1) := by decide +kernel
theorem dX1_fork_17 : decode cX1_fork 17 = .ok (.ifCond .lt 9, 3) := by decide +kernel
theorem dX1_fork_20 : decode cX1_fork 20 = .ok (.iload_n 3, 1) := by decide +kernel
theorem dX1_fork_21 : decode cX1_fork 21 = .ok (.bipush 15, 2) := by decide +kernel
theorem dX1_fork_23 : decode cX1_fork 23 = .ok (.if_icmp .ne 7, 3) := by decide +kernel
theorem dX1_fork_26 : decode cX1_fork 26 = .ok (.iconst (-1), 1) := by decide +kernel
theorem dX1_fork_27 : decode cX1_fork 27 = .ok (.goto 14, 3) := by decide +kernel
theorem dX1_fork_30 : decode cX1_fork 30 = .ok (.aload_n 0, 1) := by decide +kernel
theorem dX1_fork_31 : decode cX1_fork 31 = .ok (.iload_n 3, 1) := by decide +kernel
theorem dX1_fork_32 : decode cX1_fork 32 = .ok (.aload_n 0, 1) := by decide +kernel
theorem dX1_fork_33 : decode cX1_fork 33 = .ok (.getfield 7, 3) := by decide +kernel
theorem dX1_fork_36 : decode cX1_fork 36 = .ok (.iload_n 2, 1) := by decide +kernel
theorem dX1_fork_37 : decode cX1_fork 37 = .ok (.iaload, 1) := by decide +kernel
theorem dX1_fork_38 : decode cX1_fork 38 = .ok (.invokevirtual 64, 3) := by decide +kernel
theorem dX1_fork_41 : decode cX1_fork 41 = .ok (.ireturn, 1) := by decide +kernel
theorem dX1_exit_0 : decode cX1_exit 0 = .ok (.aload_n 0, 1) := by decide +kernel
theorem dX1_exit_1 : decode cX1_exit 1 = .ok (.iconst 0, 1) := by decide +kernel
theorem dX1_exit_2 : decode cX1_exit 2 = .ok (.putfield 42, 3) := by decide +kernel
theorem dX1_exit_5 : decode cX1_exit 5 = .ok (.aload_n 0, 1) := by decide +kernel
theorem dX1_exit_6 : decode cX1_exit 6 = .ok (.iload_n 1, 1) := by decide +kernel
theorem dX1_exit_7 : decode cX1_exit 7 = .ok (.invokevirtual 68, 3) := by decide +kernel
theorem dX1_exit_10 : decode cX1_exit 10 = .ok (.istore_n 3, 1) := by decide +kernel
theorem dX1_exit_11 : decode cX1_exit 11 = .ok (.iload_n 3, 1) := by decide +kernel
theorem dX1_exit_12 : decode cX1_exit 12 = .ok (.ifCond .ge 5, 3) := by decide +kernel
theorem dX1_exit_15 : decode cX1_exit 15 = .ok (.iconst (-1), 1) := by decide +kernel
theorem dX1_exit_16 : decode cX1_exit 16 = .ok (.ireturn, 1) := by decide +kernel
theorem dX1_exit_17 : decode cX1_exit 17 = .ok (.aload_n 0, 1) := by decide +kernel
theorem dX1_exit_18 : decode cX1_exit 18 = .ok (.getfield 13, 3) := by decide +kernel
theorem dX1_exit_21 : decode cX1_exit 21 = .ok (.iload_n 3, 1) := by decide +kernel
theorem dX1_exit_22 : decode cX1_exit 22 = .ok (.iaload, 1) := by decide +kernel
theorem dX1_exit_23 : decode cX1_exit 23 = .ok (.istore 4, 2) := by decide +kernel
theorem dX1_exit_25 : decode cX1_exit 25 = .ok (.aload_n 0, 1) := by decide +kernel
theorem dX1_exit_26 : decode cX1_exit 26 = .ok (.getfield 7, 3) := by decide +kernel
theorem dX1_exit_29 : decode cX1_exit 29 = .ok (.iload_n 3, 1) := by decide +kernel
theorem dX1_exit_30 : decode cX1_exit 30 = .ok (.iaload, 1) := by decide +kernel
theorem dX1_exit_31 : decode cX1_exit 31 = .ok (.iconst 1, 1) := by decide +kernel
theorem dX1_exit_32 : decode cX1_exit 32 = .ok (.if_icmp .ne 16, 3) := by decide +kernel
theorem dX1_exit_35 : decode cX1_exit 35 = .ok (.aload_n 0, 1) := by decide +kernel
theorem dX1_exit_36 : decode cX1_exit 36 = .ok (.iload_n 2, 1) := by decide +kernel
theorem dX1_exit_37 : decode cX1_exit 37 = .ok (.putfield 78, 3) := by decide +kernel
theorem dX1_exit_40 : decode cX1_exit 40 = .ok (.aload_n 0, 1) := by decide +kernel
theorem dX1_exit_41 : decode cX1_exit 41 = .ok (.iconst 0, 1) := by decide +kernel
theorem dX1_exit_42 : decode cX1_exit 42 = .ok (.putfield 45, 3) := by decide +kernel
theorem dX1_exit_45 : decode cX1_exit 45 = .ok (.iload 4, 2) := by decide +kernel
theorem dX1_exit_47 : decode cX1_exit 47 = .ok (.ireturn, 1) := by decide +kernel
theorem dX1_exit_48 : decode cX1_exit 48 = .ok (.iconst 0, 1) := by decide +kernel
theorem dX1_exit_49 : decode cX1_exit 49 = .ok (.istore 5, 2) := by decide +kernel
theorem dX1_exit_51 : decode cX1_exit 51 = .ok (.iload 5, 2) := by decide +kernel
theorem dX1_exit_53 : decode cX1_exit 53 = .ok (.aload_n 0, 1) := by decide +kernel
theorem dX1_exit_54 : decode cX1_exit 54 = .ok (.getfield 45, 3) := by decide +kernel
theorem dX1_exit_57 : decode cX1_exit 57 = .ok (.if_icmp .ge 43, 3) := by decide +kernel
theorem dX1_exit_60 : decode cX1_exit 60 = .ok (.aload_n 0, 1) := by decide +kernel
theorem dX1_exit_61 : decode cX1_exit 61 = .ok (.getfield 16, 3) := by decide +kernel
theorem dX1_exit_64 : decode cX1_exit 64 = .ok (.iload 5, 2) := by decide +kernel
theorem dX1_exit_66 : decode cX1_exit 66 = .ok (.aload_n 0, 1) := by decide +kernel
theorem dX1_exit_67 : decode cX1_exit 67 = .ok (.getfield 16, 3) := by decide +kernel
theorem dX1_exit_70 : decode cX1_exit 70 = .ok (.iload 5, 2) := by decide +kernel
theorem dX1_exit_72 : decode cX1_exit 72 = .ok (.iaload, 1) := by decide +kernel
theorem dX1_exit_73 : decode cX1_exit 73 = .ok (.aload_n 0, 1) := by decide +kernel
theorem dX1_exit_74 : decode cX1_exit 74 = .ok (.getfield 7, 3) := by decide +kernel
theorem dX1_exit_77 : decode cX1_exit 77 = .ok (.iload_n 3, 1) := by decide +kernel
theorem dX1_exit_78 : decode cX1_exit 78 = .ok (.iaload, 1) := by decide +kernel
theorem dX1_exit_79 : decode cX1_exit 79 = .ok (.if_icmp .ne 7, 3) := by decide +kernel
theorem dX1_exit_82 : decode cX1_exit 82 = .ok (.iconst 1, 1) := by decide +kernel
theorem dX1_exit_83 : decode cX1_exit 83 = .ok (.goto 10, 3) := by decide +kernel
theorem dX1_exit_86 : decode cX1_exit 86 = .ok (.aload_n 0, 1) := by decide +kernel
theorem dX1_exit_87 : decode cX1_exit 87 = .ok (.getfield 16, 3) := by decide +kernel
theorem dX1_exit_90 : decode cX1_exit 90 = .ok (.iload 5, 2) := by decide +kernel
theorem dX1_exit_92 : decode cX1_exit 92 = .ok (.iaload, 1) := by decide +kernel
theorem dX1_exit_93 : decode cX1_exit 93 = .ok (.iastore, 1) := by decide +kernel
theorem dX1_exit_94 : decode cX1_exit 94 = .ok (.iinc 5 1, 3) := by decide +kernel
theorem dX1_exit_97 : decode cX1_exit 97 = .ok (.goto (-46), 3) := by decide +kernel
theorem dX1_exit_100 : decode cX1_exit 100 = .ok (.aload_n 0, 1) := by decide +kernel
theorem dX1_exit_101 : decode cX1_exit 101 = .ok (.getfield 19, 3) := by decide +kernel
theorem dX1_exit_104 : decode cX1_exit 104 = .ok (.iload_n 3, 1) := by decide +kernel
theorem dX1_exit_105 : decode cX1_exit 105 = .ok (.iconst 1, 1) := by decide +kernel
theorem dX1_exit_106 : decode cX1_exit 106 = .ok (.bastore, 1) := by decide +kernel
theorem dX1_exit_107 : decode cX1_exit 107 = .ok (.aload_n 0, 1) := by decide +kernel
theorem dX1_exit_108 : decode cX1_exit 108 = .ok (.getfield 23, 3) := by decide +kernel
theorem dX1_exit_111 : decode cX1_exit 111 = .ok (.iload_n 3, 1) := by decide +kernel
theorem dX1_exit_112 : decode cX1_exit 112 = .ok (.iload_n 2, 1) := by decide +kernel
theorem dX1_exit_113 : decode cX1_exit 113 = .ok (.iastore, 1) := by decide +kernel
theorem dX1_exit_114 : decode cX1_exit 114 = .ok (.aload_n 0, 1) := by decide +kernel
theorem dX1_exit_115 : decode cX1_exit 115 = .ok (.getfield 29, 3) := by decide +kernel
theorem dX1_exit_118 : decode cX1_exit 118 = .ok (.iload_n 3, 1) := by decide +kernel
theorem dX1_exit_119 : decode cX1_exit 119 = .ok (.iconst (-1), 1) := by decide +kernel
theorem dX1_exit_120 : decode cX1_exit 120 = .ok (.iastore, 1) := by decide +kernel
theorem dX1_exit_121 : decode cX1_exit 121 = .ok (.iload 4, 2) := by decide +kernel
theorem dX1_exit_123 : decode cX1_exit 123 = .ok (.ireturn, 1) := by decide +kernel
theorem dX1_await_0 : decode cX1_await 0 = .ok (.aload_n 0, 1) := by decide +kernel
theorem dX1_await_1 : decode cX1_await 1 = .ok (.iconst 0, 1) := by decide +kernel
theorem dX1_await_2 : decode cX1_await 2 = .ok (.putfield 42, 3) := by decide +kernel
theorem dX1_await_5 : decode cX1_await 5 = .ok (.aload_n 0, 1) := by decide +kernel
theorem dX1_await_6 : decode cX1_await 6 = .ok (.iload_n 1, 1) := by decide +kernel
theorem dX1_await_7 : decode cX1_await 7 = .ok (.invokevirtual 68, 3) := by decide +kernel
theorem dX1_await_10 : decode cX1_await 10 = .ok (.istore_n 2, 1) := by decide +kernel
theorem dX1_await_11 : decode cX1_await 11 = .ok (.iconst 0, 1) := by decide +kernel
theorem dX1_await_12 : decode cX1_await 12 = .ok (.istore_n 3, 1) := by decide +kernel
theorem dX1_await_13 : decode cX1_await 13 = .ok (.iconst 0, 1) := by decide +kernel
theorem dX1_await_14 : decode cX1_await 14 = .ok (.istore 4, 2) := by decide +kernel
theorem dX1_await_16 : decode cX1_await 16 = .ok (.iload 4, 2) := by decide +kernel
theorem dX1_await_18 : decode cX1_await 18 = .ok (.aload_n 0, 1) := by decide +kernel
theorem dX1_await_19 : decode cX1_await 19 = .ok (.getfield 45, 3) := by decide +kernel
theorem dX1_await_22 : decode cX1_await 22 = .ok (.if_icmp .ge 39, 3) := by decide +kernel
theorem dX1_await_25 : decode cX1_await 25 = .ok (.iload_n 2, 1) := by decide +kernel
theorem dX1_await_26 : decode cX1_await 26 = .ok (.ifCond .lt 35, 3) := by decide +kernel
theorem dX1_await_29 : decode cX1_await 29 = .ok (.iload_n 3, 1) := by decide +kernel
theorem dX1_await_30 : decode cX1_await 30 = .ok (.ifCond .ne 19, 3) := by decide +kernel
theorem dX1_await_33 : decode cX1_await 33 = .ok (.aload_n 0, 1) := by decide +kernel
theorem dX1_await_34 : decode cX1_await 34 = .ok (.getfield 16, 3) := by decide +kernel
theorem dX1_await_37 : decode cX1_await 37 = .ok (.iload 4, 2) := by decide +kernel
theorem dX1_await_39 : decode cX1_await 39 = .ok (.iaload, 1) := by decide +kernel
theorem dX1_await_40 : decode cX1_await 40 = .ok (.aload_n 0, 1) := by decide +kernel
theorem dX1_await_41 : decode cX1_await 41 = .ok (.getfield 7, 3) := by decide +kernel
theorem dX1_await_44 : decode cX1_await 44 = .ok (.iload_n 2, 1) := by decide +kernel
theorem dX1_await_45 : decode cX1_await 45 = .ok (.iaload, 1) := by decide +kernel
theorem dX1_await_46 : decode cX1_await 46 = .ok (.if_icmp .ne 7, 3) := by decide +kernel
theorem dX1_await_49 : decode cX1_await 49 = .ok (.iconst 1, 1) := by decide +kernel
theorem dX1_await_50 : decode cX1_await 50 = .ok (.goto 4, 3) := by decide +kernel
theorem dX1_await_53 : decode cX1_await 53 = .ok (.iconst 0, 1) := by decide +kernel
theorem dX1_await_54 : decode cX1_await 54 = .ok (.istore_n 3, 1) := by decide +kernel
theorem dX1_await_55 : decode cX1_await 55 = .ok (.iinc 4 1, 3) := by decide +kernel
theorem dX1_await_58 : decode cX1_await 58 = .ok (.goto (-42), 3) := by decide +kernel
theorem dX1_await_61 : decode cX1_await 61 = .ok (.iload_n 3, 1) := by decide +kernel
theorem dX1_await_62 : decode cX1_await 62 = .ok (.ifCond .ne 5, 3) := by decide +kernel
theorem dX1_await_65 : decode cX1_await 65 = .ok (.iconst (-1), 1) := by decide +kernel
theorem dX1_await_66 : decode cX1_await 66 = .ok (.ireturn, 1) := by decide +kernel
theorem dX1_await_67 : decode cX1_await 67 = .ok (.aload_n 0, 1) := by decide +kernel
theorem dX1_await_68 : decode cX1_await 68 = .ok (.iload_n 2, 1) := by decide +kernel
theorem dX1_await_69 : decode cX1_await 69 = .ok (.invokevirtual 52, 3) := by decide +kernel
theorem dX1_await_72 : decode cX1_await 72 = .ok (.istore 4, 2) := by decide +kernel
theorem dX1_await_74 : decode cX1_await 74 = .ok (.iload 4, 2) := by decide +kernel
theorem dX1_await_76 : decode cX1_await 76 = .ok (.ifCond .ge 14, 3) := by decide +kernel
theorem dX1_await_79 : decode cX1_await 79 = .ok (.aload_n 0, 1) := by decide +kernel
theorem dX1_await_80 : decode cX1_await 80 = .ok (.iload_n 2, 1) := by decide +kernel
theorem dX1_await_81 : decode cX1_await 81 = .ok (.iconst 2, 1) := by decide +kernel
theorem dX1_await_82 : decode cX1_await 82 = .ok (.iconst 0, 1) := by decide +kernel
theorem dX1_await_83 : decode cX1_await 83 = .ok (.invokevirtual 81, 3) := by decide +kernel
theorem dX1_await_86 : decode cX1_await 86 = .ok (.istore 5, 2) := by decide +kernel
theorem dX1_await_88 : decode cX1_await 88 = .ok (.iconst 0, 1) := by decide +kernel
theorem dX1_await_89 : decode cX1_await 89 = .ok (.ireturn, 1) := by decide +kernel
theorem dX1_await_90 : decode cX1_await 90 = .ok (.aload_n 0, 1) := by decide +kernel
theorem dX1_await_91 : decode cX1_await 91 = .ok (.getfield 7, 3) := by decide +kernel
theorem dX1_await_94 : decode cX1_await 94 = .ok (.iload 4, 2) := by decide +kernel
theorem dX1_await_96 : decode cX1_await 96 = .ok (.iaload, 1) := by decide +kernel
theorem dX1_await_97 : decode cX1_await 97 = .ok (.istore 5, 2) := by decide +kernel
theorem dX1_await_99 : decode cX1_await 99 = .ok (.aload_n 0, 1) := by decide +kernel
theorem dX1_await_100 : decode cX1_await 100 = .ok (.aload_n 0, 1) := by decide +kernel
theorem dX1_await_101 : decode cX1_await 101 = .ok (.getfield 23, 3) := by decide +kernel
theorem dX1_await_104 : decode cX1_await 104 = .ok (.iload 4, 2) := by decide +kernel
theorem dX1_await_106 : decode cX1_await 106 = .ok (.iaload, 1) := by decide +kernel
theorem dX1_await_107 : decode cX1_await 107 = .ok (.putfield 78, 3) := by decide +kernel
theorem dX1_await_110 : decode cX1_await 110 = .ok (.aload_n 0, 1) := by decide +kernel
theorem dX1_await_111 : decode cX1_await 111 = .ok (.iload 4, 2) := by decide +kernel
theorem dX1_await_113 : decode cX1_await 113 = .ok (.invokevirtual 85, 3) := by decide +kernel
theorem dX1_await_116 : decode cX1_await 116 = .ok (.iload 5, 2) := by decide +kernel
theorem dX1_await_118 : decode cX1_await 118 = .ok (.ireturn, 1) := by decide +kernel
theorem dX1_status_0 : decode cX1_status 0 = .ok (.aload_n 0, 1) := by decide +kernel
theorem dX1_status_1 : decode cX1_status 1 = .ok (.iconst 0, 1) := by decide +kernel
theorem dX1_status_2 : decode cX1_status 2 = .ok (.putfield 42, 3) := by decide +kernel
theorem dX1_status_5 : decode cX1_status 5 = .ok (.aload_n 0, 1) := by decide +kernel
theorem dX1_status_6 : decode cX1_status 6 = .ok (.getfield 78, 3) := by decide +kernel
theorem dX1_status_9 : decode cX1_status 9 = .ok (.ireturn, 1) := by decide +kernel
theorem dX1_waitsFor_0 : decode cX1_waitsFor 0 = .ok (.aload_n 0, 1) := by decide +kernel
theorem dX1_waitsFor_1 : decode cX1_waitsFor 1 = .ok (.getfield 29, 3) := by decide +kernel
theorem dX1_waitsFor_4 : decode cX1_waitsFor 4 = .ok (.iload_n 1, 1) := by decide +kernel
theorem dX1_waitsFor_5 : decode cX1_waitsFor 5 = .ok (.iconst (-1), 1) := by decide +kernel
theorem dX1_waitsFor_6 : decode cX1_waitsFor 6 = .ok (.iastore, 1) := by decide +kernel
theorem dX1_waitsFor_7 : decode cX1_waitsFor 7 = .ok (.aload_n 0, 1) := by decide +kernel
theorem dX1_waitsFor_8 : decode cX1_waitsFor 8 = .ok (.getfield 32, 3) := by decide +kernel
theorem dX1_waitsFor_11 : decode cX1_waitsFor 11 = .ok (.iload_n 1, 1) := by decide +kernel
theorem dX1_waitsFor_12 : decode cX1_waitsFor 12 = .ok (.iload_n 2, 1) := by decide +kernel
theorem dX1_waitsFor_13 : decode cX1_waitsFor 13 = .ok (.iastore, 1) := by decide +kernel
theorem dX1_waitsFor_14 : decode cX1_waitsFor 14 = .ok (.aload_n 0, 1) := by decide +kernel
theorem dX1_waitsFor_15 : decode cX1_waitsFor 15 = .ok (.getfield 35, 3) := by decide +kernel
theorem dX1_waitsFor_18 : decode cX1_waitsFor 18 = .ok (.iload_n 1, 1) := by decide +kernel
theorem dX1_waitsFor_19 : decode cX1_waitsFor 19 = .ok (.iload_n 3, 1) := by decide +kernel
theorem dX1_waitsFor_20 : decode cX1_waitsFor 20 = .ok (.iastore, 1) := by decide +kernel
theorem dX1_waitsFor_21 : decode cX1_waitsFor 21 = .ok (.aload_n 0, 1) := by decide +kernel
theorem dX1_waitsFor_22 : decode cX1_waitsFor 22 = .ok (.getfield 13, 3) := by decide +kernel
theorem dX1_waitsFor_25 : decode cX1_waitsFor 25 = .ok (.iload_n 1, 1) := by decide +kernel
theorem dX1_waitsFor_26 : decode cX1_waitsFor 26 = .ok (.iaload, 1) := by decide +kernel
theorem dX1_waitsFor_27 : decode cX1_waitsFor 27 = .ok (.ireturn, 1) := by decide +kernel
theorem dX1_block_0 : decode cX1_block 0 = .ok (.aload_n 0, 1) := by decide +kernel
theorem dX1_block_1 : decode cX1_block 1 = .ok (.iconst 0, 1) := by decide +kernel
theorem dX1_block_2 : decode cX1_block 2 = .ok (.putfield 42, 3) := by decide +kernel
theorem dX1_block_5 : decode cX1_block 5 = .ok (.aload_n 0, 1) := by decide +kernel
theorem dX1_block_6 : decode cX1_block 6 = .ok (.iload_n 1, 1) := by decide +kernel
theorem dX1_block_7 : decode cX1_block 7 = .ok (.invokevirtual 68, 3) := by decide +kernel
theorem dX1_block_10 : decode cX1_block 10 = .ok (.istore_n 3, 1) := by decide +kernel
theorem dX1_block_11 : decode cX1_block 11 = .ok (.iload_n 3, 1) := by decide +kernel
theorem dX1_block_12 : decode cX1_block 12 = .ok (.ifCond .ge 7, 3) := by decide +kernel
theorem dX1_block_15 : decode cX1_block 15 = .ok (.iconst (-1), 1) := by decide +kernel
theorem dX1_block_16 : decode cX1_block 16 = .ok (.goto 10, 3) := by decide +kernel
theorem dX1_block_19 : decode cX1_block 19 = .ok (.aload_n 0, 1) := by decide +kernel
theorem dX1_block_20 : decode cX1_block 20 = .ok (.iload_n 3, 1) := by decide +kernel
theorem dX1_block_21 : decode cX1_block 21 = .ok (.iconst 1, 1) := by decide +kernel
theorem dX1_block_22 : decode cX1_block 22 = .ok (.iload_n 2, 1) := by decide +kernel
theorem dX1_block_23 : decode cX1_block 23 = .ok (.invokevirtual 81, 3) := by decide +kernel
theorem dX1_block_26 : decode cX1_block 26 = .ok (.ireturn, 1) := by decide +kernel
theorem dX1_sleep_0 : decode cX1_sleep 0 = .ok (.aload_n 0, 1) := by decide +kernel
theorem dX1_sleep_1 : decode cX1_sleep 1 = .ok (.iconst 0, 1) := by decide +kernel
theorem dX1_sleep_2 : decode cX1_sleep 2 = .ok (.putfield 42, 3) := by decide +kernel
theorem dX1_sleep_5 : decode cX1_sleep 5 = .ok (.aload_n 0, 1) := by decide +kernel
theorem dX1_sleep_6 : decode cX1_sleep 6 = .ok (.iload_n 1, 1) := by decide +kernel
theorem dX1_sleep_7 : decode cX1_sleep 7 = .ok (.invokevirtual 68, 3) := by decide +kernel
theorem dX1_sleep_10 : decode cX1_sleep 10 = .ok (.istore_n 3, 1) := by decide +kernel
theorem dX1_sleep_11 : decode cX1_sleep 11 = .ok (.iload_n 3, 1) := by decide +kernel
theorem dX1_sleep_12 : decode cX1_sleep 12 = .ok (.ifCond .ge 7, 3) := by decide +kernel
theorem dX1_sleep_15 : decode cX1_sleep 15 = .ok (.iconst (-1), 1) := by decide +kernel
theorem dX1_sleep_16 : decode cX1_sleep 16 = .ok (.goto 45, 3) := by decide +kernel
theorem dX1_sleep_19 : decode cX1_sleep 19 = .ok (.iload_n 2, 1) := by decide +kernel
theorem dX1_sleep_20 : decode cX1_sleep 20 = .ok (.iconst 1, 1) := by decide +kernel
theorem dX1_sleep_21 : decode cX1_sleep 21 = .ok (.if_icmp .ge 12, 3) := by decide +kernel
theorem dX1_sleep_24 : decode cX1_sleep 24 = .ok (.aload_n 0, 1) := by decide +kernel
theorem dX1_sleep_25 : decode cX1_sleep 25 = .ok (.getfield 13, 3) := by decide +kernel
theorem dX1_sleep_28 : decode cX1_sleep 28 = .ok (.iload_n 3, 1) := by decide +kernel
theorem dX1_sleep_29 : decode cX1_sleep 29 = .ok (.iaload, 1) := by decide +kernel
theorem dX1_sleep_30 : decode cX1_sleep 30 = .ok (.goto 31, 3) := by decide +kernel
theorem dX1_sleep_33 : decode cX1_sleep 33 = .ok (.aload_n 0, 1) := by decide +kernel
theorem dX1_sleep_34 : decode cX1_sleep 34 = .ok (.iload_n 3, 1) := by decide +kernel
theorem dX1_sleep_35 : decode cX1_sleep 35 = .ok (.iconst 3, 1) := by decide +kernel
theorem dX1_sleep_36 : decode cX1_sleep 36 = .ok (.aload_n 0, 1) := by decide +kernel
theorem dX1_sleep_37 : decode cX1_sleep 37 = .ok (.getfield 55, 3) := by decide +kernel
theorem dX1_sleep_40 : decode cX1_sleep 40 = .ok (.ldc 89, 2) := by decide +kernel
theorem dX1_sleep_42 : decode cX1_sleep 42 = .ok (.iload_n 2, 1) := by decide +kernel
theorem dX1_sleep_43 : decode cX1_sleep 43 = .ok (.isub, 1) := by decide +kernel
theorem dX1_sleep_44 : decode cX1_sleep 44 = .ok (.if_icmp .le 8, 3) := by decide +kernel
theorem dX1_sleep_47 : decode cX1_sleep 47 = .ok (.ldc 89, 2) := by decide +kernel
theorem dX1_sleep_49 : decode cX1_sleep 49 = .ok (.goto 9, 3) := by decide +kernel
theorem dX1_sleep_52 : decode cX1_sleep 52 = .ok (.aload_n 0, 1) := by decide +kernel
theorem dX1_sleep_53 : decode cX1_sleep 53 = .ok (.getfield 55, 3) := by decide +kernel
theorem dX1_sleep_56 : decode cX1_sleep 56 = .ok (.iload_n 2, 1) := by decide +kernel
theorem dX1_sleep_57 : decode cX1_sleep 57 = .ok (.iadd, 1) := by decide +kernel
theorem dX1_sleep_58 : decode cX1_sleep 58 = .ok (.invokevirtual 81, 3) := by decide +kernel
theorem dX1_sleep_61 : decode cX1_sleep 61 = .ok (.ireturn, 1) := by decide +kernel
theorem dX1_wake_0 : decode cX1_wake 0 = .ok (.aload_n 0, 1) := by decide +kernel
theorem dX1_wake_1 : decode cX1_wake 1 = .ok (.iconst 0, 1) := by decide +kernel
theorem dX1_wake_2 : decode cX1_wake 2 = .ok (.putfield 42, 3) := by decide +kernel
theorem dX1_wake_5 : decode cX1_wake 5 = .ok (.iconst 0, 1) := by decide +kernel
theorem dX1_wake_6 : decode cX1_wake 6 = .ok (.istore_n 2, 1) := by decide +kernel
theorem dX1_wake_7 : decode cX1_wake 7 = .ok (.iconst 0, 1) := by decide +kernel
theorem dX1_wake_8 : decode cX1_wake 8 = .ok (.istore_n 3, 1) := by decide +kernel
theorem dX1_wake_9 : decode cX1_wake 9 = .ok (.iload_n 3, 1) := by decide +kernel
theorem dX1_wake_10 : decode cX1_wake 10 = .ok (.aload_n 0, 1) := by decide +kernel
theorem dX1_wake_11 : decode cX1_wake 11 = .ok (.getfield 45, 3) := by decide +kernel
theorem dX1_wake_14 : decode cX1_wake 14 = .ok (.if_icmp .ge 57, 3) := by decide +kernel
theorem dX1_wake_17 : decode cX1_wake 17 = .ok (.aload_n 0, 1) := by decide +kernel
theorem dX1_wake_18 : decode cX1_wake 18 = .ok (.getfield 19, 3) := by decide +kernel
theorem dX1_wake_21 : decode cX1_wake 21 = .ok (.iload_n 3, 1) := by decide +kernel
theorem dX1_wake_22 : decode cX1_wake 22 = .ok (.baload, 1) := by decide +kernel
theorem dX1_wake_23 : decode cX1_wake 23 = .ok (.ifCond .ne 42, 3) := by decide +kernel
theorem dX1_wake_26 : decode cX1_wake 26 = .ok (.aload_n 0, 1) := by decide +kernel
theorem dX1_wake_27 : decode cX1_wake 27 = .ok (.getfield 29, 3) := by decide +kernel
theorem dX1_wake_30 : decode cX1_wake 30 = .ok (.iload_n 3, 1) := by decide +kernel
theorem dX1_wake_31 : decode cX1_wake 31 = .ok (.iaload, 1) := by decide +kernel
theorem dX1_wake_32 : decode cX1_wake 32 = .ok (.ifCond .ge 33, 3) := by decide +kernel
theorem dX1_wake_35 : decode cX1_wake 35 = .ok (.aload_n 0, 1) := by decide +kernel
theorem dX1_wake_36 : decode cX1_wake 36 = .ok (.getfield 32, 3) := by decide +kernel
theorem dX1_wake_39 : decode cX1_wake 39 = .ok (.iload_n 3, 1) := by decide +kernel
theorem dX1_wake_40 : decode cX1_wake 40 = .ok (.iaload, 1) := by decide +kernel
theorem dX1_wake_41 : decode cX1_wake 41 = .ok (.iconst 1, 1) := by decide +kernel
theorem dX1_wake_42 : decode cX1_wake 42 = .ok (.if_icmp .ne 23, 3) := by decide +kernel
theorem dX1_wake_45 : decode cX1_wake 45 = .ok (.aload_n 0, 1) := by decide +kernel
theorem dX1_wake_46 : decode cX1_wake 46 = .ok (.getfield 35, 3) := by decide +kernel
theorem dX1_wake_49 : decode cX1_wake 49 = .ok (.iload_n 3, 1) := by decide +kernel
theorem dX1_wake_50 : decode cX1_wake 50 = .ok (.iaload, 1) := by decide +kernel
theorem dX1_wake_51 : decode cX1_wake 51 = .ok (.iload_n 1, 1) := by decide +kernel
theorem dX1_wake_52 : decode cX1_wake 52 = .ok (.if_icmp .ne 13, 3) := by decide +kernel
theorem dX1_wake_55 : decode cX1_wake 55 = .ok (.aload_n 0, 1) := by decide +kernel
theorem dX1_wake_56 : decode cX1_wake 56 = .ok (.getfield 32, 3) := by decide +kernel
theorem dX1_wake_59 : decode cX1_wake 59 = .ok (.iload_n 3, 1) := by decide +kernel
theorem dX1_wake_60 : decode cX1_wake 60 = .ok (.iconst 0, 1) := by decide +kernel
theorem dX1_wake_61 : decode cX1_wake 61 = .ok (.iastore, 1) := by decide +kernel
theorem dX1_wake_62 : decode cX1_wake 62 = .ok (.iinc 2 1, 3) := by decide +kernel
theorem dX1_wake_65 : decode cX1_wake 65 = .ok (.iinc 3 1, 3) := by decide +kernel
theorem dX1_wake_68 : decode cX1_wake 68 = .ok (.goto (-59), 3) := by decide +kernel
theorem dX1_wake_71 : decode cX1_wake 71 = .ok (.iload_n 2, 1) := by decide +kernel
theorem dX1_wake_72 : decode cX1_wake 72 = .ok (.ireturn, 1) := by decide +kernel
theorem dX1_rest_0 : decode cX1_rest 0 = .ok (.aload_n 0, 1) := by decide +kernel
theorem dX1_rest_1 : decode cX1_rest 1 = .ok (.iconst 0, 1) := by decide +kernel
theorem dX1_rest_2 : decode cX1_rest 2 = .ok (.putfield 42, 3) := by decide +kernel
theorem dX1_rest_5 : decode cX1_rest 5 = .ok (.aload_n 0, 1) := by decide +kernel
theorem dX1_rest_6 : decode cX1_rest 6 = .ok (.iload_n 1, 1) := by decide +kernel
theorem dX1_rest_7 : decode cX1_rest 7 = .ok (.invokevirtual 68, 3) := by decide +kernel
theorem dX1_rest_10 : decode cX1_rest 10 = .ok (.istore_n 2, 1) := by decide +kernel
theorem dX1_rest_11 : decode cX1_rest 11 = .ok (.iload_n 2, 1) := by decide +kernel
theorem dX1_rest_12 : decode cX1_rest 12 = .ok (.ifCond .ge 7, 3) := by decide +kernel
theorem dX1_rest_15 : decode cX1_rest 15 = .ok (.iconst (-1), 1) := by decide +kernel
theorem dX1_rest_16 : decode cX1_rest 16 = .ok (.goto 10, 3) := by decide +kernel
theorem dX1_rest_19 : decode cX1_rest 19 = .ok (.aload_n 0, 1) := by decide +kernel
theorem dX1_rest_20 : decode cX1_rest 20 = .ok (.iload_n 2, 1) := by decide +kernel
theorem dX1_rest_21 : decode cX1_rest 21 = .ok (.iconst 0, 1) := by decide +kernel
theorem dX1_rest_22 : decode cX1_rest 22 = .ok (.iconst 0, 1) := by decide +kernel
theorem dX1_rest_23 : decode cX1_rest 23 = .ok (.invokevirtual 81, 3) := by decide +kernel
theorem dX1_rest_26 : decode cX1_rest 26 = .ok (.ireturn, 1) := by decide +kernel
theorem dX1_tick_0 : decode cX1_tick 0 = .ok (.aload_n 0, 1) := by decide +kernel
theorem dX1_tick_1 : decode cX1_tick 1 = .ok (.iconst 0, 1) := by decide +kernel
theorem dX1_tick_2 : decode cX1_tick 2 = .ok (.putfield 42, 3) := by decide +kernel
theorem dX1_tick_5 : decode cX1_tick 5 = .ok (.aload_n 0, 1) := by decide +kernel
theorem dX1_tick_6 : decode cX1_tick 6 = .ok (.getfield 45, 3) := by decide +kernel
theorem dX1_tick_9 : decode cX1_tick 9 = .ok (.ifCond .ne 5, 3) := by decide +kernel
theorem dX1_tick_12 : decode cX1_tick 12 = .ok (.iconst (-1), 1) := by decide +kernel
theorem dX1_tick_13 : decode cX1_tick 13 = .ok (.ireturn, 1) := by decide +kernel
theorem dX1_tick_14 : decode cX1_tick 14 = .ok (.aload_n 0, 1) := by decide +kernel
theorem dX1_tick_15 : decode cX1_tick 15 = .ok (.dup, 1) := by decide +kernel
theorem dX1_tick_16 : decode cX1_tick 16 = .ok (.getfield 55, 3) := by decide +kernel
theorem dX1_tick_19 : decode cX1_tick 19 = .ok (.iconst 1, 1) := by decide +kernel
theorem dX1_tick_20 : decode cX1_tick 20 = .ok (.iadd, 1) := by decide +kernel
theorem dX1_tick_21 : decode cX1_tick 21 = .ok (.putfield 55, 3) := by decide +kernel
theorem dX1_tick_24 : decode cX1_tick 24 = .ok (.iconst 0, 1) := by decide +kernel
theorem dX1_tick_25 : decode cX1_tick 25 = .ok (.istore_n 1, 1) := by decide +kernel
theorem dX1_tick_26 : decode cX1_tick 26 = .ok (.iload_n 1, 1) := by decide +kernel
theorem dX1_tick_27 : decode cX1_tick 27 = .ok (.aload_n 0, 1) := by decide +kernel
theorem dX1_tick_28 : decode cX1_tick 28 = .ok (.getfield 45, 3) := by decide +kernel
theorem dX1_tick_31 : decode cX1_tick 31 = .ok (.if_icmp .ge 16, 3) := by decide +kernel
theorem dX1_tick_34 : decode cX1_tick 34 = .ok (.aload_n 0, 1) := by decide +kernel
theorem dX1_tick_35 : decode cX1_tick 35 = .ok (.getfield 29, 3) := by decide +kernel
theorem dX1_tick_38 : decode cX1_tick 38 = .ok (.iload_n 1, 1) := by decide +kernel
theorem dX1_tick_39 : decode cX1_tick 39 = .ok (.iconst (-1), 1) := by decide +kernel
theorem dX1_tick_40 : decode cX1_tick 40 = .ok (.iastore, 1) := by decide +kernel
theorem dX1_tick_41 : decode cX1_tick 41 = .ok (.iinc 1 1, 3) := by decide +kernel
theorem dX1_tick_44 : decode cX1_tick 44 = .ok (.goto (-18), 3) := by decide +kernel
theorem dX1_tick_47 : decode cX1_tick 47 = .ok (.aload_n 0, 1) := by decide +kernel
theorem dX1_tick_48 : decode cX1_tick 48 = .ok (.getfield 55, 3) := by decide +kernel
theorem dX1_tick_51 : decode cX1_tick 51 = .ok (.ireturn, 1) := by decide +kernel
theorem dX1_kill_0 : decode cX1_kill 0 = .ok (.aload_n 0, 1) := by decide +kernel
theorem dX1_kill_1 : decode cX1_kill 1 = .ok (.iconst 0, 1) := by decide +kernel
theorem dX1_kill_2 : decode cX1_kill 2 = .ok (.putfield 42, 3) := by decide +kernel
theorem dX1_kill_5 : decode cX1_kill 5 = .ok (.aload_n 0, 1) := by decide +kernel
theorem dX1_kill_6 : decode cX1_kill 6 = .ok (.iload_n 1, 1) := by decide +kernel
theorem dX1_kill_7 : decode cX1_kill 7 = .ok (.invokevirtual 90, 3) := by decide +kernel
theorem dX1_kill_10 : decode cX1_kill 10 = .ok (.istore_n 2, 1) := by decide +kernel
theorem dX1_kill_11 : decode cX1_kill 11 = .ok (.iload_n 2, 1) := by decide +kernel
theorem dX1_kill_12 : decode cX1_kill 12 = .ok (.ifCond .lt 12, 3) := by decide +kernel
theorem dX1_kill_15 : decode cX1_kill 15 = .ok (.aload_n 0, 1) := by decide +kernel
theorem dX1_kill_16 : decode cX1_kill 16 = .ok (.getfield 19, 3) := by decide +kernel
theorem dX1_kill_19 : decode cX1_kill 19 = .ok (.iload_n 2, 1) := by decide +kernel
theorem dX1_kill_20 : decode cX1_kill 20 = .ok (.baload, 1) := by decide +kernel
theorem dX1_kill_21 : decode cX1_kill 21 = .ok (.ifCond .eq 5, 3) := by decide +kernel
theorem dX1_kill_24 : decode cX1_kill 24 = .ok (.iconst 0, 1) := by decide +kernel
theorem dX1_kill_25 : decode cX1_kill 25 = .ok (.ireturn, 1) := by decide +kernel
theorem dX1_kill_26 : decode cX1_kill 26 = .ok (.aload_n 0, 1) := by decide +kernel
theorem dX1_kill_27 : decode cX1_kill 27 = .ok (.getfield 26, 3) := by decide +kernel
theorem dX1_kill_30 : decode cX1_kill 30 = .ok (.iload_n 2, 1) := by decide +kernel
theorem dX1_kill_31 : decode cX1_kill 31 = .ok (.iconst 1, 1) := by decide +kernel
theorem dX1_kill_32 : decode cX1_kill 32 = .ok (.bastore, 1) := by decide +kernel
theorem dX1_kill_33 : decode cX1_kill 33 = .ok (.aload_n 0, 1) := by decide +kernel
theorem dX1_kill_34 : decode cX1_kill 34 = .ok (.getfield 32, 3) := by decide +kernel
theorem dX1_kill_37 : decode cX1_kill 37 = .ok (.iload_n 2, 1) := by decide +kernel
theorem dX1_kill_38 : decode cX1_kill 38 = .ok (.iconst 0, 1) := by decide +kernel
theorem dX1_kill_39 : decode cX1_kill 39 = .ok (.iastore, 1) := by decide +kernel
theorem dX1_kill_40 : decode cX1_kill 40 = .ok (.iconst 1, 1) := by decide +kernel
theorem dX1_kill_41 : decode cX1_kill 41 = .ok (.ireturn, 1) := by decide +kernel
theorem dX1_about_0 : decode cX1_about 0 = .ok (.aload_n 0, 1) := by decide +kernel
theorem dX1_about_1 : decode cX1_about 1 = .ok (.iconst 0, 1) := by decide +kernel
theorem dX1_about_2 : decode cX1_about 2 = .ok (.putfield 42, 3) := by decide +kernel
theorem dX1_about_5 : decode cX1_about 5 = .ok (.iload_n 1, 1) := by decide +kernel
theorem dX1_about_6 : decode cX1_about 6 = .ok (.ifCond .lt 17, 3) := by decide +kernel
theorem dX1_about_9 : decode cX1_about 9 = .ok (.iload_n 1, 1) := by decide +kernel
theorem dX1_about_10 : decode cX1_about 10 = .ok (.bipush 15, 2) := by decide +kernel
theorem dX1_about_12 : decode cX1_about 12 = .ok (.if_icmp .ge 11, 3) := by decide +kernel
theorem dX1_about_15 : decode cX1_about 15 = .ok (.aload_n 0, 1) := by decide +kernel
theorem dX1_about_16 : decode cX1_about 16 = .ok (.iload_n 1, 1) := by decide +kernel
theorem dX1_about_17 : decode cX1_about 17 = .ok (.invokevirtual 48, 3) := by decide +kernel
theorem dX1_about_20 : decode cX1_about 20 = .ok (.goto 4, 3) := by decide +kernel
theorem dX1_about_23 : decode cX1_about 23 = .ok (.iconst (-1), 1) := by decide +kernel
theorem dX1_about_24 : decode cX1_about 24 = .ok (.istore_n 3, 1) := by decide +kernel
theorem dX1_about_25 : decode cX1_about 25 = .ok (.iload_n 3, 1) := by decide +kernel
theorem dX1_about_26 : decode cX1_about 26 = .ok (.ifCond .ge 24, 3) := by decide +kernel
theorem dX1_about_29 : decode cX1_about 29 = .ok (.iload_n 1, 1) := by decide +kernel
theorem dX1_about_30 : decode cX1_about 30 = .ok (.ifCond .lt 18, 3) := by decide +kernel
theorem dX1_about_33 : decode cX1_about 33 = .ok (.iload_n 1, 1) := by decide +kernel
theorem dX1_about_34 : decode cX1_about 34 = .ok (.bipush 15, 2) := by decide +kernel
theorem dX1_about_36 : decode cX1_about 36 = .ok (.if_icmp .ge 12, 3) := by decide +kernel
theorem dX1_about_39 : decode cX1_about 39 = .ok (.iload_n 2, 1) := by decide +kernel
theorem dX1_about_40 : decode cX1_about 40 = .ok (.iconst 1, 1) := by decide +kernel
theorem dX1_about_41 : decode cX1_about 41 = .ok (.if_icmp .ne 7, 3) := by decide +kernel
theorem dX1_about_44 : decode cX1_about 44 = .ok (.iconst 0, 1) := by decide +kernel
theorem dX1_about_45 : decode cX1_about 45 = .ok (.goto 4, 3) := by decide +kernel
theorem dX1_about_48 : decode cX1_about 48 = .ok (.iconst (-1), 1) := by decide +kernel
theorem dX1_about_49 : decode cX1_about 49 = .ok (.ireturn, 1) := by decide +kernel
theorem dX1_about_50 : decode cX1_about 50 = .ok (.iload_n 2, 1) := by decide +kernel
theorem dX1_about_51 : decode cX1_about 51 = .ok (.tableswitch 99 0 5 #[37, 44, 50, 57, 72, 92], 37) := by decide +kernel
theorem dX1_about_88 : decode cX1_about 88 = .ok (.aload_n 0, 1) := by decide +kernel
theorem dX1_about_89 : decode cX1_about 89 = .ok (.getfield 7, 3) := by decide +kernel
theorem dX1_about_92 : decode cX1_about 92 = .ok (.iload_n 3, 1) := by decide +kernel
theorem dX1_about_93 : decode cX1_about 93 = .ok (.iaload, 1) := by decide +kernel
theorem dX1_about_94 : decode cX1_about 94 = .ok (.ireturn, 1) := by decide +kernel
theorem dX1_about_95 : decode cX1_about 95 = .ok (.aload_n 0, 1) := by decide +kernel
theorem dX1_about_96 : decode cX1_about 96 = .ok (.iload_n 3, 1) := by decide +kernel
theorem dX1_about_97 : decode cX1_about 97 = .ok (.invokevirtual 71, 3) := by decide +kernel
theorem dX1_about_100 : decode cX1_about 100 = .ok (.ireturn, 1) := by decide +kernel
theorem dX1_about_101 : decode cX1_about 101 = .ok (.aload_n 0, 1) := by decide +kernel
theorem dX1_about_102 : decode cX1_about 102 = .ok (.getfield 16, 3) := by decide +kernel
theorem dX1_about_105 : decode cX1_about 105 = .ok (.iload_n 3, 1) := by decide +kernel
theorem dX1_about_106 : decode cX1_about 106 = .ok (.iaload, 1) := by decide +kernel
theorem dX1_about_107 : decode cX1_about 107 = .ok (.ireturn, 1) := by decide +kernel
theorem dX1_about_108 : decode cX1_about 108 = .ok (.aload_n 0, 1) := by decide +kernel
theorem dX1_about_109 : decode cX1_about 109 = .ok (.getfield 26, 3) := by decide +kernel
theorem dX1_about_112 : decode cX1_about 112 = .ok (.iload_n 3, 1) := by decide +kernel
theorem dX1_about_113 : decode cX1_about 113 = .ok (.baload, 1) := by decide +kernel
theorem dX1_about_114 : decode cX1_about 114 = .ok (.ifCond .eq 7, 3) := by decide +kernel
theorem dX1_about_117 : decode cX1_about 117 = .ok (.iconst 1, 1) := by decide +kernel
theorem dX1_about_118 : decode cX1_about 118 = .ok (.goto 4, 3) := by decide +kernel
theorem dX1_about_121 : decode cX1_about 121 = .ok (.iconst 0, 1) := by decide +kernel
theorem dX1_about_122 : decode cX1_about 122 = .ok (.ireturn, 1) := by decide +kernel
theorem dX1_about_123 : decode cX1_about 123 = .ok (.aload_n 0, 1) := by decide +kernel
theorem dX1_about_124 : decode cX1_about 124 = .ok (.getfield 19, 3) := by decide +kernel
theorem dX1_about_127 : decode cX1_about 127 = .ok (.iload_n 3, 1) := by decide +kernel
theorem dX1_about_128 : decode cX1_about 128 = .ok (.baload, 1) := by decide +kernel
theorem dX1_about_129 : decode cX1_about 129 = .ok (.ifCond .eq 12, 3) := by decide +kernel
theorem dX1_about_132 : decode cX1_about 132 = .ok (.aload_n 0, 1) := by decide +kernel
theorem dX1_about_133 : decode cX1_about 133 = .ok (.getfield 23, 3) := by decide +kernel
theorem dX1_about_136 : decode cX1_about 136 = .ok (.iload_n 3, 1) := by decide +kernel
theorem dX1_about_137 : decode cX1_about 137 = .ok (.iaload, 1) := by decide +kernel
theorem dX1_about_138 : decode cX1_about 138 = .ok (.goto 4, 3) := by decide +kernel
theorem dX1_about_141 : decode cX1_about 141 = .ok (.iconst 0, 1) := by decide +kernel
theorem dX1_about_142 : decode cX1_about 142 = .ok (.ireturn, 1) := by decide +kernel
theorem dX1_about_143 : decode cX1_about 143 = .ok (.aload_n 0, 1) := by decide +kernel
theorem dX1_about_144 : decode cX1_about 144 = .ok (.getfield 29, 3) := by decide +kernel
theorem dX1_about_147 : decode cX1_about 147 = .ok (.iload_n 3, 1) := by decide +kernel
theorem dX1_about_148 : decode cX1_about 148 = .ok (.iaload, 1) := by decide +kernel
theorem dX1_about_149 : decode cX1_about 149 = .ok (.ireturn, 1) := by decide +kernel
theorem dX1_about_150 : decode cX1_about 150 = .ok (.iconst (-1), 1) := by decide +kernel
theorem dX1_about_151 : decode cX1_about 151 = .ok (.ireturn, 1) := by decide +kernel
theorem dX1_count_0 : decode cX1_count 0 = .ok (.aload_n 0, 1) := by decide +kernel
theorem dX1_count_1 : decode cX1_count 1 = .ok (.iconst 0, 1) := by decide +kernel
theorem dX1_count_2 : decode cX1_count 2 = .ok (.putfield 42, 3) := by decide +kernel
theorem dX1_count_5 : decode cX1_count 5 = .ok (.iload_n 1, 1) := by decide +kernel
theorem dX1_count_6 : decode cX1_count 6 = .ok (.ifCond .lt 8, 3) := by decide +kernel
theorem dX1_count_9 : decode cX1_count 9 = .ok (.iload_n 1, 1) := by decide +kernel
theorem dX1_count_10 : decode cX1_count 10 = .ok (.iconst 4, 1) := by decide +kernel
theorem dX1_count_11 : decode cX1_count 11 = .ok (.if_icmp .le 5, 3) := by decide +kernel
theorem dX1_count_14 : decode cX1_count 14 = .ok (.iconst (-1), 1) := by decide +kernel
theorem dX1_count_15 : decode cX1_count 15 = .ok (.ireturn, 1) := by decide +kernel
theorem dX1_count_16 : decode cX1_count 16 = .ok (.iconst 0, 1) := by decide +kernel
theorem dX1_count_17 : decode cX1_count 17 = .ok (.istore_n 2, 1) := by decide +kernel
theorem dX1_count_18 : decode cX1_count 18 = .ok (.iconst 0, 1) := by decide +kernel
theorem dX1_count_19 : decode cX1_count 19 = .ok (.istore_n 3, 1) := by decide +kernel
theorem dX1_count_20 : decode cX1_count 20 = .ok (.iload_n 3, 1) := by decide +kernel
theorem dX1_count_21 : decode cX1_count 21 = .ok (.aload_n 0, 1) := by decide +kernel
theorem dX1_count_22 : decode cX1_count 22 = .ok (.getfield 45, 3) := by decide +kernel
theorem dX1_count_25 : decode cX1_count 25 = .ok (.if_icmp .ge 30, 3) := by decide +kernel
theorem dX1_count_28 : decode cX1_count 28 = .ok (.iload_n 2, 1) := by decide +kernel
theorem dX1_count_29 : decode cX1_count 29 = .ok (.iload_n 1, 1) := by decide +kernel
theorem dX1_count_30 : decode cX1_count 30 = .ok (.ifCond .eq 12, 3) := by decide +kernel
theorem dX1_count_33 : decode cX1_count 33 = .ok (.aload_n 0, 1) := by decide +kernel
theorem dX1_count_34 : decode cX1_count 34 = .ok (.iload_n 3, 1) := by decide +kernel
theorem dX1_count_35 : decode cX1_count 35 = .ok (.invokevirtual 71, 3) := by decide +kernel
theorem dX1_count_38 : decode cX1_count 38 = .ok (.iload_n 1, 1) := by decide +kernel
theorem dX1_count_39 : decode cX1_count 39 = .ok (.if_icmp .ne 7, 3) := by decide +kernel
theorem dX1_count_42 : decode cX1_count 42 = .ok (.iconst 1, 1) := by decide +kernel
theorem dX1_count_43 : decode cX1_count 43 = .ok (.goto 4, 3) := by decide +kernel
theorem dX1_count_46 : decode cX1_count 46 = .ok (.iconst 0, 1) := by decide +kernel
theorem dX1_count_47 : decode cX1_count 47 = .ok (.iadd, 1) := by decide +kernel
theorem dX1_count_48 : decode cX1_count 48 = .ok (.istore_n 2, 1) := by decide +kernel
theorem dX1_count_49 : decode cX1_count 49 = .ok (.iinc 3 1, 3) := by decide +kernel
theorem dX1_count_52 : decode cX1_count 52 = .ok (.goto (-32), 3) := by decide +kernel
theorem dX1_count_55 : decode cX1_count 55 = .ok (.iload_n 2, 1) := by decide +kernel
theorem dX1_count_56 : decode cX1_count 56 = .ok (.ireturn, 1) := by decide +kernel
end
section
theorem dL_cell_0 : decode cL_cell 0 = .ok (.iload_n 1, 1) := by decide +kernel
theorem dL_cell_1 : decode cL_cell 1 = .ok (.aload_n 0, 1) := by decide +kernel
theorem dL_cell_2 : decode cL_cell 2 = .ok (.arraylength, 1) := by decide +kernel
theorem dL_cell_3 : decode cL_cell 3 = .ok (.if_icmp .ge 9, 3) := by decide +kernel
theorem dL_cell_6 : decode cL_cell 6 = .ok (.aload_n 0, 1) := by decide +kernel
theorem dL_cell_7 : decode cL_cell 7 = .ok (.iload_n 1, 1) := by decide +kernel
theorem dL_cell_8 : decode cL_cell 8 = .ok (.iaload, 1) := by decide +kernel
theorem dL_cell_9 : decode cL_cell 9 = .ok (.goto 4, 3) := by decide +kernel
theorem dL_cell_12 : decode cL_cell 12 = .ok (.iconst 0, 1) := by decide +kernel
theorem dL_cell_13 : decode cL_cell 13 = .ok (.ireturn, 1) := by decide +kernel
theorem dL_law_0 : decode code 0 = .ok (.new 7, 3) := by decide +kernel
theorem dL_law_3 : decode code 3 = .ok (.dup, 1) := by decide +kernel
theorem dL_law_4 : decode code 4 = .ok (.aload_n 0, 1) := by decide +kernel
theorem dL_law_5 : decode code 5 = .ok (.iconst 0, 1) := by decide +kernel
theorem dL_law_6 : decode code 6 = .ok (.invokestatic 9, 3) := by decide +kernel
theorem dL_law_9 : decode code 9 = .ok (.invokespecial 15, 3) := by decide +kernel
theorem dL_law_12 : decode code 12 = .ok (.astore_n 1, 1) := by decide +kernel
theorem dL_law_13 : decode code 13 = .ok (.new 18, 3) := by decide +kernel
theorem dL_law_16 : decode code 16 = .ok (.dup, 1) := by decide +kernel
theorem dL_law_17 : decode code 17 = .ok (.aload_n 0, 1) := by decide +kernel
theorem dL_law_18 : decode code 18 = .ok (.iconst 0, 1) := by decide +kernel
theorem dL_law_19 : decode code 19 = .ok (.invokestatic 9, 3) := by decide +kernel
theorem dL_law_22 : decode code 22 = .ok (.invokespecial 20, 3) := by decide +kernel
theorem dL_law_25 : decode code 25 = .ok (.astore_n 2, 1) := by decide +kernel
theorem dL_law_26 : decode code 26 = .ok (.iconst 1, 1) := by decide +kernel
theorem dL_law_27 : decode code 27 = .ok (.istore_n 3, 1) := by decide +kernel
theorem dL_law_28 : decode code 28 = .ok (.iload_n 3, 1) := by decide +kernel
theorem dL_law_29 : decode code 29 = .ok (.aload_n 0, 1) := by decide +kernel
theorem dL_law_30 : decode code 30 = .ok (.arraylength, 1) := by decide +kernel
theorem dL_law_31 : decode code 31 = .ok (.iconst 3, 1) := by decide +kernel
theorem dL_law_32 : decode code 32 = .ok (.isub, 1) := by decide +kernel
theorem dL_law_33 : decode code 33 = .ok (.if_icmp .gt 417, 3) := by decide +kernel
theorem dL_law_36 : decode code 36 = .ok (.aload_n 0, 1) := by decide +kernel
theorem dL_law_37 : decode code 37 = .ok (.iload_n 3, 1) := by decide +kernel
theorem dL_law_38 : decode code 38 = .ok (.iaload, 1) := by decide +kernel
theorem dL_law_39 : decode code 39 = .ok (.bipush 15, 2) := by decide +kernel
theorem dL_law_41 : decode code 41 = .ok (.iand, 1) := by decide +kernel
theorem dL_law_42 : decode code 42 = .ok (.tableswitch 402 0 13 #[70, 83, 106, 129, 162, 185, 198, 231, 264, 287, 310, 323, 346, 379], 70) := by decide +kernel
theorem dL_law_112 : decode code 112 = .ok (.aload_n 1, 1) := by decide +kernel
theorem dL_law_113 : decode code 113 = .ok (.invokevirtual 21, 3) := by decide +kernel
theorem dL_law_116 : decode code 116 = .ok (.aload_n 2, 1) := by decide +kernel
theorem dL_law_117 : decode code 117 = .ok (.invokevirtual 25, 3) := by decide +kernel
theorem dL_law_120 : decode code 120 = .ok (.if_icmp .eq 324, 3) := by decide +kernel
theorem dL_law_123 : decode code 123 = .ok (.iconst 0, 1) := by decide +kernel
theorem dL_law_124 : decode code 124 = .ok (.ireturn, 1) := by decide +kernel
theorem dL_law_125 : decode code 125 = .ok (.aload_n 1, 1) := by decide +kernel
theorem dL_law_126 : decode code 126 = .ok (.aload_n 0, 1) := by decide +kernel
theorem dL_law_127 : decode code 127 = .ok (.iload_n 3, 1) := by decide +kernel
theorem dL_law_128 : decode code 128 = .ok (.iconst 1, 1) := by decide +kernel
theorem dL_law_129 : decode code 129 = .ok (.iadd, 1) := by decide +kernel
theorem dL_law_130 : decode code 130 = .ok (.iaload, 1) := by decide +kernel
theorem dL_law_131 : decode code 131 = .ok (.invokevirtual 26, 3) := by decide +kernel
theorem dL_law_134 : decode code 134 = .ok (.aload_n 2, 1) := by decide +kernel
theorem dL_law_135 : decode code 135 = .ok (.aload_n 0, 1) := by decide +kernel
theorem dL_law_136 : decode code 136 = .ok (.iload_n 3, 1) := by decide +kernel
theorem dL_law_137 : decode code 137 = .ok (.iconst 1, 1) := by decide +kernel
theorem dL_law_138 : decode code 138 = .ok (.iadd, 1) := by decide +kernel
theorem dL_law_139 : decode code 139 = .ok (.iaload, 1) := by decide +kernel
theorem dL_law_140 : decode code 140 = .ok (.invokevirtual 30, 3) := by decide +kernel
theorem dL_law_143 : decode code 143 = .ok (.if_icmp .eq 301, 3) := by decide +kernel
theorem dL_law_146 : decode code 146 = .ok (.iconst 0, 1) := by decide +kernel
theorem dL_law_147 : decode code 147 = .ok (.ireturn, 1) := by decide +kernel
theorem dL_law_148 : decode code 148 = .ok (.aload_n 1, 1) := by decide +kernel
theorem dL_law_149 : decode code 149 = .ok (.aload_n 0, 1) := by decide +kernel
theorem dL_law_150 : decode code 150 = .ok (.iload_n 3, 1) := by decide +kernel
theorem dL_law_151 : decode code 151 = .ok (.iconst 1, 1) := by decide +kernel
theorem dL_law_152 : decode code 152 = .ok (.iadd, 1) := by decide +kernel
theorem dL_law_153 : decode code 153 = .ok (.iaload, 1) := by decide +kernel
theorem dL_law_154 : decode code 154 = .ok (.invokevirtual 31, 3) := by decide +kernel
theorem dL_law_157 : decode code 157 = .ok (.aload_n 2, 1) := by decide +kernel
theorem dL_law_158 : decode code 158 = .ok (.aload_n 0, 1) := by decide +kernel
theorem dL_law_159 : decode code 159 = .ok (.iload_n 3, 1) := by decide +kernel
theorem dL_law_160 : decode code 160 = .ok (.iconst 1, 1) := by decide +kernel
theorem dL_law_161 : decode code 161 = .ok (.iadd, 1) := by decide +kernel
theorem dL_law_162 : decode code 162 = .ok (.iaload, 1) := by decide +kernel
theorem dL_law_163 : decode code 163 = .ok (.invokevirtual 34, 3) := by decide +kernel
theorem dL_law_166 : decode code 166 = .ok (.if_icmp .eq 278, 3) := by decide +kernel
theorem dL_law_169 : decode code 169 = .ok (.iconst 0, 1) := by decide +kernel
theorem dL_law_170 : decode code 170 = .ok (.ireturn, 1) := by decide +kernel
theorem dL_law_171 : decode code 171 = .ok (.aload_n 1, 1) := by decide +kernel
theorem dL_law_172 : decode code 172 = .ok (.aload_n 0, 1) := by decide +kernel
theorem dL_law_173 : decode code 173 = .ok (.iload_n 3, 1) := by decide +kernel
theorem dL_law_174 : decode code 174 = .ok (.iconst 1, 1) := by decide +kernel
theorem dL_law_175 : decode code 175 = .ok (.iadd, 1) := by decide +kernel
theorem dL_law_176 : decode code 176 = .ok (.iaload, 1) := by decide +kernel
theorem dL_law_177 : decode code 177 = .ok (.aload_n 0, 1) := by decide +kernel
theorem dL_law_178 : decode code 178 = .ok (.iload_n 3, 1) := by decide +kernel
theorem dL_law_179 : decode code 179 = .ok (.iconst 2, 1) := by decide +kernel
theorem dL_law_180 : decode code 180 = .ok (.iadd, 1) := by decide +kernel
theorem dL_law_181 : decode code 181 = .ok (.iaload, 1) := by decide +kernel
theorem dL_law_182 : decode code 182 = .ok (.invokevirtual 35, 3) := by decide +kernel
theorem dL_law_185 : decode code 185 = .ok (.aload_n 2, 1) := by decide +kernel
theorem dL_law_186 : decode code 186 = .ok (.aload_n 0, 1) := by decide +kernel
theorem dL_law_187 : decode code 187 = .ok (.iload_n 3, 1) := by decide +kernel
theorem dL_law_188 : decode code 188 = .ok (.iconst 1, 1) := by decide +kernel
theorem dL_law_189 : decode code 189 = .ok (.iadd, 1) := by decide +kernel
theorem dL_law_190 : decode code 190 = .ok (.iaload, 1) := by decide +kernel
theorem dL_law_191 : decode code 191 = .ok (.aload_n 0, 1) := by decide +kernel
theorem dL_law_192 : decode code 192 = .ok (.iload_n 3, 1) := by decide +kernel
theorem dL_law_193 : decode code 193 = .ok (.iconst 2, 1) := by decide +kernel
theorem dL_law_194 : decode code 194 = .ok (.iadd, 1) := by decide +kernel
theorem dL_law_195 : decode code 195 = .ok (.iaload, 1) := by decide +kernel
theorem dL_law_196 : decode code 196 = .ok (.invokevirtual 39, 3) := by decide +kernel
theorem dL_law_199 : decode code 199 = .ok (.if_icmp .eq 245, 3) := by decide +kernel
theorem dL_law_202 : decode code 202 = .ok (.iconst 0, 1) := by decide +kernel
theorem dL_law_203 : decode code 203 = .ok (.ireturn, 1) := by decide +kernel
theorem dL_law_204 : decode code 204 = .ok (.aload_n 1, 1) := by decide +kernel
theorem dL_law_205 : decode code 205 = .ok (.aload_n 0, 1) := by decide +kernel
theorem dL_law_206 : decode code 206 = .ok (.iload_n 3, 1) := by decide +kernel
theorem dL_law_207 : decode code 207 = .ok (.iconst 1, 1) := by decide +kernel
theorem dL_law_208 : decode code 208 = .ok (.iadd, 1) := by decide +kernel
theorem dL_law_209 : decode code 209 = .ok (.iaload, 1) := by decide +kernel
theorem dL_law_210 : decode code 210 = .ok (.invokevirtual 40, 3) := by decide +kernel
theorem dL_law_213 : decode code 213 = .ok (.aload_n 2, 1) := by decide +kernel
theorem dL_law_214 : decode code 214 = .ok (.aload_n 0, 1) := by decide +kernel
theorem dL_law_215 : decode code 215 = .ok (.iload_n 3, 1) := by decide +kernel
theorem dL_law_216 : decode code 216 = .ok (.iconst 1, 1) := by decide +kernel
theorem dL_law_217 : decode code 217 = .ok (.iadd, 1) := by decide +kernel
theorem dL_law_218 : decode code 218 = .ok (.iaload, 1) := by decide +kernel
theorem dL_law_219 : decode code 219 = .ok (.invokevirtual 43, 3) := by decide +kernel
theorem dL_law_222 : decode code 222 = .ok (.if_icmp .eq 222, 3) := by decide +kernel
theorem dL_law_225 : decode code 225 = .ok (.iconst 0, 1) := by decide +kernel
theorem dL_law_226 : decode code 226 = .ok (.ireturn, 1) := by decide +kernel
theorem dL_law_227 : decode code 227 = .ok (.aload_n 1, 1) := by decide +kernel
theorem dL_law_228 : decode code 228 = .ok (.invokevirtual 44, 3) := by decide +kernel
theorem dL_law_231 : decode code 231 = .ok (.aload_n 2, 1) := by decide +kernel
theorem dL_law_232 : decode code 232 = .ok (.invokevirtual 48, 3) := by decide +kernel
theorem dL_law_235 : decode code 235 = .ok (.if_icmp .eq 209, 3) := by decide +kernel
theorem dL_law_238 : decode code 238 = .ok (.iconst 0, 1) := by decide +kernel
theorem dL_law_239 : decode code 239 = .ok (.ireturn, 1) := by decide +kernel
theorem dL_law_240 : decode code 240 = .ok (.aload_n 1, 1) := by decide +kernel
theorem dL_law_241 : decode code 241 = .ok (.aload_n 0, 1) := by decide +kernel
theorem dL_law_242 : decode code 242 = .ok (.iload_n 3, 1) := by decide +kernel
theorem dL_law_243 : decode code 243 = .ok (.iconst 1, 1) := by decide +kernel
theorem dL_law_244 : decode code 244 = .ok (.iadd, 1) := by decide +kernel
theorem dL_law_245 : decode code 245 = .ok (.iaload, 1) := by decide +kernel
theorem dL_law_246 : decode code 246 = .ok (.aload_n 0, 1) := by decide +kernel
theorem dL_law_247 : decode code 247 = .ok (.iload_n 3, 1) := by decide +kernel
theorem dL_law_248 : decode code 248 = .ok (.iconst 2, 1) := by decide +kernel
theorem dL_law_249 : decode code 249 = .ok (.iadd, 1) := by decide +kernel
theorem dL_law_250 : decode code 250 = .ok (.iaload, 1) := by decide +kernel
theorem dL_law_251 : decode code 251 = .ok (.invokevirtual 49, 3) := by decide +kernel
theorem dL_law_254 : decode code 254 = .ok (.aload_n 2, 1) := by decide +kernel
theorem dL_law_255 : decode code 255 = .ok (.aload_n 0, 1) := by decide +kernel
theorem dL_law_256 : decode code 256 = .ok (.iload_n 3, 1) := by decide +kernel
theorem dL_law_257 : decode code 257 = .ok (.iconst 1, 1) := by decide +kernel
theorem dL_law_258 : decode code 258 = .ok (.iadd, 1) := by decide +kernel
theorem dL_law_259 : decode code 259 = .ok (.iaload, 1) := by decide +kernel
theorem dL_law_260 : decode code 260 = .ok (.aload_n 0, 1) := by decide +kernel
theorem dL_law_261 : decode code 261 = .ok (.iload_n 3, 1) := by decide +kernel
theorem dL_law_262 : decode code 262 = .ok (.iconst 2, 1) := by decide +kernel
theorem dL_law_263 : decode code 263 = .ok (.iadd, 1) := by decide +kernel
theorem dL_law_264 : decode code 264 = .ok (.iaload, 1) := by decide +kernel
theorem dL_law_265 : decode code 265 = .ok (.invokevirtual 52, 3) := by decide +kernel
theorem dL_law_268 : decode code 268 = .ok (.if_icmp .eq 176, 3) := by decide +kernel
theorem dL_law_271 : decode code 271 = .ok (.iconst 0, 1) := by decide +kernel
theorem dL_law_272 : decode code 272 = .ok (.ireturn, 1) := by decide +kernel
theorem dL_law_273 : decode code 273 = .ok (.aload_n 1, 1) := by decide +kernel
theorem dL_law_274 : decode code 274 = .ok (.aload_n 0, 1) := by decide +kernel
theorem dL_law_275 : decode code 275 = .ok (.iload_n 3, 1) := by decide +kernel
theorem dL_law_276 : decode code 276 = .ok (.iconst 1, 1) := by decide +kernel
theorem dL_law_277 : decode code 277 = .ok (.iadd, 1) := by decide +kernel
theorem dL_law_278 : decode code 278 = .ok (.iaload, 1) := by decide +kernel
theorem dL_law_279 : decode code 279 = .ok (.aload_n 0, 1) := by decide +kernel
theorem dL_law_280 : decode code 280 = .ok (.iload_n 3, 1) := by decide +kernel
theorem dL_law_281 : decode code 281 = .ok (.iconst 2, 1) := by decide +kernel
theorem dL_law_282 : decode code 282 = .ok (.iadd, 1) := by decide +kernel
theorem dL_law_283 : decode code 283 = .ok (.iaload, 1) := by decide +kernel
theorem dL_law_284 : decode code 284 = .ok (.invokevirtual 53, 3) := by decide +kernel
theorem dL_law_287 : decode code 287 = .ok (.aload_n 2, 1) := by decide +kernel
theorem dL_law_288 : decode code 288 = .ok (.aload_n 0, 1) := by decide +kernel
theorem dL_law_289 : decode code 289 = .ok (.iload_n 3, 1) := by decide +kernel
theorem dL_law_290 : decode code 290 = .ok (.iconst 1, 1) := by decide +kernel
theorem dL_law_291 : decode code 291 = .ok (.iadd, 1) := by decide +kernel
theorem dL_law_292 : decode code 292 = .ok (.iaload, 1) := by decide +kernel
theorem dL_law_293 : decode code 293 = .ok (.aload_n 0, 1) := by decide +kernel
theorem dL_law_294 : decode code 294 = .ok (.iload_n 3, 1) := by decide +kernel
theorem dL_law_295 : decode code 295 = .ok (.iconst 2, 1) := by decide +kernel
theorem dL_law_296 : decode code 296 = .ok (.iadd, 1) := by decide +kernel
theorem dL_law_297 : decode code 297 = .ok (.iaload, 1) := by decide +kernel
theorem dL_law_298 : decode code 298 = .ok (.invokevirtual 56, 3) := by decide +kernel
theorem dL_law_301 : decode code 301 = .ok (.if_icmp .eq 143, 3) := by decide +kernel
theorem dL_law_304 : decode code 304 = .ok (.iconst 0, 1) := by decide +kernel
theorem dL_law_305 : decode code 305 = .ok (.ireturn, 1) := by decide +kernel
theorem dL_law_306 : decode code 306 = .ok (.aload_n 1, 1) := by decide +kernel
theorem dL_law_307 : decode code 307 = .ok (.aload_n 0, 1) := by decide +kernel
theorem dL_law_308 : decode code 308 = .ok (.iload_n 3, 1) := by decide +kernel
theorem dL_law_309 : decode code 309 = .ok (.iconst 1, 1) := by decide +kernel
theorem dL_law_310 : decode code 310 = .ok (.iadd, 1) := by decide +kernel
theorem dL_law_311 : decode code 311 = .ok (.iaload, 1) := by decide +kernel
theorem dL_law_312 : decode code 312 = .ok (.invokevirtual 57, 3) := by decide +kernel
theorem dL_law_315 : decode code 315 = .ok (.aload_n 2, 1) := by decide +kernel
theorem dL_law_316 : decode code 316 = .ok (.aload_n 0, 1) := by decide +kernel
theorem dL_law_317 : decode code 317 = .ok (.iload_n 3, 1) := by decide +kernel
theorem dL_law_318 : decode code 318 = .ok (.iconst 1, 1) := by decide +kernel
theorem dL_law_319 : decode code 319 = .ok (.iadd, 1) := by decide +kernel
theorem dL_law_320 : decode code 320 = .ok (.iaload, 1) := by decide +kernel
theorem dL_law_321 : decode code 321 = .ok (.invokevirtual 60, 3) := by decide +kernel
theorem dL_law_324 : decode code 324 = .ok (.if_icmp .eq 120, 3) := by decide +kernel
theorem dL_law_327 : decode code 327 = .ok (.iconst 0, 1) := by decide +kernel
theorem dL_law_328 : decode code 328 = .ok (.ireturn, 1) := by decide +kernel
theorem dL_law_329 : decode code 329 = .ok (.aload_n 1, 1) := by decide +kernel
theorem dL_law_330 : decode code 330 = .ok (.aload_n 0, 1) := by decide +kernel
theorem dL_law_331 : decode code 331 = .ok (.iload_n 3, 1) := by decide +kernel
theorem dL_law_332 : decode code 332 = .ok (.iconst 1, 1) := by decide +kernel
theorem dL_law_333 : decode code 333 = .ok (.iadd, 1) := by decide +kernel
theorem dL_law_334 : decode code 334 = .ok (.iaload, 1) := by decide +kernel
theorem dL_law_335 : decode code 335 = .ok (.invokevirtual 61, 3) := by decide +kernel
theorem dL_law_338 : decode code 338 = .ok (.aload_n 2, 1) := by decide +kernel
theorem dL_law_339 : decode code 339 = .ok (.aload_n 0, 1) := by decide +kernel
theorem dL_law_340 : decode code 340 = .ok (.iload_n 3, 1) := by decide +kernel
theorem dL_law_341 : decode code 341 = .ok (.iconst 1, 1) := by decide +kernel
theorem dL_law_342 : decode code 342 = .ok (.iadd, 1) := by decide +kernel
theorem dL_law_343 : decode code 343 = .ok (.iaload, 1) := by decide +kernel
theorem dL_law_344 : decode code 344 = .ok (.invokevirtual 64, 3) := by decide +kernel
theorem dL_law_347 : decode code 347 = .ok (.if_icmp .eq 97, 3) := by decide +kernel
theorem dL_law_350 : decode code 350 = .ok (.iconst 0, 1) := by decide +kernel
theorem dL_law_351 : decode code 351 = .ok (.ireturn, 1) := by decide +kernel
theorem dL_law_352 : decode code 352 = .ok (.aload_n 1, 1) := by decide +kernel
theorem dL_law_353 : decode code 353 = .ok (.invokevirtual 65, 3) := by decide +kernel
theorem dL_law_356 : decode code 356 = .ok (.aload_n 2, 1) := by decide +kernel
theorem dL_law_357 : decode code 357 = .ok (.invokevirtual 68, 3) := by decide +kernel
theorem dL_law_360 : decode code 360 = .ok (.if_icmp .eq 84, 3) := by decide +kernel
theorem dL_law_363 : decode code 363 = .ok (.iconst 0, 1) := by decide +kernel
theorem dL_law_364 : decode code 364 = .ok (.ireturn, 1) := by decide +kernel
theorem dL_law_365 : decode code 365 = .ok (.aload_n 1, 1) := by decide +kernel
theorem dL_law_366 : decode code 366 = .ok (.aload_n 0, 1) := by decide +kernel
theorem dL_law_367 : decode code 367 = .ok (.iload_n 3, 1) := by decide +kernel
theorem dL_law_368 : decode code 368 = .ok (.iconst 1, 1) := by decide +kernel
theorem dL_law_369 : decode code 369 = .ok (.iadd, 1) := by decide +kernel
theorem dL_law_370 : decode code 370 = .ok (.iaload, 1) := by decide +kernel
theorem dL_law_371 : decode code 371 = .ok (.invokevirtual 69, 3) := by decide +kernel
theorem dL_law_374 : decode code 374 = .ok (.aload_n 2, 1) := by decide +kernel
theorem dL_law_375 : decode code 375 = .ok (.aload_n 0, 1) := by decide +kernel
theorem dL_law_376 : decode code 376 = .ok (.iload_n 3, 1) := by decide +kernel
theorem dL_law_377 : decode code 377 = .ok (.iconst 1, 1) := by decide +kernel
theorem dL_law_378 : decode code 378 = .ok (.iadd, 1) := by decide +kernel
theorem dL_law_379 : decode code 379 = .ok (.iaload, 1) := by decide +kernel
theorem dL_law_380 : decode code 380 = .ok (.invokevirtual 73, 3) := by decide +kernel
theorem dL_law_383 : decode code 383 = .ok (.if_icmp .eq 61, 3) := by decide +kernel
theorem dL_law_386 : decode code 386 = .ok (.iconst 0, 1) := by decide +kernel
theorem dL_law_387 : decode code 387 = .ok (.ireturn, 1) := by decide +kernel
theorem dL_law_388 : decode code 388 = .ok (.aload_n 1, 1) := by decide +kernel
theorem dL_law_389 : decode code 389 = .ok (.aload_n 0, 1) := by decide +kernel
theorem dL_law_390 : decode code 390 = .ok (.iload_n 3, 1) := by decide +kernel
theorem dL_law_391 : decode code 391 = .ok (.iconst 1, 1) := by decide +kernel
theorem dL_law_392 : decode code 392 = .ok (.iadd, 1) := by decide +kernel
theorem dL_law_393 : decode code 393 = .ok (.iaload, 1) := by decide +kernel
theorem dL_law_394 : decode code 394 = .ok (.aload_n 0, 1) := by decide +kernel
theorem dL_law_395 : decode code 395 = .ok (.iload_n 3, 1) := by decide +kernel
theorem dL_law_396 : decode code 396 = .ok (.iconst 2, 1) := by decide +kernel
theorem dL_law_397 : decode code 397 = .ok (.iadd, 1) := by decide +kernel
theorem dL_law_398 : decode code 398 = .ok (.iaload, 1) := by decide +kernel
theorem dL_law_399 : decode code 399 = .ok (.invokevirtual 74, 3) := by decide +kernel
theorem dL_law_402 : decode code 402 = .ok (.aload_n 2, 1) := by decide +kernel
theorem dL_law_403 : decode code 403 = .ok (.aload_n 0, 1) := by decide +kernel
theorem dL_law_404 : decode code 404 = .ok (.iload_n 3, 1) := by decide +kernel
theorem dL_law_405 : decode code 405 = .ok (.iconst 1, 1) := by decide +kernel
theorem dL_law_406 : decode code 406 = .ok (.iadd, 1) := by decide +kernel
theorem dL_law_407 : decode code 407 = .ok (.iaload, 1) := by decide +kernel
theorem dL_law_408 : decode code 408 = .ok (.aload_n 0, 1) := by decide +kernel
theorem dL_law_409 : decode code 409 = .ok (.iload_n 3, 1) := by decide +kernel
theorem dL_law_410 : decode code 410 = .ok (.iconst 2, 1) := by decide +kernel
theorem dL_law_411 : decode code 411 = .ok (.iadd, 1) := by decide +kernel
theorem dL_law_412 : decode code 412 = .ok (.iaload, 1) := by decide +kernel
theorem dL_law_413 : decode code 413 = .ok (.invokevirtual 77, 3) := by decide +kernel
theorem dL_law_416 : decode code 416 = .ok (.if_icmp .eq 28, 3) := by decide +kernel
theorem dL_law_419 : decode code 419 = .ok (.iconst 0, 1) := by decide +kernel
theorem dL_law_420 : decode code 420 = .ok (.ireturn, 1) := by decide +kernel
theorem dL_law_421 : decode code 421 = .ok (.aload_n 1, 1) := by decide +kernel
theorem dL_law_422 : decode code 422 = .ok (.aload_n 0, 1) := by decide +kernel
theorem dL_law_423 : decode code 423 = .ok (.iload_n 3, 1) := by decide +kernel
theorem dL_law_424 : decode code 424 = .ok (.iconst 1, 1) := by decide +kernel
theorem dL_law_425 : decode code 425 = .ok (.iadd, 1) := by decide +kernel
theorem dL_law_426 : decode code 426 = .ok (.iaload, 1) := by decide +kernel
theorem dL_law_427 : decode code 427 = .ok (.invokevirtual 78, 3) := by decide +kernel
theorem dL_law_430 : decode code 430 = .ok (.aload_n 2, 1) := by decide +kernel
theorem dL_law_431 : decode code 431 = .ok (.aload_n 0, 1) := by decide +kernel
theorem dL_law_432 : decode code 432 = .ok (.iload_n 3, 1) := by decide +kernel
theorem dL_law_433 : decode code 433 = .ok (.iconst 1, 1) := by decide +kernel
theorem dL_law_434 : decode code 434 = .ok (.iadd, 1) := by decide +kernel
theorem dL_law_435 : decode code 435 = .ok (.iaload, 1) := by decide +kernel
theorem dL_law_436 : decode code 436 = .ok (.invokevirtual 81, 3) := by decide +kernel
theorem dL_law_439 : decode code 439 = .ok (.if_icmp .eq 5, 3) := by decide +kernel
theorem dL_law_442 : decode code 442 = .ok (.iconst 0, 1) := by decide +kernel
theorem dL_law_443 : decode code 443 = .ok (.ireturn, 1) := by decide +kernel
theorem dL_law_444 : decode code 444 = .ok (.iinc 3 3, 3) := by decide +kernel
theorem dL_law_447 : decode code 447 = .ok (.goto (-419), 3) := by decide +kernel
theorem dL_law_450 : decode code 450 = .ok (.iconst 1, 1) := by decide +kernel
theorem dL_law_451 : decode code 451 = .ok (.ireturn, 1) := by decide +kernel
end
section
/-- the object's fields -/
abbrev flP (a : Nat → Nat) (u : St) : List Value := [.ref (a 0), .ref (a 1), .ref (a 2), .ref (a 3), .ref (a 4), .ref (a 5), .ref (a 6), .ref (a 7), .ref (a 8), .int (u 9 0), .int (u 9 1), .int (u 9 2), .int (u 9 3)]
/-- the world of one object: itself, its nine arrays -/
abbrev wP (h : Nat) (a : Nat → Nat) (ca : Nat → ClassId) (N : Nat) (u : St) : va_W := [(h, .inr (0, flP a u)), (a 0, .inl (ca 0, 15, .inl (u 0))), (a 1, .inl (ca 1, 15, .inl (u 1))), (a 2, .inl (ca 2, 15, .inl (u 2))), (a 3, .inl (ca 3, 15, .inl (u 3))), (a 4, .inl (ca 4, 15, .inl (u 4))), (a 5, .inl (ca 5, 15, .inl (u 5))), (a 6, .inl (ca 6, 15, .inl (u 6))), (a 7, .inl (ca 7, 15, .inl (u 7))), (a 8, .inl (ca 8, N, .inl (u 8)))]
abbrev tyP (ca : Nat → ClassId) : List (ClassId × FieldType) := [(ca 0, .int), (ca 1, .int), (ca 2, .int), (ca 3, .boolean), (ca 4, .int), (ca 5, .int), (ca 6, .int), (ca 7, .int), (ca 8, .int)]
abbrev cP (l : Launch) (D : va_G) (h : Nat) (a : Nat → Nat) (ca : Nat → ClassId) (N : Nat) (y : MethodName) (wy : List Cond) (rm : Room) (As : List Value) (u : St) (r : Option Value) (u2 : St) : Prop := zz_C l D vwCl (tyP ca) y wy rm (.ref h :: As) (wP h a ca N u) r (wP h a ca N u2)
section PP
variable {p : Program} {l : Launch} {e : Env} {R : Room} {s : State} {m : MethodId} {args : Array Value} {below : List Frame} {meth : Method} {c : Code} {cells slots : Nat} {Q : State → Prop} {cc : ByteArray} {nL : Nat} {Ts : List Cond} {own : String} {D : va_G} {A : Nat → Prop} {lv : List (Option Value)} {pc : Nat} {st : List Value} {h N : Nat} {a : Nat → Nat} {ca : Nat → ClassId} {u u2 : St}
theorem pp_get (X : zz_X p s m args c cc nL Ts RX0 D vwCl (tyP ca) A) {index k0 : Nat} {v : Value} (hin : ∀ w ∈ u_ws RX0 TX0 13, w ∈ Ts) (hk : k0 < 13) (hlink : Cond.fieldLink RX0 index (TX0 k0).1 (TX0 k0).2.1 (TX0 k0).2.2.1 ∈ Ts) (hv : (flP a u)[k0]? = some v) (hdg : decode cc pc = .ok (.getfield index, 3)) (k : zz_V p l e R s m args below meth c cells slots Q nL D vwCl A (wP h a ca N u) lv (pc + 3) (v :: st)) : zz_V p l e R s m args below meth c cells slots Q nL D vwCl A (wP h a ca N u) lv pc (.ref h :: st) := zz_get (q0 := 0) X hin rfl rfl hk hlink hv hdg k
theorem pp_put (X : zz_X p s m args c cc nL Ts RX0 D vwCl (tyP ca) A) {index k0 : Nat} {v : Int32} (hin : ∀ w ∈ u_ws RX0 TX0 13, w ∈ Ts) (hk : k0 < 13) (hlink : Cond.fieldLink RX0 index (TX0 k0).1 (TX0 k0).2.1 (TX0 k0).2.2.1 ∈ Ts) (hfin : (TX0 k0).2.2.2 = false) (hd : parseFieldDescriptor (TX0 k0).2.2.1 = some .int) (hdg : decode cc pc = .ok (.putfield index, 3)) (hw : (wP h a ca N u).set 0 (h, .inr (0, (flP a u).set k0 (.int v))) = wP h a ca N u2) (k : zz_V p l e R s m args below meth c cells slots Q nL D vwCl A (wP h a ca N u2) lv (pc + 3) st) : zz_V p l e R s m args below meth c cells slots Q nL D vwCl A (wP h a ca N u) lv pc (.int v :: .ref h :: st) := zz_puti (q0 := 0) X hin tyX0 tyX0_ok nmX0 rfl rfl hk hlink hfin hd hk hdg hw k
theorem pp_calli (X : zz_X p s m args c cc nL Ts RX0 D vwCl (tyP ca) A) {y : MethodName} {bytes : ByteArray} {maxL index n : Nat} {ret : Option FieldType} {wy : List Cond} {rm : Room} {As rest : List Value} {x : Int32} (hC : cP l D h a ca N y wy rm As u (some (.int x)) u2) (cw : CallW R s args RX0 RX0 index y bytes maxL ret wy rm 0 0 n) (hn : As.length = n) (hst : st = As.reverse ++ .ref h :: rest) (hrm : (rest.map fun v => v.category).sum ≤ 8) (hdg : decode cc pc = .ok (.invokevirtual index, 3)) (hcs : cells ≤ R.cells ∧ slots ≤ R.slots) (k : zz_V p l e R s m args below meth c cells slots Q nL D vwCl A (wP h a ca N u2) lv (pc + 3) (.int x :: rest)) : zz_V p l e R s m args below meth c cells slots Q nL D vwCl A (wP h a ca N u) lv pc st := zz_call (q0 := 0) (wr := []) (ws' := wP h a ca N u2) X hC X.2.1 cw rfl rfl hn hst hrm hdg hcs [0, 1, 2, 3, 4, 5, 6, 7, 8, 9] [] rfl rfl rfl (by decide) (by decide) (fun i hi => absurd hi (by simp)) rfl k
theorem pp_callv (X : zz_X p s m args c cc nL Ts RX0 D vwCl (tyP ca) A) {y : MethodName} {bytes : ByteArray} {maxL index n : Nat} {ret : Option FieldType} {wy : List Cond} {rm : Room} {As rest : List Value} (hC : cP l D h a ca N y wy rm As u none u2) (cw : CallW R s args RX0 RX0 index y bytes maxL ret wy rm 0 0 n) (hn : As.length = n) (hst : st = As.reverse ++ .ref h :: rest) (hrm : (rest.map fun v => v.category).sum ≤ 8) (hdg : decode cc pc = .ok (.invokevirtual index, 3)) (hcs : cells ≤ R.cells ∧ slots ≤ R.slots) (k : zz_V p l e R s m args below meth c cells slots Q nL D vwCl A (wP h a ca N u2) lv (pc + 3) rest) : zz_V p l e R s m args below meth c cells slots Q nL D vwCl A (wP h a ca N u) lv pc st := zz_call (q0 := 0) (wr := []) (ws' := wP h a ca N u2) X hC X.2.1 cw rfl rfl hn hst hrm hdg hcs [0, 1, 2, 3, 4, 5, 6, 7, 8, 9] [] rfl rfl rfl (by decide) (by decide) (fun i hi => absurd hi (by simp)) rfl k
end PP
end
section
set_option maxHeartbeats 4000000 in
set_option maxRecDepth 100000 in
theorem c_isEmptyRing {l : Launch} {D : va_G} {h : Nat} {a : Nat → Nat} {ca : Nat → ClassId} {N : Nat} (hN : N < 2 ^ 31) (u : St) : cP l D h a ca N yX0_isEmptyRing wsX0_isEmptyRing { frames := 0, cells := 0, slots := 0, locals := 0 } [] u (some (.int (rIsE u))) u := by
  refine zz_C.of (bytes := cX0_isEmptyRing) (maxL := 1) (ret := (some .boolean)) (lv0 := [some (.ref h)]) (by decide) rfl (Nat.le_of_ble_eq_true rfl) rfl rfl ?_
  intro p e s m below meth c A Q X Ei Ev
  refine zz_aload_n X dX0_isEmptyRing_0 rfl rfl ?_
  refine pp_get (k0 := 1) (v := .ref (a 1)) X imX0 (by decide) (mc flX0_22) rfl dX0_isEmptyRing_1 ?_
  refine zz_iconst (v := 0) X dX0_isEmptyRing_4 (by decide) ?_
  refine zz_iald (q0 := 2) (t0 := 1) (j := 0) X rfl rfl (by decide) (by decide) (by decide) dX0_isEmptyRing_5 ?_
  refine zz_if_ne (tgt := 13) X dX0_isEmptyRing_6 (by decide) (fun h1 => ?_) (fun h1 => ?_)
  · refine zz_iconst (v := 0) X dX0_isEmptyRing_13 (by decide) ?_
    exact Ei _ _ _ _ _ rfl rfl dX0_isEmptyRing_14 (by simp [rIsE, h1]) rfl
  · refine zz_iconst (v := 1) X dX0_isEmptyRing_9 (by decide) ?_
    refine zz_goto (tgt := 14) X dX0_isEmptyRing_10 (by decide) ?_
    exact Ei _ _ _ _ _ rfl rfl dX0_isEmptyRing_14 (by simp [rIsE, h1]) rfl
set_option maxHeartbeats 4000000 in
set_option maxRecDepth 100000 in
theorem c_isProcessor {l : Launch} {D : va_G} {h : Nat} {a : Nat → Nat} {ca : Nat → ClassId} {N : Nat} (hN : N < 2 ^ 31) (u : St) (x : Int32) : cP l D h a ca N yX0_isProcessor wsX0_isProcessor { frames := 0, cells := 0, slots := 0, locals := 0 } [.int x] u (some (.int (rIsP N x))) u := by
  refine zz_C.of (bytes := cX0_isProcessor) (maxL := 2) (ret := (some .boolean)) (lv0 := [some (.ref h), some (.int x)]) (by decide) rfl (Nat.le_of_ble_eq_true rfl) rfl rfl ?_
  intro p e s m below meth c A Q X Ei Ev
  refine zz_iload_n X dX0_isProcessor_0 rfl rfl ?_
  refine zz_if_lt (tgt := 17) X dX0_isProcessor_1 (by decide) (fun h1 => ?_) (fun h1 => ?_)
  · refine zz_iconst (v := 0) X dX0_isProcessor_17 (by decide) ?_
    exact Ei _ _ _ _ _ rfl rfl dX0_isProcessor_18 (by simp [rIsP, h1]) rfl
  · refine zz_iload_n X dX0_isProcessor_4 rfl rfl ?_
    refine zz_aload_n X dX0_isProcessor_5 rfl rfl ?_
    refine pp_get (k0 := 8) (v := .ref (a 8)) X imX0 (by decide) (mc flX0_44) rfl dX0_isProcessor_6 ?_
    refine zz_alen (q0 := 9) (t0 := 8) X rfl rfl dX0_isProcessor_9 ?_
    refine zz_icmp_ge (tgt := 17) X dX0_isProcessor_10 (by decide) (fun h2 => ?_) (fun h2 => ?_)
    · refine zz_iconst (v := 0) X dX0_isProcessor_17 (by decide) ?_
      exact Ei _ _ _ _ _ rfl rfl dX0_isProcessor_18 (by simp [rIsP, h1, h2]) rfl
    · refine zz_iconst (v := 1) X dX0_isProcessor_13 (by decide) ?_
      refine zz_goto (tgt := 18) X dX0_isProcessor_14 (by decide) ?_
      exact Ei _ _ _ _ _ rfl rfl dX0_isProcessor_18 (by simp [rIsP, h1, h2]) rfl
set_option maxHeartbeats 4000000 in
set_option maxRecDepth 100000 in
theorem c_isBlockedFor {l : Launch} {D : va_G} {h : Nat} {a : Nat → Nat} {ca : Nat → ClassId} {N : Nat} (hN : N < 2 ^ 31) (u : St) (i : Nat) (hi : i < 15) (r : Int32) : cP l D h a ca N yX0_isBlockedFor wsX0_isBlockedFor { frames := 0, cells := 0, slots := 0, locals := 0 } [.int (nI i), .int r] u (some (.int (rBlk u i r))) u := by
  refine zz_C.of (bytes := cX0_isBlockedFor) (maxL := 3) (ret := (some .boolean)) (lv0 := [some (.ref h), some (.int (nI i)), some (.int r)]) (by decide) rfl (Nat.le_of_ble_eq_true rfl) rfl rfl ?_
  intro p e s m below meth c A Q X Ei Ev
  refine zz_aload_n X dX0_isBlockedFor_0 rfl rfl ?_
  refine pp_get (k0 := 1) (v := .ref (a 1)) X imX0 (by decide) (mc flX0_22) rfl dX0_isBlockedFor_1 ?_
  refine zz_iload_n X dX0_isBlockedFor_4 rfl rfl ?_
  refine zz_iald (q0 := 2) (t0 := 1) (j := i) X rfl rfl rfl hi (by decide) dX0_isBlockedFor_5 ?_
  refine zz_iconst (v := 3) X dX0_isBlockedFor_6 (by decide) ?_
  refine zz_icmp_ne (tgt := 24) X dX0_isBlockedFor_7 (by decide) (fun h1 => ?_) (fun h1 => ?_)
  · refine zz_iconst (v := 0) X dX0_isBlockedFor_24 (by decide) ?_
    exact Ei _ _ _ _ _ rfl rfl dX0_isBlockedFor_25 (by simp [rBlk, h1]) rfl
  · refine zz_aload_n X dX0_isBlockedFor_10 rfl rfl ?_
    refine pp_get (k0 := 5) (v := .ref (a 5)) X imX0 (by decide) (mc flX0_35) rfl dX0_isBlockedFor_11 ?_
    refine zz_iload_n X dX0_isBlockedFor_14 rfl rfl ?_
    refine zz_iald (q0 := 6) (t0 := 5) (j := i) X rfl rfl rfl hi (by decide) dX0_isBlockedFor_15 ?_
    refine zz_iload_n X dX0_isBlockedFor_16 rfl rfl ?_
    refine zz_icmp_ne (tgt := 24) X dX0_isBlockedFor_17 (by decide) (fun h2 => ?_) (fun h2 => ?_)
    · refine zz_iconst (v := 0) X dX0_isBlockedFor_24 (by decide) ?_
      exact Ei _ _ _ _ _ rfl rfl dX0_isBlockedFor_25 (by simp [rBlk, h1, h2]) rfl
    · refine zz_iconst (v := 1) X dX0_isBlockedFor_20 (by decide) ?_
      refine zz_goto (tgt := 25) X dX0_isBlockedFor_21 (by decide) ?_
      exact Ei _ _ _ _ _ rfl rfl dX0_isBlockedFor_25 (by simp [rBlk, h1, h2]) rfl
set_option maxHeartbeats 4000000 in
set_option maxRecDepth 100000 in
theorem c_isChild {l : Launch} {D : va_G} {h : Nat} {a : Nat → Nat} {ca : Nat → ClassId} {N : Nat} (hN : N < 2 ^ 31) (u : St) (i : Nat) (hi : i < 15) (x : Int32) : cP l D h a ca N yX0_isChild wsX0_isChild { frames := 0, cells := 0, slots := 0, locals := 0 } [.int (nI i), .int x] u (some (.int (rChi u i x))) u := by
  refine zz_C.of (bytes := cX0_isChild) (maxL := 3) (ret := (some .boolean)) (lv0 := [some (.ref h), some (.int (nI i)), some (.int x)]) (by decide) rfl (Nat.le_of_ble_eq_true rfl) rfl rfl ?_
  intro p e s m below meth c A Q X Ei Ev
  refine zz_aload_n X dX0_isChild_0 rfl rfl ?_
  refine pp_get (k0 := 1) (v := .ref (a 1)) X imX0 (by decide) (mc flX0_22) rfl dX0_isChild_1 ?_
  refine zz_iload_n X dX0_isChild_4 rfl rfl ?_
  refine zz_iald (q0 := 2) (t0 := 1) (j := i) X rfl rfl rfl hi (by decide) dX0_isChild_5 ?_
  refine zz_if_eq (tgt := 23) X dX0_isChild_6 (by decide) (fun h1 => ?_) (fun h1 => ?_)
  · refine zz_iconst (v := 0) X dX0_isChild_23 (by decide) ?_
    exact Ei _ _ _ _ _ rfl rfl dX0_isChild_24 (by simp [rChi, h1]) rfl
  · refine zz_aload_n X dX0_isChild_9 rfl rfl ?_
    refine pp_get (k0 := 2) (v := .ref (a 2)) X imX0 (by decide) (mc flX0_25) rfl dX0_isChild_10 ?_
    refine zz_iload_n X dX0_isChild_13 rfl rfl ?_
    refine zz_iald (q0 := 3) (t0 := 2) (j := i) X rfl rfl rfl hi (by decide) dX0_isChild_14 ?_
    refine zz_iload_n X dX0_isChild_15 rfl rfl ?_
    refine zz_icmp_ne (tgt := 23) X dX0_isChild_16 (by decide) (fun h2 => ?_) (fun h2 => ?_)
    · refine zz_iconst (v := 0) X dX0_isChild_23 (by decide) ?_
      exact Ei _ _ _ _ _ rfl rfl dX0_isChild_24 (by simp [rChi, h1, h2]) rfl
    · refine zz_iconst (v := 1) X dX0_isChild_19 (by decide) ?_
      refine zz_goto (tgt := 24) X dX0_isChild_20 (by decide) ?_
      exact Ei _ _ _ _ _ rfl rfl dX0_isChild_24 (by simp [rChi, h1, h2]) rfl
set_option maxHeartbeats 4000000 in
set_option maxRecDepth 100000 in
theorem c_placeOn {l : Launch} {D : va_G} {h : Nat} {a : Nat → Nat} {ca : Nat → ClassId} {N : Nat} (hN : N < 2 ^ 31) (u : St) (x : Int32) : cP l D h a ca N yX0_placeOn wsX0_placeOn { frames := 1, cells := 0, slots := 0, locals := 21 } [.int x] u (some (.int (rOn N u x))) u := by
  refine zz_C.of (bytes := cX0_placeOn) (maxL := 2) (ret := (some .int)) (lv0 := [some (.ref h), some (.int x)]) (by decide) rfl (Nat.le_of_ble_eq_true rfl) rfl rfl ?_
  intro p e s m below meth c A Q X Ei Ev
  refine zz_aload_n X dX0_placeOn_0 rfl rfl ?_
  refine zz_iload_n X dX0_placeOn_1 rfl rfl ?_
  refine pp_calli (rest := []) X (c_isProcessor hN u x) (cwV 1 X.1.2.2.2.2 (gw lkX0_68 imX0_isProcessor seX0_isProcessor itX0 cdX0_isProcessor) rfl rfl rfl hdX0_isProcessor ⟨Nat.le_of_ble_eq_true rfl, Nat.le_of_ble_eq_true rfl⟩) rfl rfl (Nat.le_of_ble_eq_true rfl) dX0_placeOn_2 ⟨Nat.zero_le _, Nat.zero_le _⟩ ?_
  refine zz_if_eq (tgt := 17) X dX0_placeOn_5 (by decide) (fun h1 => ?_) (fun h1 => ?_)
  · refine zz_iconst (v := -1) X dX0_placeOn_17 (by decide) ?_
    exact Ei _ _ _ _ _ rfl rfl dX0_placeOn_18 (by simp [rOn, h1]) rfl
  · obtain ⟨j, hj, rfl⟩ := rIsP_ix hN h1
    refine zz_aload_n X dX0_placeOn_8 rfl rfl ?_
    refine pp_get (k0 := 8) (v := .ref (a 8)) X imX0 (by decide) (mc flX0_44) rfl dX0_placeOn_9 ?_
    refine zz_iload_n X dX0_placeOn_12 rfl rfl ?_
    refine zz_iald (q0 := 9) (t0 := 8) (j := j) X rfl rfl rfl hj hN dX0_placeOn_13 ?_
    refine zz_goto (tgt := 18) X dX0_placeOn_14 (by decide) ?_
    exact Ei _ _ _ _ _ rfl rfl dX0_placeOn_18 (by rw [rOn_in hN hj]) rfl
set_option maxHeartbeats 4000000 in
set_option maxRecDepth 100000 in
theorem c_processorOf {l : Launch} {D : va_G} {h : Nat} {a : Nat → Nat} {ca : Nat → ClassId} {N : Nat} (hN : N < 2 ^ 31) (u : St) (x : Int32) : cP l D h a ca N yX0_processorOf wsX0_processorOf { frames := 0, cells := 0, slots := 0, locals := 0 } [.int x] u (some (.int (rPrc N u x))) u := by
  refine zz_C.of (bytes := cX0_processorOf) (maxL := 3) (ret := (some .int)) (lv0 := [some (.ref h), some (.int x), none]) (by decide) rfl (Nat.le_of_ble_eq_true rfl) rfl rfl ?_
  intro p e s m below meth c A Q X Ei Ev
  refine zz_iconst (v := 0) X dX0_processorOf_0 (by decide) ?_
  refine zz_istore_n (lv' := [some (.ref h), some (.int x), some (.int 0)]) X dX0_processorOf_1 rfl (by decide) rfl ?_
  have loop : ∀ (n i : Nat), i + n = N → zs (fun j => decide (u 8 j = x)) N 0 = zs (fun j => decide (u 8 j = x)) n i → zz_V p l e { frames := 0, cells := 0, slots := 0, locals := 0 } s m [.ref h, .int x].toArray below meth c 0 0 Q 3 D vwCl A (wP h a ca N u) [some (.ref h), some (.int x), some (.int (nI i))] 2 [] := by
    intro n
    induction n with
    | zero =>
      intro i hi hz
      refine zz_iload_n X dX0_processorOf_2 rfl rfl ?_
      refine zz_aload_n X dX0_processorOf_3 rfl rfl ?_
      refine pp_get (k0 := 8) (v := .ref (a 8)) X imX0 (by decide) (mc flX0_44) rfl dX0_processorOf_4 ?_
      refine zz_alen (q0 := 9) (t0 := 8) X rfl rfl dX0_processorOf_7 ?_
      refine zz_icmp_ge (tgt := 29) X dX0_processorOf_8 (by decide) (fun hq => ?_) (fun hq => absurd (nI_le (a := N) (by omega) (by omega)) hq)
      refine zz_iconst (v := -1) X dX0_processorOf_29 (by decide) ?_
      exact Ei _ _ _ _ _ rfl rfl dX0_processorOf_30 (by rw [rPrc, hz]; rfl) rfl
    | succ n ih =>
      intro i hi hz
      have hlt : i < N := by omega
      refine zz_iload_n X dX0_processorOf_2 rfl rfl ?_
      refine zz_aload_n X dX0_processorOf_3 rfl rfl ?_
      refine pp_get (k0 := 8) (v := .ref (a 8)) X imX0 (by decide) (mc flX0_44) rfl dX0_processorOf_4 ?_
      refine zz_alen (q0 := 9) (t0 := 8) X rfl rfl dX0_processorOf_7 ?_
      refine zz_icmp_ge (tgt := 29) X dX0_processorOf_8 (by decide) (fun hq => absurd hq (nI_ge hlt hN)) (fun hq => ?_)
      refine zz_aload_n X dX0_processorOf_11 rfl rfl ?_
      refine pp_get (k0 := 8) (v := .ref (a 8)) X imX0 (by decide) (mc flX0_44) rfl dX0_processorOf_12 ?_
      refine zz_iload_n X dX0_processorOf_15 rfl rfl ?_
      refine zz_iald (q0 := 9) (t0 := 8) (j := i) X rfl rfl rfl hlt hN dX0_processorOf_16 ?_
      refine zz_iload_n X dX0_processorOf_17 rfl rfl ?_
      refine zz_icmp_ne (tgt := 23) X dX0_processorOf_18 (by decide) (fun h1 => ?_) (fun h1 => ?_)
      · refine zz_iinc (v := (nI (i + 1))) (lv' := [some (.ref h), some (.int x), some (.int (nI (i + 1)))]) X dX0_processorOf_23 rfl (nI_1 _) (by decide) rfl ?_
        refine zz_goto (tgt := 2) X dX0_processorOf_26 (by decide) ?_
        exact ih (i + 1) (by omega) (by rw [hz]; simp [zs, h1])
      · refine zz_iload_n X dX0_processorOf_21 rfl rfl ?_
        exact Ei _ _ _ _ _ rfl rfl dX0_processorOf_22 (by rw [rPrc, hz]; simp [zs, h1]) rfl
  exact loop N 0 (Nat.zero_add _) rfl
set_option maxHeartbeats 4000000 in
set_option maxRecDepth 100000 in
theorem c_placeOf {l : Launch} {D : va_G} {h : Nat} {a : Nat → Nat} {ca : Nat → ClassId} {N : Nat} (hN : N < 2 ^ 31) (u : St) (x : Int32) : cP l D h a ca N yX0_placeOf wsX0_placeOf { frames := 0, cells := 0, slots := 0, locals := 0 } [.int x] u (some (.int (rPlc u x))) u := by
  refine zz_C.of (bytes := cX0_placeOf) (maxL := 3) (ret := (some .int)) (lv0 := [some (.ref h), some (.int x), none]) (by decide) rfl (Nat.le_of_ble_eq_true rfl) rfl rfl ?_
  intro p e s m below meth c A Q X Ei Ev
  refine zz_iconst (v := 0) X dX0_placeOf_0 (by decide) ?_
  refine zz_istore_n (lv' := [some (.ref h), some (.int x), some (.int 0)]) X dX0_placeOf_1 rfl (by decide) rfl ?_
  have loop : ∀ (n i : Nat), i + n = 15 → zs (fun j => decide (¬ u 1 j = 0 ∧ u 0 j = x)) 15 0 = zs (fun j => decide (¬ u 1 j = 0 ∧ u 0 j = x)) n i → zz_V p l e { frames := 0, cells := 0, slots := 0, locals := 0 } s m [.ref h, .int x].toArray below meth c 0 0 Q 3 D vwCl A (wP h a ca N u) [some (.ref h), some (.int x), some (.int (nI i))] 2 [] := by
    intro n
    induction n with
    | zero =>
      intro i hi hz
      refine zz_iload_n X dX0_placeOf_2 rfl rfl ?_
      refine zz_bipush (v := 15) X dX0_placeOf_3 (by decide) ?_
      refine zz_icmp_ge (tgt := 35) X dX0_placeOf_5 (by decide) (fun hq => ?_) (fun hq => absurd (nI_le (a := 15) (by omega) (by omega)) hq)
      refine zz_iconst (v := -1) X dX0_placeOf_35 (by decide) ?_
      exact Ei _ _ _ _ _ rfl rfl dX0_placeOf_36 (by rw [rPlc, hz]; rfl) rfl
    | succ n ih =>
      intro i hi hz
      have hlt : i < 15 := by omega
      refine zz_iload_n X dX0_placeOf_2 rfl rfl ?_
      refine zz_bipush (v := 15) X dX0_placeOf_3 (by decide) ?_
      refine zz_icmp_ge (tgt := 35) X dX0_placeOf_5 (by decide) (fun hq => absurd hq (nI_ge (b := 15) hlt (by decide))) (fun hq => ?_)
      refine zz_aload_n X dX0_placeOf_8 rfl rfl ?_
      refine pp_get (k0 := 1) (v := .ref (a 1)) X imX0 (by decide) (mc flX0_22) rfl dX0_placeOf_9 ?_
      refine zz_iload_n X dX0_placeOf_12 rfl rfl ?_
      refine zz_iald (q0 := 2) (t0 := 1) (j := i) X rfl rfl rfl hlt (by decide) dX0_placeOf_13 ?_
      refine zz_if_eq (tgt := 29) X dX0_placeOf_14 (by decide) (fun h1 => ?_) (fun h1 => ?_)
      · refine zz_iinc (v := (nI (i + 1))) (lv' := [some (.ref h), some (.int x), some (.int (nI (i + 1)))]) X dX0_placeOf_29 rfl (nI_1 _) (by decide) rfl ?_
        refine zz_goto (tgt := 2) X dX0_placeOf_32 (by decide) ?_
        exact ih (i + 1) (by omega) (by rw [hz]; simp [zs, h1])
      · refine zz_aload_n X dX0_placeOf_17 rfl rfl ?_
        refine pp_get (k0 := 0) (v := .ref (a 0)) X imX0 (by decide) (mc flX0_18) rfl dX0_placeOf_18 ?_
        refine zz_iload_n X dX0_placeOf_21 rfl rfl ?_
        refine zz_iald (q0 := 1) (t0 := 0) (j := i) X rfl rfl rfl hlt (by decide) dX0_placeOf_22 ?_
        refine zz_iload_n X dX0_placeOf_23 rfl rfl ?_
        refine zz_icmp_ne (tgt := 29) X dX0_placeOf_24 (by decide) (fun h2 => ?_) (fun h2 => ?_)
        · refine zz_iinc (v := (nI (i + 1))) (lv' := [some (.ref h), some (.int x), some (.int (nI (i + 1)))]) X dX0_placeOf_29 rfl (nI_1 _) (by decide) rfl ?_
          refine zz_goto (tgt := 2) X dX0_placeOf_32 (by decide) ?_
          exact ih (i + 1) (by omega) (by rw [hz]; simp [zs, h1, h2])
        · refine zz_iload_n X dX0_placeOf_27 rfl rfl ?_
          exact Ei _ _ _ _ _ rfl rfl dX0_placeOf_28 (by rw [rPlc, hz]; simp [zs, h1, h2]) rfl
  exact loop 15 0 (Nat.zero_add _) rfl
set_option maxHeartbeats 4000000 in
set_option maxRecDepth 100000 in
theorem c_firstFree {l : Launch} {D : va_G} {h : Nat} {a : Nat → Nat} {ca : Nat → ClassId} {N : Nat} (hN : N < 2 ^ 31) (u : St) : cP l D h a ca N yX0_firstFree wsX0_firstFree { frames := 0, cells := 0, slots := 0, locals := 0 } [] u (some (.int (rFre u))) u := by
  refine zz_C.of (bytes := cX0_firstFree) (maxL := 2) (ret := (some .int)) (lv0 := [some (.ref h), none]) (by decide) rfl (Nat.le_of_ble_eq_true rfl) rfl rfl ?_
  intro p e s m below meth c A Q X Ei Ev
  refine zz_iconst (v := 0) X dX0_firstFree_0 (by decide) ?_
  refine zz_istore_n (lv' := [some (.ref h), some (.int 0)]) X dX0_firstFree_1 rfl (by decide) rfl ?_
  have loop : ∀ (n i : Nat), i + n = 15 → zs (fun j => decide (u 1 j = 0)) 15 0 = zs (fun j => decide (u 1 j = 0)) n i → zz_V p l e { frames := 0, cells := 0, slots := 0, locals := 0 } s m [.ref h].toArray below meth c 0 0 Q 2 D vwCl A (wP h a ca N u) [some (.ref h), some (.int (nI i))] 2 [] := by
    intro n
    induction n with
    | zero =>
      intro i hi hz
      refine zz_iload_n X dX0_firstFree_2 rfl rfl ?_
      refine zz_bipush (v := 15) X dX0_firstFree_3 (by decide) ?_
      refine zz_icmp_ge (tgt := 25) X dX0_firstFree_5 (by decide) (fun hq => ?_) (fun hq => absurd (nI_le (a := 15) (by omega) (by omega)) hq)
      refine zz_iconst (v := -1) X dX0_firstFree_25 (by decide) ?_
      exact Ei _ _ _ _ _ rfl rfl dX0_firstFree_26 (by rw [rFre, hz]; rfl) rfl
    | succ n ih =>
      intro i hi hz
      have hlt : i < 15 := by omega
      refine zz_iload_n X dX0_firstFree_2 rfl rfl ?_
      refine zz_bipush (v := 15) X dX0_firstFree_3 (by decide) ?_
      refine zz_icmp_ge (tgt := 25) X dX0_firstFree_5 (by decide) (fun hq => absurd hq (nI_ge (b := 15) hlt (by decide))) (fun hq => ?_)
      refine zz_aload_n X dX0_firstFree_8 rfl rfl ?_
      refine pp_get (k0 := 1) (v := .ref (a 1)) X imX0 (by decide) (mc flX0_22) rfl dX0_firstFree_9 ?_
      refine zz_iload_n X dX0_firstFree_12 rfl rfl ?_
      refine zz_iald (q0 := 2) (t0 := 1) (j := i) X rfl rfl rfl hlt (by decide) dX0_firstFree_13 ?_
      refine zz_if_ne (tgt := 19) X dX0_firstFree_14 (by decide) (fun h1 => ?_) (fun h1 => ?_)
      · refine zz_iinc (v := (nI (i + 1))) (lv' := [some (.ref h), some (.int (nI (i + 1)))]) X dX0_firstFree_19 rfl (nI_1 _) (by decide) rfl ?_
        refine zz_goto (tgt := 2) X dX0_firstFree_22 (by decide) ?_
        exact ih (i + 1) (by omega) (by rw [hz]; simp [zs, h1])
      · refine zz_iload_n X dX0_firstFree_17 rfl rfl ?_
        exact Ei _ _ _ _ _ rfl rfl dX0_firstFree_18 (by rw [rFre, hz]; simp [zs, h1]) rfl
  exact loop 15 0 (Nat.zero_add _) rfl
set_option maxHeartbeats 4000000 in
set_option maxRecDepth 100000 in
theorem c_hasChild {l : Launch} {D : va_G} {h : Nat} {a : Nat → Nat} {ca : Nat → ClassId} {N : Nat} (hN : N < 2 ^ 31) (u : St) (x : Int32) : cP l D h a ca N yX0_hasChild wsX0_hasChild { frames := 1, cells := 0, slots := 0, locals := 22 } [.int x] u (some (.int (rHas u x))) u := by
  refine zz_C.of (bytes := cX0_hasChild) (maxL := 3) (ret := (some .boolean)) (lv0 := [some (.ref h), some (.int x), none]) (by decide) rfl (Nat.le_of_ble_eq_true rfl) rfl rfl ?_
  intro p e s m below meth c A Q X Ei Ev
  refine zz_iconst (v := 0) X dX0_hasChild_0 (by decide) ?_
  refine zz_istore_n (lv' := [some (.ref h), some (.int x), some (.int 0)]) X dX0_hasChild_1 rfl (by decide) rfl ?_
  have loop : ∀ (n i : Nat), i + n = 15 → zs (fun j => decide (¬ rChi u j x = 0)) 15 0 = zs (fun j => decide (¬ rChi u j x = 0)) n i → zz_V p l e { frames := 1, cells := 0, slots := 0, locals := 22 } s m [.ref h, .int x].toArray below meth c 0 0 Q 3 D vwCl A (wP h a ca N u) [some (.ref h), some (.int x), some (.int (nI i))] 2 [] := by
    intro n
    induction n with
    | zero =>
      intro i hi hz
      refine zz_iload_n X dX0_hasChild_2 rfl rfl ?_
      refine zz_bipush (v := 15) X dX0_hasChild_3 (by decide) ?_
      refine zz_icmp_ge (tgt := 25) X dX0_hasChild_5 (by decide) (fun hq => ?_) (fun hq => absurd (nI_le (a := 15) (by omega) (by omega)) hq)
      refine zz_iconst (v := 0) X dX0_hasChild_25 (by decide) ?_
      exact Ei _ _ _ _ _ rfl rfl dX0_hasChild_26 (by rw [rHas, hz]; rfl) rfl
    | succ n ih =>
      intro i hi hz
      have hlt : i < 15 := by omega
      refine zz_iload_n X dX0_hasChild_2 rfl rfl ?_
      refine zz_bipush (v := 15) X dX0_hasChild_3 (by decide) ?_
      refine zz_icmp_ge (tgt := 25) X dX0_hasChild_5 (by decide) (fun hq => absurd hq (nI_ge (b := 15) hlt (by decide))) (fun hq => ?_)
      refine zz_aload_n X dX0_hasChild_8 rfl rfl ?_
      refine zz_iload_n X dX0_hasChild_9 rfl rfl ?_
      refine zz_iload_n X dX0_hasChild_10 rfl rfl ?_
      refine pp_calli (rest := []) X (c_isChild hN u i hlt x) (cwV 2 X.1.2.2.2.2 (gw lkX0_124 imX0_isChild seX0_isChild itX0 cdX0_isChild) rfl rfl rfl hdX0_isChild ⟨Nat.le_of_ble_eq_true rfl, Nat.le_of_ble_eq_true rfl⟩) rfl rfl (Nat.le_of_ble_eq_true rfl) dX0_hasChild_11 ⟨Nat.zero_le _, Nat.zero_le _⟩ ?_
      refine zz_if_eq (tgt := 19) X dX0_hasChild_14 (by decide) (fun h1 => ?_) (fun h1 => ?_)
      · refine zz_iinc (v := (nI (i + 1))) (lv' := [some (.ref h), some (.int x), some (.int (nI (i + 1)))]) X dX0_hasChild_19 rfl (nI_1 _) (by decide) rfl ?_
        refine zz_goto (tgt := 2) X dX0_hasChild_22 (by decide) ?_
        exact ih (i + 1) (by omega) (by rw [hz]; simp [zs, h1])
      · refine zz_iconst (v := 1) X dX0_hasChild_17 (by decide) ?_
        exact Ei _ _ _ _ _ rfl rfl dX0_hasChild_18 (by rw [rHas, hz]; simp [zs, h1, nI_m1 (show i < 2 ^ 31 by omega)]) rfl
  exact loop 15 0 (Nat.zero_add _) rfl
set_option maxHeartbeats 4000000 in
set_option maxRecDepth 100000 in
theorem c_firstZombieChild {l : Launch} {D : va_G} {h : Nat} {a : Nat → Nat} {ca : Nat → ClassId} {N : Nat} (hN : N < 2 ^ 31) (u : St) (x : Int32) : cP l D h a ca N yX0_firstZombieChild wsX0_firstZombieChild { frames := 1, cells := 0, slots := 0, locals := 22 } [.int x] u (some (.int (rFzc u x))) u := by
  refine zz_C.of (bytes := cX0_firstZombieChild) (maxL := 3) (ret := (some .int)) (lv0 := [some (.ref h), some (.int x), none]) (by decide) rfl (Nat.le_of_ble_eq_true rfl) rfl rfl ?_
  intro p e s m below meth c A Q X Ei Ev
  refine zz_iconst (v := 0) X dX0_firstZombieChild_0 (by decide) ?_
  refine zz_istore_n (lv' := [some (.ref h), some (.int x), some (.int 0)]) X dX0_firstZombieChild_1 rfl (by decide) rfl ?_
  have loop : ∀ (n i : Nat), i + n = 15 → zs (fun j => decide (¬ rChi u j x = 0 ∧ u 1 j = 4)) 15 0 = zs (fun j => decide (¬ rChi u j x = 0 ∧ u 1 j = 4)) n i → zz_V p l e { frames := 1, cells := 0, slots := 0, locals := 22 } s m [.ref h, .int x].toArray below meth c 0 0 Q 3 D vwCl A (wP h a ca N u) [some (.ref h), some (.int x), some (.int (nI i))] 2 [] := by
    intro n
    induction n with
    | zero =>
      intro i hi hz
      refine zz_iload_n X dX0_firstZombieChild_2 rfl rfl ?_
      refine zz_bipush (v := 15) X dX0_firstZombieChild_3 (by decide) ?_
      refine zz_icmp_ge (tgt := 35) X dX0_firstZombieChild_5 (by decide) (fun hq => ?_) (fun hq => absurd (nI_le (a := 15) (by omega) (by omega)) hq)
      refine zz_iconst (v := -1) X dX0_firstZombieChild_35 (by decide) ?_
      exact Ei _ _ _ _ _ rfl rfl dX0_firstZombieChild_36 (by rw [rFzc, hz]; rfl) rfl
    | succ n ih =>
      intro i hi hz
      have hlt : i < 15 := by omega
      refine zz_iload_n X dX0_firstZombieChild_2 rfl rfl ?_
      refine zz_bipush (v := 15) X dX0_firstZombieChild_3 (by decide) ?_
      refine zz_icmp_ge (tgt := 35) X dX0_firstZombieChild_5 (by decide) (fun hq => absurd hq (nI_ge (b := 15) hlt (by decide))) (fun hq => ?_)
      refine zz_aload_n X dX0_firstZombieChild_8 rfl rfl ?_
      refine zz_iload_n X dX0_firstZombieChild_9 rfl rfl ?_
      refine zz_iload_n X dX0_firstZombieChild_10 rfl rfl ?_
      refine pp_calli (rest := []) X (c_isChild hN u i hlt x) (cwV 2 X.1.2.2.2.2 (gw lkX0_124 imX0_isChild seX0_isChild itX0 cdX0_isChild) rfl rfl rfl hdX0_isChild ⟨Nat.le_of_ble_eq_true rfl, Nat.le_of_ble_eq_true rfl⟩) rfl rfl (Nat.le_of_ble_eq_true rfl) dX0_firstZombieChild_11 ⟨Nat.zero_le _, Nat.zero_le _⟩ ?_
      refine zz_if_eq (tgt := 29) X dX0_firstZombieChild_14 (by decide) (fun h1 => ?_) (fun h1 => ?_)
      · refine zz_iinc (v := (nI (i + 1))) (lv' := [some (.ref h), some (.int x), some (.int (nI (i + 1)))]) X dX0_firstZombieChild_29 rfl (nI_1 _) (by decide) rfl ?_
        refine zz_goto (tgt := 2) X dX0_firstZombieChild_32 (by decide) ?_
        exact ih (i + 1) (by omega) (by rw [hz]; simp [zs, h1])
      · refine zz_aload_n X dX0_firstZombieChild_17 rfl rfl ?_
        refine pp_get (k0 := 1) (v := .ref (a 1)) X imX0 (by decide) (mc flX0_22) rfl dX0_firstZombieChild_18 ?_
        refine zz_iload_n X dX0_firstZombieChild_21 rfl rfl ?_
        refine zz_iald (q0 := 2) (t0 := 1) (j := i) X rfl rfl rfl hlt (by decide) dX0_firstZombieChild_22 ?_
        refine zz_iconst (v := 4) X dX0_firstZombieChild_23 (by decide) ?_
        refine zz_icmp_ne (tgt := 29) X dX0_firstZombieChild_24 (by decide) (fun h2 => ?_) (fun h2 => ?_)
        · refine zz_iinc (v := (nI (i + 1))) (lv' := [some (.ref h), some (.int x), some (.int (nI (i + 1)))]) X dX0_firstZombieChild_29 rfl (nI_1 _) (by decide) rfl ?_
          refine zz_goto (tgt := 2) X dX0_firstZombieChild_32 (by decide) ?_
          exact ih (i + 1) (by omega) (by rw [hz]; simp [zs, h1, h2])
        · refine zz_iload_n X dX0_firstZombieChild_27 rfl rfl ?_
          exact Ei _ _ _ _ _ rfl rfl dX0_firstZombieChild_28 (by rw [rFzc, hz]; simp [zs, h1, h2]) rfl
  exact loop 15 0 (Nat.zero_add _) rfl
set_option maxHeartbeats 4000000 in
set_option maxRecDepth 100000 in
theorem c_nextReady {l : Launch} {D : va_G} {h : Nat} {a : Nat → Nat} {ca : Nat → ClassId} {N : Nat} (hN : N < 2 ^ 31) (u : St) (t : Nat) (htl : t < 15) (ht : u 9 0 = nI t) : cP l D h a ca N yX0_nextReady wsX0_nextReady { frames := 0, cells := 0, slots := 0, locals := 0 } [] u (some (.int (rNxt u t))) u := by
  refine zz_C.of (bytes := cX0_nextReady) (maxL := 3) (ret := (some .int)) (lv0 := [some (.ref h), none, none]) (by decide) rfl (Nat.le_of_ble_eq_true rfl) rfl rfl ?_
  intro p e s m below meth c A Q X Ei Ev
  refine zz_iconst (v := 1) X dX0_nextReady_0 (by decide) ?_
  refine zz_istore_n (lv' := [some (.ref h), some (.int 1), none]) X dX0_nextReady_1 rfl (by decide) rfl ?_
  have loop : ∀ (n i : Nat) (lw : Option Value), i + n = 16 → zn (fun j => decide (u 1 j = 1)) t 15 1 = zn (fun j => decide (u 1 j = 1)) t n i → zz_V p l e { frames := 0, cells := 0, slots := 0, locals := 0 } s m [.ref h].toArray below meth c 0 0 Q 3 D vwCl A (wP h a ca N u) [some (.ref h), some (.int (nI i)), lw] 2 [] := by
    intro n
    induction n with
    | zero =>
      intro i lw hi hz
      refine zz_iload_n X dX0_nextReady_2 rfl rfl ?_
      refine zz_bipush (v := 15) X dX0_nextReady_3 (by decide) ?_
      refine zz_icmp_gt (tgt := 36) X dX0_nextReady_5 (by decide) (fun hq => ?_) (fun hq => absurd (nI_lt (a := 15) (by omega) (by omega)) hq)
      refine zz_iconst (v := -1) X dX0_nextReady_36 (by decide) ?_
      exact Ei _ _ _ _ _ rfl rfl dX0_nextReady_37 (by rw [rNxt, hz]; rfl) rfl
    | succ n ih =>
      intro i lw hi hz
      refine zz_iload_n X dX0_nextReady_2 rfl rfl ?_
      refine zz_bipush (v := 15) X dX0_nextReady_3 (by decide) ?_
      refine zz_icmp_gt (tgt := 36) X dX0_nextReady_5 (by decide) (fun hq => absurd hq (nI_nlt (a := 15) (by omega) (by omega))) (fun hq => ?_)
      refine zz_aload_n X dX0_nextReady_8 rfl rfl ?_
      refine pp_get (k0 := 9) (v := .int (u 9 0)) X imX0 (by decide) (mc flX0_47) rfl dX0_nextReady_9 ?_
      refine zz_top ht ?_
      refine zz_iload_n X dX0_nextReady_12 rfl rfl ?_
      refine zz_iadd X dX0_nextReady_13 ?_
      refine zz_bipush (v := 15) X dX0_nextReady_14 (by decide) ?_
      refine zz_irem X dX0_nextReady_16 (by decide) ?_
      refine zz_top (show nI t + nI i - (nI t + nI i) / 15 * 15 = nI ((t + i) % 15) by rw [nI_add]; exact pk_rem (d := 15) (by omega) (by omega) (by omega)) ?_
      refine zz_istore_n (lv' := [some (.ref h), some (.int (nI i)), some (.int (nI ((t + i) % 15)))]) X dX0_nextReady_17 rfl (by decide) rfl ?_
      refine zz_aload_n X dX0_nextReady_18 rfl rfl ?_
      refine pp_get (k0 := 1) (v := .ref (a 1)) X imX0 (by decide) (mc flX0_22) rfl dX0_nextReady_19 ?_
      refine zz_iload_n X dX0_nextReady_22 rfl rfl ?_
      refine zz_iald (q0 := 2) (t0 := 1) (j := (t + i) % 15) X rfl rfl rfl (Nat.mod_lt _ (by decide)) (by decide) dX0_nextReady_23 ?_
      refine zz_iconst (v := 1) X dX0_nextReady_24 (by decide) ?_
      refine zz_icmp_ne (tgt := 30) X dX0_nextReady_25 (by decide) (fun h1 => ?_) (fun h1 => ?_)
      · refine zz_iinc (v := (nI (i + 1))) (lv' := [some (.ref h), some (.int (nI (i + 1))), some (.int (nI ((t + i) % 15)))]) X dX0_nextReady_30 rfl (nI_1 _) (by decide) rfl ?_
        refine zz_goto (tgt := 2) X dX0_nextReady_33 (by decide) ?_
        exact ih (i + 1) _ (by omega) (by rw [hz]; simp [zn, h1])
      · refine zz_iload_n X dX0_nextReady_28 rfl rfl ?_
        exact Ei _ _ _ _ _ rfl rfl dX0_nextReady_29 (by rw [rNxt, hz]; simp [zn, h1]) rfl
  exact loop 15 1 none rfl rfl
set_option maxHeartbeats 4000000 in
set_option maxRecDepth 100000 in
theorem c_settle {l : Launch} {D : va_G} {h : Nat} {a : Nat → Nat} {ca : Nat → ClassId} {N : Nat} (hN : N < 2 ^ 31) (u : St) (i : Nat) (hi : i < 15) (x y : Int32) : cP l D h a ca N yX0_settle wsX0_settle { frames := 0, cells := 0, slots := 0, locals := 0 } [.int (nI i), .int x, .int y] u none (rSet u i x y) := by
  refine zz_C.of (bytes := cX0_settle) (maxL := 4) (ret := none) (lv0 := [some (.ref h), some (.int (nI i)), some (.int x), some (.int y)]) (by decide) rfl (Nat.le_of_ble_eq_true rfl) rfl rfl ?_
  intro p e s m below meth c A Q X Ei Ev
  refine zz_aload_n X dX0_settle_0 rfl rfl ?_
  refine pp_get (k0 := 0) (v := .ref (a 0)) X imX0 (by decide) (mc flX0_18) rfl dX0_settle_1 ?_
  refine zz_iload_n X dX0_settle_4 rfl rfl ?_
  refine zz_iload_n X dX0_settle_5 rfl rfl ?_
  refine zz_iast (q0 := 1) (t0 := 0) (j := i) (ws' := wP h a ca N (up2 u 0 i x)) X rfl rfl rfl hi (by decide) dX0_settle_6 rfl ?_
  refine zz_aload_n X dX0_settle_7 rfl rfl ?_
  refine pp_get (k0 := 2) (v := .ref (a 2)) X imX0 (by decide) (mc flX0_25) rfl dX0_settle_8 ?_
  refine zz_iload_n X dX0_settle_11 rfl rfl ?_
  refine zz_iload_n X dX0_settle_12 rfl rfl ?_
  refine zz_iast (q0 := 3) (t0 := 2) (j := i) (ws' := wP h a ca N (up2 (up2 u 0 i x) 2 i y)) X rfl rfl rfl hi (by decide) dX0_settle_13 rfl ?_
  refine zz_aload_n X dX0_settle_14 rfl rfl ?_
  refine pp_get (k0 := 1) (v := .ref (a 1)) X imX0 (by decide) (mc flX0_22) rfl dX0_settle_15 ?_
  refine zz_iload_n X dX0_settle_18 rfl rfl ?_
  refine zz_iconst (v := 1) X dX0_settle_19 (by decide) ?_
  refine zz_iast (q0 := 2) (t0 := 1) (j := i) (ws' := wP h a ca N (up2 (up2 (up2 u 0 i x) 2 i y) 1 i 1)) X rfl rfl rfl hi (by decide) dX0_settle_20 rfl ?_
  exact Ev _ _ _ rfl dX0_settle_21 rfl rfl
set_option maxHeartbeats 4000000 in
set_option maxRecDepth 100000 in
theorem c_clearPlace {l : Launch} {D : va_G} {h : Nat} {a : Nat → Nat} {ca : Nat → ClassId} {N : Nat} (hN : N < 2 ^ 31) (u : St) (i : Nat) (hi : i < 15) : cP l D h a ca N yX0_clearPlace wsX0_clearPlace { frames := 0, cells := 0, slots := 0, locals := 0 } [.int (nI i)] u none (rClr u i) := by
  refine zz_C.of (bytes := cX0_clearPlace) (maxL := 2) (ret := none) (lv0 := [some (.ref h), some (.int (nI i))]) (by decide) rfl (Nat.le_of_ble_eq_true rfl) rfl rfl ?_
  intro p e s m below meth c A Q X Ei Ev
  refine zz_aload_n X dX0_clearPlace_0 rfl rfl ?_
  refine pp_get (k0 := 0) (v := .ref (a 0)) X imX0 (by decide) (mc flX0_18) rfl dX0_clearPlace_1 ?_
  refine zz_iload_n X dX0_clearPlace_4 rfl rfl ?_
  refine zz_iconst (v := 0) X dX0_clearPlace_5 (by decide) ?_
  refine zz_iast (q0 := 1) (t0 := 0) (j := i) (ws' := wP h a ca N (up2 u 0 i 0)) X rfl rfl rfl hi (by decide) dX0_clearPlace_6 rfl ?_
  refine zz_aload_n X dX0_clearPlace_7 rfl rfl ?_
  refine pp_get (k0 := 1) (v := .ref (a 1)) X imX0 (by decide) (mc flX0_22) rfl dX0_clearPlace_8 ?_
  refine zz_iload_n X dX0_clearPlace_11 rfl rfl ?_
  refine zz_iconst (v := 0) X dX0_clearPlace_12 (by decide) ?_
  refine zz_iast (q0 := 2) (t0 := 1) (j := i) (ws' := wP h a ca N (up2 (up2 u 0 i 0) 1 i 0)) X rfl rfl rfl hi (by decide) dX0_clearPlace_13 rfl ?_
  refine zz_aload_n X dX0_clearPlace_14 rfl rfl ?_
  refine pp_get (k0 := 2) (v := .ref (a 2)) X imX0 (by decide) (mc flX0_25) rfl dX0_clearPlace_15 ?_
  refine zz_iload_n X dX0_clearPlace_18 rfl rfl ?_
  refine zz_iconst (v := 0) X dX0_clearPlace_19 (by decide) ?_
  refine zz_iast (q0 := 3) (t0 := 2) (j := i) (ws' := wP h a ca N (up2 (up2 (up2 u 0 i 0) 1 i 0) 2 i 0)) X rfl rfl rfl hi (by decide) dX0_clearPlace_20 rfl ?_
  refine zz_aload_n X dX0_clearPlace_21 rfl rfl ?_
  refine pp_get (k0 := 3) (v := .ref (a 3)) X imX0 (by decide) (mc flX0_28) rfl dX0_clearPlace_22 ?_
  refine zz_iload_n X dX0_clearPlace_25 rfl rfl ?_
  refine zz_iconst (v := 0) X dX0_clearPlace_26 (by decide) ?_
  refine zz_zast (q0 := 4) (t0 := 3) (j := i) (ws' := wP h a ca N (up2 (up2 (up2 (up2 u 0 i 0) 1 i 0) 2 i 0) 3 i 0)) X rfl rfl rfl hi (by decide) rfl dX0_clearPlace_27 rfl ?_
  refine zz_aload_n X dX0_clearPlace_28 rfl rfl ?_
  refine pp_get (k0 := 4) (v := .ref (a 4)) X imX0 (by decide) (mc flX0_32) rfl dX0_clearPlace_29 ?_
  refine zz_iload_n X dX0_clearPlace_32 rfl rfl ?_
  refine zz_iconst (v := 0) X dX0_clearPlace_33 (by decide) ?_
  refine zz_iast (q0 := 5) (t0 := 4) (j := i) (ws' := wP h a ca N (up2 (up2 (up2 (up2 (up2 u 0 i 0) 1 i 0) 2 i 0) 3 i 0) 4 i 0)) X rfl rfl rfl hi (by decide) dX0_clearPlace_34 rfl ?_
  refine zz_aload_n X dX0_clearPlace_35 rfl rfl ?_
  refine pp_get (k0 := 5) (v := .ref (a 5)) X imX0 (by decide) (mc flX0_35) rfl dX0_clearPlace_36 ?_
  refine zz_iload_n X dX0_clearPlace_39 rfl rfl ?_
  refine zz_iconst (v := 0) X dX0_clearPlace_40 (by decide) ?_
  refine zz_iast (q0 := 6) (t0 := 5) (j := i) (ws' := wP h a ca N (up2 (up2 (up2 (up2 (up2 (up2 u 0 i 0) 1 i 0) 2 i 0) 3 i 0) 4 i 0) 5 i 0)) X rfl rfl rfl hi (by decide) dX0_clearPlace_41 rfl ?_
  refine zz_aload_n X dX0_clearPlace_42 rfl rfl ?_
  refine pp_get (k0 := 6) (v := .ref (a 6)) X imX0 (by decide) (mc flX0_38) rfl dX0_clearPlace_43 ?_
  refine zz_iload_n X dX0_clearPlace_46 rfl rfl ?_
  refine zz_iconst (v := 0) X dX0_clearPlace_47 (by decide) ?_
  refine zz_iast (q0 := 7) (t0 := 6) (j := i) (ws' := wP h a ca N (up2 (up2 (up2 (up2 (up2 (up2 (up2 u 0 i 0) 1 i 0) 2 i 0) 3 i 0) 4 i 0) 5 i 0) 6 i 0)) X rfl rfl rfl hi (by decide) dX0_clearPlace_48 rfl ?_
  refine zz_aload_n X dX0_clearPlace_49 rfl rfl ?_
  refine pp_get (k0 := 7) (v := .ref (a 7)) X imX0 (by decide) (mc flX0_41) rfl dX0_clearPlace_50 ?_
  refine zz_iload_n X dX0_clearPlace_53 rfl rfl ?_
  refine zz_iconst (v := 0) X dX0_clearPlace_54 (by decide) ?_
  refine zz_iast (q0 := 8) (t0 := 7) (j := i) (ws' := wP h a ca N (up2 (up2 (up2 (up2 (up2 (up2 (up2 (up2 u 0 i 0) 1 i 0) 2 i 0) 3 i 0) 4 i 0) 5 i 0) 6 i 0) 7 i 0)) X rfl rfl rfl hi (by decide) dX0_clearPlace_55 rfl ?_
  exact Ev _ _ _ rfl dX0_clearPlace_56 rfl rfl
set_option maxHeartbeats 4000000 in
set_option maxRecDepth 100000 in
theorem c_takeOff {l : Launch} {D : va_G} {h : Nat} {a : Nat → Nat} {ca : Nat → ClassId} {N : Nat} (hN : N < 2 ^ 31) (u : St) (j i : Nat) (hj : j < N) (hi : i < 15) (x : Int32) : cP l D h a ca N yX0_takeOff wsX0_takeOff { frames := 0, cells := 0, slots := 0, locals := 0 } [.int (nI j), .int (nI i), .int x] u none (rOff u j i x) := by
  refine zz_C.of (bytes := cX0_takeOff) (maxL := 4) (ret := none) (lv0 := [some (.ref h), some (.int (nI j)), some (.int (nI i)), some (.int x)]) (by decide) rfl (Nat.le_of_ble_eq_true rfl) rfl rfl ?_
  intro p e s m below meth c A Q X Ei Ev
  refine zz_aload_n X dX0_takeOff_0 rfl rfl ?_
  refine pp_get (k0 := 8) (v := .ref (a 8)) X imX0 (by decide) (mc flX0_44) rfl dX0_takeOff_1 ?_
  refine zz_iload_n X dX0_takeOff_4 rfl rfl ?_
  refine zz_iconst (v := -1) X dX0_takeOff_5 (by decide) ?_
  refine zz_iast (q0 := 9) (t0 := 8) (j := j) (ws' := wP h a ca N (up2 u 8 j (-1))) X rfl rfl rfl hj hN dX0_takeOff_6 rfl ?_
  refine zz_aload_n X dX0_takeOff_7 rfl rfl ?_
  refine pp_get (k0 := 1) (v := .ref (a 1)) X imX0 (by decide) (mc flX0_22) rfl dX0_takeOff_8 ?_
  refine zz_iload_n X dX0_takeOff_11 rfl rfl ?_
  refine zz_iload_n X dX0_takeOff_12 rfl rfl ?_
  refine zz_iast (q0 := 2) (t0 := 1) (j := i) (ws' := wP h a ca N (up2 (up2 u 8 j (-1)) 1 i x)) X rfl rfl rfl hi (by decide) dX0_takeOff_13 rfl ?_
  exact Ev _ _ _ rfl dX0_takeOff_14 rfl rfl
set_option maxHeartbeats 4000000 in
set_option maxRecDepth 100000 in
theorem c_makeReady {l : Launch} {D : va_G} {h : Nat} {a : Nat → Nat} {ca : Nat → ClassId} {N : Nat} (hN : N < 2 ^ 31) (u : St) (i : Nat) (hi : i < 15) : cP l D h a ca N yX0_makeReady wsX0_makeReady { frames := 0, cells := 0, slots := 0, locals := 0 } [.int (nI i)] u none (rRdy u i) := by
  refine zz_C.of (bytes := cX0_makeReady) (maxL := 2) (ret := none) (lv0 := [some (.ref h), some (.int (nI i))]) (by decide) rfl (Nat.le_of_ble_eq_true rfl) rfl rfl ?_
  intro p e s m below meth c A Q X Ei Ev
  refine zz_aload_n X dX0_makeReady_0 rfl rfl ?_
  refine pp_get (k0 := 1) (v := .ref (a 1)) X imX0 (by decide) (mc flX0_22) rfl dX0_makeReady_1 ?_
  refine zz_iload_n X dX0_makeReady_4 rfl rfl ?_
  refine zz_iconst (v := 1) X dX0_makeReady_5 (by decide) ?_
  refine zz_iast (q0 := 2) (t0 := 1) (j := i) (ws' := wP h a ca N (up2 u 1 i 1)) X rfl rfl rfl hi (by decide) dX0_makeReady_6 rfl ?_
  refine zz_aload_n X dX0_makeReady_7 rfl rfl ?_
  refine pp_get (k0 := 5) (v := .ref (a 5)) X imX0 (by decide) (mc flX0_35) rfl dX0_makeReady_8 ?_
  refine zz_iload_n X dX0_makeReady_11 rfl rfl ?_
  refine zz_iconst (v := 0) X dX0_makeReady_12 (by decide) ?_
  refine zz_iast (q0 := 6) (t0 := 5) (j := i) (ws' := wP h a ca N (up2 (up2 u 1 i 1) 5 i 0)) X rfl rfl rfl hi (by decide) dX0_makeReady_13 rfl ?_
  exact Ev _ _ _ rfl dX0_makeReady_14 rfl rfl
set_option maxHeartbeats 4000000 in
set_option maxRecDepth 100000 in
theorem c_countDown {l : Launch} {D : va_G} {h : Nat} {a : Nat → Nat} {ca : Nat → ClassId} {N : Nat} (hN : N < 2 ^ 31) (u : St) (i : Nat) (hi : i < 15) : cP l D h a ca N yX0_countDown wsX0_countDown { frames := 1, cells := 0, slots := 0, locals := 21 } [.int (nI i)] u none (rDwn u i) := by
  refine zz_C.of (bytes := cX0_countDown) (maxL := 2) (ret := none) (lv0 := [some (.ref h), some (.int (nI i))]) (by decide) rfl (Nat.le_of_ble_eq_true rfl) rfl rfl ?_
  intro p e s m below meth c A Q X Ei Ev
  refine zz_aload_n X dX0_countDown_0 rfl rfl ?_
  refine pp_get (k0 := 7) (v := .ref (a 7)) X imX0 (by decide) (mc flX0_41) rfl dX0_countDown_1 ?_
  refine zz_iload_n X dX0_countDown_4 rfl rfl ?_
  refine zz_dup2 X dX0_countDown_5 rfl rfl ?_
  refine zz_iald (q0 := 8) (t0 := 7) (j := i) X rfl rfl rfl hi (by decide) dX0_countDown_6 ?_
  refine zz_iconst (v := 1) X dX0_countDown_7 (by decide) ?_
  refine zz_isub X dX0_countDown_8 ?_
  refine zz_iast (q0 := 8) (t0 := 7) (j := i) (ws' := wP h a ca N (up2 u 7 i ((u 7 i) - 1))) X rfl rfl rfl hi (by decide) dX0_countDown_9 rfl ?_
  refine zz_aload_n X dX0_countDown_10 rfl rfl ?_
  refine pp_get (k0 := 7) (v := .ref (a 7)) X imX0 (by decide) (mc flX0_41) rfl dX0_countDown_11 ?_
  refine zz_iload_n X dX0_countDown_14 rfl rfl ?_
  refine zz_iald (q0 := 8) (t0 := 7) (j := i) X rfl rfl rfl hi (by decide) dX0_countDown_15 ?_
  refine zz_if_gt (tgt := 24) X dX0_countDown_16 (by decide) (fun h1 => ?_) (fun h1 => ?_)
  · exact Ev _ _ _ rfl dX0_countDown_24 rfl (by rw [rDwn, if_pos h1])
  · refine zz_aload_n X dX0_countDown_19 rfl rfl ?_
    refine zz_iload_n X dX0_countDown_20 rfl rfl ?_
    refine pp_callv (rest := []) X (c_makeReady hN (up2 u 7 i ((u 7 i) - 1)) i hi) (cwV 1 X.1.2.2.2.2 (gw lkX0_109 imX0_makeReady seX0_makeReady itX0 cdX0_makeReady) rfl rfl rfl hdX0_makeReady ⟨Nat.le_of_ble_eq_true rfl, Nat.le_of_ble_eq_true rfl⟩) rfl rfl (Nat.le_of_ble_eq_true rfl) dX0_countDown_21 ⟨Nat.zero_le _, Nat.zero_le _⟩ ?_
    exact Ev _ _ _ rfl dX0_countDown_24 rfl (by rw [rDwn, if_neg h1])
set_option maxHeartbeats 4000000 in
set_option maxRecDepth 100000 in
theorem c_tellOfZombie {l : Launch} {D : va_G} {h : Nat} {a : Nat → Nat} {ca : Nat → ClassId} {N : Nat} (hN : N < 2 ^ 31) (u : St) (x : Int32) : cP l D h a ca N yX0_tellOfZombie wsX0_tellOfZombie { frames := 1, cells := 0, slots := 0, locals := 22 } [.int x] u none (rTel u x) := by
  refine zz_C.of (bytes := cX0_tellOfZombie) (maxL := 3) (ret := none) (lv0 := [some (.ref h), some (.int x), none]) (by decide) rfl (Nat.le_of_ble_eq_true rfl) rfl rfl ?_
  intro p e s m below meth c A Q X Ei Ev
  refine zz_aload_n X dX0_tellOfZombie_0 rfl rfl ?_
  refine zz_iload_n X dX0_tellOfZombie_1 rfl rfl ?_
  refine pp_calli (rest := []) X (c_placeOf hN u x) (cwV 1 X.1.2.2.2.2 (gw lkX0_118 imX0_placeOf seX0_placeOf itX0 cdX0_placeOf) rfl rfl rfl hdX0_placeOf ⟨Nat.le_of_ble_eq_true rfl, Nat.le_of_ble_eq_true rfl⟩) rfl rfl (Nat.le_of_ble_eq_true rfl) dX0_tellOfZombie_2 ⟨Nat.zero_le _, Nat.zero_le _⟩ ?_
  refine zz_istore_n (lv' := [some (.ref h), some (.int x), some (.int (rPlc u x))]) X dX0_tellOfZombie_5 rfl (by decide) rfl ?_
  refine zz_iload_n X dX0_tellOfZombie_6 rfl rfl ?_
  refine zz_iconst (v := -1) X dX0_tellOfZombie_7 (by decide) ?_
  refine zz_icmp_eq (tgt := 25) X dX0_tellOfZombie_8 (by decide) (fun h1 => ?_) (fun h1 => ?_)
  · exact Ev _ _ _ rfl dX0_tellOfZombie_25 rfl (by rw [rTel, if_pos h1])
  · obtain ⟨i, hi, -, ei⟩ := zs_P_in h1
    have ei : rPlc u x = nI i := ei
    have ec : (rPlc u x).toNatClampNeg = i := by rw [ei, nI_clamp (by omega)]
    refine zz_lv (lv' := [some (.ref h), some (.int x), some (.int (nI i))]) (by rw [ei]) ?_
    refine zz_aload_n X dX0_tellOfZombie_11 rfl rfl ?_
    refine zz_iload_n X dX0_tellOfZombie_12 rfl rfl ?_
    refine zz_iconst (v := 2) X dX0_tellOfZombie_13 (by decide) ?_
    refine pp_calli (rest := []) X (c_isBlockedFor hN u i hi 2) (cwV 2 X.1.2.2.2.2 (gw lkX0_105 imX0_isBlockedFor seX0_isBlockedFor itX0 cdX0_isBlockedFor) rfl rfl rfl hdX0_isBlockedFor ⟨Nat.le_of_ble_eq_true rfl, Nat.le_of_ble_eq_true rfl⟩) rfl rfl (Nat.le_of_ble_eq_true rfl) dX0_tellOfZombie_14 ⟨Nat.zero_le _, Nat.zero_le _⟩ ?_
    refine zz_if_eq (tgt := 25) X dX0_tellOfZombie_17 (by decide) (fun h2 => ?_) (fun h2 => ?_)
    · exact Ev _ _ _ rfl dX0_tellOfZombie_25 rfl (by rw [rTel, if_neg h1, ec, if_pos h2])
    · refine zz_aload_n X dX0_tellOfZombie_20 rfl rfl ?_
      refine zz_iload_n X dX0_tellOfZombie_21 rfl rfl ?_
      refine pp_callv (rest := []) X (c_makeReady hN u i hi) (cwV 1 X.1.2.2.2.2 (gw lkX0_109 imX0_makeReady seX0_makeReady itX0 cdX0_makeReady) rfl rfl rfl hdX0_makeReady ⟨Nat.le_of_ble_eq_true rfl, Nat.le_of_ble_eq_true rfl⟩) rfl rfl (Nat.le_of_ble_eq_true rfl) dX0_tellOfZombie_22 ⟨Nat.zero_le _, Nat.zero_le _⟩ ?_
      exact Ev _ _ _ rfl dX0_tellOfZombie_25 rfl (by rw [rTel, if_neg h1, ec, if_neg h2])
set_option maxHeartbeats 4000000 in
set_option maxRecDepth 100000 in
theorem c_emptyRing {l : Launch} {D : va_G} {h : Nat} {a : Nat → Nat} {ca : Nat → ClassId} {N : Nat} (hN : N < 2 ^ 31) (u : St) : cP l D h a ca N yX0_emptyRing wsX0_emptyRing { frames := 1, cells := 0, slots := 0, locals := 21 } [] u none (rEmp N u) := by
  refine zz_C.of (bytes := cX0_emptyRing) (maxL := 2) (ret := none) (lv0 := [some (.ref h), none]) (by decide) rfl (Nat.le_of_ble_eq_true rfl) rfl rfl ?_
  intro p e s m below meth c A Q X Ei Ev
  refine zz_iconst (v := 0) X dX0_emptyRing_0 (by decide) ?_
  refine zz_istore_n (lv' := [some (.ref h), some (.int 0)]) X dX0_emptyRing_1 rfl (by decide) rfl ?_
  have loop2 : ∀ (n i : Nat) (v : St), i + n = N → zl (fun i v => up2 v 8 i (-1)) n i v = rEmp N u → zz_V p l e { frames := 1, cells := 0, slots := 0, locals := 21 } s m [.ref h].toArray below meth c 0 0 Q 2 D vwCl A (wP h a ca N v) [some (.ref h), some (.int (nI i))] 21 [] := by
    intro n
    induction n with
    | zero =>
      intro i v hi hz
      refine zz_iload_n X dX0_emptyRing_21 rfl rfl ?_
      refine zz_aload_n X dX0_emptyRing_22 rfl rfl ?_
      refine pp_get (k0 := 8) (v := .ref (a 8)) X imX0 (by decide) (mc flX0_44) rfl dX0_emptyRing_23 ?_
      refine zz_alen (q0 := 9) (t0 := 8) X rfl rfl dX0_emptyRing_26 ?_
      refine zz_icmp_ge (tgt := 43) X dX0_emptyRing_27 (by decide) (fun hq => ?_) (fun hq => absurd (nI_le (by omega) (by omega)) hq)
      exact Ev _ _ _ rfl dX0_emptyRing_43 rfl (by rw [← hz]; rfl)
    | succ n ih =>
      intro i v hi hz
      have hlt : i < N := by omega
      refine zz_iload_n X dX0_emptyRing_21 rfl rfl ?_
      refine zz_aload_n X dX0_emptyRing_22 rfl rfl ?_
      refine pp_get (k0 := 8) (v := .ref (a 8)) X imX0 (by decide) (mc flX0_44) rfl dX0_emptyRing_23 ?_
      refine zz_alen (q0 := 9) (t0 := 8) X rfl rfl dX0_emptyRing_26 ?_
      refine zz_icmp_ge (tgt := 43) X dX0_emptyRing_27 (by decide) (fun hq => absurd hq (nI_ge hlt (by omega))) (fun hq => ?_)
      refine zz_aload_n X dX0_emptyRing_30 rfl rfl ?_
      refine pp_get (k0 := 8) (v := .ref (a 8)) X imX0 (by decide) (mc flX0_44) rfl dX0_emptyRing_31 ?_
      refine zz_iload_n X dX0_emptyRing_34 rfl rfl ?_
      refine zz_iconst (v := -1) X dX0_emptyRing_35 (by decide) ?_
      refine zz_iast (q0 := 9) (t0 := 8) (j := i) (ws' := wP h a ca N (up2 v 8 i (-1))) X rfl rfl rfl hlt hN dX0_emptyRing_36 rfl ?_
      refine zz_iinc (v := (nI (i + 1))) (lv' := [some (.ref h), some (.int (nI (i + 1)))]) X dX0_emptyRing_37 rfl (nI_1 _) (by decide) rfl ?_
      refine zz_goto (tgt := 21) X dX0_emptyRing_40 (by decide) ?_
      exact ih (i + 1) _ (by omega) hz
  have loop : ∀ (n i : Nat) (v : St), i + n = 15 → zl (fun i v => rClr v i) n i v = zl (fun i v => rClr v i) 15 0 u → zz_V p l e { frames := 1, cells := 0, slots := 0, locals := 21 } s m [.ref h].toArray below meth c 0 0 Q 2 D vwCl A (wP h a ca N v) [some (.ref h), some (.int (nI i))] 2 [] := by
    intro n
    induction n with
    | zero =>
      intro i v hi hz
      refine zz_iload_n X dX0_emptyRing_2 rfl rfl ?_
      refine zz_bipush (v := 15) X dX0_emptyRing_3 (by decide) ?_
      refine zz_icmp_ge (tgt := 19) X dX0_emptyRing_5 (by decide) (fun hq => ?_) (fun hq => absurd (nI_le (a := 15) (by omega) (by omega)) hq)
      refine zz_iconst (v := 0) X dX0_emptyRing_19 (by decide) ?_
      refine zz_istore_n (lv' := [some (.ref h), some (.int 0)]) X dX0_emptyRing_20 rfl (by decide) rfl ?_
      exact loop2 N 0 v (Nat.zero_add _) (by rw [rEmp, ← hz]; rfl)
    | succ n ih =>
      intro i v hi hz
      have hlt : i < 15 := by omega
      refine zz_iload_n X dX0_emptyRing_2 rfl rfl ?_
      refine zz_bipush (v := 15) X dX0_emptyRing_3 (by decide) ?_
      refine zz_icmp_ge (tgt := 19) X dX0_emptyRing_5 (by decide) (fun hq => absurd hq (nI_ge (b := 15) hlt (by decide))) (fun hq => ?_)
      refine zz_aload_n X dX0_emptyRing_8 rfl rfl ?_
      refine zz_iload_n X dX0_emptyRing_9 rfl rfl ?_
      refine pp_callv (rest := []) X (c_clearPlace hN v i hlt) (cwV 1 X.1.2.2.2.2 (gw lkX0_102 imX0_clearPlace seX0_clearPlace itX0 cdX0_clearPlace) rfl rfl rfl hdX0_clearPlace ⟨Nat.le_of_ble_eq_true rfl, Nat.le_of_ble_eq_true rfl⟩) rfl rfl (Nat.le_of_ble_eq_true rfl) dX0_emptyRing_10 ⟨Nat.zero_le _, Nat.zero_le _⟩ ?_
      refine zz_iinc (v := (nI (i + 1))) (lv' := [some (.ref h), some (.int (nI (i + 1)))]) X dX0_emptyRing_13 rfl (nI_1 _) (by decide) rfl ?_
      refine zz_goto (tgt := 2) X dX0_emptyRing_16 (by decide) ?_
      exact ih (i + 1) _ (by omega) hz
  exact loop 15 0 u rfl rfl
set_option maxHeartbeats 4000000 in
set_option maxRecDepth 100000 in
theorem c_handOnChildren {l : Launch} {D : va_G} {h : Nat} {a : Nat → Nat} {ca : Nat → ClassId} {N : Nat} (hN : N < 2 ^ 31) (u : St) (x : Int32) : cP l D h a ca N yX0_handOnChildren wsX0_handOnChildren { frames := 2, cells := 0, slots := 0, locals := 44 } [.int x] u none (rHnd u x) := by
  refine zz_C.of (bytes := cX0_handOnChildren) (maxL := 3) (ret := none) (lv0 := [some (.ref h), some (.int x), none]) (by decide) rfl (Nat.le_of_ble_eq_true rfl) rfl rfl ?_
  intro p e s m below meth c A Q X Ei Ev
  refine zz_iconst (v := 0) X dX0_handOnChildren_0 (by decide) ?_
  refine zz_istore_n (lv' := [some (.ref h), some (.int x), some (.int 0)]) X dX0_handOnChildren_1 rfl (by decide) rfl ?_
  have loop : ∀ (n i : Nat) (v : St), i + n = 15 → zl (rHnd1 x) n i v = rHnd u x → zz_V p l e { frames := 2, cells := 0, slots := 0, locals := 44 } s m [.ref h, .int x].toArray below meth c 0 0 Q 3 D vwCl A (wP h a ca N v) [some (.ref h), some (.int x), some (.int (nI i))] 2 [] := by
    intro n
    induction n with
    | zero =>
      intro i v hi hz
      refine zz_iload_n X dX0_handOnChildren_2 rfl rfl ?_
      refine zz_bipush (v := 15) X dX0_handOnChildren_3 (by decide) ?_
      refine zz_icmp_ge (tgt := 45) X dX0_handOnChildren_5 (by decide) (fun hq => ?_) (fun hq => absurd (nI_le (a := 15) (by omega) (by omega)) hq)
      exact Ev _ _ _ rfl dX0_handOnChildren_45 rfl (by rw [← hz]; rfl)
    | succ n ih =>
      intro i v hi hz
      have hlt : i < 15 := by omega
      refine zz_iload_n X dX0_handOnChildren_2 rfl rfl ?_
      refine zz_bipush (v := 15) X dX0_handOnChildren_3 (by decide) ?_
      refine zz_icmp_ge (tgt := 45) X dX0_handOnChildren_5 (by decide) (fun hq => absurd hq (nI_ge (b := 15) hlt (by decide))) (fun hq => ?_)
      refine zz_aload_n X dX0_handOnChildren_8 rfl rfl ?_
      refine zz_iload_n X dX0_handOnChildren_9 rfl rfl ?_
      refine zz_iload_n X dX0_handOnChildren_10 rfl rfl ?_
      refine pp_calli (rest := []) X (c_isChild hN v i hlt x) (cwV 2 X.1.2.2.2.2 (gw lkX0_124 imX0_isChild seX0_isChild itX0 cdX0_isChild) rfl rfl rfl hdX0_isChild ⟨Nat.le_of_ble_eq_true rfl, Nat.le_of_ble_eq_true rfl⟩) rfl rfl (Nat.le_of_ble_eq_true rfl) dX0_handOnChildren_11 ⟨Nat.zero_le _, Nat.zero_le _⟩ ?_
      refine zz_if_eq (tgt := 39) X dX0_handOnChildren_14 (by decide) (fun h1 => ?_) (fun h1 => ?_)
      · refine zz_iinc (v := (nI (i + 1))) (lv' := [some (.ref h), some (.int x), some (.int (nI (i + 1)))]) X dX0_handOnChildren_39 rfl (nI_1 _) (by decide) rfl ?_
        refine zz_goto (tgt := 2) X dX0_handOnChildren_42 (by decide) ?_
        exact ih (i + 1) _ (by omega) (by rw [← hz, zl, rHnd1, if_pos h1])
      · refine zz_aload_n X dX0_handOnChildren_17 rfl rfl ?_
        refine pp_get (k0 := 2) (v := .ref (a 2)) X imX0 (by decide) (mc flX0_25) rfl dX0_handOnChildren_18 ?_
        refine zz_iload_n X dX0_handOnChildren_21 rfl rfl ?_
        refine zz_iconst (v := 1) X dX0_handOnChildren_22 (by decide) ?_
        refine zz_iast (q0 := 3) (t0 := 2) (j := i) (ws' := wP h a ca N (up2 v 2 i 1)) X rfl rfl rfl hlt (by decide) dX0_handOnChildren_23 rfl ?_
        refine zz_aload_n X dX0_handOnChildren_24 rfl rfl ?_
        refine pp_get (k0 := 1) (v := .ref (a 1)) X imX0 (by decide) (mc flX0_22) rfl dX0_handOnChildren_25 ?_
        refine zz_iload_n X dX0_handOnChildren_28 rfl rfl ?_
        refine zz_iald (q0 := 2) (t0 := 1) (j := i) X rfl rfl rfl hlt (by decide) dX0_handOnChildren_29 ?_
        refine zz_iconst (v := 4) X dX0_handOnChildren_30 (by decide) ?_
        refine zz_icmp_ne (tgt := 39) X dX0_handOnChildren_31 (by decide) (fun h2 => ?_) (fun h2 => ?_)
        · refine zz_iinc (v := (nI (i + 1))) (lv' := [some (.ref h), some (.int x), some (.int (nI (i + 1)))]) X dX0_handOnChildren_39 rfl (nI_1 _) (by decide) rfl ?_
          refine zz_goto (tgt := 2) X dX0_handOnChildren_42 (by decide) ?_
          exact ih (i + 1) _ (by omega) (by rw [← hz, zl, rHnd1, if_neg h1, if_neg h2])
        · refine zz_aload_n X dX0_handOnChildren_34 rfl rfl ?_
          refine zz_iconst (v := 1) X dX0_handOnChildren_35 (by decide) ?_
          refine pp_callv (rest := []) X (c_tellOfZombie hN (up2 v 2 i 1) 1) (cwV 1 X.1.2.2.2.2 (gw lkX0_93 imX0_tellOfZombie seX0_tellOfZombie itX0 cdX0_tellOfZombie) rfl rfl rfl hdX0_tellOfZombie ⟨Nat.le_of_ble_eq_true rfl, Nat.le_of_ble_eq_true rfl⟩) rfl rfl (Nat.le_of_ble_eq_true rfl) dX0_handOnChildren_36 ⟨Nat.zero_le _, Nat.zero_le _⟩ ?_
          refine zz_iinc (v := (nI (i + 1))) (lv' := [some (.ref h), some (.int x), some (.int (nI (i + 1)))]) X dX0_handOnChildren_39 rfl (nI_1 _) (by decide) rfl ?_
          refine zz_goto (tgt := 2) X dX0_handOnChildren_42 (by decide) ?_
          exact ih (i + 1) _ (by omega) (by rw [← hz, zl, rHnd1, if_neg h1, if_pos h2])
  exact loop 15 0 u rfl rfl
end
section
set_option maxHeartbeats 4000000 in
set_option maxRecDepth 100000 in
theorem c_first {l : Launch} {D : va_G} {h : Nat} {a : Nat → Nat} {ca : Nat → ClassId} {N : Nat} (hN : N < 2 ^ 31) (u : St) : cP l D h a ca N yX0_first wsX0_first { frames := 1, cells := 0, slots := 0, locals := 23 } [] u (some (.int (rFst u).1)) (rFst u).2 := by
  refine zz_C.of (bytes := cX0_first) (maxL := 1) (ret := (some .boolean)) (lv0 := [some (.ref h)]) (by decide) rfl (Nat.le_of_ble_eq_true rfl) rfl rfl ?_
  intro p e s m below meth c A Q X Ei Ev
  refine zz_aload_n X dX0_first_0 rfl rfl ?_
  refine pp_calli (rest := []) X (c_isEmptyRing hN u) (cwV 0 X.1.2.2.2.2 (gw lkX0_60 imX0_isEmptyRing seX0_isEmptyRing itX0 cdX0_isEmptyRing) rfl rfl rfl hdX0_isEmptyRing ⟨Nat.le_of_ble_eq_true rfl, Nat.le_of_ble_eq_true rfl⟩) rfl rfl (Nat.le_of_ble_eq_true rfl) dX0_first_1 ⟨Nat.zero_le _, Nat.zero_le _⟩ ?_
  refine zz_if_ne (tgt := 9) X dX0_first_4 (by decide) (fun h1 => ?_) (fun h1 => ?_)
  · refine zz_aload_n X dX0_first_9 rfl rfl ?_
    refine zz_iconst (v := 0) X dX0_first_10 (by decide) ?_
    refine pp_put (k0 := 11) (u2 := (up2 u 9 2 0)) X imX0 (by decide) (mc flX0_54) (by decide) (by decide +kernel) dX0_first_11 rfl ?_
    refine zz_aload_n X dX0_first_14 rfl rfl ?_
    refine zz_bipush (v := 14) X dX0_first_15 (by decide) ?_
    refine pp_put (k0 := 9) (u2 := (up2 (up2 u 9 2 0) 9 0 14)) X imX0 (by decide) (mc flX0_47) (by decide) (by decide +kernel) dX0_first_17 rfl ?_
    refine zz_aload_n X dX0_first_20 rfl rfl ?_
    refine zz_iconst (v := 1) X dX0_first_21 (by decide) ?_
    refine pp_put (k0 := 10) (u2 := (up2 (up2 (up2 u 9 2 0) 9 0 14) 9 1 1)) X imX0 (by decide) (mc flX0_51) (by decide) (by decide +kernel) dX0_first_22 rfl ?_
    refine zz_aload_n X dX0_first_25 rfl rfl ?_
    refine zz_iconst (v := 0) X dX0_first_26 (by decide) ?_
    refine zz_iconst (v := 1) X dX0_first_27 (by decide) ?_
    refine zz_iconst (v := 0) X dX0_first_28 (by decide) ?_
    refine pp_callv (rest := []) X (c_settle hN (up2 (up2 (up2 u 9 2 0) 9 0 14) 9 1 1) 0 (by decide) 1 0) (cwV 3 X.1.2.2.2.2 (gw lkX0_64 imX0_settle seX0_settle itX0 cdX0_settle) rfl rfl rfl hdX0_settle ⟨Nat.le_of_ble_eq_true rfl, Nat.le_of_ble_eq_true rfl⟩) rfl rfl (Nat.le_of_ble_eq_true rfl) dX0_first_29 ⟨Nat.zero_le _, Nat.zero_le _⟩ ?_
    refine zz_iconst (v := 1) X dX0_first_32 (by decide) ?_
    have e1 : rFst u = (1, (rSet (up2 (up2 (up2 u 9 2 0) 9 0 14) 9 1 1) 0 1 0)) := by simp [rFst, h1]
    exact Ei _ _ _ _ _ rfl rfl dX0_first_33 (by rw [e1]) (by rw [e1])
  · refine zz_iconst (v := 0) X dX0_first_7 (by decide) ?_
    have e1 : rFst u = (0, u) := by simp [rFst, h1]
    exact Ei _ _ _ _ _ rfl rfl dX0_first_8 (by rw [e1]) (by rw [e1])
set_option maxHeartbeats 4000000 in
set_option maxRecDepth 100000 in
theorem c_pick {l : Launch} {D : va_G} {h : Nat} {a : Nat → Nat} {ca : Nat → ClassId} {N : Nat} (hN : N < 2 ^ 31) (u : St) (hI : rI N u) (x : Int32) : cP l D h a ca N yX0_pick wsX0_pick { frames := 1, cells := 0, slots := 0, locals := 22 } [.int x] u (some (.int (rPck N u x).1)) (rPck N u x).2 := by
  refine zz_C.of (bytes := cX0_pick) (maxL := 3) (ret := (some .int)) (lv0 := [some (.ref h), some (.int x), none]) (by decide) rfl (Nat.le_of_ble_eq_true rfl) rfl rfl ?_
  intro p e s m below meth c A Q X Ei Ev
  refine zz_aload_n X dX0_pick_0 rfl rfl ?_
  refine zz_iload_n X dX0_pick_1 rfl rfl ?_
  refine pp_calli (rest := []) X (c_isProcessor hN u x) (cwV 1 X.1.2.2.2.2 (gw lkX0_68 imX0_isProcessor seX0_isProcessor itX0 cdX0_isProcessor) rfl rfl rfl hdX0_isProcessor ⟨Nat.le_of_ble_eq_true rfl, Nat.le_of_ble_eq_true rfl⟩) rfl rfl (Nat.le_of_ble_eq_true rfl) dX0_pick_2 ⟨Nat.zero_le _, Nat.zero_le _⟩ ?_
  refine zz_if_ne (tgt := 10) X dX0_pick_5 (by decide) (fun h1 => ?_) (fun h1 => ?_)
  · obtain ⟨j, hj, rfl⟩ := rIsP_ix hN h1
    obtain ⟨t, ht, et⟩ := hI.2
    have cj := nI_clamp (show j < 2 ^ 31 by omega)
    have ct := nI_clamp (show t < 2 ^ 31 by omega)
    refine zz_aload_n X dX0_pick_10 rfl rfl ?_
    refine pp_get (k0 := 8) (v := .ref (a 8)) X imX0 (by decide) (mc flX0_44) rfl dX0_pick_11 ?_
    refine zz_iload_n X dX0_pick_14 rfl rfl ?_
    refine zz_iald (q0 := 9) (t0 := 8) (j := j) X rfl rfl rfl hj hN dX0_pick_15 ?_
    refine zz_iconst (v := -1) X dX0_pick_16 (by decide) ?_
    refine zz_icmp_eq (tgt := 27) X dX0_pick_17 (by decide) (fun h2 => ?_) (fun h2 => ?_)
    · refine zz_aload_n X dX0_pick_27 rfl rfl ?_
      refine pp_calli (rest := []) X (c_nextReady hN u t ht et) (cwV 0 X.1.2.2.2.2 (gw lkX0_72 imX0_nextReady seX0_nextReady itX0 cdX0_nextReady) rfl rfl rfl hdX0_nextReady ⟨Nat.le_of_ble_eq_true rfl, Nat.le_of_ble_eq_true rfl⟩) rfl rfl (Nat.le_of_ble_eq_true rfl) dX0_pick_28 ⟨Nat.zero_le _, Nat.zero_le _⟩ ?_
      refine zz_istore_n (lv' := [some (.ref h), some (.int (nI j)), some (.int (rNxt u t))]) X dX0_pick_31 rfl (by decide) rfl ?_
      refine zz_iload_n X dX0_pick_32 rfl rfl ?_
      refine zz_iconst (v := -1) X dX0_pick_33 (by decide) ?_
      refine zz_icmp_ne (tgt := 39) X dX0_pick_34 (by decide) (fun h3 => ?_) (fun h3 => ?_)
      · obtain ⟨i, hi, -, ei⟩ := zn_P_in h3
        have ei : rNxt u t = nI i := ei
        have hm := nI_m1 (show i < 2 ^ 31 by omega)
        have ci := nI_clamp (show i < 2 ^ 31 by omega)
        refine zz_lv (lv' := [some (.ref h), some (.int (nI j)), some (.int (nI i))]) (by rw [ei]) ?_
        refine zz_aload_n X dX0_pick_39 rfl rfl ?_
        refine pp_get (k0 := 1) (v := .ref (a 1)) X imX0 (by decide) (mc flX0_22) rfl dX0_pick_40 ?_
        refine zz_iload_n X dX0_pick_43 rfl rfl ?_
        refine zz_iconst (v := 2) X dX0_pick_44 (by decide) ?_
        refine zz_iast (q0 := 2) (t0 := 1) (j := i) (ws' := wP h a ca N (up2 u 1 i 2)) X rfl rfl rfl hi (by decide) dX0_pick_45 rfl ?_
        refine zz_aload_n X dX0_pick_46 rfl rfl ?_
        refine pp_get (k0 := 8) (v := .ref (a 8)) X imX0 (by decide) (mc flX0_44) rfl dX0_pick_47 ?_
        refine zz_iload_n X dX0_pick_50 rfl rfl ?_
        refine zz_iload_n X dX0_pick_51 rfl rfl ?_
        refine zz_iast (q0 := 9) (t0 := 8) (j := j) (ws' := wP h a ca N ((up2 (up2 u 1 i 2) 8 j (nI i)))) X rfl rfl rfl hj hN dX0_pick_52 rfl ?_
        refine zz_aload_n X dX0_pick_53 rfl rfl ?_
        refine zz_iload_n X dX0_pick_54 rfl rfl ?_
        refine pp_put (k0 := 9) (u2 := (up2 (up2 (up2 u 1 i 2) 8 j (nI i)) 9 0 (nI i))) X imX0 (by decide) (mc flX0_47) (by decide) (by decide +kernel) dX0_pick_55 rfl ?_
        refine zz_iload_n X dX0_pick_58 rfl rfl ?_
        have e1 : rPck N u (nI j) = (nI i, (up2 (up2 (up2 u 1 i 2) 8 j (nI i)) 9 0 (nI i))) := by simp [rPck, h1, cl, cj, h2, et, ct, ei, hm, ci]
        exact Ei _ _ _ _ _ rfl rfl dX0_pick_59 (by rw [e1]) (by rw [e1])
      · refine zz_iconst (v := -1) X dX0_pick_37 (by decide) ?_
        have e1 : rPck N u (nI j) = (-1, u) := by simp [rPck, h1, cl, cj, h2, et, ct, h3]
        exact Ei _ _ _ _ _ rfl rfl dX0_pick_38 (by rw [e1]) (by rw [e1])
    · refine zz_aload_n X dX0_pick_20 rfl rfl ?_
      refine pp_get (k0 := 8) (v := .ref (a 8)) X imX0 (by decide) (mc flX0_44) rfl dX0_pick_21 ?_
      refine zz_iload_n X dX0_pick_24 rfl rfl ?_
      refine zz_iald (q0 := 9) (t0 := 8) (j := j) X rfl rfl rfl hj hN dX0_pick_25 ?_
      have e1 : rPck N u (nI j) = (u 8 j, u) := by simp [rPck, h1, cl, cj, h2]
      exact Ei _ _ _ _ _ rfl rfl dX0_pick_26 (by rw [e1]) (by rw [e1])
  · refine zz_iconst (v := -1) X dX0_pick_8 (by decide) ?_
    have e1 : rPck N u x = (-1, u) := by simp [rPck, h1]
    exact Ei _ _ _ _ _ rfl rfl dX0_pick_9 (by rw [e1]) (by rw [e1])
set_option maxHeartbeats 4000000 in
set_option maxRecDepth 100000 in
theorem c_fork {l : Launch} {D : va_G} {h : Nat} {a : Nat → Nat} {ca : Nat → ClassId} {N : Nat} (hN : N < 2 ^ 31) (u : St) (hI : rI N u) (x : Int32) : cP l D h a ca N yX0_fork wsX0_fork { frames := 2, cells := 0, slots := 0, locals := 42 } [.int x] u (some (.int (rFrk N u x).1)) (rFrk N u x).2 := by
  refine zz_C.of (bytes := cX0_fork) (maxL := 4) (ret := (some .int)) (lv0 := [some (.ref h), some (.int x), none, none]) (by decide) rfl (Nat.le_of_ble_eq_true rfl) rfl rfl ?_
  intro p e s m below meth c A Q X Ei Ev
  refine zz_aload_n X dX0_fork_0 rfl rfl ?_
  refine zz_iload_n X dX0_fork_1 rfl rfl ?_
  refine pp_calli (rest := []) X (c_placeOn hN u x) (cwV 1 X.1.2.2.2.2 (gw lkX0_76 imX0_placeOn seX0_placeOn itX0 cdX0_placeOn) rfl rfl rfl hdX0_placeOn ⟨Nat.le_of_ble_eq_true rfl, Nat.le_of_ble_eq_true rfl⟩) rfl rfl (Nat.le_of_ble_eq_true rfl) dX0_fork_2 ⟨Nat.zero_le _, Nat.zero_le _⟩ ?_
  refine zz_istore_n (lv' := [some (.ref h), some (.int x), some (.int (rOn N u x)), none]) X dX0_fork_5 rfl (by decide) rfl ?_
  refine zz_iload_n X dX0_fork_6 rfl rfl ?_
  refine zz_iconst (v := -1) X dX0_fork_7 (by decide) ?_
  refine zz_icmp_ne (tgt := 13) X dX0_fork_8 (by decide) (fun h1 => ?_) (fun h1 => ?_)
  · obtain ⟨j, i, hj, hi, rfl, ei⟩ := rOn_ix hN hI h1
    have hm := nI_m1 (show i < 2 ^ 31 by omega)
    have ci := nI_clamp (show i < 2 ^ 31 by omega)
    have cj := nI_clamp (show j < 2 ^ 31 by omega)
    refine zz_lv (lv' := [some (.ref h), some (.int (nI j)), some (.int (nI i)), none]) (by rw [ei]) ?_
    refine zz_aload_n X dX0_fork_13 rfl rfl ?_
    refine pp_calli (rest := []) X (c_firstFree hN u) (cwV 0 X.1.2.2.2.2 (gw lkX0_80 imX0_firstFree seX0_firstFree itX0 cdX0_firstFree) rfl rfl rfl hdX0_firstFree ⟨Nat.le_of_ble_eq_true rfl, Nat.le_of_ble_eq_true rfl⟩) rfl rfl (Nat.le_of_ble_eq_true rfl) dX0_fork_14 ⟨Nat.zero_le _, Nat.zero_le _⟩ ?_
    refine zz_istore_n (lv' := [some (.ref h), some (.int (nI j)), some (.int (nI i)), some (.int (rFre u))]) X dX0_fork_17 rfl (by decide) rfl ?_
    refine zz_iload_n X dX0_fork_18 rfl rfl ?_
    refine zz_iconst (v := -1) X dX0_fork_19 (by decide) ?_
    refine zz_icmp_ne (tgt := 25) X dX0_fork_20 (by decide) (fun h2 => ?_) (fun h2 => ?_)
    · obtain ⟨k, hk, -, ek⟩ := zs_P_in h2
      have ek : rFre u = nI k := ek
      have hm2 := nI_m1 (show k < 2 ^ 31 by omega)
      have ck := nI_clamp (show k < 2 ^ 31 by omega)
      refine zz_lv (lv' := [some (.ref h), some (.int (nI j)), some (.int (nI i)), some (.int (nI k))]) (by rw [ek]) ?_
      refine zz_aload_n X dX0_fork_25 rfl rfl ?_
      refine zz_dup X dX0_fork_26 rfl ?_
      refine pp_get (k0 := 10) (v := .int (u 9 1)) X imX0 (by decide) (mc flX0_51) rfl dX0_fork_27 ?_
      refine zz_iconst (v := 1) X dX0_fork_30 (by decide) ?_
      refine zz_iadd X dX0_fork_31 ?_
      refine pp_put (k0 := 10) (u2 := (up2 u 9 1 ((u 9 1) + 1))) X imX0 (by decide) (mc flX0_51) (by decide) (by decide +kernel) dX0_fork_32 rfl ?_
      refine zz_aload_n X dX0_fork_35 rfl rfl ?_
      refine zz_iload_n X dX0_fork_36 rfl rfl ?_
      refine zz_aload_n X dX0_fork_37 rfl rfl ?_
      refine pp_get (k0 := 10) (v := .int ((up2 u 9 1 ((u 9 1) + 1)) 9 1)) X imX0 (by decide) (mc flX0_51) rfl dX0_fork_38 ?_
      refine zz_aload_n X dX0_fork_41 rfl rfl ?_
      refine pp_get (k0 := 0) (v := .ref (a 0)) X imX0 (by decide) (mc flX0_18) rfl dX0_fork_42 ?_
      refine zz_iload_n X dX0_fork_45 rfl rfl ?_
      refine zz_iald (q0 := 1) (t0 := 0) (j := i) X rfl rfl rfl hi (by decide) dX0_fork_46 ?_
      refine pp_callv (rest := []) X (c_settle hN (up2 u 9 1 ((u 9 1) + 1)) k hk ((up2 u 9 1 ((u 9 1) + 1)) 9 1) ((up2 u 9 1 ((u 9 1) + 1)) 0 i)) (cwV 3 X.1.2.2.2.2 (gw lkX0_64 imX0_settle seX0_settle itX0 cdX0_settle) rfl rfl rfl hdX0_settle ⟨Nat.le_of_ble_eq_true rfl, Nat.le_of_ble_eq_true rfl⟩) rfl rfl (Nat.le_of_ble_eq_true rfl) dX0_fork_47 ⟨Nat.zero_le _, Nat.zero_le _⟩ ?_
      refine zz_iload_n X dX0_fork_50 rfl rfl ?_
      have e1 : rFrk N u (nI j) = (nI k, (rSet (up2 u 9 1 ((u 9 1) + 1)) k ((up2 u 9 1 ((u 9 1) + 1)) 9 1) ((up2 u 9 1 ((u 9 1) + 1)) 0 i))) := by simp [rFrk, ei, hm, ek, hm2, cl, ci, ck]
      exact Ei _ _ _ _ _ rfl rfl dX0_fork_51 (by rw [e1]) (by rw [e1])
    · refine zz_iconst (v := -1) X dX0_fork_23 (by decide) ?_
      have e1 : rFrk N u (nI j) = (-1, u) := by simp [rFrk, ei, hm, h2]
      exact Ei _ _ _ _ _ rfl rfl dX0_fork_24 (by rw [e1]) (by rw [e1])
  · refine zz_iconst (v := -1) X dX0_fork_11 (by decide) ?_
    have e1 : rFrk N u x = (-1, u) := by simp [rFrk, h1]
    exact Ei _ _ _ _ _ rfl rfl dX0_fork_12 (by rw [e1]) (by rw [e1])
set_option maxHeartbeats 4000000 in
set_option maxRecDepth 100000 in
theorem c_exit {l : Launch} {D : va_G} {h : Nat} {a : Nat → Nat} {ca : Nat → ClassId} {N : Nat} (hN : N < 2 ^ 31) (u : St) (hI : rI N u) (x y : Int32) : cP l D h a ca N yX0_exit wsX0_exit { frames := 3, cells := 0, slots := 0, locals := 66 } [.int x, .int y] u (some (.int (rExt N u x y).1)) (rExt N u x y).2 := by
  refine zz_C.of (bytes := cX0_exit) (maxL := 4) (ret := (some .int)) (lv0 := [some (.ref h), some (.int x), some (.int y), none]) (by decide) rfl (Nat.le_of_ble_eq_true rfl) rfl rfl ?_
  intro p e s m below meth c A Q X Ei Ev
  refine zz_aload_n X dX0_exit_0 rfl rfl ?_
  refine zz_iload_n X dX0_exit_1 rfl rfl ?_
  refine pp_calli (rest := []) X (c_placeOn hN u x) (cwV 1 X.1.2.2.2.2 (gw lkX0_76 imX0_placeOn seX0_placeOn itX0 cdX0_placeOn) rfl rfl rfl hdX0_placeOn ⟨Nat.le_of_ble_eq_true rfl, Nat.le_of_ble_eq_true rfl⟩) rfl rfl (Nat.le_of_ble_eq_true rfl) dX0_exit_2 ⟨Nat.zero_le _, Nat.zero_le _⟩ ?_
  refine zz_istore_n (lv' := [some (.ref h), some (.int x), some (.int y), some (.int (rOn N u x))]) X dX0_exit_5 rfl (by decide) rfl ?_
  refine zz_iload_n X dX0_exit_6 rfl rfl ?_
  refine zz_iconst (v := -1) X dX0_exit_7 (by decide) ?_
  refine zz_icmp_ne (tgt := 13) X dX0_exit_8 (by decide) (fun h1 => ?_) (fun h1 => ?_)
  · obtain ⟨j, i, hj, hi, rfl, ei⟩ := rOn_ix hN hI h1
    have hm := nI_m1 (show i < 2 ^ 31 by omega)
    have ci := nI_clamp (show i < 2 ^ 31 by omega)
    have cj := nI_clamp (show j < 2 ^ 31 by omega)
    refine zz_lv (lv' := [some (.ref h), some (.int (nI j)), some (.int y), some (.int (nI i))]) (by rw [ei]) ?_
    refine zz_iload_n X dX0_exit_13 rfl rfl ?_
    refine zz_if_ne (tgt := 28) X dX0_exit_14 (by decide) (fun h2 => ?_) (fun h2 => ?_)
    · refine zz_aload_n X dX0_exit_28 rfl rfl ?_
      refine zz_iload_n X dX0_exit_29 rfl rfl ?_
      refine zz_iload_n X dX0_exit_30 rfl rfl ?_
      refine zz_iconst (v := 4) X dX0_exit_31 (by decide) ?_
      refine pp_callv (rest := []) X (c_takeOff hN u j i hj hi 4) (cwV 3 X.1.2.2.2.2 (gw lkX0_86 imX0_takeOff seX0_takeOff itX0 cdX0_takeOff) rfl rfl rfl hdX0_takeOff ⟨Nat.le_of_ble_eq_true rfl, Nat.le_of_ble_eq_true rfl⟩) rfl rfl (Nat.le_of_ble_eq_true rfl) dX0_exit_32 ⟨Nat.zero_le _, Nat.zero_le _⟩ ?_
      refine zz_aload_n X dX0_exit_35 rfl rfl ?_
      refine pp_get (k0 := 4) (v := .ref (a 4)) X imX0 (by decide) (mc flX0_32) rfl dX0_exit_36 ?_
      refine zz_iload_n X dX0_exit_39 rfl rfl ?_
      refine zz_iload_n X dX0_exit_40 rfl rfl ?_
      refine zz_iast (q0 := 5) (t0 := 4) (j := i) (ws' := wP h a ca N (up2 (rOff u j i 4) 4 i y)) X rfl rfl rfl hi (by decide) dX0_exit_41 rfl ?_
      refine zz_aload_n X dX0_exit_42 rfl rfl ?_
      refine zz_aload_n X dX0_exit_43 rfl rfl ?_
      refine pp_get (k0 := 0) (v := .ref (a 0)) X imX0 (by decide) (mc flX0_18) rfl dX0_exit_44 ?_
      refine zz_iload_n X dX0_exit_47 rfl rfl ?_
      refine zz_iald (q0 := 1) (t0 := 0) (j := i) X rfl rfl rfl hi (by decide) dX0_exit_48 ?_
      refine pp_callv (rest := []) X (c_handOnChildren hN (up2 (rOff u j i 4) 4 i y) ((up2 (rOff u j i 4) 4 i y) 0 i)) (cwV 1 X.1.2.2.2.2 (gw lkX0_89 imX0_handOnChildren seX0_handOnChildren itX0 cdX0_handOnChildren) rfl rfl rfl hdX0_handOnChildren ⟨Nat.le_of_ble_eq_true rfl, Nat.le_of_ble_eq_true rfl⟩) rfl rfl (Nat.le_of_ble_eq_true rfl) dX0_exit_49 ⟨Nat.zero_le _, Nat.zero_le _⟩ ?_
      refine zz_aload_n X dX0_exit_52 rfl rfl ?_
      refine zz_aload_n X dX0_exit_53 rfl rfl ?_
      refine pp_get (k0 := 2) (v := .ref (a 2)) X imX0 (by decide) (mc flX0_25) rfl dX0_exit_54 ?_
      refine zz_iload_n X dX0_exit_57 rfl rfl ?_
      refine zz_iald (q0 := 3) (t0 := 2) (j := i) X rfl rfl rfl hi (by decide) dX0_exit_58 ?_
      refine pp_callv (rest := []) X (c_tellOfZombie hN (rHnd (up2 (rOff u j i 4) 4 i y) ((up2 (rOff u j i 4) 4 i y) 0 i)) ((rHnd (up2 (rOff u j i 4) 4 i y) ((up2 (rOff u j i 4) 4 i y) 0 i)) 2 i)) (cwV 1 X.1.2.2.2.2 (gw lkX0_93 imX0_tellOfZombie seX0_tellOfZombie itX0 cdX0_tellOfZombie) rfl rfl rfl hdX0_tellOfZombie ⟨Nat.le_of_ble_eq_true rfl, Nat.le_of_ble_eq_true rfl⟩) rfl rfl (Nat.le_of_ble_eq_true rfl) dX0_exit_59 ⟨Nat.zero_le _, Nat.zero_le _⟩ ?_
      refine zz_iload_n X dX0_exit_62 rfl rfl ?_
      have e1 : rExt N u (nI j) y = (nI i, (rTel (rHnd (up2 (rOff u j i 4) 4 i y) ((up2 (rOff u j i 4) 4 i y) 0 i)) ((rHnd (up2 (rOff u j i 4) 4 i y) ((up2 (rOff u j i 4) 4 i y) 0 i)) 2 i))) := by unfold rExt; rw [ei, if_neg hm, if_neg h2]; simp only [cl, ci, cj]; rfl
      exact Ei _ _ _ _ _ rfl rfl dX0_exit_63 (by rw [e1]) (by rw [e1])
    · refine zz_aload_n X dX0_exit_17 rfl rfl ?_
      refine zz_iload_n X dX0_exit_18 rfl rfl ?_
      refine pp_put (k0 := 12) (u2 := (up2 u 9 3 y)) X imX0 (by decide) (mc flX0_57) (by decide) (by decide +kernel) dX0_exit_19 rfl ?_
      refine zz_aload_n X dX0_exit_22 rfl rfl ?_
      refine pp_callv (rest := []) X (c_emptyRing hN (up2 u 9 3 y)) (cwV 0 X.1.2.2.2.2 (gw lkX0_83 imX0_emptyRing seX0_emptyRing itX0 cdX0_emptyRing) rfl rfl rfl hdX0_emptyRing ⟨Nat.le_of_ble_eq_true rfl, Nat.le_of_ble_eq_true rfl⟩) rfl rfl (Nat.le_of_ble_eq_true rfl) dX0_exit_23 ⟨Nat.zero_le _, Nat.zero_le _⟩ ?_
      refine zz_iload_n X dX0_exit_26 rfl rfl ?_
      have e1 : rExt N u (nI j) y = (nI i, (rEmp N (up2 u 9 3 y))) := by unfold rExt; rw [ei, if_neg hm, if_pos h2]
      exact Ei _ _ _ _ _ rfl rfl dX0_exit_27 (by rw [e1]) (by rw [e1])
  · refine zz_iconst (v := -1) X dX0_exit_11 (by decide) ?_
    have e1 : rExt N u x y = (-1, u) := by simp [rExt, h1]
    exact Ei _ _ _ _ _ rfl rfl dX0_exit_12 (by rw [e1]) (by rw [e1])
set_option maxHeartbeats 4000000 in
set_option maxRecDepth 100000 in
theorem c_await {l : Launch} {D : va_G} {h : Nat} {a : Nat → Nat} {ca : Nat → ClassId} {N : Nat} (hN : N < 2 ^ 31) (u : St) (hI : rI N u) (x : Int32) : cP l D h a ca N yX0_await wsX0_await { frames := 2, cells := 0, slots := 0, locals := 44 } [.int x] u (some (.int (rAwt N u x).1)) (rAwt N u x).2 := by
  refine zz_C.of (bytes := cX0_await) (maxL := 5) (ret := (some .int)) (lv0 := [some (.ref h), some (.int x), none, none, none]) (by decide) rfl (Nat.le_of_ble_eq_true rfl) rfl rfl ?_
  intro p e s m below meth c A Q X Ei Ev
  refine zz_aload_n X dX0_await_0 rfl rfl ?_
  refine zz_iload_n X dX0_await_1 rfl rfl ?_
  refine pp_calli (rest := []) X (c_placeOn hN u x) (cwV 1 X.1.2.2.2.2 (gw lkX0_76 imX0_placeOn seX0_placeOn itX0 cdX0_placeOn) rfl rfl rfl hdX0_placeOn ⟨Nat.le_of_ble_eq_true rfl, Nat.le_of_ble_eq_true rfl⟩) rfl rfl (Nat.le_of_ble_eq_true rfl) dX0_await_2 ⟨Nat.zero_le _, Nat.zero_le _⟩ ?_
  refine zz_istore_n (lv' := [some (.ref h), some (.int x), some (.int (rOn N u x)), none, none]) X dX0_await_5 rfl (by decide) rfl ?_
  refine zz_iload_n X dX0_await_6 rfl rfl ?_
  refine zz_iconst (v := -1) X dX0_await_7 (by decide) ?_
  refine zz_icmp_eq (tgt := 24) X dX0_await_8 (by decide) (fun h1 => ?_) (fun h1 => ?_)
  · refine zz_iconst (v := -1) X dX0_await_24 (by decide) ?_
    have e1 : rAwt N u x = (-1, u) := by simp [rAwt, h1]
    exact Ei _ _ _ _ _ rfl rfl dX0_await_25 (by rw [e1]) (by rw [e1])
  · obtain ⟨j, i, hj, hi, rfl, ei⟩ := rOn_ix hN hI h1
    have hm := nI_m1 (show i < 2 ^ 31 by omega)
    have ci := nI_clamp (show i < 2 ^ 31 by omega)
    have cj := nI_clamp (show j < 2 ^ 31 by omega)
    refine zz_lv (lv' := [some (.ref h), some (.int (nI j)), some (.int (nI i)), none, none]) (by rw [ei]) ?_
    refine zz_aload_n X dX0_await_11 rfl rfl ?_
    refine zz_aload_n X dX0_await_12 rfl rfl ?_
    refine pp_get (k0 := 0) (v := .ref (a 0)) X imX0 (by decide) (mc flX0_18) rfl dX0_await_13 ?_
    refine zz_iload_n X dX0_await_16 rfl rfl ?_
    refine zz_iald (q0 := 1) (t0 := 0) (j := i) X rfl rfl rfl hi (by decide) dX0_await_17 ?_
    refine pp_calli (rest := []) X (c_hasChild hN u (u 0 i)) (cwV 1 X.1.2.2.2.2 (gw lkX0_96 imX0_hasChild seX0_hasChild itX0 cdX0_hasChild) rfl rfl rfl hdX0_hasChild ⟨Nat.le_of_ble_eq_true rfl, Nat.le_of_ble_eq_true rfl⟩) rfl rfl (Nat.le_of_ble_eq_true rfl) dX0_await_18 ⟨Nat.zero_le _, Nat.zero_le _⟩ ?_
    refine zz_if_ne (tgt := 26) X dX0_await_21 (by decide) (fun h2 => ?_) (fun h2 => ?_)
    · refine zz_aload_n X dX0_await_26 rfl rfl ?_
      refine zz_aload_n X dX0_await_27 rfl rfl ?_
      refine pp_get (k0 := 0) (v := .ref (a 0)) X imX0 (by decide) (mc flX0_18) rfl dX0_await_28 ?_
      refine zz_iload_n X dX0_await_31 rfl rfl ?_
      refine zz_iald (q0 := 1) (t0 := 0) (j := i) X rfl rfl rfl hi (by decide) dX0_await_32 ?_
      refine pp_calli (rest := []) X (c_firstZombieChild hN u (u 0 i)) (cwV 1 X.1.2.2.2.2 (gw lkX0_99 imX0_firstZombieChild seX0_firstZombieChild itX0 cdX0_firstZombieChild) rfl rfl rfl hdX0_firstZombieChild ⟨Nat.le_of_ble_eq_true rfl, Nat.le_of_ble_eq_true rfl⟩) rfl rfl (Nat.le_of_ble_eq_true rfl) dX0_await_33 ⟨Nat.zero_le _, Nat.zero_le _⟩ ?_
      refine zz_istore_n (lv' := [some (.ref h), some (.int (nI j)), some (.int (nI i)), some (.int (rFzc u (u 0 i))), none]) X dX0_await_36 rfl (by decide) rfl ?_
      refine zz_iload_n X dX0_await_37 rfl rfl ?_
      refine zz_iconst (v := -1) X dX0_await_38 (by decide) ?_
      refine zz_icmp_ne (tgt := 58) X dX0_await_39 (by decide) (fun h3 => ?_) (fun h3 => ?_)
      · obtain ⟨k, hk, -, ek⟩ := zs_P_in h3
        have ek : rFzc u (u 0 i) = nI k := ek
        have hm2 := nI_m1 (show k < 2 ^ 31 by omega)
        have ck := nI_clamp (show k < 2 ^ 31 by omega)
        refine zz_lv (lv' := [some (.ref h), some (.int (nI j)), some (.int (nI i)), some (.int (nI k)), none]) (by rw [ek]) ?_
        refine zz_aload_n X dX0_await_58 rfl rfl ?_
        refine pp_get (k0 := 0) (v := .ref (a 0)) X imX0 (by decide) (mc flX0_18) rfl dX0_await_59 ?_
        refine zz_iload_n X dX0_await_62 rfl rfl ?_
        refine zz_iald (q0 := 1) (t0 := 0) (j := k) X rfl rfl rfl hk (by decide) dX0_await_63 ?_
        refine zz_istore (lv' := [some (.ref h), some (.int (nI j)), some (.int (nI i)), some (.int (nI k)), some (.int (u 0 k))]) X dX0_await_64 (by decide) rfl ?_
        refine zz_aload_n X dX0_await_66 rfl rfl ?_
        refine zz_aload_n X dX0_await_67 rfl rfl ?_
        refine pp_get (k0 := 4) (v := .ref (a 4)) X imX0 (by decide) (mc flX0_32) rfl dX0_await_68 ?_
        refine zz_iload_n X dX0_await_71 rfl rfl ?_
        refine zz_iald (q0 := 5) (t0 := 4) (j := k) X rfl rfl rfl hk (by decide) dX0_await_72 ?_
        refine pp_put (k0 := 12) (u2 := (up2 u 9 3 (u 4 k))) X imX0 (by decide) (mc flX0_57) (by decide) (by decide +kernel) dX0_await_73 rfl ?_
        refine zz_aload_n X dX0_await_76 rfl rfl ?_
        refine zz_iload_n X dX0_await_77 rfl rfl ?_
        refine pp_callv (rest := []) X (c_clearPlace hN (up2 u 9 3 (u 4 k)) k hk) (cwV 1 X.1.2.2.2.2 (gw lkX0_102 imX0_clearPlace seX0_clearPlace itX0 cdX0_clearPlace) rfl rfl rfl hdX0_clearPlace ⟨Nat.le_of_ble_eq_true rfl, Nat.le_of_ble_eq_true rfl⟩) rfl rfl (Nat.le_of_ble_eq_true rfl) dX0_await_78 ⟨Nat.zero_le _, Nat.zero_le _⟩ ?_
        refine zz_iload X dX0_await_81 rfl ?_
        have e1 : rAwt N u (nI j) = (u 0 k, (rClr (up2 u 9 3 (u 4 k)) k)) := by simp [rAwt, ei, hm, cl, ci, h2, ek, hm2, ck]
        exact Ei _ _ _ _ _ rfl rfl dX0_await_83 (by rw [e1]) (by rw [e1])
      · refine zz_aload_n X dX0_await_42 rfl rfl ?_
        refine zz_iload_n X dX0_await_43 rfl rfl ?_
        refine zz_iload_n X dX0_await_44 rfl rfl ?_
        refine zz_iconst (v := 3) X dX0_await_45 (by decide) ?_
        refine pp_callv (rest := []) X (c_takeOff hN u j i hj hi 3) (cwV 3 X.1.2.2.2.2 (gw lkX0_86 imX0_takeOff seX0_takeOff itX0 cdX0_takeOff) rfl rfl rfl hdX0_takeOff ⟨Nat.le_of_ble_eq_true rfl, Nat.le_of_ble_eq_true rfl⟩) rfl rfl (Nat.le_of_ble_eq_true rfl) dX0_await_46 ⟨Nat.zero_le _, Nat.zero_le _⟩ ?_
        refine zz_aload_n X dX0_await_49 rfl rfl ?_
        refine pp_get (k0 := 5) (v := .ref (a 5)) X imX0 (by decide) (mc flX0_35) rfl dX0_await_50 ?_
        refine zz_iload_n X dX0_await_53 rfl rfl ?_
        refine zz_iconst (v := 2) X dX0_await_54 (by decide) ?_
        refine zz_iast (q0 := 6) (t0 := 5) (j := i) (ws' := wP h a ca N (up2 (rOff u j i 3) 5 i 2)) X rfl rfl rfl hi (by decide) dX0_await_55 rfl ?_
        refine zz_iconst (v := 0) X dX0_await_56 (by decide) ?_
        have e1 : rAwt N u (nI j) = (0, (up2 (rOff u j i 3) 5 i 2)) := by simp [rAwt, ei, hm, cl, ci, cj, h2, h3]
        exact Ei _ _ _ _ _ rfl rfl dX0_await_57 (by rw [e1]) (by rw [e1])
    · refine zz_iconst (v := -1) X dX0_await_24 (by decide) ?_
      have e1 : rAwt N u (nI j) = (-1, u) := by simp [rAwt, ei, hm, cl, ci, h2]
      exact Ei _ _ _ _ _ rfl rfl dX0_await_25 (by rw [e1]) (by rw [e1])
set_option maxHeartbeats 4000000 in
set_option maxRecDepth 100000 in
theorem c_status {l : Launch} {D : va_G} {h : Nat} {a : Nat → Nat} {ca : Nat → ClassId} {N : Nat} (hN : N < 2 ^ 31) (u : St) : cP l D h a ca N yX0_status wsX0_status { frames := 0, cells := 0, slots := 0, locals := 0 } [] u (some (.int (u 9 3))) u := by
  refine zz_C.of (bytes := cX0_status) (maxL := 1) (ret := (some .int)) (lv0 := [some (.ref h)]) (by decide) rfl (Nat.le_of_ble_eq_true rfl) rfl rfl ?_
  intro p e s m below meth c A Q X Ei Ev
  refine zz_aload_n X dX0_status_0 rfl rfl ?_
  refine pp_get (k0 := 12) (v := .int (u 9 3)) X imX0 (by decide) (mc flX0_57) rfl dX0_status_1 ?_
  exact Ei _ _ _ _ _ rfl rfl dX0_status_4 rfl rfl
set_option maxHeartbeats 4000000 in
set_option maxRecDepth 100000 in
theorem c_block {l : Launch} {D : va_G} {h : Nat} {a : Nat → Nat} {ca : Nat → ClassId} {N : Nat} (hN : N < 2 ^ 31) (u : St) (hI : rI N u) (x y : Int32) : cP l D h a ca N yX0_block wsX0_block { frames := 2, cells := 0, slots := 0, locals := 42 } [.int x, .int y] u (some (.int (rBlo N u x y).1)) (rBlo N u x y).2 := by
  refine zz_C.of (bytes := cX0_block) (maxL := 4) (ret := (some .int)) (lv0 := [some (.ref h), some (.int x), some (.int y), none]) (by decide) rfl (Nat.le_of_ble_eq_true rfl) rfl rfl ?_
  intro p e s m below meth c A Q X Ei Ev
  refine zz_aload_n X dX0_block_0 rfl rfl ?_
  refine zz_iload_n X dX0_block_1 rfl rfl ?_
  refine pp_calli (rest := []) X (c_placeOn hN u x) (cwV 1 X.1.2.2.2.2 (gw lkX0_76 imX0_placeOn seX0_placeOn itX0 cdX0_placeOn) rfl rfl rfl hdX0_placeOn ⟨Nat.le_of_ble_eq_true rfl, Nat.le_of_ble_eq_true rfl⟩) rfl rfl (Nat.le_of_ble_eq_true rfl) dX0_block_2 ⟨Nat.zero_le _, Nat.zero_le _⟩ ?_
  refine zz_istore_n (lv' := [some (.ref h), some (.int x), some (.int y), some (.int (rOn N u x))]) X dX0_block_5 rfl (by decide) rfl ?_
  refine zz_iload_n X dX0_block_6 rfl rfl ?_
  refine zz_iconst (v := -1) X dX0_block_7 (by decide) ?_
  refine zz_icmp_ne (tgt := 13) X dX0_block_8 (by decide) (fun h1 => ?_) (fun h1 => ?_)
  · obtain ⟨j, i, hj, hi, rfl, ei⟩ := rOn_ix hN hI h1
    have hm := nI_m1 (show i < 2 ^ 31 by omega)
    have ci := nI_clamp (show i < 2 ^ 31 by omega)
    have cj := nI_clamp (show j < 2 ^ 31 by omega)
    refine zz_lv (lv' := [some (.ref h), some (.int (nI j)), some (.int y), some (.int (nI i))]) (by rw [ei]) ?_
    refine zz_aload_n X dX0_block_13 rfl rfl ?_
    refine zz_iload_n X dX0_block_14 rfl rfl ?_
    refine zz_iload_n X dX0_block_15 rfl rfl ?_
    refine zz_iconst (v := 3) X dX0_block_16 (by decide) ?_
    refine pp_callv (rest := []) X (c_takeOff hN u j i hj hi 3) (cwV 3 X.1.2.2.2.2 (gw lkX0_86 imX0_takeOff seX0_takeOff itX0 cdX0_takeOff) rfl rfl rfl hdX0_takeOff ⟨Nat.le_of_ble_eq_true rfl, Nat.le_of_ble_eq_true rfl⟩) rfl rfl (Nat.le_of_ble_eq_true rfl) dX0_block_17 ⟨Nat.zero_le _, Nat.zero_le _⟩ ?_
    refine zz_aload_n X dX0_block_20 rfl rfl ?_
    refine pp_get (k0 := 5) (v := .ref (a 5)) X imX0 (by decide) (mc flX0_35) rfl dX0_block_21 ?_
    refine zz_iload_n X dX0_block_24 rfl rfl ?_
    refine zz_iconst (v := 1) X dX0_block_25 (by decide) ?_
    refine zz_iast (q0 := 6) (t0 := 5) (j := i) (ws' := wP h a ca N (up2 (rOff u j i 3) 5 i 1)) X rfl rfl rfl hi (by decide) dX0_block_26 rfl ?_
    refine zz_aload_n X dX0_block_27 rfl rfl ?_
    refine pp_get (k0 := 6) (v := .ref (a 6)) X imX0 (by decide) (mc flX0_38) rfl dX0_block_28 ?_
    refine zz_iload_n X dX0_block_31 rfl rfl ?_
    refine zz_iload_n X dX0_block_32 rfl rfl ?_
    refine zz_iast (q0 := 7) (t0 := 6) (j := i) (ws' := wP h a ca N (up2 (up2 (rOff u j i 3) 5 i 1) 6 i y)) X rfl rfl rfl hi (by decide) dX0_block_33 rfl ?_
    refine zz_iload_n X dX0_block_34 rfl rfl ?_
    have e1 : rBlo N u (nI j) y = (nI i, (up2 (up2 (rOff u j i 3) 5 i 1) 6 i y)) := by simp [rBlo, ei, hm, cl, ci, cj]
    exact Ei _ _ _ _ _ rfl rfl dX0_block_35 (by rw [e1]) (by rw [e1])
  · refine zz_iconst (v := -1) X dX0_block_11 (by decide) ?_
    have e1 : rBlo N u x y = (-1, u) := by simp [rBlo, h1]
    exact Ei _ _ _ _ _ rfl rfl dX0_block_12 (by rw [e1]) (by rw [e1])
set_option maxHeartbeats 4000000 in
set_option maxRecDepth 100000 in
theorem c_sleep {l : Launch} {D : va_G} {h : Nat} {a : Nat → Nat} {ca : Nat → ClassId} {N : Nat} (hN : N < 2 ^ 31) (u : St) (hI : rI N u) (x y : Int32) : cP l D h a ca N yX0_sleep wsX0_sleep { frames := 2, cells := 0, slots := 0, locals := 42 } [.int x, .int y] u (some (.int (rSlp N u x y).1)) (rSlp N u x y).2 := by
  refine zz_C.of (bytes := cX0_sleep) (maxL := 4) (ret := (some .int)) (lv0 := [some (.ref h), some (.int x), some (.int y), none]) (by decide) rfl (Nat.le_of_ble_eq_true rfl) rfl rfl ?_
  intro p e s m below meth c A Q X Ei Ev
  refine zz_aload_n X dX0_sleep_0 rfl rfl ?_
  refine zz_iload_n X dX0_sleep_1 rfl rfl ?_
  refine pp_calli (rest := []) X (c_placeOn hN u x) (cwV 1 X.1.2.2.2.2 (gw lkX0_76 imX0_placeOn seX0_placeOn itX0 cdX0_placeOn) rfl rfl rfl hdX0_placeOn ⟨Nat.le_of_ble_eq_true rfl, Nat.le_of_ble_eq_true rfl⟩) rfl rfl (Nat.le_of_ble_eq_true rfl) dX0_sleep_2 ⟨Nat.zero_le _, Nat.zero_le _⟩ ?_
  refine zz_istore_n (lv' := [some (.ref h), some (.int x), some (.int y), some (.int (rOn N u x))]) X dX0_sleep_5 rfl (by decide) rfl ?_
  refine zz_iload_n X dX0_sleep_6 rfl rfl ?_
  refine zz_iconst (v := -1) X dX0_sleep_7 (by decide) ?_
  refine zz_icmp_eq (tgt := 16) X dX0_sleep_8 (by decide) (fun h1 => ?_) (fun h1 => ?_)
  · refine zz_iload_n X dX0_sleep_16 rfl rfl ?_
    have e1 : rSlp N u x y = (rOn N u x, u) := by simp [rSlp, h1]
    exact Ei _ _ _ _ _ rfl rfl dX0_sleep_17 (by rw [e1]) (by rw [e1])
  · obtain ⟨j, i, hj, hi, rfl, ei⟩ := rOn_ix hN hI h1
    have hm := nI_m1 (show i < 2 ^ 31 by omega)
    have ci := nI_clamp (show i < 2 ^ 31 by omega)
    have cj := nI_clamp (show j < 2 ^ 31 by omega)
    refine zz_lv (lv' := [some (.ref h), some (.int (nI j)), some (.int y), some (.int (nI i))]) (by rw [ei]) ?_
    refine zz_iload_n X dX0_sleep_11 rfl rfl ?_
    refine zz_iconst (v := 1) X dX0_sleep_12 (by decide) ?_
    refine zz_icmp_ge (tgt := 18) X dX0_sleep_13 (by decide) (fun h2 => ?_) (fun h2 => ?_)
    · refine zz_aload_n X dX0_sleep_18 rfl rfl ?_
      refine zz_iload_n X dX0_sleep_19 rfl rfl ?_
      refine zz_iload_n X dX0_sleep_20 rfl rfl ?_
      refine zz_iconst (v := 3) X dX0_sleep_21 (by decide) ?_
      refine pp_callv (rest := []) X (c_takeOff hN u j i hj hi 3) (cwV 3 X.1.2.2.2.2 (gw lkX0_86 imX0_takeOff seX0_takeOff itX0 cdX0_takeOff) rfl rfl rfl hdX0_takeOff ⟨Nat.le_of_ble_eq_true rfl, Nat.le_of_ble_eq_true rfl⟩) rfl rfl (Nat.le_of_ble_eq_true rfl) dX0_sleep_22 ⟨Nat.zero_le _, Nat.zero_le _⟩ ?_
      refine zz_aload_n X dX0_sleep_25 rfl rfl ?_
      refine pp_get (k0 := 5) (v := .ref (a 5)) X imX0 (by decide) (mc flX0_35) rfl dX0_sleep_26 ?_
      refine zz_iload_n X dX0_sleep_29 rfl rfl ?_
      refine zz_iconst (v := 3) X dX0_sleep_30 (by decide) ?_
      refine zz_iast (q0 := 6) (t0 := 5) (j := i) (ws' := wP h a ca N (up2 (rOff u j i 3) 5 i 3)) X rfl rfl rfl hi (by decide) dX0_sleep_31 rfl ?_
      refine zz_aload_n X dX0_sleep_32 rfl rfl ?_
      refine pp_get (k0 := 7) (v := .ref (a 7)) X imX0 (by decide) (mc flX0_41) rfl dX0_sleep_33 ?_
      refine zz_iload_n X dX0_sleep_36 rfl rfl ?_
      refine zz_iload_n X dX0_sleep_37 rfl rfl ?_
      refine zz_iast (q0 := 8) (t0 := 7) (j := i) (ws' := wP h a ca N (up2 (up2 (rOff u j i 3) 5 i 3) 7 i y)) X rfl rfl rfl hi (by decide) dX0_sleep_38 rfl ?_
      refine zz_iload_n X dX0_sleep_39 rfl rfl ?_
      have e1 : rSlp N u (nI j) y = (nI i, (up2 (up2 (rOff u j i 3) 5 i 3) 7 i y)) := by simp [rSlp, ei, hm, cl, ci, cj, h2]
      exact Ei _ _ _ _ _ rfl rfl dX0_sleep_40 (by rw [e1]) (by rw [e1])
    · refine zz_iload_n X dX0_sleep_16 rfl rfl ?_
      have e1 : rSlp N u (nI j) y = (nI i, u) := by simp [rSlp, ei, hm, h2]
      exact Ei _ _ _ _ _ rfl rfl dX0_sleep_17 (by rw [e1]) (by rw [e1])
set_option maxHeartbeats 4000000 in
set_option maxRecDepth 100000 in
theorem c_wake {l : Launch} {D : va_G} {h : Nat} {a : Nat → Nat} {ca : Nat → ClassId} {N : Nat} (hN : N < 2 ^ 31) (u : St) (x : Int32) : cP l D h a ca N yX0_wake wsX0_wake { frames := 1, cells := 0, slots := 0, locals := 22 } [.int x] u (some (.int (nI (rWak u x).1))) (rWak u x).2 := by
  refine zz_C.of (bytes := cX0_wake) (maxL := 4) (ret := (some .int)) (lv0 := [some (.ref h), some (.int x), none, none]) (by decide) rfl (Nat.le_of_ble_eq_true rfl) rfl rfl ?_
  intro p e s m below meth c A Q X Ei Ev
  refine zz_iconst (v := 0) X dX0_wake_0 (by decide) ?_
  refine zz_istore_n (lv' := [some (.ref h), some (.int x), some (.int 0), none]) X dX0_wake_1 rfl (by decide) rfl ?_
  refine zz_iconst (v := 0) X dX0_wake_2 (by decide) ?_
  refine zz_istore_n (lv' := [some (.ref h), some (.int x), some (.int 0), some (.int 0)]) X dX0_wake_3 rfl (by decide) rfl ?_
  have loop : ∀ (n i k : Nat) (v : St), i + n = 15 → zl (rWak1 x) n i (k, v) = rWak u x → zz_V p l e { frames := 1, cells := 0, slots := 0, locals := 22 } s m [.ref h, .int x].toArray below meth c 0 0 Q 4 D vwCl A (wP h a ca N v) [some (.ref h), some (.int x), some (.int (nI k)), some (.int (nI i))] 4 [] := by
    intro n
    induction n with
    | zero =>
      intro i k v hi hz
      refine zz_iload_n X dX0_wake_4 rfl rfl ?_
      refine zz_bipush (v := 15) X dX0_wake_5 (by decide) ?_
      refine zz_icmp_ge (tgt := 43) X dX0_wake_7 (by decide) (fun hq => ?_) (fun hq => absurd (nI_le (a := 15) (by omega) (by omega)) hq)
      refine zz_iload_n X dX0_wake_43 rfl rfl ?_
      exact Ei _ _ _ _ _ rfl rfl dX0_wake_44 (by rw [← hz]; rfl) (by rw [← hz]; rfl)
    | succ n ih =>
      intro i k v hi hz
      have hlt : i < 15 := by omega
      refine zz_iload_n X dX0_wake_4 rfl rfl ?_
      refine zz_bipush (v := 15) X dX0_wake_5 (by decide) ?_
      refine zz_icmp_ge (tgt := 43) X dX0_wake_7 (by decide) (fun hq => absurd hq (nI_ge (b := 15) hlt (by decide))) (fun hq => ?_)
      refine zz_aload_n X dX0_wake_10 rfl rfl ?_
      refine zz_iload_n X dX0_wake_11 rfl rfl ?_
      refine zz_iconst (v := 1) X dX0_wake_12 (by decide) ?_
      refine pp_calli (rest := []) X (c_isBlockedFor hN v i hlt 1) (cwV 2 X.1.2.2.2.2 (gw lkX0_105 imX0_isBlockedFor seX0_isBlockedFor itX0 cdX0_isBlockedFor) rfl rfl rfl hdX0_isBlockedFor ⟨Nat.le_of_ble_eq_true rfl, Nat.le_of_ble_eq_true rfl⟩) rfl rfl (Nat.le_of_ble_eq_true rfl) dX0_wake_13 ⟨Nat.zero_le _, Nat.zero_le _⟩ ?_
      refine zz_if_eq (tgt := 37) X dX0_wake_16 (by decide) (fun h1 => ?_) (fun h1 => ?_)
      · refine zz_iinc (v := (nI (i + 1))) (lv' := [some (.ref h), some (.int x), some (.int (nI k)), some (.int (nI (i + 1)))]) X dX0_wake_37 rfl (nI_1 _) (by decide) rfl ?_
        refine zz_goto (tgt := 4) X dX0_wake_40 (by decide) ?_
        exact ih (i + 1) k _ (by omega) (by rw [← hz, zl, rWak1, if_pos h1])
      · refine zz_aload_n X dX0_wake_19 rfl rfl ?_
        refine pp_get (k0 := 6) (v := .ref (a 6)) X imX0 (by decide) (mc flX0_38) rfl dX0_wake_20 ?_
        refine zz_iload_n X dX0_wake_23 rfl rfl ?_
        refine zz_iald (q0 := 7) (t0 := 6) (j := i) X rfl rfl rfl hlt (by decide) dX0_wake_24 ?_
        refine zz_iload_n X dX0_wake_25 rfl rfl ?_
        refine zz_icmp_ne (tgt := 37) X dX0_wake_26 (by decide) (fun h2 => ?_) (fun h2 => ?_)
        · refine zz_iinc (v := (nI (i + 1))) (lv' := [some (.ref h), some (.int x), some (.int (nI k)), some (.int (nI (i + 1)))]) X dX0_wake_37 rfl (nI_1 _) (by decide) rfl ?_
          refine zz_goto (tgt := 4) X dX0_wake_40 (by decide) ?_
          exact ih (i + 1) k _ (by omega) (by rw [← hz, zl, rWak1, if_neg h1, if_neg h2])
        · refine zz_aload_n X dX0_wake_29 rfl rfl ?_
          refine zz_iload_n X dX0_wake_30 rfl rfl ?_
          refine pp_callv (rest := []) X (c_makeReady hN v i hlt) (cwV 1 X.1.2.2.2.2 (gw lkX0_109 imX0_makeReady seX0_makeReady itX0 cdX0_makeReady) rfl rfl rfl hdX0_makeReady ⟨Nat.le_of_ble_eq_true rfl, Nat.le_of_ble_eq_true rfl⟩) rfl rfl (Nat.le_of_ble_eq_true rfl) dX0_wake_31 ⟨Nat.zero_le _, Nat.zero_le _⟩ ?_
          refine zz_iinc (v := (nI (k + 1))) (lv' := [some (.ref h), some (.int x), some (.int (nI (k + 1))), some (.int (nI i))]) X dX0_wake_34 rfl (nI_1 _) (by decide) rfl ?_
          refine zz_iinc (v := (nI (i + 1))) (lv' := [some (.ref h), some (.int x), some (.int (nI (k + 1))), some (.int (nI (i + 1)))]) X dX0_wake_37 rfl (nI_1 _) (by decide) rfl ?_
          refine zz_goto (tgt := 4) X dX0_wake_40 (by decide) ?_
          exact ih (i + 1) (k + 1) _ (by omega) (by rw [← hz, zl, rWak1, if_neg h1, if_pos h2])
  exact loop 15 0 0 u rfl rfl
set_option maxHeartbeats 4000000 in
set_option maxRecDepth 100000 in
theorem c_rest {l : Launch} {D : va_G} {h : Nat} {a : Nat → Nat} {ca : Nat → ClassId} {N : Nat} (hN : N < 2 ^ 31) (u : St) (hI : rI N u) (x : Int32) : cP l D h a ca N yX0_rest wsX0_rest { frames := 2, cells := 0, slots := 0, locals := 42 } [.int x] u (some (.int (rRst N u x).1)) (rRst N u x).2 := by
  refine zz_C.of (bytes := cX0_rest) (maxL := 3) (ret := (some .int)) (lv0 := [some (.ref h), some (.int x), none]) (by decide) rfl (Nat.le_of_ble_eq_true rfl) rfl rfl ?_
  intro p e s m below meth c A Q X Ei Ev
  refine zz_aload_n X dX0_rest_0 rfl rfl ?_
  refine zz_iload_n X dX0_rest_1 rfl rfl ?_
  refine pp_calli (rest := []) X (c_placeOn hN u x) (cwV 1 X.1.2.2.2.2 (gw lkX0_76 imX0_placeOn seX0_placeOn itX0 cdX0_placeOn) rfl rfl rfl hdX0_placeOn ⟨Nat.le_of_ble_eq_true rfl, Nat.le_of_ble_eq_true rfl⟩) rfl rfl (Nat.le_of_ble_eq_true rfl) dX0_rest_2 ⟨Nat.zero_le _, Nat.zero_le _⟩ ?_
  refine zz_istore_n (lv' := [some (.ref h), some (.int x), some (.int (rOn N u x))]) X dX0_rest_5 rfl (by decide) rfl ?_
  refine zz_iload_n X dX0_rest_6 rfl rfl ?_
  refine zz_iconst (v := -1) X dX0_rest_7 (by decide) ?_
  refine zz_icmp_ne (tgt := 13) X dX0_rest_8 (by decide) (fun h1 => ?_) (fun h1 => ?_)
  · obtain ⟨j, i, hj, hi, rfl, ei⟩ := rOn_ix hN hI h1
    have hm := nI_m1 (show i < 2 ^ 31 by omega)
    have ci := nI_clamp (show i < 2 ^ 31 by omega)
    have cj := nI_clamp (show j < 2 ^ 31 by omega)
    refine zz_lv (lv' := [some (.ref h), some (.int (nI j)), some (.int (nI i))]) (by rw [ei]) ?_
    refine zz_aload_n X dX0_rest_13 rfl rfl ?_
    refine zz_iload_n X dX0_rest_14 rfl rfl ?_
    refine zz_iload_n X dX0_rest_15 rfl rfl ?_
    refine zz_iconst (v := 1) X dX0_rest_16 (by decide) ?_
    refine pp_callv (rest := []) X (c_takeOff hN u j i hj hi 1) (cwV 3 X.1.2.2.2.2 (gw lkX0_86 imX0_takeOff seX0_takeOff itX0 cdX0_takeOff) rfl rfl rfl hdX0_takeOff ⟨Nat.le_of_ble_eq_true rfl, Nat.le_of_ble_eq_true rfl⟩) rfl rfl (Nat.le_of_ble_eq_true rfl) dX0_rest_17 ⟨Nat.zero_le _, Nat.zero_le _⟩ ?_
    refine zz_iload_n X dX0_rest_20 rfl rfl ?_
    have e1 : rRst N u (nI j) = (nI i, (rOff u j i 1)) := by simp [rRst, ei, hm, cl, ci, cj]
    exact Ei _ _ _ _ _ rfl rfl dX0_rest_21 (by rw [e1]) (by rw [e1])
  · refine zz_iconst (v := -1) X dX0_rest_11 (by decide) ?_
    have e1 : rRst N u x = (-1, u) := by simp [rRst, h1]
    exact Ei _ _ _ _ _ rfl rfl dX0_rest_12 (by rw [e1]) (by rw [e1])
set_option maxHeartbeats 4000000 in
set_option maxRecDepth 100000 in
theorem c_tick {l : Launch} {D : va_G} {h : Nat} {a : Nat → Nat} {ca : Nat → ClassId} {N : Nat} (hN : N < 2 ^ 31) (u : St) (hI : rI N u) : cP l D h a ca N yX0_tick wsX0_tick { frames := 3, cells := 0, slots := 0, locals := 64 } [] u (some (.int (rTck N u).1)) (rTck N u).2 := by
  refine zz_C.of (bytes := cX0_tick) (maxL := 2) (ret := (some .int)) (lv0 := [some (.ref h), none]) (by decide) rfl (Nat.le_of_ble_eq_true rfl) rfl rfl ?_
  intro p e s m below meth c A Q X Ei Ev
  refine zz_aload_n X dX0_tick_0 rfl rfl ?_
  refine pp_calli (rest := []) X (c_isEmptyRing hN u) (cwV 0 X.1.2.2.2.2 (gw lkX0_60 imX0_isEmptyRing seX0_isEmptyRing itX0 cdX0_isEmptyRing) rfl rfl rfl hdX0_isEmptyRing ⟨Nat.le_of_ble_eq_true rfl, Nat.le_of_ble_eq_true rfl⟩) rfl rfl (Nat.le_of_ble_eq_true rfl) dX0_tick_1 ⟨Nat.zero_le _, Nat.zero_le _⟩ ?_
  refine zz_if_eq (tgt := 9) X dX0_tick_4 (by decide) (fun h1 => ?_) (fun h1 => ?_)
  · refine zz_aload_n X dX0_tick_9 rfl rfl ?_
    refine zz_dup X dX0_tick_10 rfl ?_
    refine pp_get (k0 := 11) (v := .int (u 9 2)) X imX0 (by decide) (mc flX0_54) rfl dX0_tick_11 ?_
    refine zz_iconst (v := 1) X dX0_tick_14 (by decide) ?_
    refine zz_iadd X dX0_tick_15 ?_
    refine pp_put (k0 := 11) (u2 := (up2 u 9 2 ((u 9 2) + 1))) X imX0 (by decide) (mc flX0_54) (by decide) (by decide +kernel) dX0_tick_16 rfl ?_
    refine zz_iconst (v := 0) X dX0_tick_19 (by decide) ?_
    refine zz_istore_n (lv' := [some (.ref h), some (.int 0)]) X dX0_tick_20 rfl (by decide) rfl ?_
    have loop2 : ∀ (n i : Nat) (v : St), i + n = 15 → zl rTck1 n i v = zl rTck1 15 0 (rTck2 N u) → zz_V p l e { frames := 3, cells := 0, slots := 0, locals := 64 } s m [.ref h].toArray below meth c 0 0 Q 2 D vwCl A (wP h a ca N v) [some (.ref h), some (.int (nI i))] 44 [] := by
      intro n
      induction n with
      | zero =>
        intro i v hi hz
        refine zz_iload_n X dX0_tick_44 rfl rfl ?_
        refine zz_bipush (v := 15) X dX0_tick_45 (by decide) ?_
        refine zz_icmp_ge (tgt := 70) X dX0_tick_47 (by decide) (fun hq => ?_) (fun hq => absurd (nI_le (a := 15) (by omega) (by omega)) hq)
        refine zz_aload_n X dX0_tick_70 rfl rfl ?_
        refine pp_get (k0 := 11) (v := .int (v 9 2)) X imX0 (by decide) (mc flX0_54) rfl dX0_tick_71 ?_
        have hz : v = zl rTck1 15 0 (rTck2 N u) := hz
        have e1 : rTck N u = (v 9 2, v) := by unfold rTck; rw [if_pos h1, ← hz]
        exact Ei _ _ _ _ _ rfl rfl dX0_tick_74 (by rw [e1]) (by rw [e1])
      | succ n ih =>
        intro i v hi hz
        have hlt : i < 15 := by omega
        refine zz_iload_n X dX0_tick_44 rfl rfl ?_
        refine zz_bipush (v := 15) X dX0_tick_45 (by decide) ?_
        refine zz_icmp_ge (tgt := 70) X dX0_tick_47 (by decide) (fun hq => absurd hq (nI_ge (b := 15) hlt (by decide))) (fun hq => ?_)
        refine zz_aload_n X dX0_tick_50 rfl rfl ?_
        refine zz_iload_n X dX0_tick_51 rfl rfl ?_
        refine zz_iconst (v := 3) X dX0_tick_52 (by decide) ?_
        refine pp_calli (rest := []) X (c_isBlockedFor hN v i hlt 3) (cwV 2 X.1.2.2.2.2 (gw lkX0_105 imX0_isBlockedFor seX0_isBlockedFor itX0 cdX0_isBlockedFor) rfl rfl rfl hdX0_isBlockedFor ⟨Nat.le_of_ble_eq_true rfl, Nat.le_of_ble_eq_true rfl⟩) rfl rfl (Nat.le_of_ble_eq_true rfl) dX0_tick_53 ⟨Nat.zero_le _, Nat.zero_le _⟩ ?_
        refine zz_if_eq (tgt := 64) X dX0_tick_56 (by decide) (fun h2 => ?_) (fun h2 => ?_)
        · refine zz_iinc (v := (nI (i + 1))) (lv' := [some (.ref h), some (.int (nI (i + 1)))]) X dX0_tick_64 rfl (nI_1 _) (by decide) rfl ?_
          refine zz_goto (tgt := 44) X dX0_tick_67 (by decide) ?_
          exact ih (i + 1) _ (by omega) (by rw [← hz, zl, rTck1, if_pos h2])
        · refine zz_aload_n X dX0_tick_59 rfl rfl ?_
          refine zz_iload_n X dX0_tick_60 rfl rfl ?_
          refine pp_callv (rest := []) X (c_countDown hN v i hlt) (cwV 1 X.1.2.2.2.2 (gw lkX0_115 imX0_countDown seX0_countDown itX0 cdX0_countDown) rfl rfl rfl hdX0_countDown ⟨Nat.le_of_ble_eq_true rfl, Nat.le_of_ble_eq_true rfl⟩) rfl rfl (Nat.le_of_ble_eq_true rfl) dX0_tick_61 ⟨Nat.zero_le _, Nat.zero_le _⟩ ?_
          refine zz_iinc (v := (nI (i + 1))) (lv' := [some (.ref h), some (.int (nI (i + 1)))]) X dX0_tick_64 rfl (nI_1 _) (by decide) rfl ?_
          refine zz_goto (tgt := 44) X dX0_tick_67 (by decide) ?_
          exact ih (i + 1) _ (by omega) (by rw [← hz, zl, rTck1, if_neg h2])
    have loop : ∀ (n i : Nat) (v : St), i + n = N → rI N v → zl (fun j v => (rRst N v (nI j)).2) n i v = rTck2 N u → zz_V p l e { frames := 3, cells := 0, slots := 0, locals := 64 } s m [.ref h].toArray below meth c 0 0 Q 2 D vwCl A (wP h a ca N v) [some (.ref h), some (.int (nI i))] 21 [] := by
      intro n
      induction n with
      | zero =>
        intro i v hi hJ hz
        refine zz_iload_n X dX0_tick_21 rfl rfl ?_
        refine zz_aload_n X dX0_tick_22 rfl rfl ?_
        refine pp_get (k0 := 8) (v := .ref (a 8)) X imX0 (by decide) (mc flX0_44) rfl dX0_tick_23 ?_
        refine zz_alen (q0 := 9) (t0 := 8) X rfl rfl dX0_tick_26 ?_
        refine zz_icmp_ge (tgt := 42) X dX0_tick_27 (by decide) (fun hq => ?_) (fun hq => absurd (nI_le (a := N) (by omega) (by omega)) hq)
        refine zz_iconst (v := 0) X dX0_tick_42 (by decide) ?_
        refine zz_istore_n (lv' := [some (.ref h), some (.int 0)]) X dX0_tick_43 rfl (by decide) rfl ?_
        have hz : v = rTck2 N u := hz
        exact loop2 15 0 v rfl (by rw [hz])
      | succ n ih =>
        intro i v hi hJ hz
        have hlt : i < N := by omega
        refine zz_iload_n X dX0_tick_21 rfl rfl ?_
        refine zz_aload_n X dX0_tick_22 rfl rfl ?_
        refine pp_get (k0 := 8) (v := .ref (a 8)) X imX0 (by decide) (mc flX0_44) rfl dX0_tick_23 ?_
        refine zz_alen (q0 := 9) (t0 := 8) X rfl rfl dX0_tick_26 ?_
        refine zz_icmp_ge (tgt := 42) X dX0_tick_27 (by decide) (fun hq => absurd hq (nI_ge hlt hN)) (fun hq => ?_)
        refine zz_aload_n X dX0_tick_30 rfl rfl ?_
        refine zz_iload_n X dX0_tick_31 rfl rfl ?_
        refine pp_calli (rest := []) X (c_rest hN v hJ (nI i)) (cwV 1 X.1.2.2.2.2 (gw lkX0_112 imX0_rest seX0_rest itX0 cdX0_rest) rfl rfl rfl hdX0_rest ⟨Nat.le_of_ble_eq_true rfl, Nat.le_of_ble_eq_true rfl⟩) rfl rfl (Nat.le_of_ble_eq_true rfl) dX0_tick_32 ⟨Nat.zero_le _, Nat.zero_le _⟩ ?_
        refine zz_pop X dX0_tick_35 rfl ?_
        refine zz_iinc (v := (nI (i + 1))) (lv' := [some (.ref h), some (.int (nI (i + 1)))]) X dX0_tick_36 rfl (nI_1 _) (by decide) rfl ?_
        refine zz_goto (tgt := 21) X dX0_tick_39 (by decide) ?_
        exact ih (i + 1) _ (by omega) (rRst_I hJ) hz
    exact loop N 0 _ (Nat.zero_add _) ⟨hI.1, hI.2⟩ rfl
  · refine zz_iconst (v := -1) X dX0_tick_7 (by decide) ?_
    have e1 : rTck N u = (-1, u) := by simp [rTck, h1]
    exact Ei _ _ _ _ _ rfl rfl dX0_tick_8 (by rw [e1]) (by rw [e1])
set_option maxHeartbeats 4000000 in
set_option maxRecDepth 100000 in
theorem c_kill {l : Launch} {D : va_G} {h : Nat} {a : Nat → Nat} {ca : Nat → ClassId} {N : Nat} (hN : N < 2 ^ 31) (u : St) (x : Int32) : cP l D h a ca N yX0_kill wsX0_kill { frames := 1, cells := 0, slots := 0, locals := 22 } [.int x] u (some (.int (rKil u x).1)) (rKil u x).2 := by
  refine zz_C.of (bytes := cX0_kill) (maxL := 3) (ret := (some .boolean)) (lv0 := [some (.ref h), some (.int x), none]) (by decide) rfl (Nat.le_of_ble_eq_true rfl) rfl rfl ?_
  intro p e s m below meth c A Q X Ei Ev
  refine zz_aload_n X dX0_kill_0 rfl rfl ?_
  refine zz_iload_n X dX0_kill_1 rfl rfl ?_
  refine pp_calli (rest := []) X (c_placeOf hN u x) (cwV 1 X.1.2.2.2.2 (gw lkX0_118 imX0_placeOf seX0_placeOf itX0 cdX0_placeOf) rfl rfl rfl hdX0_placeOf ⟨Nat.le_of_ble_eq_true rfl, Nat.le_of_ble_eq_true rfl⟩) rfl rfl (Nat.le_of_ble_eq_true rfl) dX0_kill_2 ⟨Nat.zero_le _, Nat.zero_le _⟩ ?_
  refine zz_istore_n (lv' := [some (.ref h), some (.int x), some (.int (rPlc u x))]) X dX0_kill_5 rfl (by decide) rfl ?_
  refine zz_iload_n X dX0_kill_6 rfl rfl ?_
  refine zz_iconst (v := -1) X dX0_kill_7 (by decide) ?_
  refine zz_icmp_eq (tgt := 21) X dX0_kill_8 (by decide) (fun h1 => ?_) (fun h1 => ?_)
  · refine zz_iconst (v := 0) X dX0_kill_21 (by decide) ?_
    have e1 : rKil u x = (0, u) := by simp [rKil, h1]
    exact Ei _ _ _ _ _ rfl rfl dX0_kill_22 (by rw [e1]) (by rw [e1])
  · obtain ⟨i, hi, -, ei⟩ := zs_P_in h1
    have ei : rPlc u x = nI i := ei
    have hm := nI_m1 (show i < 2 ^ 31 by omega)
    have ci := nI_clamp (show i < 2 ^ 31 by omega)
    refine zz_lv (lv' := [some (.ref h), some (.int x), some (.int (nI i))]) (by rw [ei]) ?_
    refine zz_aload_n X dX0_kill_11 rfl rfl ?_
    refine pp_get (k0 := 1) (v := .ref (a 1)) X imX0 (by decide) (mc flX0_22) rfl dX0_kill_12 ?_
    refine zz_iload_n X dX0_kill_15 rfl rfl ?_
    refine zz_iald (q0 := 2) (t0 := 1) (j := i) X rfl rfl rfl hi (by decide) dX0_kill_16 ?_
    refine zz_iconst (v := 4) X dX0_kill_17 (by decide) ?_
    refine zz_icmp_ne (tgt := 23) X dX0_kill_18 (by decide) (fun h2 => ?_) (fun h2 => ?_)
    · refine zz_aload_n X dX0_kill_23 rfl rfl ?_
      refine pp_get (k0 := 3) (v := .ref (a 3)) X imX0 (by decide) (mc flX0_28) rfl dX0_kill_24 ?_
      refine zz_iload_n X dX0_kill_27 rfl rfl ?_
      refine zz_iconst (v := 1) X dX0_kill_28 (by decide) ?_
      refine zz_zast (q0 := 4) (t0 := 3) (j := i) (ws' := wP h a ca N (up2 u 3 i 1)) X rfl rfl rfl hi (by decide) rfl dX0_kill_29 rfl ?_
      refine zz_aload_n X dX0_kill_30 rfl rfl ?_
      refine pp_get (k0 := 1) (v := .ref (a 1)) X imX0 (by decide) (mc flX0_22) rfl dX0_kill_31 ?_
      refine zz_iload_n X dX0_kill_34 rfl rfl ?_
      refine zz_iald (q0 := 2) (t0 := 1) (j := i) X rfl rfl rfl hi (by decide) dX0_kill_35 ?_
      refine zz_iconst (v := 3) X dX0_kill_36 (by decide) ?_
      refine zz_icmp_ne (tgt := 45) X dX0_kill_37 (by decide) (fun h3 => ?_) (fun h3 => ?_)
      · refine zz_iconst (v := 1) X dX0_kill_45 (by decide) ?_
        have e1 : rKil u x = (1, (up2 u 3 i 1)) := by unfold rKil; rw [ei, if_neg hm]; simp only [cl, ci]; rw [if_neg h2, if_neg h3]
        exact Ei _ _ _ _ _ rfl rfl dX0_kill_46 (by rw [e1]) (by rw [e1])
      · refine zz_aload_n X dX0_kill_40 rfl rfl ?_
        refine zz_iload_n X dX0_kill_41 rfl rfl ?_
        refine pp_callv (rest := []) X (c_makeReady hN (up2 u 3 i 1) i hi) (cwV 1 X.1.2.2.2.2 (gw lkX0_109 imX0_makeReady seX0_makeReady itX0 cdX0_makeReady) rfl rfl rfl hdX0_makeReady ⟨Nat.le_of_ble_eq_true rfl, Nat.le_of_ble_eq_true rfl⟩) rfl rfl (Nat.le_of_ble_eq_true rfl) dX0_kill_42 ⟨Nat.zero_le _, Nat.zero_le _⟩ ?_
        refine zz_iconst (v := 1) X dX0_kill_45 (by decide) ?_
        have e1 : rKil u x = (1, (rRdy (up2 u 3 i 1) i)) := by unfold rKil; rw [ei, if_neg hm]; simp only [cl, ci]; rw [if_neg h2, if_pos h3]
        exact Ei _ _ _ _ _ rfl rfl dX0_kill_46 (by rw [e1]) (by rw [e1])
    · refine zz_iconst (v := 0) X dX0_kill_21 (by decide) ?_
      have e1 : rKil u x = (0, u) := by simp [rKil, ei, hm, cl, ci, h2]
      exact Ei _ _ _ _ _ rfl rfl dX0_kill_22 (by rw [e1]) (by rw [e1])
set_option maxHeartbeats 4000000 in
set_option maxRecDepth 100000 in
theorem c_about {l : Launch} {D : va_G} {h : Nat} {a : Nat → Nat} {ca : Nat → ClassId} {N : Nat} (hN : N < 2 ^ 31) (u : St) (x y : Int32) : cP l D h a ca N yX0_about wsX0_about { frames := 1, cells := 0, slots := 0, locals := 22 } [.int x, .int y] u (some (.int (rAbt N u x y))) u := by
  refine zz_C.of (bytes := cX0_about) (maxL := 3) (ret := (some .int)) (lv0 := [some (.ref h), some (.int x), some (.int y)]) (by decide) rfl (Nat.le_of_ble_eq_true rfl) rfl rfl ?_
  intro p e s m below meth c A Q X Ei Ev
  refine zz_iload_n X dX0_about_0 rfl rfl ?_
  refine zz_if_lt (tgt := 10) X dX0_about_1 (by decide) (fun h1 => ?_) (fun h1 => ?_)
  · refine zz_iconst (v := -1) X dX0_about_10 (by decide) ?_
    exact Ei _ _ _ _ _ rfl rfl dX0_about_11 (by simp [rAbt, h1]) rfl
  · refine zz_iload_n X dX0_about_4 rfl rfl ?_
    refine zz_bipush (v := 15) X dX0_about_5 (by decide) ?_
    refine zz_icmp_lt (tgt := 12) X dX0_about_7 (by decide) (fun h2 => ?_) (fun h2 => ?_)
    · obtain ⟨i, hi, rfl⟩ : ∃ i, i < 15 ∧ x = nI i := by
        rcases pk_ix x (n := 15) (by decide) with q | q | q
        · exact absurd q h1
        · exact absurd h2 (by have q : (15 : Int32) ≤ x := q; exact Int32.not_lt.mpr q)
        · exact q
      have ci := nI_clamp (show i < 2 ^ 31 by omega)
      refine zz_aload_n X dX0_about_12 rfl rfl ?_
      refine pp_get (k0 := 1) (v := .ref (a 1)) X imX0 (by decide) (mc flX0_22) rfl dX0_about_13 ?_
      refine zz_iload_n X dX0_about_16 rfl rfl ?_
      refine zz_iald (q0 := 2) (t0 := 1) (j := i) X rfl rfl rfl hi (by decide) dX0_about_17 ?_
      refine zz_if_ne (tgt := 32) X dX0_about_18 (by decide) (fun h3 => ?_) (fun h3 => ?_)
      · refine zz_iload_n X dX0_about_32 rfl rfl ?_
        by_cases g0 : y = 0
        · subst g0
          refine zz_tabIn (tgt := 72) X dX0_about_33 (by decide) (by decide) rfl (by decide) ?_
          refine zz_aload_n X dX0_about_72 rfl rfl ?_
          refine pp_get (k0 := 0) (v := .ref (a 0)) X imX0 (by decide) (mc flX0_18) rfl dX0_about_73 ?_
          refine zz_iload_n X dX0_about_76 rfl rfl ?_
          refine zz_iald (q0 := 1) (t0 := 0) (j := i) X rfl rfl rfl hi (by decide) dX0_about_77 ?_
          exact Ei _ _ _ _ _ rfl rfl dX0_about_78 (by simp [rAbt, h1, h2, cl, ci, h3]) rfl
        by_cases g1 : y = 1
        · subst g1
          refine zz_tabIn (tgt := 79) X dX0_about_33 (by decide) (by decide) rfl (by decide) ?_
          refine zz_aload_n X dX0_about_79 rfl rfl ?_
          refine pp_get (k0 := 1) (v := .ref (a 1)) X imX0 (by decide) (mc flX0_22) rfl dX0_about_80 ?_
          refine zz_iload_n X dX0_about_83 rfl rfl ?_
          refine zz_iald (q0 := 2) (t0 := 1) (j := i) X rfl rfl rfl hi (by decide) dX0_about_84 ?_
          exact Ei _ _ _ _ _ rfl rfl dX0_about_85 (by simp [rAbt, h1, h2, cl, ci, h3]) rfl
        by_cases g2 : y = 2
        · subst g2
          refine zz_tabIn (tgt := 86) X dX0_about_33 (by decide) (by decide) rfl (by decide) ?_
          refine zz_aload_n X dX0_about_86 rfl rfl ?_
          refine pp_get (k0 := 2) (v := .ref (a 2)) X imX0 (by decide) (mc flX0_25) rfl dX0_about_87 ?_
          refine zz_iload_n X dX0_about_90 rfl rfl ?_
          refine zz_iald (q0 := 3) (t0 := 2) (j := i) X rfl rfl rfl hi (by decide) dX0_about_91 ?_
          exact Ei _ _ _ _ _ rfl rfl dX0_about_92 (by simp [rAbt, h1, h2, cl, ci, h3]) rfl
        by_cases g3 : y = 3
        · subst g3
          refine zz_tabIn (tgt := 93) X dX0_about_33 (by decide) (by decide) rfl (by decide) ?_
          refine zz_aload_n X dX0_about_93 rfl rfl ?_
          refine pp_get (k0 := 3) (v := .ref (a 3)) X imX0 (by decide) (mc flX0_28) rfl dX0_about_94 ?_
          refine zz_iload_n X dX0_about_97 rfl rfl ?_
          refine zz_zald (q0 := 4) (t0 := 3) (j := i) X rfl rfl rfl hi (by decide) dX0_about_98 ?_
          refine zz_if_eq (tgt := 106) X dX0_about_99 (by decide) (fun h5 => ?_) (fun h5 => ?_)
          · refine zz_iconst (v := 0) X dX0_about_106 (by decide) ?_
            exact Ei _ _ _ _ _ rfl rfl dX0_about_107 (by simp [rAbt, h1, h2, cl, ci, h3, h5]) rfl
          · refine zz_iconst (v := 1) X dX0_about_102 (by decide) ?_
            refine zz_goto (tgt := 107) X dX0_about_103 (by decide) ?_
            exact Ei _ _ _ _ _ rfl rfl dX0_about_107 (by simp [rAbt, h1, h2, cl, ci, h3, h5]) rfl
        by_cases g4 : y = 4
        · subst g4
          refine zz_tabIn (tgt := 108) X dX0_about_33 (by decide) (by decide) rfl (by decide) ?_
          refine zz_aload_n X dX0_about_108 rfl rfl ?_
          refine pp_get (k0 := 4) (v := .ref (a 4)) X imX0 (by decide) (mc flX0_32) rfl dX0_about_109 ?_
          refine zz_iload_n X dX0_about_112 rfl rfl ?_
          refine zz_iald (q0 := 5) (t0 := 4) (j := i) X rfl rfl rfl hi (by decide) dX0_about_113 ?_
          exact Ei _ _ _ _ _ rfl rfl dX0_about_114 (by simp [rAbt, h1, h2, cl, ci, h3]) rfl
        by_cases g5 : y = 5
        · subst g5
          refine zz_tabIn (tgt := 115) X dX0_about_33 (by decide) (by decide) rfl (by decide) ?_
          refine zz_aload_n X dX0_about_115 rfl rfl ?_
          refine zz_iload_n X dX0_about_116 rfl rfl ?_
          refine pp_calli (rest := []) X (c_processorOf hN u (nI i)) (cwV 1 X.1.2.2.2.2 (gw lkX0_121 imX0_processorOf seX0_processorOf itX0 cdX0_processorOf) rfl rfl rfl hdX0_processorOf ⟨Nat.le_of_ble_eq_true rfl, Nat.le_of_ble_eq_true rfl⟩) rfl rfl (Nat.le_of_ble_eq_true rfl) dX0_about_117 ⟨Nat.zero_le _, Nat.zero_le _⟩ ?_
          exact Ei _ _ _ _ _ rfl rfl dX0_about_120 (by simp [rAbt, h1, h2, cl, ci, h3]) rfl
        refine zz_tabOut (tgt := 121) X dX0_about_33 (by rcases Int.lt_or_le y.toInt 0 with q | q; exact Or.inl q; rcases Int.lt_or_le 5 y.toInt with q2 | q2; exact Or.inr q2; exact absurd (zz_six q q2) (by simp [g0, g1, g2, g3, g4, g5])) (by decide) ?_
        refine zz_iconst (v := -1) X dX0_about_121 (by decide) ?_
        exact Ei _ _ _ _ _ rfl rfl dX0_about_122 (by simp [rAbt, h1, h2, cl, ci, h3, g0, g1, g2, g3, g4, g5]) rfl
      · refine zz_iload_n X dX0_about_21 rfl rfl ?_
        refine zz_iconst (v := 1) X dX0_about_22 (by decide) ?_
        refine zz_icmp_ne (tgt := 30) X dX0_about_23 (by decide) (fun h4 => ?_) (fun h4 => ?_)
        · refine zz_iconst (v := -1) X dX0_about_30 (by decide) ?_
          exact Ei _ _ _ _ _ rfl rfl dX0_about_31 (by simp [rAbt, h1, h2, cl, ci, h3, h4]) rfl
        · refine zz_iconst (v := 0) X dX0_about_26 (by decide) ?_
          refine zz_goto (tgt := 31) X dX0_about_27 (by decide) ?_
          exact Ei _ _ _ _ _ rfl rfl dX0_about_31 (by simp [rAbt, h1, h2, cl, ci, h3, h4]) rfl
    · refine zz_iconst (v := -1) X dX0_about_10 (by decide) ?_
      exact Ei _ _ _ _ _ rfl rfl dX0_about_11 (by simp [rAbt, h1, h2]) rfl
set_option maxHeartbeats 4000000 in
set_option maxRecDepth 100000 in
theorem c_count {l : Launch} {D : va_G} {h : Nat} {a : Nat → Nat} {ca : Nat → ClassId} {N : Nat} (hN : N < 2 ^ 31) (u : St) (x : Int32) : cP l D h a ca N yX0_count wsX0_count { frames := 0, cells := 0, slots := 0, locals := 0 } [.int x] u (some (.int (rCnt u x))) u := by
  refine zz_C.of (bytes := cX0_count) (maxL := 5) (ret := (some .int)) (lv0 := [some (.ref h), some (.int x), none, none, none]) (by decide) rfl (Nat.le_of_ble_eq_true rfl) rfl rfl ?_
  intro p e s m below meth c A Q X Ei Ev
  refine zz_iload_n X dX0_count_0 rfl rfl ?_
  refine zz_if_lt (tgt := 9) X dX0_count_1 (by decide) (fun h1 => ?_) (fun h1 => ?_)
  · refine zz_iconst (v := -1) X dX0_count_9 (by decide) ?_
    exact Ei _ _ _ _ _ rfl rfl dX0_count_10 (by simp [rCnt, h1]) rfl
  · refine zz_iload_n X dX0_count_4 rfl rfl ?_
    refine zz_iconst (v := 4) X dX0_count_5 (by decide) ?_
    refine zz_icmp_le (tgt := 11) X dX0_count_6 (by decide) (fun h2 => ?_) (fun h2 => ?_)
    · refine zz_iconst (v := 0) X dX0_count_11 (by decide) ?_
      refine zz_istore_n (lv' := [some (.ref h), some (.int x), some (.int 0), none, none]) X dX0_count_12 rfl (by decide) rfl ?_
      refine zz_iconst (v := 0) X dX0_count_13 (by decide) ?_
      refine zz_istore_n (lv' := [some (.ref h), some (.int x), some (.int 0), some (.int 0), none]) X dX0_count_14 rfl (by decide) rfl ?_
      have loop : ∀ (n i k : Nat) (lw : Option Value), i + n = 15 → zk (fun j => if x = 0 then decide (¬ u 1 j = 0) else decide (u 1 j = x)) n i k = zk (fun j => if x = 0 then decide (¬ u 1 j = 0) else decide (u 1 j = x)) 15 0 0 → zz_V p l e { frames := 0, cells := 0, slots := 0, locals := 0 } s m [.ref h, .int x].toArray below meth c 0 0 Q 5 D vwCl A (wP h a ca N u) [some (.ref h), some (.int x), some (.int (nI k)), some (.int (nI i)), lw] 15 [] := by
        intro n
        induction n with
        | zero =>
          intro i k lw hi hz
          refine zz_iload_n X dX0_count_15 rfl rfl ?_
          refine zz_bipush (v := 15) X dX0_count_16 (by decide) ?_
          refine zz_icmp_ge (tgt := 73) X dX0_count_18 (by decide) (fun hq => ?_) (fun hq => absurd (nI_le (a := 15) (by omega) (by omega)) hq)
          refine zz_iload_n X dX0_count_73 rfl rfl ?_
          exact Ei _ _ _ _ _ rfl rfl dX0_count_74 (by rw [rCnt, if_neg h1, if_pos h2, ← hz]; rfl) rfl
        | succ n ih =>
          intro i k lw hi hz
          have hlt : i < 15 := by omega
          refine zz_iload_n X dX0_count_15 rfl rfl ?_
          refine zz_bipush (v := 15) X dX0_count_16 (by decide) ?_
          refine zz_icmp_ge (tgt := 73) X dX0_count_18 (by decide) (fun hq => absurd hq (nI_ge (b := 15) hlt (by decide))) (fun hq => ?_)
          refine zz_iload_n X dX0_count_21 rfl rfl ?_
          refine zz_if_ne (tgt := 42) X dX0_count_22 (by decide) (fun h3 => ?_) (fun h3 => ?_)
          · refine zz_aload_n X dX0_count_42 rfl rfl ?_
            refine pp_get (k0 := 1) (v := .ref (a 1)) X imX0 (by decide) (mc flX0_22) rfl dX0_count_43 ?_
            refine zz_iload_n X dX0_count_46 rfl rfl ?_
            refine zz_iald (q0 := 2) (t0 := 1) (j := i) X rfl rfl rfl hlt (by decide) dX0_count_47 ?_
            refine zz_iload_n X dX0_count_48 rfl rfl ?_
            refine zz_icmp_ne (tgt := 56) X dX0_count_49 (by decide) (fun h4 => ?_) (fun h4 => ?_)
            · refine zz_iconst (v := 0) X dX0_count_56 (by decide) ?_
              refine zz_istore (lv' := [some (.ref h), some (.int x), some (.int (nI k)), some (.int (nI i)), some (.int 0)]) X dX0_count_57 (by decide) rfl ?_
              refine zz_iload X dX0_count_59 rfl ?_
              refine zz_if_eq (tgt := 67) X dX0_count_61 (by decide) (fun hq => ?_) (fun hq => absurd rfl hq)
              refine zz_iinc (v := (nI (i + 1))) (lv' := [some (.ref h), some (.int x), some (.int (nI k)), some (.int (nI (i + 1))), some (.int 0)]) X dX0_count_67 rfl (nI_1 _) (by decide) rfl ?_
              refine zz_goto (tgt := 15) X dX0_count_70 (by decide) ?_
              exact ih (i + 1) k _ (by omega) (by rw [← hz]; simp [zk, h3, h4])
            · refine zz_iconst (v := 1) X dX0_count_52 (by decide) ?_
              refine zz_goto (tgt := 57) X dX0_count_53 (by decide) ?_
              refine zz_istore (lv' := [some (.ref h), some (.int x), some (.int (nI k)), some (.int (nI i)), some (.int 1)]) X dX0_count_57 (by decide) rfl ?_
              refine zz_iload X dX0_count_59 rfl ?_
              refine zz_if_eq (tgt := 67) X dX0_count_61 (by decide) (fun hq => absurd hq (by decide)) (fun hq => ?_)
              refine zz_iinc (v := (nI (k + 1))) (lv' := [some (.ref h), some (.int x), some (.int (nI (k + 1))), some (.int (nI i)), some (.int 1)]) X dX0_count_64 rfl (nI_1 _) (by decide) rfl ?_
              refine zz_iinc (v := (nI (i + 1))) (lv' := [some (.ref h), some (.int x), some (.int (nI (k + 1))), some (.int (nI (i + 1))), some (.int 1)]) X dX0_count_67 rfl (nI_1 _) (by decide) rfl ?_
              refine zz_goto (tgt := 15) X dX0_count_70 (by decide) ?_
              exact ih (i + 1) (k + 1) _ (by omega) (by rw [← hz]; simp [zk, h3, h4])
          · refine zz_aload_n X dX0_count_25 rfl rfl ?_
            refine pp_get (k0 := 1) (v := .ref (a 1)) X imX0 (by decide) (mc flX0_22) rfl dX0_count_26 ?_
            refine zz_iload_n X dX0_count_29 rfl rfl ?_
            refine zz_iald (q0 := 2) (t0 := 1) (j := i) X rfl rfl rfl hlt (by decide) dX0_count_30 ?_
            refine zz_if_eq (tgt := 38) X dX0_count_31 (by decide) (fun h4 => ?_) (fun h4 => ?_)
            · refine zz_iconst (v := 0) X dX0_count_38 (by decide) ?_
              refine zz_goto (tgt := 57) X dX0_count_39 (by decide) ?_
              refine zz_istore (lv' := [some (.ref h), some (.int x), some (.int (nI k)), some (.int (nI i)), some (.int 0)]) X dX0_count_57 (by decide) rfl ?_
              refine zz_iload X dX0_count_59 rfl ?_
              refine zz_if_eq (tgt := 67) X dX0_count_61 (by decide) (fun hq => ?_) (fun hq => absurd rfl hq)
              refine zz_iinc (v := (nI (i + 1))) (lv' := [some (.ref h), some (.int x), some (.int (nI k)), some (.int (nI (i + 1))), some (.int 0)]) X dX0_count_67 rfl (nI_1 _) (by decide) rfl ?_
              refine zz_goto (tgt := 15) X dX0_count_70 (by decide) ?_
              exact ih (i + 1) k _ (by omega) (by rw [← hz]; simp [zk, h3, h4])
            · refine zz_iconst (v := 1) X dX0_count_34 (by decide) ?_
              refine zz_goto (tgt := 57) X dX0_count_35 (by decide) ?_
              refine zz_istore (lv' := [some (.ref h), some (.int x), some (.int (nI k)), some (.int (nI i)), some (.int 1)]) X dX0_count_57 (by decide) rfl ?_
              refine zz_iload X dX0_count_59 rfl ?_
              refine zz_if_eq (tgt := 67) X dX0_count_61 (by decide) (fun hq => absurd hq (by decide)) (fun hq => ?_)
              refine zz_iinc (v := (nI (k + 1))) (lv' := [some (.ref h), some (.int x), some (.int (nI (k + 1))), some (.int (nI i)), some (.int 1)]) X dX0_count_64 rfl (nI_1 _) (by decide) rfl ?_
              refine zz_iinc (v := (nI (i + 1))) (lv' := [some (.ref h), some (.int x), some (.int (nI (k + 1))), some (.int (nI (i + 1))), some (.int 1)]) X dX0_count_67 rfl (nI_1 _) (by decide) rfl ?_
              refine zz_goto (tgt := 15) X dX0_count_70 (by decide) ?_
              exact ih (i + 1) (k + 1) _ (by omega) (by rw [← hz]; simp [zk, h3, h4])
      exact loop 15 0 0 none rfl rfl
    · refine zz_iconst (v := -1) X dX0_count_9 (by decide) ?_
      exact Ei _ _ _ _ _ rfl rfl dX0_count_10 (by simp [rCnt, h1, h2]) rfl
end
section
set_option maxHeartbeats 4000000 in
set_option maxRecDepth 100000 in
theorem c_init {l : Launch} {D : va_G} {h : Nat} (x : Int32) : zz_CI l D vwCl yX0_init wsX0_init { frames := 1, cells := 9, slots := 124, locals := 14 } [.ref h, .int x] [(h, .inr (0, [.null, .null, .null, .null, .null, .null, .null, .null, .null, .int 0, .int 0, .int 0, .int 0]))] (S := (Nat → Nat) × (Nat → ClassId)) (fun z => tyP z.2) (fun z => wP h z.1 z.2 (rN x) (rU0 (rN x))) (fun _ => True) 9 124 := by
  refine zz_CI.of (bytes := cX0_init) (maxL := 4) (lv0 := [some (.ref h), some (.int x), none, none]) (by decide) rfl rfl (Nat.le_of_ble_eq_true rfl) rfl rfl ?_
  intro p e s m below meth c A Q X hini Ev
  obtain ⟨en, hn1, hn4⟩ := rN_eq x
  obtain ⟨N, eN⟩ : ∃ N, N = rN x := ⟨_, rfl⟩
  rw [← eN] at en hn1 hn4
  have hN : N < 2 ^ 31 := by omega
  refine zz_aload_n X dX0_init_0 rfl rfl ?_
  refine zz_objInit X (mc lkX0_1) (mc im_obj) (mc me_obj) dX0_init_1 (by decide) (fun ls => Nat.le_of_ble_eq_true rfl) ?_
  refine zz_iconst (v := 1) X dX0_init_4 (by decide) ?_
  refine zz_iconst (v := 4) X dX0_init_5 (by decide) ?_
  refine zz_iload_n X dX0_init_6 rfl rfl ?_
  refine zz_mmin X (mc lkX0_9) (mc st_min) (mc it_math) (mc cd_min) (by decide) (Nat.le_of_ble_eq_true rfl) ⟨by decide, by decide⟩ dX0_init_7 ?_
  refine zz_mmax X (mc lkX0_15) (mc st_max) (mc it_math) (mc cd_max) (by decide) (Nat.le_of_ble_eq_true rfl) ⟨by decide, by decide⟩ dX0_init_10 ?_
  refine zz_top en ?_
  refine zz_istore_n (lv' := [some (.ref h), some (.int x), some (.int (nI N)), none]) X dX0_init_13 rfl (by decide) rfl ?_
  refine zz_aload_n X dX0_init_14 rfl rfl ?_
  refine zz_bipush (v := 15) X dX0_init_15 (by decide) ?_
  refine zz_newa (atype := .int) (ty := .int) (N' := 15) (a0 := (15, .inl (fun _ => 0))) X (mc ar_int) rfl (fun _ => rfl) (by decide) (by decide) (by decide) (by decide) (by decide) dX0_init_17 (fun q0 c0 X => ?_)
  refine zz_putF (q0 := 0) (k0 := 0) (ty := tyX0 0) (ws' := [(h, .inr (0, [.ref q0, .null, .null, .null, .null, .null, .null, .null, .null, .int 0, .int 0, .int 0, .int 0])), (q0, .inl (c0, 15, .inl (fun _ => 0)))]) X imX0 tyX0 tyX0_ok nmX0 rfl rfl (by decide) (mc flX0_18) (by decide) hini rfl (tyX0_ok 0 (by decide)) rfl rfl (Nat.le_of_ble_eq_true rfl) dX0_init_19 rfl ?_
  refine zz_aload_n X dX0_init_22 rfl rfl ?_
  refine zz_bipush (v := 15) X dX0_init_23 (by decide) ?_
  refine zz_newa (atype := .int) (ty := .int) (N' := 15) (a0 := (15, .inl (fun _ => 0))) X (mc ar_int) rfl (fun _ => rfl) (by decide) (by decide) (by decide) (by decide) (by decide) dX0_init_25 (fun q1 c1 X => ?_)
  refine zz_putF (q0 := 0) (k0 := 1) (ty := tyX0 1) (ws' := [(h, .inr (0, [.ref q0, .ref q1, .null, .null, .null, .null, .null, .null, .null, .int 0, .int 0, .int 0, .int 0])), (q0, .inl (c0, 15, .inl (fun _ => 0))), (q1, .inl (c1, 15, .inl (fun _ => 0)))]) X imX0 tyX0 tyX0_ok nmX0 rfl rfl (by decide) (mc flX0_22) (by decide) hini rfl (tyX0_ok 1 (by decide)) rfl rfl (Nat.le_of_ble_eq_true rfl) dX0_init_27 rfl ?_
  refine zz_aload_n X dX0_init_30 rfl rfl ?_
  refine zz_bipush (v := 15) X dX0_init_31 (by decide) ?_
  refine zz_newa (atype := .int) (ty := .int) (N' := 15) (a0 := (15, .inl (fun _ => 0))) X (mc ar_int) rfl (fun _ => rfl) (by decide) (by decide) (by decide) (by decide) (by decide) dX0_init_33 (fun q2 c2 X => ?_)
  refine zz_putF (q0 := 0) (k0 := 2) (ty := tyX0 2) (ws' := [(h, .inr (0, [.ref q0, .ref q1, .ref q2, .null, .null, .null, .null, .null, .null, .int 0, .int 0, .int 0, .int 0])), (q0, .inl (c0, 15, .inl (fun _ => 0))), (q1, .inl (c1, 15, .inl (fun _ => 0))), (q2, .inl (c2, 15, .inl (fun _ => 0)))]) X imX0 tyX0 tyX0_ok nmX0 rfl rfl (by decide) (mc flX0_25) (by decide) hini rfl (tyX0_ok 2 (by decide)) rfl rfl (Nat.le_of_ble_eq_true rfl) dX0_init_35 rfl ?_
  refine zz_aload_n X dX0_init_38 rfl rfl ?_
  refine zz_bipush (v := 15) X dX0_init_39 (by decide) ?_
  refine zz_newa (atype := .boolean) (ty := .boolean) (N' := 15) (a0 := (15, .inl (fun _ => 0))) X (mc ar_boolean) rfl (fun _ => rfl) (by decide) (by decide) (by decide) (by decide) (by decide) dX0_init_41 (fun q3 c3 X => ?_)
  refine zz_putF (q0 := 0) (k0 := 3) (ty := tyX0 3) (ws' := [(h, .inr (0, [.ref q0, .ref q1, .ref q2, .ref q3, .null, .null, .null, .null, .null, .int 0, .int 0, .int 0, .int 0])), (q0, .inl (c0, 15, .inl (fun _ => 0))), (q1, .inl (c1, 15, .inl (fun _ => 0))), (q2, .inl (c2, 15, .inl (fun _ => 0))), (q3, .inl (c3, 15, .inl (fun _ => 0)))]) X imX0 tyX0 tyX0_ok nmX0 rfl rfl (by decide) (mc flX0_28) (by decide) hini rfl (tyX0_ok 3 (by decide)) rfl rfl (Nat.le_of_ble_eq_true rfl) dX0_init_43 rfl ?_
  refine zz_aload_n X dX0_init_46 rfl rfl ?_
  refine zz_bipush (v := 15) X dX0_init_47 (by decide) ?_
  refine zz_newa (atype := .int) (ty := .int) (N' := 15) (a0 := (15, .inl (fun _ => 0))) X (mc ar_int) rfl (fun _ => rfl) (by decide) (by decide) (by decide) (by decide) (by decide) dX0_init_49 (fun q4 c4 X => ?_)
  refine zz_putF (q0 := 0) (k0 := 4) (ty := tyX0 4) (ws' := [(h, .inr (0, [.ref q0, .ref q1, .ref q2, .ref q3, .ref q4, .null, .null, .null, .null, .int 0, .int 0, .int 0, .int 0])), (q0, .inl (c0, 15, .inl (fun _ => 0))), (q1, .inl (c1, 15, .inl (fun _ => 0))), (q2, .inl (c2, 15, .inl (fun _ => 0))), (q3, .inl (c3, 15, .inl (fun _ => 0))), (q4, .inl (c4, 15, .inl (fun _ => 0)))]) X imX0 tyX0 tyX0_ok nmX0 rfl rfl (by decide) (mc flX0_32) (by decide) hini rfl (tyX0_ok 4 (by decide)) rfl rfl (Nat.le_of_ble_eq_true rfl) dX0_init_51 rfl ?_
  refine zz_aload_n X dX0_init_54 rfl rfl ?_
  refine zz_bipush (v := 15) X dX0_init_55 (by decide) ?_
  refine zz_newa (atype := .int) (ty := .int) (N' := 15) (a0 := (15, .inl (fun _ => 0))) X (mc ar_int) rfl (fun _ => rfl) (by decide) (by decide) (by decide) (by decide) (by decide) dX0_init_57 (fun q5 c5 X => ?_)
  refine zz_putF (q0 := 0) (k0 := 5) (ty := tyX0 5) (ws' := [(h, .inr (0, [.ref q0, .ref q1, .ref q2, .ref q3, .ref q4, .ref q5, .null, .null, .null, .int 0, .int 0, .int 0, .int 0])), (q0, .inl (c0, 15, .inl (fun _ => 0))), (q1, .inl (c1, 15, .inl (fun _ => 0))), (q2, .inl (c2, 15, .inl (fun _ => 0))), (q3, .inl (c3, 15, .inl (fun _ => 0))), (q4, .inl (c4, 15, .inl (fun _ => 0))), (q5, .inl (c5, 15, .inl (fun _ => 0)))]) X imX0 tyX0 tyX0_ok nmX0 rfl rfl (by decide) (mc flX0_35) (by decide) hini rfl (tyX0_ok 5 (by decide)) rfl rfl (Nat.le_of_ble_eq_true rfl) dX0_init_59 rfl ?_
  refine zz_aload_n X dX0_init_62 rfl rfl ?_
  refine zz_bipush (v := 15) X dX0_init_63 (by decide) ?_
  refine zz_newa (atype := .int) (ty := .int) (N' := 15) (a0 := (15, .inl (fun _ => 0))) X (mc ar_int) rfl (fun _ => rfl) (by decide) (by decide) (by decide) (by decide) (by decide) dX0_init_65 (fun q6 c6 X => ?_)
  refine zz_putF (q0 := 0) (k0 := 6) (ty := tyX0 6) (ws' := [(h, .inr (0, [.ref q0, .ref q1, .ref q2, .ref q3, .ref q4, .ref q5, .ref q6, .null, .null, .int 0, .int 0, .int 0, .int 0])), (q0, .inl (c0, 15, .inl (fun _ => 0))), (q1, .inl (c1, 15, .inl (fun _ => 0))), (q2, .inl (c2, 15, .inl (fun _ => 0))), (q3, .inl (c3, 15, .inl (fun _ => 0))), (q4, .inl (c4, 15, .inl (fun _ => 0))), (q5, .inl (c5, 15, .inl (fun _ => 0))), (q6, .inl (c6, 15, .inl (fun _ => 0)))]) X imX0 tyX0 tyX0_ok nmX0 rfl rfl (by decide) (mc flX0_38) (by decide) hini rfl (tyX0_ok 6 (by decide)) rfl rfl (Nat.le_of_ble_eq_true rfl) dX0_init_67 rfl ?_
  refine zz_aload_n X dX0_init_70 rfl rfl ?_
  refine zz_bipush (v := 15) X dX0_init_71 (by decide) ?_
  refine zz_newa (atype := .int) (ty := .int) (N' := 15) (a0 := (15, .inl (fun _ => 0))) X (mc ar_int) rfl (fun _ => rfl) (by decide) (by decide) (by decide) (by decide) (by decide) dX0_init_73 (fun q7 c7 X => ?_)
  refine zz_putF (q0 := 0) (k0 := 7) (ty := tyX0 7) (ws' := [(h, .inr (0, [.ref q0, .ref q1, .ref q2, .ref q3, .ref q4, .ref q5, .ref q6, .ref q7, .null, .int 0, .int 0, .int 0, .int 0])), (q0, .inl (c0, 15, .inl (fun _ => 0))), (q1, .inl (c1, 15, .inl (fun _ => 0))), (q2, .inl (c2, 15, .inl (fun _ => 0))), (q3, .inl (c3, 15, .inl (fun _ => 0))), (q4, .inl (c4, 15, .inl (fun _ => 0))), (q5, .inl (c5, 15, .inl (fun _ => 0))), (q6, .inl (c6, 15, .inl (fun _ => 0))), (q7, .inl (c7, 15, .inl (fun _ => 0)))]) X imX0 tyX0 tyX0_ok nmX0 rfl rfl (by decide) (mc flX0_41) (by decide) hini rfl (tyX0_ok 7 (by decide)) rfl rfl (Nat.le_of_ble_eq_true rfl) dX0_init_75 rfl ?_
  refine zz_aload_n X dX0_init_78 rfl rfl ?_
  refine zz_iload_n X dX0_init_79 rfl rfl ?_
  refine zz_newa (atype := .int) (ty := .int) (N' := N) (a0 := (N, .inl (fun _ => 0))) X (mc ar_int) rfl (fun _ => rfl) (nI_pos hN) (nI_clamp hN) (show N * 4 ≤ 536870912 by omega) (by decide) (show 120 + N ≤ 124 by omega) dX0_init_80 (fun q8 c8 X => ?_)
  refine zz_putF (q0 := 0) (k0 := 8) (ty := tyX0 8) (ws' := [(h, .inr (0, [.ref q0, .ref q1, .ref q2, .ref q3, .ref q4, .ref q5, .ref q6, .ref q7, .ref q8, .int 0, .int 0, .int 0, .int 0])), (q0, .inl (c0, 15, .inl (fun _ => 0))), (q1, .inl (c1, 15, .inl (fun _ => 0))), (q2, .inl (c2, 15, .inl (fun _ => 0))), (q3, .inl (c3, 15, .inl (fun _ => 0))), (q4, .inl (c4, 15, .inl (fun _ => 0))), (q5, .inl (c5, 15, .inl (fun _ => 0))), (q6, .inl (c6, 15, .inl (fun _ => 0))), (q7, .inl (c7, 15, .inl (fun _ => 0))), (q8, .inl (c8, N, .inl (fun _ => 0)))]) X imX0 tyX0 tyX0_ok nmX0 rfl rfl (by decide) (mc flX0_44) (by decide) hini rfl (tyX0_ok 8 (by decide)) rfl rfl (Nat.le_of_ble_eq_true rfl) dX0_init_82 rfl ?_
  obtain ⟨a, ea⟩ : ∃ a : Nat → Nat, a = mk9 q0 q1 q2 q3 q4 q5 q6 q7 q8 := ⟨_, rfl⟩
  obtain ⟨ca, eca⟩ : ∃ ca : Nat → ClassId, ca = mk9 c0 c1 c2 c3 c4 c5 c6 c7 c8 := ⟨_, rfl⟩
  have X : zz_X p s m [Value.ref h, .int x].toArray c cX0_init 4 wsX0_init RX0 D vwCl (tyP ca) A := by rw [eca]; exact X
  refine zz_ws (ws' := wP h a ca N rZ) (by rw [ea, eca]; rfl) ?_
  refine zz_widen (k2 := 9) (n2 := 124) (by decide) (show 120 + N ≤ 124 by omega) ?_
  refine zz_iconst (v := 0) X dX0_init_85 (by decide) ?_
  refine zz_istore_n (lv' := [some (.ref h), some (.int x), some (.int (nI N)), some (.int 0)]) X dX0_init_86 rfl (by decide) rfl ?_
  have loop : ∀ (n i : Nat) (v : St), i + n = N → zl (fun i v => up2 v 8 i (-1)) n i v = zl (fun i v => up2 v 8 i (-1)) N 0 rZ → zz_V p l e { frames := 1, cells := 9, slots := 124, locals := 14 } s m [.ref h, .int x].toArray below meth c 9 124 Q 4 D vwCl A (wP h a ca N v) [some (.ref h), some (.int x), some (.int (nI N)), some (.int (nI i))] 87 [] := by
    intro n
    induction n with
    | zero =>
      intro i v hi hz
      refine zz_iload_n X dX0_init_87 rfl rfl ?_
      refine zz_iload_n X dX0_init_88 rfl rfl ?_
      refine zz_icmp_ge (tgt := 105) X dX0_init_89 (by decide) (fun hq => ?_) (fun hq => absurd (nI_le (a := N) (by omega) (by omega)) hq)
      refine zz_aload_n X dX0_init_105 rfl rfl ?_
      refine zz_bipush (v := 14) X dX0_init_106 (by decide) ?_
      refine pp_put (k0 := 9) (u2 := (up2 v 9 0 14)) X imX0 (by decide) (mc flX0_47) (by decide) (by decide +kernel) dX0_init_108 rfl ?_
      refine zz_aload_n X dX0_init_111 rfl rfl ?_
      refine zz_iconst (v := 0) X dX0_init_112 (by decide) ?_
      refine pp_put (k0 := 10) (u2 := (up2 (up2 v 9 0 14) 9 1 0)) X imX0 (by decide) (mc flX0_51) (by decide) (by decide +kernel) dX0_init_113 rfl ?_
      refine zz_aload_n X dX0_init_116 rfl rfl ?_
      refine zz_iconst (v := 0) X dX0_init_117 (by decide) ?_
      refine pp_put (k0 := 11) (u2 := (up2 (up2 (up2 v 9 0 14) 9 1 0) 9 2 0)) X imX0 (by decide) (mc flX0_54) (by decide) (by decide +kernel) dX0_init_118 rfl ?_
      refine zz_aload_n X dX0_init_121 rfl rfl ?_
      refine zz_iconst (v := 0) X dX0_init_122 (by decide) ?_
      refine pp_put (k0 := 12) (u2 := (up2 (up2 (up2 (up2 v 9 0 14) 9 1 0) 9 2 0) 9 3 0)) X imX0 (by decide) (mc flX0_57) (by decide) (by decide +kernel) dX0_init_123 rfl ?_
      have hz : v = zl (fun i v => up2 v 8 i (-1)) N 0 rZ := hz
      exact Ev (a, ca) _ _ _ _ _ _ X dX0_init_126 trivial rfl (by rw [rU0, ← eN, ← hz]) (Nat.le_refl _) (Nat.le_refl _)
    | succ n ih =>
      intro i v hi hz
      have hlt : i < N := by omega
      refine zz_iload_n X dX0_init_87 rfl rfl ?_
      refine zz_iload_n X dX0_init_88 rfl rfl ?_
      refine zz_icmp_ge (tgt := 105) X dX0_init_89 (by decide) (fun hq => absurd hq (nI_ge hlt hN)) (fun hq => ?_)
      refine zz_aload_n X dX0_init_92 rfl rfl ?_
      refine pp_get (k0 := 8) (v := .ref (a 8)) X imX0 (by decide) (mc flX0_44) rfl dX0_init_93 ?_
      refine zz_iload_n X dX0_init_96 rfl rfl ?_
      refine zz_iconst (v := -1) X dX0_init_97 (by decide) ?_
      refine zz_iast (q0 := 9) (t0 := 8) (j := i) (ws' := wP h a ca N (up2 v 8 i (-1))) X rfl rfl rfl hlt hN dX0_init_98 rfl ?_
      refine zz_iinc (v := (nI (i + 1))) (lv' := [some (.ref h), some (.int x), some (.int (nI N)), some (.int (nI (i + 1)))]) X dX0_init_99 rfl (nI_1 _) (by decide) rfl ?_
      refine zz_goto (tgt := 87) X dX0_init_102 (by decide) ?_
      exact ih (i + 1) _ (by omega) hz
  exact loop N 0 rZ (Nat.zero_add _) rfl
end
section
/-! THE REFERENCE'S STATE AS A NUMBER TABLE: rows 0..8 are its arrays (number, place, parent, ended, result, killed, on, waits, which), row 9 its numbers (thrown, processors, many, ticks, latest, taken, status). -/
def mFnd (f : Nat → Int32) (x : Int32) (m : Nat) : Int32 := zl (fun k r => if f k = x then nI k else r) m 0 (-1)
def mRun (v : St) (m : Nat) (x : Int32) : Int32 := if x < 0 then -1 else if v 9 1 ≤ x then -1 else mFnd (v 6) x m
/-- the first number from i on, of n, that has not P -/
def zv (P : Nat → Bool) : Nat → Nat → Nat
  | 0, i => i
  | n + 1, i => if P i = true then zv P n (i + 1) else i
def mVac (v : St) (m : Nat) : Nat := zv (fun j => decide (¬ mFnd (v 1) (nI j) m < 0)) 15 0
def mEnd1 (v : St) (r k : Nat) (f : Int32) : Int32 := if v 2 k = v 0 r then (if v 3 k = 0 then f else if f < 0 then nI k else if v 1 (cl f) ≤ v 1 k then f else nI k) else f
def mEnd (v : St) (m r : Nat) : Int32 := zl (mEnd1 v r) m 0 (-1)
def mSta (v : St) (m r : Nat) : Int32 := if v 3 r = 0 then (if v 6 r < 0 then (if v 7 r = 1 then 3 else if v 7 r = 2 then (if mEnd v m r < 0 then 3 else 1) else if v 7 r = 3 then (if v 8 r ≤ v 9 3 then 1 else 3) else 1) else 2) else 4
def mAdd1 (v : St) (m : Nat) (x y : Int32) : St := up2 (up2 (up2 (up2 v 9 4 (v 9 4 + 1)) 0 m ((up2 v 9 4 (v 9 4 + 1)) 9 4)) 1 m x) 2 m y
def mAdd (v : St) (m : Nat) (x y : Int32) : St := up2 (up2 (up2 (up2 (up2 (up2 (mAdd1 v m x y) 3 m 0) 4 m 0) 5 m 0) 6 m (-1)) 7 m 0) 9 2 (nI (m + 1))
def mS (q k : Nat) (v : St) : St := up2 v q k (v q (k + 1))
def mShf (k : Nat) (v : St) : St := mS 8 k (mS 7 k (mS 6 k (mS 5 k (mS 4 k (mS 3 k (mS 2 k (mS 1 k (mS 0 k v))))))))
/-- row r is gone; m is how many are left -/
def mRem (v : St) (m r : Nat) : St := zl mShf (m - r) r (up2 v 9 2 (nI m))
def mWts (v : St) (r : Nat) (x y : Int32) : St := up2 (up2 (up2 v 6 r (-1)) 7 r x) 8 r y
/-- the flags are 0 or 1 -/
def mB (v : St) : Prop := ∀ k, k < 16 → (v 3 k = 0 ∨ v 3 k = 1) ∧ (v 5 k = 0 ∨ v 5 k = 1)
theorem zz_nb {x : Int32} (h : x = 0 ∨ x = 1) : vp_nar .boolean x = x := by
  rcases h with rfl | rfl <;> decide
def mFst (v : St) (m : Nat) : Int32 × St := if nI m ≤ 0 then (1, mAdd (up2 (up2 (up2 v 9 3 0) 9 4 0) 9 5 14) m 0 0) else (0, v)
/-- the row that is picked: from the row found so far, places counted round from behind t -/
def mPk1 (v : St) (m t : Nat) : Nat → Nat → Int32 → Int32
  | 0, _, r => r
  | n + 1, i, r => if 0 ≤ r then r else mPk1 v m t n (i + 1) (if mFnd (v 1) (nI ((t + i) % 15)) m < 0 then -1 else if mSta v m (cl (mFnd (v 1) (nI ((t + i) % 15)) m)) = 1 then mFnd (v 1) (nI ((t + i) % 15)) m else -1)
def mPk2 (v : St) (r : Nat) (x : Int32) : St := up2 (up2 (up2 v 6 r x) 7 r 0) 9 5 ((up2 (up2 v 6 r x) 7 r 0) 1 r)
def mPck (v : St) (m t : Nat) (x : Int32) : Int32 × St := if x < 0 then (-1, v) else if x < v 9 1 then (if 0 ≤ mPk1 v m t 15 1 (mRun v m x) then (if v 6 (cl (mPk1 v m t 15 1 (mRun v m x))) = x then (v 1 (cl (mPk1 v m t 15 1 (mRun v m x))), v) else ((mPk2 v (cl (mPk1 v m t 15 1 (mRun v m x))) x) 1 (cl (mPk1 v m t 15 1 (mRun v m x))), mPk2 v (cl (mPk1 v m t 15 1 (mRun v m x))) x)) else (-1, v)) else (-1, v)
def mFrk (v : St) (m : Nat) (x : Int32) : Int32 × St := if mRun v m x < 0 then (-1, v) else if nI (mVac v m) = 15 then (-1, v) else (nI (mVac v m), mAdd v m (nI (mVac v m)) (v 0 (cl (mRun v m x))))
def mExt1 (r k : Nat) (v : St) : St := if v 2 k = v 0 r then up2 v 2 k 1 else up2 v 2 k (v 2 k)
def mExt2 (v : St) (r : Nat) (y : Int32) : St := up2 (up2 (up2 v 3 r 1) 4 r y) 6 r (-1)
def mExt (v : St) (m : Nat) (x y : Int32) : Int32 × St := if 0 ≤ mRun v m x then (if v 0 (cl (mRun v m x)) = 1 then (v 1 (cl (mRun v m x)), up2 (up2 v 9 6 y) 9 2 0) else (v 1 (cl (mRun v m x)), mExt2 (zl (mExt1 (cl (mRun v m x))) m 0 v) (cl (mRun v m x)) y)) else (-1, v)
def mChd (v : St) (m r : Nat) : Int32 := zl (fun k f => if f = 0 then (if v 2 k = v 0 r then 1 else 0) else 1) m 0 0
def mAwt (v : St) (m : Nat) (x : Int32) : Int32 × St := if mRun v m x < 0 then (-1, v) else if mChd v m (cl (mRun v m x)) = 0 then (-1, v) else if 0 ≤ mEnd v m (cl (mRun v m x)) then (v 0 (cl (mEnd v m (cl (mRun v m x)))), mRem (up2 v 9 6 (v 4 (cl (mEnd v m (cl (mRun v m x)))))) (m - 1) (cl (mEnd v m (cl (mRun v m x))))) else (0, mWts v (cl (mRun v m x)) 2 0)
def mBlo (v : St) (m : Nat) (x y : Int32) : Int32 × St := if 0 ≤ mRun v m x then ((mWts v (cl (mRun v m x)) 1 y) 1 (cl (mRun v m x)), mWts v (cl (mRun v m x)) 1 y) else (-1, v)
def mSlpW (v : St) (y : Int32) : Int32 := if v 9 3 ≤ 2147483647 - y then v 9 3 + y else 2147483647
def mSlp (v : St) (m : Nat) (x y : Int32) : Int32 × St := if 0 ≤ mRun v m x then (if 1 ≤ y then ((mWts v (cl (mRun v m x)) 3 (mSlpW v y)) 1 (cl (mRun v m x)), mWts v (cl (mRun v m x)) 3 (mSlpW v y)) else (v 1 (cl (mRun v m x)), v)) else (-1, v)
def mWak1 (x : Int32) (k : Nat) (q : Nat × St) : Nat × St := if q.2 3 k = 0 then (if 0 ≤ q.2 6 k then q else if q.2 7 k = 1 then (if q.2 8 k = x then (q.1 + 1, up2 q.2 7 k 0) else q) else q) else q
def mWak (v : St) (m : Nat) (x : Int32) : Nat × St := zl (mWak1 x) m 0 (0, v)
def mRst (v : St) (m : Nat) (x : Int32) : Int32 × St := if 0 ≤ mRun v m x then ((mWts v (cl (mRun v m x)) 0 0) 1 (cl (mRun v m x)), mWts v (cl (mRun v m x)) 0 0) else (-1, v)
def mTck1 (m : Nat) (v : St) : St := zl (fun k w => up2 w 6 k (-1)) m 0 (up2 v 9 3 (v 9 3 + 1))
def mTck (v : St) (m : Nat) : Int32 × St := if nI m = 0 then (-1, v) else ((mTck1 m v) 9 3, mTck1 m v)
def mKil (v : St) (m : Nat) (x : Int32) : Int32 × St := if mFnd (v 0) x m < 0 then (0, v) else if v 3 (cl (mFnd (v 0) x m)) = 0 then (1, up2 (up2 v 5 (cl (mFnd (v 0) x m)) 1) 7 (cl (mFnd (v 0) x m)) 0) else (0, v)
def mAbtR (v : St) (m : Nat) (x : Int32) : Int32 := if x < 0 then -1 else if 15 ≤ x then -1 else mFnd (v 1) x m
def mAbt (v : St) (m : Nat) (x y : Int32) : Int32 := if 0 ≤ mAbtR v m x then (if y = 0 then v 0 (cl (mAbtR v m x)) else if y = 1 then mSta v m (cl (mAbtR v m x)) else if y = 2 then v 2 (cl (mAbtR v m x)) else if y = 3 then (if v 5 (cl (mAbtR v m x)) = 0 then 0 else 1) else if y = 4 then (if v 3 (cl (mAbtR v m x)) = 0 then 0 else v 4 (cl (mAbtR v m x))) else if y = 5 then v 6 (cl (mAbtR v m x)) else -1) else (if x < 0 then -1 else if 15 ≤ x then -1 else if y = 1 then 0 else -1)
def mCnt1 (v : St) (m : Nat) (x : Int32) : Nat := zk (fun k => if x = 0 then true else decide (mSta v m k = x)) m 0 0
def mCnt (v : St) (m : Nat) (x : Int32) : Int32 := if x < 0 then -1 else if x ≤ 4 then nI (mCnt1 v m x) else -1
theorem mFnd_in {f : Nat → Int32} {x : Int32} {m : Nat} : mFnd f x m = -1 ∨ ∃ k, k < m ∧ f k = x ∧ mFnd f x m = nI k := by
  have h := zl_inv (f := fun k (r : Int32) => if f k = x then nI k else r) (I := fun i r => r = -1 ∨ ∃ k, k < i ∧ f k = x ∧ r = nI k) m 0 (-1) (fun j r _ _ hr => by
    show (if f j = x then nI j else r) = -1 ∨ _
    by_cases e : f j = x
    · rw [if_pos e]
      exact Or.inr ⟨j, by omega, e, rfl⟩
    · rw [if_neg e]
      rcases hr with q | ⟨k, a, b, c⟩
      · exact Or.inl q
      · exact Or.inr ⟨k, by omega, b, c⟩) (Or.inl rfl)
  rw [Nat.zero_add] at h
  exact h
theorem mEnd_in {v : St} {r m : Nat} : mEnd v m r = -1 ∨ ∃ k, k < m ∧ mEnd v m r = nI k := by
  have h := zl_inv (f := mEnd1 v r) (I := fun i q => q = -1 ∨ ∃ k, k < i ∧ q = nI k) m 0 (-1) (fun j q _ _ hr => by
    have hk : q = -1 ∨ ∃ k, k < j + 1 ∧ q = nI k := by
      rcases hr with a | ⟨k, a, b⟩
      · exact Or.inl a
      · exact Or.inr ⟨k, by omega, b⟩
    have hj : nI j = -1 ∨ ∃ k, k < j + 1 ∧ nI j = nI k := Or.inr ⟨j, by omega, rfl⟩
    unfold mEnd1
    split
    · split
      · exact hk
      · split
        · exact hj
        · split
          · exact hk
          · exact hj
    · exact hk) (Or.inl rfl)
  rw [Nat.zero_add] at h
  exact h
theorem m1_neg : (-1 : Int32) < 0 := by decide
theorem nI_nn {k : Nat} (h : k < 2 ^ 31) : (0 : Int32) ≤ nI k := nI_pos' h
theorem nn_m1 : ¬ (0 : Int32) ≤ -1 := by decide
theorem up2_0 {v : St} (h : v 9 0 = 0) : up2 v 9 0 0 = v := by
  funext k i
  rw [up2_at]
  split
  · rename_i q
    rw [q.1, q.2, h]
  · rfl
theorem mRun_in {v : St} {x : Int32} {m : Nat} : mRun v m x = -1 ∨ ∃ k, k < m ∧ v 6 k = x ∧ mRun v m x = nI k := by
  unfold mRun
  split
  · exact Or.inl rfl
  · split
    · exact Or.inl rfl
    · exact mFnd_in
theorem mB_shf {w : St} {i : Nat} (hi : i + 1 < 16) (h : mB w) : mB (mShf i w) := by
  intro k hk
  show (upd (w 3) i (w 3 (i + 1)) k = 0 ∨ upd (w 3) i (w 3 (i + 1)) k = 1) ∧ (upd (w 5) i (w 5 (i + 1)) k = 0 ∨ upd (w 5) i (w 5 (i + 1)) k = 1)
  unfold upd
  by_cases e : k = i
  · rw [if_pos e, if_pos e]
    exact h (i + 1) hi
  · rw [if_neg e, if_neg e]
    exact h k hk
end
section
theorem ctX1_89 : Cond.constant RX1 89 2147483647 ∈ lw_gd := gdm (i := 343) (by decide +kernel) rfl

abbrev flM (a : Nat → Nat) (v : St) : List Value := [.int (v 9 0), .int (v 9 1), .int (v 9 2), .int (v 9 3), .int (v 9 4), .int (v 9 5), .int (v 9 6), .ref (a 0), .ref (a 1), .ref (a 2), .ref (a 3), .ref (a 4), .ref (a 5), .ref (a 6), .ref (a 7), .ref (a 8)]
abbrev wM (h : Nat) (a : Nat → Nat) (ca : Nat → ClassId) (v : St) : va_W := [(h, .inr (1, flM a v)), (a 0, .inl (ca 0, 16, .inl (v 0))), (a 1, .inl (ca 1, 16, .inl (v 1))), (a 2, .inl (ca 2, 16, .inl (v 2))), (a 3, .inl (ca 3, 16, .inl (v 3))), (a 4, .inl (ca 4, 16, .inl (v 4))), (a 5, .inl (ca 5, 16, .inl (v 5))), (a 6, .inl (ca 6, 16, .inl (v 6))), (a 7, .inl (ca 7, 16, .inl (v 7))), (a 8, .inl (ca 8, 16, .inl (v 8)))]
abbrev tyM (ca : Nat → ClassId) : List (ClassId × FieldType) := [(ca 0, .int), (ca 1, .int), (ca 2, .int), (ca 3, .boolean), (ca 4, .int), (ca 5, .boolean), (ca 6, .int), (ca 7, .int), (ca 8, .int)]
abbrev cM (l : Launch) (D : va_G) (h : Nat) (a : Nat → Nat) (ca : Nat → ClassId) (y : MethodName) (wy : List Cond) (rm : Room) (As : List Value) (v : St) (r : Option Value) (v2 : St) : Prop := zz_C l D vwCl (tyM ca) y wy rm (.ref h :: As) (wM h a ca v) r (wM h a ca v2)
section QQ
variable {p : Program} {l : Launch} {e : Env} {R : Room} {s : State} {m : MethodId} {args : Array Value} {below : List Frame} {meth : Method} {c : Code} {cells slots : Nat} {Q : State → Prop} {cc : ByteArray} {nL : Nat} {Ts : List Cond} {own : String} {D : va_G} {A : Nat → Prop} {lv : List (Option Value)} {pc : Nat} {st : List Value} {h : Nat} {a : Nat → Nat} {ca : Nat → ClassId} {u u2 : St}
theorem qq_get (X : zz_X p s m args c cc nL Ts RX1 D vwCl (tyM ca) A) {index k0 : Nat} {v : Value} (hin : ∀ w ∈ u_ws RX1 TX1 16, w ∈ Ts) (hk : k0 < 16) (hlink : Cond.fieldLink RX1 index (TX1 k0).1 (TX1 k0).2.1 (TX1 k0).2.2.1 ∈ Ts) (hv : (flM a u)[k0]? = some v) (hdg : decode cc pc = .ok (.getfield index, 3)) (k : zz_V p l e R s m args below meth c cells slots Q nL D vwCl A (wM h a ca u) lv (pc + 3) (v :: st)) : zz_V p l e R s m args below meth c cells slots Q nL D vwCl A (wM h a ca u) lv pc (.ref h :: st) := zz_get (q0 := 0) X hin rfl rfl hk hlink hv hdg k
theorem qq_put (X : zz_X p s m args c cc nL Ts RX1 D vwCl (tyM ca) A) {index k0 : Nat} {v : Int32} (hin : ∀ w ∈ u_ws RX1 TX1 16, w ∈ Ts) (hk : k0 < 16) (hlink : Cond.fieldLink RX1 index (TX1 k0).1 (TX1 k0).2.1 (TX1 k0).2.2.1 ∈ Ts) (hfin : (TX1 k0).2.2.2 = false) (hd : parseFieldDescriptor (TX1 k0).2.2.1 = some .int) (hdg : decode cc pc = .ok (.putfield index, 3)) (hw : (wM h a ca u).set 0 (h, .inr (1, (flM a u).set k0 (.int v))) = wM h a ca u2) (k : zz_V p l e R s m args below meth c cells slots Q nL D vwCl A (wM h a ca u2) lv (pc + 3) st) : zz_V p l e R s m args below meth c cells slots Q nL D vwCl A (wM h a ca u) lv pc (.int v :: .ref h :: st) := zz_puti (q0 := 0) X hin tyX1 tyX1_ok nmX1 rfl rfl hk hlink hfin hd hk hdg hw k
theorem qq_calli (X : zz_X p s m args c cc nL Ts RX1 D vwCl (tyM ca) A) {y : MethodName} {bytes : ByteArray} {maxL index n : Nat} {ret : Option FieldType} {wy : List Cond} {rm : Room} {As rest : List Value} {x : Int32} (hC : cM l D h a ca y wy rm As u (some (.int x)) u2) (cw : CallW R s args RX1 RX1 index y bytes maxL ret wy rm 0 0 n) (hn : As.length = n) (hst : st = As.reverse ++ .ref h :: rest) (hrm : (rest.map fun v => v.category).sum ≤ 8) (hdg : decode cc pc = .ok (.invokevirtual index, 3)) (hcs : cells ≤ R.cells ∧ slots ≤ R.slots) (k : zz_V p l e R s m args below meth c cells slots Q nL D vwCl A (wM h a ca u2) lv (pc + 3) (.int x :: rest)) : zz_V p l e R s m args below meth c cells slots Q nL D vwCl A (wM h a ca u) lv pc st := zz_call (q0 := 0) (wr := []) (ws' := wM h a ca u2) X hC X.2.1 cw rfl rfl hn hst hrm hdg hcs [0, 1, 2, 3, 4, 5, 6, 7, 8, 9] [] rfl rfl rfl (by decide) (by decide) (fun i hi => absurd hi (by simp)) rfl k
theorem qq_callv (X : zz_X p s m args c cc nL Ts RX1 D vwCl (tyM ca) A) {y : MethodName} {bytes : ByteArray} {maxL index n : Nat} {ret : Option FieldType} {wy : List Cond} {rm : Room} {As rest : List Value} (hC : cM l D h a ca y wy rm As u none u2) (cw : CallW R s args RX1 RX1 index y bytes maxL ret wy rm 0 0 n) (hn : As.length = n) (hst : st = As.reverse ++ .ref h :: rest) (hrm : (rest.map fun v => v.category).sum ≤ 8) (hdg : decode cc pc = .ok (.invokevirtual index, 3)) (hcs : cells ≤ R.cells ∧ slots ≤ R.slots) (k : zz_V p l e R s m args below meth c cells slots Q nL D vwCl A (wM h a ca u2) lv (pc + 3) rest) : zz_V p l e R s m args below meth c cells slots Q nL D vwCl A (wM h a ca u) lv pc st := zz_call (q0 := 0) (wr := []) (ws' := wM h a ca u2) X hC X.2.1 cw rfl rfl hn hst hrm hdg hcs [0, 1, 2, 3, 4, 5, 6, 7, 8, 9] [] rfl rfl rfl (by decide) (by decide) (fun i hi => absurd hi (by simp)) rfl k
end QQ
end
section
set_option maxHeartbeats 4000000 in
set_option maxRecDepth 100000 in
theorem m_ofPlace {l : Launch} {D : va_G} {h : Nat} {a : Nat → Nat} {ca : Nat → ClassId} (v : St) (m : Nat) (hm : v 9 2 = nI m) (h16 : m ≤ 15) (x : Int32) : cM l D h a ca yX1_ofPlace wsX1_ofPlace { frames := 0, cells := 0, slots := 0, locals := 0 } [.int x] v (some (.int (mFnd (v 1) x m))) v := by
  refine zz_C.of (bytes := cX1_ofPlace) (maxL := 4) (ret := (some .int)) (lv0 := [some (.ref h), some (.int x), none, none]) (by decide) rfl (Nat.le_of_ble_eq_true rfl) rfl rfl ?_
  intro p e s m' below meth c A Q X Ei Ev
  refine zz_iconst (v := -1) X dX1_ofPlace_0 (by decide) ?_
  refine zz_istore_n (lv' := [some (.ref h), some (.int x), some (.int (-1)), none]) X dX1_ofPlace_1 rfl (by decide) rfl ?_
  refine zz_iconst (v := 0) X dX1_ofPlace_2 (by decide) ?_
  refine zz_istore_n (lv' := [some (.ref h), some (.int x), some (.int (-1)), some (.int 0)]) X dX1_ofPlace_3 rfl (by decide) rfl ?_
  have loop : ∀ (n i : Nat) (f : Int32), i + n = m → zl (fun k r => if v 1 k = x then nI k else r) n i f = mFnd (v 1) x m → zz_V p l e { frames := 0, cells := 0, slots := 0, locals := 0 } s m' [.ref h, .int x].toArray below meth c 0 0 Q 4 D vwCl A (wM h a ca v) [some (.ref h), some (.int x), some (.int f), some (.int (nI i))] 4 [] := by
    intro n
    induction n with
    | zero =>
      intro i f hi hz
      refine zz_iload_n X dX1_ofPlace_4 rfl rfl ?_
      refine zz_aload_n X dX1_ofPlace_5 rfl rfl ?_
      refine qq_get (k0 := 2) (v := .int (v 9 2)) X imX1 (by decide) (mc flX1_45) rfl dX1_ofPlace_6 ?_
      refine zz_top (show v 9 2 = nI m from hm) ?_
      refine zz_icmp_ge (tgt := 34) X dX1_ofPlace_9 (by decide) (fun hq => ?_) (fun hq => absurd (nI_le (a := m) (by omega) (by omega)) hq)
      refine zz_iload_n X dX1_ofPlace_34 rfl rfl ?_
      exact Ei _ _ _ _ _ rfl rfl dX1_ofPlace_35 (by rw [← hz]; rfl) rfl
    | succ n ih =>
      intro i f hi hz
      have hlt : i < m := by omega
      refine zz_iload_n X dX1_ofPlace_4 rfl rfl ?_
      refine zz_aload_n X dX1_ofPlace_5 rfl rfl ?_
      refine qq_get (k0 := 2) (v := .int (v 9 2)) X imX1 (by decide) (mc flX1_45) rfl dX1_ofPlace_6 ?_
      refine zz_top (show v 9 2 = nI m from hm) ?_
      refine zz_icmp_ge (tgt := 34) X dX1_ofPlace_9 (by decide) (fun hq => absurd hq (nI_ge (b := m) hlt (by omega))) (fun hq => ?_)
      refine zz_aload_n X dX1_ofPlace_12 rfl rfl ?_
      refine qq_get (k0 := 8) (v := .ref (a 1)) X imX1 (by decide) (mc flX1_13) rfl dX1_ofPlace_13 ?_
      refine zz_iload_n X dX1_ofPlace_16 rfl rfl ?_
      refine zz_iald (q0 := 2) (t0 := 1) (j := i) X rfl rfl rfl (show i < 16 by omega) (by decide) dX1_ofPlace_17 ?_
      refine zz_iload_n X dX1_ofPlace_18 rfl rfl ?_
      refine zz_icmp_ne (tgt := 26) X dX1_ofPlace_19 (by decide) (fun h1 => ?_) (fun h1 => ?_)
      · refine zz_iload_n X dX1_ofPlace_26 rfl rfl ?_
        refine zz_istore_n (lv' := [some (.ref h), some (.int x), some (.int f), some (.int (nI i))]) X dX1_ofPlace_27 rfl (by decide) rfl ?_
        refine zz_iinc (v := (nI (i + 1))) (lv' := [some (.ref h), some (.int x), some (.int f), some (.int (nI (i + 1)))]) X dX1_ofPlace_28 rfl (nI_1 _) (by decide) rfl ?_
        refine zz_goto (tgt := 4) X dX1_ofPlace_31 (by decide) ?_
        exact ih (i + 1) _ (by omega) (by rw [← hz]; simp [zl, h1])
      · refine zz_iload_n X dX1_ofPlace_22 rfl rfl ?_
        refine zz_goto (tgt := 27) X dX1_ofPlace_23 (by decide) ?_
        refine zz_istore_n (lv' := [some (.ref h), some (.int x), some (.int (nI i)), some (.int (nI i))]) X dX1_ofPlace_27 rfl (by decide) rfl ?_
        refine zz_iinc (v := (nI (i + 1))) (lv' := [some (.ref h), some (.int x), some (.int (nI i)), some (.int (nI (i + 1)))]) X dX1_ofPlace_28 rfl (nI_1 _) (by decide) rfl ?_
        refine zz_goto (tgt := 4) X dX1_ofPlace_31 (by decide) ?_
        exact ih (i + 1) _ (by omega) (by rw [← hz]; simp [zl, h1])
  exact loop m 0 (-1) (Nat.zero_add _) rfl
set_option maxHeartbeats 4000000 in
set_option maxRecDepth 100000 in
theorem m_ofNumber {l : Launch} {D : va_G} {h : Nat} {a : Nat → Nat} {ca : Nat → ClassId} (v : St) (m : Nat) (hm : v 9 2 = nI m) (h16 : m ≤ 15) (x : Int32) : cM l D h a ca yX1_ofNumber wsX1_ofNumber { frames := 0, cells := 0, slots := 0, locals := 0 } [.int x] v (some (.int (mFnd (v 0) x m))) v := by
  refine zz_C.of (bytes := cX1_ofNumber) (maxL := 4) (ret := (some .int)) (lv0 := [some (.ref h), some (.int x), none, none]) (by decide) rfl (Nat.le_of_ble_eq_true rfl) rfl rfl ?_
  intro p e s m' below meth c A Q X Ei Ev
  refine zz_iconst (v := -1) X dX1_ofNumber_0 (by decide) ?_
  refine zz_istore_n (lv' := [some (.ref h), some (.int x), some (.int (-1)), none]) X dX1_ofNumber_1 rfl (by decide) rfl ?_
  refine zz_iconst (v := 0) X dX1_ofNumber_2 (by decide) ?_
  refine zz_istore_n (lv' := [some (.ref h), some (.int x), some (.int (-1)), some (.int 0)]) X dX1_ofNumber_3 rfl (by decide) rfl ?_
  have loop : ∀ (n i : Nat) (f : Int32), i + n = m → zl (fun k r => if v 0 k = x then nI k else r) n i f = mFnd (v 0) x m → zz_V p l e { frames := 0, cells := 0, slots := 0, locals := 0 } s m' [.ref h, .int x].toArray below meth c 0 0 Q 4 D vwCl A (wM h a ca v) [some (.ref h), some (.int x), some (.int f), some (.int (nI i))] 4 [] := by
    intro n
    induction n with
    | zero =>
      intro i f hi hz
      refine zz_iload_n X dX1_ofNumber_4 rfl rfl ?_
      refine zz_aload_n X dX1_ofNumber_5 rfl rfl ?_
      refine qq_get (k0 := 2) (v := .int (v 9 2)) X imX1 (by decide) (mc flX1_45) rfl dX1_ofNumber_6 ?_
      refine zz_top (show v 9 2 = nI m from hm) ?_
      refine zz_icmp_ge (tgt := 34) X dX1_ofNumber_9 (by decide) (fun hq => ?_) (fun hq => absurd (nI_le (a := m) (by omega) (by omega)) hq)
      refine zz_iload_n X dX1_ofNumber_34 rfl rfl ?_
      exact Ei _ _ _ _ _ rfl rfl dX1_ofNumber_35 (by rw [← hz]; rfl) rfl
    | succ n ih =>
      intro i f hi hz
      have hlt : i < m := by omega
      refine zz_iload_n X dX1_ofNumber_4 rfl rfl ?_
      refine zz_aload_n X dX1_ofNumber_5 rfl rfl ?_
      refine qq_get (k0 := 2) (v := .int (v 9 2)) X imX1 (by decide) (mc flX1_45) rfl dX1_ofNumber_6 ?_
      refine zz_top (show v 9 2 = nI m from hm) ?_
      refine zz_icmp_ge (tgt := 34) X dX1_ofNumber_9 (by decide) (fun hq => absurd hq (nI_ge (b := m) hlt (by omega))) (fun hq => ?_)
      refine zz_aload_n X dX1_ofNumber_12 rfl rfl ?_
      refine qq_get (k0 := 7) (v := .ref (a 0)) X imX1 (by decide) (mc flX1_7) rfl dX1_ofNumber_13 ?_
      refine zz_iload_n X dX1_ofNumber_16 rfl rfl ?_
      refine zz_iald (q0 := 1) (t0 := 0) (j := i) X rfl rfl rfl (show i < 16 by omega) (by decide) dX1_ofNumber_17 ?_
      refine zz_iload_n X dX1_ofNumber_18 rfl rfl ?_
      refine zz_icmp_ne (tgt := 26) X dX1_ofNumber_19 (by decide) (fun h1 => ?_) (fun h1 => ?_)
      · refine zz_iload_n X dX1_ofNumber_26 rfl rfl ?_
        refine zz_istore_n (lv' := [some (.ref h), some (.int x), some (.int f), some (.int (nI i))]) X dX1_ofNumber_27 rfl (by decide) rfl ?_
        refine zz_iinc (v := (nI (i + 1))) (lv' := [some (.ref h), some (.int x), some (.int f), some (.int (nI (i + 1)))]) X dX1_ofNumber_28 rfl (nI_1 _) (by decide) rfl ?_
        refine zz_goto (tgt := 4) X dX1_ofNumber_31 (by decide) ?_
        exact ih (i + 1) _ (by omega) (by rw [← hz]; simp [zl, h1])
      · refine zz_iload_n X dX1_ofNumber_22 rfl rfl ?_
        refine zz_goto (tgt := 27) X dX1_ofNumber_23 (by decide) ?_
        refine zz_istore_n (lv' := [some (.ref h), some (.int x), some (.int (nI i)), some (.int (nI i))]) X dX1_ofNumber_27 rfl (by decide) rfl ?_
        refine zz_iinc (v := (nI (i + 1))) (lv' := [some (.ref h), some (.int x), some (.int (nI i)), some (.int (nI (i + 1)))]) X dX1_ofNumber_28 rfl (nI_1 _) (by decide) rfl ?_
        refine zz_goto (tgt := 4) X dX1_ofNumber_31 (by decide) ?_
        exact ih (i + 1) _ (by omega) (by rw [← hz]; simp [zl, h1])
  exact loop m 0 (-1) (Nat.zero_add _) rfl
set_option maxHeartbeats 4000000 in
set_option maxRecDepth 100000 in
theorem m_running {l : Launch} {D : va_G} {h : Nat} {a : Nat → Nat} {ca : Nat → ClassId} (v : St) (m : Nat) (hm : v 9 2 = nI m) (h16 : m ≤ 15) (x : Int32) : cM l D h a ca yX1_running wsX1_running { frames := 0, cells := 0, slots := 0, locals := 0 } [.int x] v (some (.int (mRun v m x))) v := by
  refine zz_C.of (bytes := cX1_running) (maxL := 4) (ret := (some .int)) (lv0 := [some (.ref h), some (.int x), none, none]) (by decide) rfl (Nat.le_of_ble_eq_true rfl) rfl rfl ?_
  intro p e s m' below meth c A Q X Ei Ev
  refine zz_iconst (v := -1) X dX1_running_0 (by decide) ?_
  refine zz_istore_n (lv' := [some (.ref h), some (.int x), some (.int (-1)), none]) X dX1_running_1 rfl (by decide) rfl ?_
  refine zz_iconst (v := 0) X dX1_running_2 (by decide) ?_
  refine zz_istore_n (lv' := [some (.ref h), some (.int x), some (.int (-1)), some (.int 0)]) X dX1_running_3 rfl (by decide) rfl ?_
  by_cases hx : x < 0
  · refine zz_iload_n X dX1_running_4 rfl rfl ?_
    refine zz_aload_n X dX1_running_5 rfl rfl ?_
    refine qq_get (k0 := 2) (v := .int (v 9 2)) X imX1 (by decide) (mc flX1_45) rfl dX1_running_6 ?_
    refine zz_top (show v 9 2 = nI m from hm) ?_
    refine zz_icmp_ge (tgt := 46) X dX1_running_9 (by decide) (fun h1 => ?_) (fun h1 => ?_)
    · refine zz_iload_n X dX1_running_46 rfl rfl ?_
      exact Ei _ _ _ _ _ rfl rfl dX1_running_47 (by simp [mRun, hx]) rfl
    · refine zz_iload_n X dX1_running_12 rfl rfl ?_
      refine zz_if_lt (tgt := 46) X dX1_running_13 (by decide) (fun hq => ?_) (fun hq => absurd hx hq)
      refine zz_iload_n X dX1_running_46 rfl rfl ?_
      exact Ei _ _ _ _ _ rfl rfl dX1_running_47 (by simp [mRun, hx]) rfl
  by_cases hy : v 9 1 ≤ x
  · refine zz_iload_n X dX1_running_4 rfl rfl ?_
    refine zz_aload_n X dX1_running_5 rfl rfl ?_
    refine qq_get (k0 := 2) (v := .int (v 9 2)) X imX1 (by decide) (mc flX1_45) rfl dX1_running_6 ?_
    refine zz_top (show v 9 2 = nI m from hm) ?_
    refine zz_icmp_ge (tgt := 46) X dX1_running_9 (by decide) (fun h1 => ?_) (fun h1 => ?_)
    · refine zz_iload_n X dX1_running_46 rfl rfl ?_
      exact Ei _ _ _ _ _ rfl rfl dX1_running_47 (by simp [mRun, hx, hy]) rfl
    · refine zz_iload_n X dX1_running_12 rfl rfl ?_
      refine zz_if_lt (tgt := 46) X dX1_running_13 (by decide) (fun hq => absurd hq hx) (fun hq => ?_)
      refine zz_iload_n X dX1_running_16 rfl rfl ?_
      refine zz_aload_n X dX1_running_17 rfl rfl ?_
      refine qq_get (k0 := 1) (v := .int (v 9 1)) X imX1 (by decide) (mc flX1_38) rfl dX1_running_18 ?_
      refine zz_icmp_ge (tgt := 46) X dX1_running_21 (by decide) (fun hq => ?_) (fun hq => absurd hy hq)
      refine zz_iload_n X dX1_running_46 rfl rfl ?_
      exact Ei _ _ _ _ _ rfl rfl dX1_running_47 (by simp [mRun, hx, hy]) rfl
  have loop : ∀ (n i : Nat) (f : Int32), i + n = m → zl (fun k r => if v 6 k = x then nI k else r) n i f = mRun v m x → zz_V p l e { frames := 0, cells := 0, slots := 0, locals := 0 } s m' [.ref h, .int x].toArray below meth c 0 0 Q 4 D vwCl A (wM h a ca v) [some (.ref h), some (.int x), some (.int f), some (.int (nI i))] 4 [] := by
    intro n
    induction n with
    | zero =>
      intro i f hi hz
      refine zz_iload_n X dX1_running_4 rfl rfl ?_
      refine zz_aload_n X dX1_running_5 rfl rfl ?_
      refine qq_get (k0 := 2) (v := .int (v 9 2)) X imX1 (by decide) (mc flX1_45) rfl dX1_running_6 ?_
      refine zz_top (show v 9 2 = nI m from hm) ?_
      refine zz_icmp_ge (tgt := 46) X dX1_running_9 (by decide) (fun hq => ?_) (fun hq => absurd (nI_le (a := m) (by omega) (by omega)) hq)
      refine zz_iload_n X dX1_running_46 rfl rfl ?_
      exact Ei _ _ _ _ _ rfl rfl dX1_running_47 (by rw [← hz]; rfl) rfl
    | succ n ih =>
      intro i f hi hz
      have hlt : i < m := by omega
      refine zz_iload_n X dX1_running_4 rfl rfl ?_
      refine zz_aload_n X dX1_running_5 rfl rfl ?_
      refine qq_get (k0 := 2) (v := .int (v 9 2)) X imX1 (by decide) (mc flX1_45) rfl dX1_running_6 ?_
      refine zz_top (show v 9 2 = nI m from hm) ?_
      refine zz_icmp_ge (tgt := 46) X dX1_running_9 (by decide) (fun hq => absurd hq (nI_ge (b := m) hlt (by omega))) (fun hq => ?_)
      refine zz_iload_n X dX1_running_12 rfl rfl ?_
      refine zz_if_lt (tgt := 46) X dX1_running_13 (by decide) (fun hq => absurd hq hx) (fun hq => ?_)
      refine zz_iload_n X dX1_running_16 rfl rfl ?_
      refine zz_aload_n X dX1_running_17 rfl rfl ?_
      refine qq_get (k0 := 1) (v := .int (v 9 1)) X imX1 (by decide) (mc flX1_38) rfl dX1_running_18 ?_
      refine zz_icmp_ge (tgt := 46) X dX1_running_21 (by decide) (fun hq => absurd hq hy) (fun hq => ?_)
      refine zz_aload_n X dX1_running_24 rfl rfl ?_
      refine qq_get (k0 := 13) (v := .ref (a 6)) X imX1 (by decide) (mc flX1_29) rfl dX1_running_25 ?_
      refine zz_iload_n X dX1_running_28 rfl rfl ?_
      refine zz_iald (q0 := 7) (t0 := 6) (j := i) X rfl rfl rfl (show i < 16 by omega) (by decide) dX1_running_29 ?_
      refine zz_iload_n X dX1_running_30 rfl rfl ?_
      refine zz_icmp_ne (tgt := 38) X dX1_running_31 (by decide) (fun h1 => ?_) (fun h1 => ?_)
      · refine zz_iload_n X dX1_running_38 rfl rfl ?_
        refine zz_istore_n (lv' := [some (.ref h), some (.int x), some (.int f), some (.int (nI i))]) X dX1_running_39 rfl (by decide) rfl ?_
        refine zz_iinc (v := (nI (i + 1))) (lv' := [some (.ref h), some (.int x), some (.int f), some (.int (nI (i + 1)))]) X dX1_running_40 rfl (nI_1 _) (by decide) rfl ?_
        refine zz_goto (tgt := 4) X dX1_running_43 (by decide) ?_
        exact ih (i + 1) _ (by omega) (by rw [← hz]; simp [zl, h1])
      · refine zz_iload_n X dX1_running_34 rfl rfl ?_
        refine zz_goto (tgt := 39) X dX1_running_35 (by decide) ?_
        refine zz_istore_n (lv' := [some (.ref h), some (.int x), some (.int (nI i)), some (.int (nI i))]) X dX1_running_39 rfl (by decide) rfl ?_
        refine zz_iinc (v := (nI (i + 1))) (lv' := [some (.ref h), some (.int x), some (.int (nI i)), some (.int (nI (i + 1)))]) X dX1_running_40 rfl (nI_1 _) (by decide) rfl ?_
        refine zz_goto (tgt := 4) X dX1_running_43 (by decide) ?_
        exact ih (i + 1) _ (by omega) (by rw [← hz]; simp [zl, h1])
  exact loop m 0 (-1) (Nat.zero_add _) (by rw [mRun, if_neg hx, if_neg hy]; rfl)
set_option maxHeartbeats 4000000 in
set_option maxRecDepth 100000 in
theorem m_vacant {l : Launch} {D : va_G} {h : Nat} {a : Nat → Nat} {ca : Nat → ClassId} (v : St) (m : Nat) (hm : v 9 2 = nI m) (h16 : m ≤ 15) : cM l D h a ca yX1_vacant wsX1_vacant { frames := 1, cells := 0, slots := 0, locals := 23 } [] v (some (.int (nI (mVac v m)))) v := by
  refine zz_C.of (bytes := cX1_vacant) (maxL := 2) (ret := (some .int)) (lv0 := [some (.ref h), none]) (by decide) rfl (Nat.le_of_ble_eq_true rfl) rfl rfl ?_
  intro p e s m' below meth c A Q X Ei Ev
  refine zz_iconst (v := 0) X dX1_vacant_0 (by decide) ?_
  refine zz_istore_n (lv' := [some (.ref h), some (.int 0)]) X dX1_vacant_1 rfl (by decide) rfl ?_
  have loop : ∀ (n i : Nat), i + n = 15 → zv (fun j => decide (¬ mFnd (v 1) (nI j) m < 0)) n i = mVac v m → zz_V p l e { frames := 1, cells := 0, slots := 0, locals := 23 } s m' [.ref h].toArray below meth c 0 0 Q 2 D vwCl A (wM h a ca v) [some (.ref h), some (.int (nI i))] 2 [] := by
    intro n
    induction n with
    | zero =>
      intro i hi hz
      refine zz_iload_n X dX1_vacant_2 rfl rfl ?_
      refine zz_bipush (v := 15) X dX1_vacant_3 (by decide) ?_
      refine zz_icmp_ge (tgt := 22) X dX1_vacant_5 (by decide) (fun hq => ?_) (fun hq => absurd (nI_le (a := 15) (by omega) (by omega)) hq)
      refine zz_iload_n X dX1_vacant_22 rfl rfl ?_
      exact Ei _ _ _ _ _ rfl rfl dX1_vacant_23 (by rw [← hz]; rfl) rfl
    | succ n ih =>
      intro i hi hz
      have hlt : i < 15 := by omega
      refine zz_iload_n X dX1_vacant_2 rfl rfl ?_
      refine zz_bipush (v := 15) X dX1_vacant_3 (by decide) ?_
      refine zz_icmp_ge (tgt := 22) X dX1_vacant_5 (by decide) (fun hq => absurd hq (nI_ge (b := 15) hlt (by decide))) (fun hq => ?_)
      refine zz_aload_n X dX1_vacant_8 rfl rfl ?_
      refine zz_iload_n X dX1_vacant_9 rfl rfl ?_
      refine qq_calli (rest := []) X (m_ofPlace v m hm h16 (nI i)) (cwV 1 X.1.2.2.2.2 (gw lkX1_48 imX1_ofPlace seX1_ofPlace itX1 cdX1_ofPlace) rfl rfl rfl hdX1_ofPlace ⟨Nat.le_of_ble_eq_true rfl, Nat.le_of_ble_eq_true rfl⟩) rfl rfl (Nat.le_of_ble_eq_true rfl) dX1_vacant_10 ⟨Nat.zero_le _, Nat.zero_le _⟩ ?_
      refine zz_if_lt (tgt := 22) X dX1_vacant_13 (by decide) (fun h1 => ?_) (fun h1 => ?_)
      · refine zz_iload_n X dX1_vacant_22 rfl rfl ?_
        exact Ei _ _ _ _ _ rfl rfl dX1_vacant_23 (by rw [← hz]; simp [zv, h1]) rfl
      · refine zz_iinc (v := (nI (i + 1))) (lv' := [some (.ref h), some (.int (nI (i + 1)))]) X dX1_vacant_16 rfl (nI_1 _) (by decide) rfl ?_
        refine zz_goto (tgt := 2) X dX1_vacant_19 (by decide) ?_
        exact ih (i + 1) (by omega) (by rw [← hz]; simp [zv, h1])
  exact loop 15 0 rfl rfl
set_option maxHeartbeats 4000000 in
set_option maxRecDepth 100000 in
theorem m_endedChild {l : Launch} {D : va_G} {h : Nat} {a : Nat → Nat} {ca : Nat → ClassId} (v : St) (m : Nat) (hm : v 9 2 = nI m) (h16 : m ≤ 15) (r : Nat) (hr : r < 16) : cM l D h a ca yX1_endedChild wsX1_endedChild { frames := 0, cells := 0, slots := 0, locals := 0 } [.int (nI r)] v (some (.int (mEnd v m r))) v := by
  refine zz_C.of (bytes := cX1_endedChild) (maxL := 4) (ret := (some .int)) (lv0 := [some (.ref h), some (.int (nI r)), none, none]) (by decide) rfl (Nat.le_of_ble_eq_true rfl) rfl rfl ?_
  intro p e s m' below meth c A Q X Ei Ev
  refine zz_iconst (v := -1) X dX1_endedChild_0 (by decide) ?_
  refine zz_istore_n (lv' := [some (.ref h), some (.int (nI r)), some (.int (-1)), none]) X dX1_endedChild_1 rfl (by decide) rfl ?_
  refine zz_iconst (v := 0) X dX1_endedChild_2 (by decide) ?_
  refine zz_istore_n (lv' := [some (.ref h), some (.int (nI r)), some (.int (-1)), some (.int 0)]) X dX1_endedChild_3 rfl (by decide) rfl ?_
  have loop : ∀ (n i : Nat) (f : Int32), i + n = m → (f = -1 ∨ ∃ j, j < 16 ∧ f = nI j) → zl (mEnd1 v r) n i f = mEnd v m r → zz_V p l e { frames := 0, cells := 0, slots := 0, locals := 0 } s m' [.ref h, .int (nI r)].toArray below meth c 0 0 Q 4 D vwCl A (wM h a ca v) [some (.ref h), some (.int (nI r)), some (.int f), some (.int (nI i))] 4 [] := by
    intro n
    induction n with
    | zero =>
      intro i f hi hf hz
      refine zz_iload_n X dX1_endedChild_4 rfl rfl ?_
      refine zz_aload_n X dX1_endedChild_5 rfl rfl ?_
      refine qq_get (k0 := 2) (v := .int (v 9 2)) X imX1 (by decide) (mc flX1_45) rfl dX1_endedChild_6 ?_
      refine zz_top (show v 9 2 = nI m from hm) ?_
      refine zz_icmp_ge (tgt := 63) X dX1_endedChild_9 (by decide) (fun hq => ?_) (fun hq => absurd (nI_le (a := m) (by omega) (by omega)) hq)
      refine zz_iload_n X dX1_endedChild_63 rfl rfl ?_
      exact Ei _ _ _ _ _ rfl rfl dX1_endedChild_64 (by rw [← hz]; rfl) rfl
    | succ n ih =>
      intro i f hi hf hz
      have hlt : i < m := by omega
      have hi16 : i < 16 := by omega
      refine zz_iload_n X dX1_endedChild_4 rfl rfl ?_
      refine zz_aload_n X dX1_endedChild_5 rfl rfl ?_
      refine qq_get (k0 := 2) (v := .int (v 9 2)) X imX1 (by decide) (mc flX1_45) rfl dX1_endedChild_6 ?_
      refine zz_top (show v 9 2 = nI m from hm) ?_
      refine zz_icmp_ge (tgt := 63) X dX1_endedChild_9 (by decide) (fun hq => absurd hq (nI_ge (b := m) hlt (by omega))) (fun hq => ?_)
      refine zz_aload_n X dX1_endedChild_12 rfl rfl ?_
      refine qq_get (k0 := 9) (v := .ref (a 2)) X imX1 (by decide) (mc flX1_16) rfl dX1_endedChild_13 ?_
      refine zz_iload_n X dX1_endedChild_16 rfl rfl ?_
      refine zz_iald (q0 := 3) (t0 := 2) (j := i) X rfl rfl rfl hi16 (by decide) dX1_endedChild_17 ?_
      refine zz_aload_n X dX1_endedChild_18 rfl rfl ?_
      refine qq_get (k0 := 7) (v := .ref (a 0)) X imX1 (by decide) (mc flX1_7) rfl dX1_endedChild_19 ?_
      refine zz_iload_n X dX1_endedChild_22 rfl rfl ?_
      refine zz_iald (q0 := 1) (t0 := 0) (j := r) X rfl rfl rfl hr (by decide) dX1_endedChild_23 ?_
      refine zz_icmp_ne (tgt := 57) X dX1_endedChild_24 (by decide) (fun h1 => ?_) (fun h1 => ?_)
      · refine zz_iinc (v := (nI (i + 1))) (lv' := [some (.ref h), some (.int (nI r)), some (.int f), some (.int (nI (i + 1)))]) X dX1_endedChild_57 rfl (nI_1 _) (by decide) rfl ?_
        refine zz_goto (tgt := 4) X dX1_endedChild_60 (by decide) ?_
        exact ih (i + 1) _ (by omega) hf (by rw [← hz]; simp [zl, mEnd1, h1])
      · refine zz_aload_n X dX1_endedChild_27 rfl rfl ?_
        refine qq_get (k0 := 10) (v := .ref (a 3)) X imX1 (by decide) (mc flX1_19) rfl dX1_endedChild_28 ?_
        refine zz_iload_n X dX1_endedChild_31 rfl rfl ?_
        refine zz_zald (q0 := 4) (t0 := 3) (j := i) X rfl rfl rfl hi16 (by decide) dX1_endedChild_32 ?_
        refine zz_if_eq (tgt := 57) X dX1_endedChild_33 (by decide) (fun h2 => ?_) (fun h2 => ?_)
        · refine zz_iinc (v := (nI (i + 1))) (lv' := [some (.ref h), some (.int (nI r)), some (.int f), some (.int (nI (i + 1)))]) X dX1_endedChild_57 rfl (nI_1 _) (by decide) rfl ?_
          refine zz_goto (tgt := 4) X dX1_endedChild_60 (by decide) ?_
          exact ih (i + 1) _ (by omega) hf (by rw [← hz]; simp [zl, mEnd1, h1, h2])
        · refine zz_iload_n X dX1_endedChild_36 rfl rfl ?_
          refine zz_if_lt (tgt := 55) X dX1_endedChild_37 (by decide) (fun h3 => ?_) (fun h3 => ?_)
          · refine zz_iload_n X dX1_endedChild_55 rfl rfl ?_
            refine zz_istore_n (lv' := [some (.ref h), some (.int (nI r)), some (.int (nI i)), some (.int (nI i))]) X dX1_endedChild_56 rfl (by decide) rfl ?_
            refine zz_iinc (v := (nI (i + 1))) (lv' := [some (.ref h), some (.int (nI r)), some (.int (nI i)), some (.int (nI (i + 1)))]) X dX1_endedChild_57 rfl (nI_1 _) (by decide) rfl ?_
            refine zz_goto (tgt := 4) X dX1_endedChild_60 (by decide) ?_
            exact ih (i + 1) _ (by omega) (Or.inr ⟨i, hi16, rfl⟩) (by rw [← hz]; simp [zl, mEnd1, h1, h2, h3])
          · obtain ⟨j, hj, rfl⟩ := hf.resolve_left (fun e9 => h3 (by rw [e9]; decide))
            have cj := nI_clamp (show j < 2 ^ 31 by omega)
            refine zz_aload_n X dX1_endedChild_40 rfl rfl ?_
            refine qq_get (k0 := 8) (v := .ref (a 1)) X imX1 (by decide) (mc flX1_13) rfl dX1_endedChild_41 ?_
            refine zz_iload_n X dX1_endedChild_44 rfl rfl ?_
            refine zz_iald (q0 := 2) (t0 := 1) (j := i) X rfl rfl rfl hi16 (by decide) dX1_endedChild_45 ?_
            refine zz_aload_n X dX1_endedChild_46 rfl rfl ?_
            refine qq_get (k0 := 8) (v := .ref (a 1)) X imX1 (by decide) (mc flX1_13) rfl dX1_endedChild_47 ?_
            refine zz_iload_n X dX1_endedChild_50 rfl rfl ?_
            refine zz_iald (q0 := 2) (t0 := 1) (j := j) X rfl rfl rfl hj (by decide) dX1_endedChild_51 ?_
            refine zz_icmp_ge (tgt := 57) X dX1_endedChild_52 (by decide) (fun h4 => ?_) (fun h4 => ?_)
            · refine zz_iinc (v := (nI (i + 1))) (lv' := [some (.ref h), some (.int (nI r)), some (.int (nI j)), some (.int (nI (i + 1)))]) X dX1_endedChild_57 rfl (nI_1 _) (by decide) rfl ?_
              refine zz_goto (tgt := 4) X dX1_endedChild_60 (by decide) ?_
              exact ih (i + 1) _ (by omega) hf (by rw [← hz]; simp [zl, mEnd1, h1, h2, h3, cl, cj, h4])
            · refine zz_iload_n X dX1_endedChild_55 rfl rfl ?_
              refine zz_istore_n (lv' := [some (.ref h), some (.int (nI r)), some (.int (nI i)), some (.int (nI i))]) X dX1_endedChild_56 rfl (by decide) rfl ?_
              refine zz_iinc (v := (nI (i + 1))) (lv' := [some (.ref h), some (.int (nI r)), some (.int (nI i)), some (.int (nI (i + 1)))]) X dX1_endedChild_57 rfl (nI_1 _) (by decide) rfl ?_
              refine zz_goto (tgt := 4) X dX1_endedChild_60 (by decide) ?_
              exact ih (i + 1) _ (by omega) (Or.inr ⟨i, hi16, rfl⟩) (by rw [← hz]; simp [zl, mEnd1, h1, h2, h3, cl, cj, h4])
  exact loop m 0 (-1) (Nat.zero_add _) (Or.inl rfl) rfl
set_option maxHeartbeats 4000000 in
set_option maxRecDepth 100000 in
theorem m_state {l : Launch} {D : va_G} {h : Nat} {a : Nat → Nat} {ca : Nat → ClassId} (v : St) (m : Nat) (hm : v 9 2 = nI m) (h16 : m ≤ 15) (r : Nat) (hr : r < 16) : cM l D h a ca yX1_state wsX1_state { frames := 1, cells := 0, slots := 0, locals := 23 } [.int (nI r)] v (some (.int (mSta v m r))) v := by
  refine zz_C.of (bytes := cX1_state) (maxL := 3) (ret := (some .int)) (lv0 := [some (.ref h), some (.int (nI r)), none]) (by decide) rfl (Nat.le_of_ble_eq_true rfl) rfl rfl ?_
  intro p e s m' below meth c A Q X Ei Ev
  refine zz_aload_n X dX1_state_0 rfl rfl ?_
  refine qq_get (k0 := 10) (v := .ref (a 3)) X imX1 (by decide) (mc flX1_19) rfl dX1_state_1 ?_
  refine zz_iload_n X dX1_state_4 rfl rfl ?_
  refine zz_zald (q0 := 4) (t0 := 3) (j := r) X rfl rfl rfl hr (by decide) dX1_state_5 ?_
  refine zz_if_eq (tgt := 11) X dX1_state_6 (by decide) (fun h1 => ?_) (fun h1 => ?_)
  · refine zz_aload_n X dX1_state_11 rfl rfl ?_
    refine qq_get (k0 := 13) (v := .ref (a 6)) X imX1 (by decide) (mc flX1_29) rfl dX1_state_12 ?_
    refine zz_iload_n X dX1_state_15 rfl rfl ?_
    refine zz_iald (q0 := 7) (t0 := 6) (j := r) X rfl rfl rfl hr (by decide) dX1_state_16 ?_
    refine zz_if_lt (tgt := 22) X dX1_state_17 (by decide) (fun h2 => ?_) (fun h2 => ?_)
    · refine zz_aload_n X dX1_state_22 rfl rfl ?_
      refine qq_get (k0 := 14) (v := .ref (a 7)) X imX1 (by decide) (mc flX1_32) rfl dX1_state_23 ?_
      refine zz_iload_n X dX1_state_26 rfl rfl ?_
      refine zz_iald (q0 := 8) (t0 := 7) (j := r) X rfl rfl rfl hr (by decide) dX1_state_27 ?_
      refine zz_iconst (v := 1) X dX1_state_28 (by decide) ?_
      refine zz_icmp_eq (tgt := 73) X dX1_state_29 (by decide) (fun h3 => ?_) (fun h3 => ?_)
      · refine zz_iconst (v := 1) X dX1_state_73 (by decide) ?_
        refine zz_goto (tgt := 78) X dX1_state_74 (by decide) ?_
        refine zz_istore_n (lv' := [some (.ref h), some (.int (nI r)), some (.int 1)]) X dX1_state_78 rfl (by decide) rfl ?_
        refine zz_iload_n X dX1_state_79 rfl rfl ?_
        refine zz_if_eq (tgt := 87) X dX1_state_80 (by decide) (fun hq => absurd hq (by decide)) (fun hq => ?_)
        refine zz_iconst (v := 3) X dX1_state_83 (by decide) ?_
        refine zz_goto (tgt := 88) X dX1_state_84 (by decide) ?_
        exact Ei _ _ _ _ _ rfl rfl dX1_state_88 (by first | (simp [mSta, h1, h2, h3]; done) | exact absurd (h4.symm.trans h6) (by decide)) rfl
      · refine zz_aload_n X dX1_state_32 rfl rfl ?_
        refine qq_get (k0 := 14) (v := .ref (a 7)) X imX1 (by decide) (mc flX1_32) rfl dX1_state_33 ?_
        refine zz_iload_n X dX1_state_36 rfl rfl ?_
        refine zz_iald (q0 := 8) (t0 := 7) (j := r) X rfl rfl rfl hr (by decide) dX1_state_37 ?_
        refine zz_iconst (v := 2) X dX1_state_38 (by decide) ?_
        refine zz_icmp_ne (tgt := 50) X dX1_state_39 (by decide) (fun h4 => ?_) (fun h4 => ?_)
        · refine zz_aload_n X dX1_state_50 rfl rfl ?_
          refine qq_get (k0 := 14) (v := .ref (a 7)) X imX1 (by decide) (mc flX1_32) rfl dX1_state_51 ?_
          refine zz_iload_n X dX1_state_54 rfl rfl ?_
          refine zz_iald (q0 := 8) (t0 := 7) (j := r) X rfl rfl rfl hr (by decide) dX1_state_55 ?_
          refine zz_iconst (v := 3) X dX1_state_56 (by decide) ?_
          refine zz_icmp_ne (tgt := 77) X dX1_state_57 (by decide) (fun h5 => ?_) (fun h5 => ?_)
          · refine zz_iconst (v := 0) X dX1_state_77 (by decide) ?_
            refine zz_istore_n (lv' := [some (.ref h), some (.int (nI r)), some (.int 0)]) X dX1_state_78 rfl (by decide) rfl ?_
            refine zz_iload_n X dX1_state_79 rfl rfl ?_
            refine zz_if_eq (tgt := 87) X dX1_state_80 (by decide) (fun hq => ?_) (fun hq => absurd rfl hq)
            refine zz_iconst (v := 1) X dX1_state_87 (by decide) ?_
            exact Ei _ _ _ _ _ rfl rfl dX1_state_88 (by first | (simp [mSta, h1, h2, h3, h4, h5]; done) | exact absurd (h4.symm.trans h6) (by decide)) rfl
          · refine zz_aload_n X dX1_state_60 rfl rfl ?_
            refine qq_get (k0 := 3) (v := .int (v 9 3)) X imX1 (by decide) (mc flX1_55) rfl dX1_state_61 ?_
            refine zz_aload_n X dX1_state_64 rfl rfl ?_
            refine qq_get (k0 := 15) (v := .ref (a 8)) X imX1 (by decide) (mc flX1_35) rfl dX1_state_65 ?_
            refine zz_iload_n X dX1_state_68 rfl rfl ?_
            refine zz_iald (q0 := 9) (t0 := 8) (j := r) X rfl rfl rfl hr (by decide) dX1_state_69 ?_
            refine zz_icmp_ge (tgt := 77) X dX1_state_70 (by decide) (fun h6 => ?_) (fun h6 => ?_)
            · refine zz_iconst (v := 0) X dX1_state_77 (by decide) ?_
              refine zz_istore_n (lv' := [some (.ref h), some (.int (nI r)), some (.int 0)]) X dX1_state_78 rfl (by decide) rfl ?_
              refine zz_iload_n X dX1_state_79 rfl rfl ?_
              refine zz_if_eq (tgt := 87) X dX1_state_80 (by decide) (fun hq => ?_) (fun hq => absurd rfl hq)
              refine zz_iconst (v := 1) X dX1_state_87 (by decide) ?_
              exact Ei _ _ _ _ _ rfl rfl dX1_state_88 (by first | (simp [mSta, h1, h2, h3, h4, h5, h6]; done) | exact absurd (h4.symm.trans h6) (by decide)) rfl
            · refine zz_iconst (v := 1) X dX1_state_73 (by decide) ?_
              refine zz_goto (tgt := 78) X dX1_state_74 (by decide) ?_
              refine zz_istore_n (lv' := [some (.ref h), some (.int (nI r)), some (.int 1)]) X dX1_state_78 rfl (by decide) rfl ?_
              refine zz_iload_n X dX1_state_79 rfl rfl ?_
              refine zz_if_eq (tgt := 87) X dX1_state_80 (by decide) (fun hq => absurd hq (by decide)) (fun hq => ?_)
              refine zz_iconst (v := 3) X dX1_state_83 (by decide) ?_
              refine zz_goto (tgt := 88) X dX1_state_84 (by decide) ?_
              exact Ei _ _ _ _ _ rfl rfl dX1_state_88 (by first | (simp [mSta, h1, h2, h3, h4, h5, h6]; done) | exact absurd (h4.symm.trans h6) (by decide)) rfl
        · refine zz_aload_n X dX1_state_42 rfl rfl ?_
          refine zz_iload_n X dX1_state_43 rfl rfl ?_
          refine qq_calli (rest := []) X (m_endedChild v m hm h16 r hr) (cwV 1 X.1.2.2.2.2 (gw lkX1_52 imX1_endedChild seX1_endedChild itX1 cdX1_endedChild) rfl rfl rfl hdX1_endedChild ⟨Nat.le_of_ble_eq_true rfl, Nat.le_of_ble_eq_true rfl⟩) rfl rfl (Nat.le_of_ble_eq_true rfl) dX1_state_44 ⟨Nat.zero_le _, Nat.zero_le _⟩ ?_
          refine zz_if_lt (tgt := 73) X dX1_state_47 (by decide) (fun h5 => ?_) (fun h5 => ?_)
          · refine zz_iconst (v := 1) X dX1_state_73 (by decide) ?_
            refine zz_goto (tgt := 78) X dX1_state_74 (by decide) ?_
            refine zz_istore_n (lv' := [some (.ref h), some (.int (nI r)), some (.int 1)]) X dX1_state_78 rfl (by decide) rfl ?_
            refine zz_iload_n X dX1_state_79 rfl rfl ?_
            refine zz_if_eq (tgt := 87) X dX1_state_80 (by decide) (fun hq => absurd hq (by decide)) (fun hq => ?_)
            refine zz_iconst (v := 3) X dX1_state_83 (by decide) ?_
            refine zz_goto (tgt := 88) X dX1_state_84 (by decide) ?_
            exact Ei _ _ _ _ _ rfl rfl dX1_state_88 (by first | (simp [mSta, h1, h2, h3, h4, h5]; done) | exact absurd (h4.symm.trans h6) (by decide)) rfl
          · refine zz_aload_n X dX1_state_50 rfl rfl ?_
            refine qq_get (k0 := 14) (v := .ref (a 7)) X imX1 (by decide) (mc flX1_32) rfl dX1_state_51 ?_
            refine zz_iload_n X dX1_state_54 rfl rfl ?_
            refine zz_iald (q0 := 8) (t0 := 7) (j := r) X rfl rfl rfl hr (by decide) dX1_state_55 ?_
            refine zz_iconst (v := 3) X dX1_state_56 (by decide) ?_
            refine zz_icmp_ne (tgt := 77) X dX1_state_57 (by decide) (fun h6 => ?_) (fun h6 => ?_)
            · refine zz_iconst (v := 0) X dX1_state_77 (by decide) ?_
              refine zz_istore_n (lv' := [some (.ref h), some (.int (nI r)), some (.int 0)]) X dX1_state_78 rfl (by decide) rfl ?_
              refine zz_iload_n X dX1_state_79 rfl rfl ?_
              refine zz_if_eq (tgt := 87) X dX1_state_80 (by decide) (fun hq => ?_) (fun hq => absurd rfl hq)
              refine zz_iconst (v := 1) X dX1_state_87 (by decide) ?_
              exact Ei _ _ _ _ _ rfl rfl dX1_state_88 (by first | (simp [mSta, h1, h2, h3, h4, h5, h6]; done) | exact absurd (h4.symm.trans h6) (by decide)) rfl
            · refine zz_aload_n X dX1_state_60 rfl rfl ?_
              refine qq_get (k0 := 3) (v := .int (v 9 3)) X imX1 (by decide) (mc flX1_55) rfl dX1_state_61 ?_
              refine zz_aload_n X dX1_state_64 rfl rfl ?_
              refine qq_get (k0 := 15) (v := .ref (a 8)) X imX1 (by decide) (mc flX1_35) rfl dX1_state_65 ?_
              refine zz_iload_n X dX1_state_68 rfl rfl ?_
              refine zz_iald (q0 := 9) (t0 := 8) (j := r) X rfl rfl rfl hr (by decide) dX1_state_69 ?_
              refine zz_icmp_ge (tgt := 77) X dX1_state_70 (by decide) (fun h7 => ?_) (fun h7 => ?_)
              · refine zz_iconst (v := 0) X dX1_state_77 (by decide) ?_
                refine zz_istore_n (lv' := [some (.ref h), some (.int (nI r)), some (.int 0)]) X dX1_state_78 rfl (by decide) rfl ?_
                refine zz_iload_n X dX1_state_79 rfl rfl ?_
                refine zz_if_eq (tgt := 87) X dX1_state_80 (by decide) (fun hq => ?_) (fun hq => absurd rfl hq)
                refine zz_iconst (v := 1) X dX1_state_87 (by decide) ?_
                exact Ei _ _ _ _ _ rfl rfl dX1_state_88 (by first | (simp [mSta, h1, h2, h3, h4, h5, h6, h7]; done) | exact absurd (h4.symm.trans h6) (by decide)) rfl
              · refine zz_iconst (v := 1) X dX1_state_73 (by decide) ?_
                refine zz_goto (tgt := 78) X dX1_state_74 (by decide) ?_
                refine zz_istore_n (lv' := [some (.ref h), some (.int (nI r)), some (.int 1)]) X dX1_state_78 rfl (by decide) rfl ?_
                refine zz_iload_n X dX1_state_79 rfl rfl ?_
                refine zz_if_eq (tgt := 87) X dX1_state_80 (by decide) (fun hq => absurd hq (by decide)) (fun hq => ?_)
                refine zz_iconst (v := 3) X dX1_state_83 (by decide) ?_
                refine zz_goto (tgt := 88) X dX1_state_84 (by decide) ?_
                exact Ei _ _ _ _ _ rfl rfl dX1_state_88 (by first | (simp [mSta, h1, h2, h3, h4, h5, h6, h7]; done) | exact absurd (h4.symm.trans h6) (by decide)) rfl
    · refine zz_iconst (v := 2) X dX1_state_20 (by decide) ?_
      exact Ei _ _ _ _ _ rfl rfl dX1_state_21 (by first | (simp [mSta, h1, h2]; done) | exact absurd (h4.symm.trans h6) (by decide)) rfl
  · refine zz_iconst (v := 4) X dX1_state_9 (by decide) ?_
    exact Ei _ _ _ _ _ rfl rfl dX1_state_10 (by first | (simp [mSta, h1]; done) | exact absurd (h4.symm.trans h6) (by decide)) rfl
set_option maxHeartbeats 4000000 in
set_option maxRecDepth 100000 in
theorem m_add {l : Launch} {D : va_G} {h : Nat} {a : Nat → Nat} {ca : Nat → ClassId} (v : St) (m : Nat) (hm : v 9 2 = nI m) (h16 : m ≤ 15) (x y : Int32) : cM l D h a ca yX1_add wsX1_add { frames := 0, cells := 0, slots := 0, locals := 0 } [.int x, .int y] v (some (.int x)) (mAdd v m x y) := by
  refine zz_C.of (bytes := cX1_add) (maxL := 3) (ret := (some .int)) (lv0 := [some (.ref h), some (.int x), some (.int y)]) (by decide) rfl (Nat.le_of_ble_eq_true rfl) rfl rfl ?_
  intro p e s m' below meth c A Q X Ei Ev
  refine zz_aload_n X dX1_add_0 rfl rfl ?_
  refine zz_dup X dX1_add_1 rfl ?_
  refine qq_get (k0 := 4) (v := .int (v 9 4)) X imX1 (by decide) (mc flX1_58) rfl dX1_add_2 ?_
  refine zz_iconst (v := 1) X dX1_add_5 (by decide) ?_
  refine zz_iadd X dX1_add_6 ?_
  refine qq_put (k0 := 4) (u2 := (up2 v 9 4 ((v 9 4) + 1))) X imX1 (by decide) (mc flX1_58) (by decide) (by decide +kernel) dX1_add_7 rfl ?_
  refine zz_aload_n X dX1_add_10 rfl rfl ?_
  refine qq_get (k0 := 7) (v := .ref (a 0)) X imX1 (by decide) (mc flX1_7) rfl dX1_add_11 ?_
  refine zz_aload_n X dX1_add_14 rfl rfl ?_
  refine qq_get (k0 := 2) (v := .int ((up2 v 9 4 ((v 9 4) + 1)) 9 2)) X imX1 (by decide) (mc flX1_45) rfl dX1_add_15 ?_
  refine zz_top (show (up2 v 9 4 ((v 9 4) + 1)) 9 2 = nI m from hm) ?_
  refine zz_aload_n X dX1_add_18 rfl rfl ?_
  refine qq_get (k0 := 4) (v := .int ((up2 v 9 4 ((v 9 4) + 1)) 9 4)) X imX1 (by decide) (mc flX1_58) rfl dX1_add_19 ?_
  refine zz_iast (q0 := 1) (t0 := 0) (j := m) (ws' := wM h a ca ((up2 (up2 v 9 4 ((v 9 4) + 1)) 0 m ((up2 v 9 4 ((v 9 4) + 1)) 9 4)))) X rfl rfl rfl (show m < 16 by omega) (by decide) dX1_add_22 rfl ?_
  refine zz_aload_n X dX1_add_23 rfl rfl ?_
  refine qq_get (k0 := 8) (v := .ref (a 1)) X imX1 (by decide) (mc flX1_13) rfl dX1_add_24 ?_
  refine zz_aload_n X dX1_add_27 rfl rfl ?_
  refine qq_get (k0 := 2) (v := .int ((up2 (up2 v 9 4 ((v 9 4) + 1)) 0 m ((up2 v 9 4 ((v 9 4) + 1)) 9 4)) 9 2)) X imX1 (by decide) (mc flX1_45) rfl dX1_add_28 ?_
  refine zz_top (show (up2 (up2 v 9 4 ((v 9 4) + 1)) 0 m ((up2 v 9 4 ((v 9 4) + 1)) 9 4)) 9 2 = nI m from hm) ?_
  refine zz_iload_n X dX1_add_31 rfl rfl ?_
  refine zz_iast (q0 := 2) (t0 := 1) (j := m) (ws' := wM h a ca ((up2 (up2 (up2 v 9 4 ((v 9 4) + 1)) 0 m ((up2 v 9 4 ((v 9 4) + 1)) 9 4)) 1 m x))) X rfl rfl rfl (show m < 16 by omega) (by decide) dX1_add_32 rfl ?_
  refine zz_aload_n X dX1_add_33 rfl rfl ?_
  refine qq_get (k0 := 9) (v := .ref (a 2)) X imX1 (by decide) (mc flX1_16) rfl dX1_add_34 ?_
  refine zz_aload_n X dX1_add_37 rfl rfl ?_
  refine qq_get (k0 := 2) (v := .int ((up2 (up2 (up2 v 9 4 ((v 9 4) + 1)) 0 m ((up2 v 9 4 ((v 9 4) + 1)) 9 4)) 1 m x) 9 2)) X imX1 (by decide) (mc flX1_45) rfl dX1_add_38 ?_
  refine zz_top (show (up2 (up2 (up2 v 9 4 ((v 9 4) + 1)) 0 m ((up2 v 9 4 ((v 9 4) + 1)) 9 4)) 1 m x) 9 2 = nI m from hm) ?_
  refine zz_iload_n X dX1_add_41 rfl rfl ?_
  refine zz_iast (q0 := 3) (t0 := 2) (j := m) (ws' := wM h a ca ((up2 (up2 (up2 (up2 v 9 4 ((v 9 4) + 1)) 0 m ((up2 v 9 4 ((v 9 4) + 1)) 9 4)) 1 m x) 2 m y))) X rfl rfl rfl (show m < 16 by omega) (by decide) dX1_add_42 rfl ?_
  refine zz_aload_n X dX1_add_43 rfl rfl ?_
  refine qq_get (k0 := 10) (v := .ref (a 3)) X imX1 (by decide) (mc flX1_19) rfl dX1_add_44 ?_
  refine zz_aload_n X dX1_add_47 rfl rfl ?_
  refine qq_get (k0 := 2) (v := .int ((up2 (up2 (up2 (up2 v 9 4 ((v 9 4) + 1)) 0 m ((up2 v 9 4 ((v 9 4) + 1)) 9 4)) 1 m x) 2 m y) 9 2)) X imX1 (by decide) (mc flX1_45) rfl dX1_add_48 ?_
  refine zz_top (show (up2 (up2 (up2 (up2 v 9 4 ((v 9 4) + 1)) 0 m ((up2 v 9 4 ((v 9 4) + 1)) 9 4)) 1 m x) 2 m y) 9 2 = nI m from hm) ?_
  refine zz_iconst (v := 0) X dX1_add_51 (by decide) ?_
  refine zz_zast (q0 := 4) (t0 := 3) (j := m) (ws' := wM h a ca ((up2 (up2 (up2 (up2 (up2 v 9 4 ((v 9 4) + 1)) 0 m ((up2 v 9 4 ((v 9 4) + 1)) 9 4)) 1 m x) 2 m y) 3 m 0))) X rfl rfl rfl (show m < 16 by omega) (by decide) rfl dX1_add_52 rfl ?_
  refine zz_aload_n X dX1_add_53 rfl rfl ?_
  refine qq_get (k0 := 11) (v := .ref (a 4)) X imX1 (by decide) (mc flX1_23) rfl dX1_add_54 ?_
  refine zz_aload_n X dX1_add_57 rfl rfl ?_
  refine qq_get (k0 := 2) (v := .int ((up2 (up2 (up2 (up2 (up2 v 9 4 ((v 9 4) + 1)) 0 m ((up2 v 9 4 ((v 9 4) + 1)) 9 4)) 1 m x) 2 m y) 3 m 0) 9 2)) X imX1 (by decide) (mc flX1_45) rfl dX1_add_58 ?_
  refine zz_top (show (up2 (up2 (up2 (up2 (up2 v 9 4 ((v 9 4) + 1)) 0 m ((up2 v 9 4 ((v 9 4) + 1)) 9 4)) 1 m x) 2 m y) 3 m 0) 9 2 = nI m from hm) ?_
  refine zz_iconst (v := 0) X dX1_add_61 (by decide) ?_
  refine zz_iast (q0 := 5) (t0 := 4) (j := m) (ws' := wM h a ca ((up2 (up2 (up2 (up2 (up2 (up2 v 9 4 ((v 9 4) + 1)) 0 m ((up2 v 9 4 ((v 9 4) + 1)) 9 4)) 1 m x) 2 m y) 3 m 0) 4 m 0))) X rfl rfl rfl (show m < 16 by omega) (by decide) dX1_add_62 rfl ?_
  refine zz_aload_n X dX1_add_63 rfl rfl ?_
  refine qq_get (k0 := 12) (v := .ref (a 5)) X imX1 (by decide) (mc flX1_26) rfl dX1_add_64 ?_
  refine zz_aload_n X dX1_add_67 rfl rfl ?_
  refine qq_get (k0 := 2) (v := .int ((up2 (up2 (up2 (up2 (up2 (up2 v 9 4 ((v 9 4) + 1)) 0 m ((up2 v 9 4 ((v 9 4) + 1)) 9 4)) 1 m x) 2 m y) 3 m 0) 4 m 0) 9 2)) X imX1 (by decide) (mc flX1_45) rfl dX1_add_68 ?_
  refine zz_top (show (up2 (up2 (up2 (up2 (up2 (up2 v 9 4 ((v 9 4) + 1)) 0 m ((up2 v 9 4 ((v 9 4) + 1)) 9 4)) 1 m x) 2 m y) 3 m 0) 4 m 0) 9 2 = nI m from hm) ?_
  refine zz_iconst (v := 0) X dX1_add_71 (by decide) ?_
  refine zz_zast (q0 := 6) (t0 := 5) (j := m) (ws' := wM h a ca ((up2 (up2 (up2 (up2 (up2 (up2 (up2 v 9 4 ((v 9 4) + 1)) 0 m ((up2 v 9 4 ((v 9 4) + 1)) 9 4)) 1 m x) 2 m y) 3 m 0) 4 m 0) 5 m 0))) X rfl rfl rfl (show m < 16 by omega) (by decide) rfl dX1_add_72 rfl ?_
  refine zz_aload_n X dX1_add_73 rfl rfl ?_
  refine qq_get (k0 := 13) (v := .ref (a 6)) X imX1 (by decide) (mc flX1_29) rfl dX1_add_74 ?_
  refine zz_aload_n X dX1_add_77 rfl rfl ?_
  refine qq_get (k0 := 2) (v := .int ((up2 (up2 (up2 (up2 (up2 (up2 (up2 v 9 4 ((v 9 4) + 1)) 0 m ((up2 v 9 4 ((v 9 4) + 1)) 9 4)) 1 m x) 2 m y) 3 m 0) 4 m 0) 5 m 0) 9 2)) X imX1 (by decide) (mc flX1_45) rfl dX1_add_78 ?_
  refine zz_top (show (up2 (up2 (up2 (up2 (up2 (up2 (up2 v 9 4 ((v 9 4) + 1)) 0 m ((up2 v 9 4 ((v 9 4) + 1)) 9 4)) 1 m x) 2 m y) 3 m 0) 4 m 0) 5 m 0) 9 2 = nI m from hm) ?_
  refine zz_iconst (v := -1) X dX1_add_81 (by decide) ?_
  refine zz_iast (q0 := 7) (t0 := 6) (j := m) (ws' := wM h a ca ((up2 (up2 (up2 (up2 (up2 (up2 (up2 (up2 v 9 4 ((v 9 4) + 1)) 0 m ((up2 v 9 4 ((v 9 4) + 1)) 9 4)) 1 m x) 2 m y) 3 m 0) 4 m 0) 5 m 0) 6 m (-1)))) X rfl rfl rfl (show m < 16 by omega) (by decide) dX1_add_82 rfl ?_
  refine zz_aload_n X dX1_add_83 rfl rfl ?_
  refine qq_get (k0 := 14) (v := .ref (a 7)) X imX1 (by decide) (mc flX1_32) rfl dX1_add_84 ?_
  refine zz_aload_n X dX1_add_87 rfl rfl ?_
  refine qq_get (k0 := 2) (v := .int ((up2 (up2 (up2 (up2 (up2 (up2 (up2 (up2 v 9 4 ((v 9 4) + 1)) 0 m ((up2 v 9 4 ((v 9 4) + 1)) 9 4)) 1 m x) 2 m y) 3 m 0) 4 m 0) 5 m 0) 6 m (-1)) 9 2)) X imX1 (by decide) (mc flX1_45) rfl dX1_add_88 ?_
  refine zz_top (show (up2 (up2 (up2 (up2 (up2 (up2 (up2 (up2 v 9 4 ((v 9 4) + 1)) 0 m ((up2 v 9 4 ((v 9 4) + 1)) 9 4)) 1 m x) 2 m y) 3 m 0) 4 m 0) 5 m 0) 6 m (-1)) 9 2 = nI m from hm) ?_
  refine zz_iconst (v := 0) X dX1_add_91 (by decide) ?_
  refine zz_iast (q0 := 8) (t0 := 7) (j := m) (ws' := wM h a ca ((up2 (up2 (up2 (up2 (up2 (up2 (up2 (up2 (up2 v 9 4 ((v 9 4) + 1)) 0 m ((up2 v 9 4 ((v 9 4) + 1)) 9 4)) 1 m x) 2 m y) 3 m 0) 4 m 0) 5 m 0) 6 m (-1)) 7 m 0))) X rfl rfl rfl (show m < 16 by omega) (by decide) dX1_add_92 rfl ?_
  refine zz_aload_n X dX1_add_93 rfl rfl ?_
  refine zz_dup X dX1_add_94 rfl ?_
  refine qq_get (k0 := 2) (v := .int ((up2 (up2 (up2 (up2 (up2 (up2 (up2 (up2 (up2 v 9 4 ((v 9 4) + 1)) 0 m ((up2 v 9 4 ((v 9 4) + 1)) 9 4)) 1 m x) 2 m y) 3 m 0) 4 m 0) 5 m 0) 6 m (-1)) 7 m 0) 9 2)) X imX1 (by decide) (mc flX1_45) rfl dX1_add_95 ?_
  refine zz_top (show (up2 (up2 (up2 (up2 (up2 (up2 (up2 (up2 (up2 v 9 4 ((v 9 4) + 1)) 0 m ((up2 v 9 4 ((v 9 4) + 1)) 9 4)) 1 m x) 2 m y) 3 m 0) 4 m 0) 5 m 0) 6 m (-1)) 7 m 0) 9 2 = nI m from hm) ?_
  refine zz_iconst (v := 1) X dX1_add_98 (by decide) ?_
  refine zz_iadd X dX1_add_99 ?_
  refine zz_top (nI_1 _) ?_
  refine qq_put (k0 := 2) (u2 := (up2 (up2 (up2 (up2 (up2 (up2 (up2 (up2 (up2 (up2 v 9 4 ((v 9 4) + 1)) 0 m ((up2 v 9 4 ((v 9 4) + 1)) 9 4)) 1 m x) 2 m y) 3 m 0) 4 m 0) 5 m 0) 6 m (-1)) 7 m 0) 9 2 (nI (m + 1)))) X imX1 (by decide) (mc flX1_45) (by decide) (by decide +kernel) dX1_add_100 rfl ?_
  refine zz_iload_n X dX1_add_103 rfl rfl ?_
  exact Ei _ _ _ _ _ rfl rfl dX1_add_104 rfl rfl
set_option maxHeartbeats 4000000 in
set_option maxRecDepth 100000 in
theorem m_remove {l : Launch} {D : va_G} {h : Nat} {a : Nat → Nat} {ca : Nat → ClassId} (v : St) (m : Nat) (hm : v 9 2 = nI (m + 1)) (h16 : m + 1 ≤ 15) (hb : mB v) (r : Nat) (hr : r ≤ m) : cM l D h a ca yX1_remove wsX1_remove { frames := 0, cells := 0, slots := 0, locals := 0 } [.int (nI r)] v none (mRem v m r) := by
  refine zz_C.of (bytes := cX1_remove) (maxL := 3) (ret := none) (lv0 := [some (.ref h), some (.int (nI r)), none]) (by decide) rfl (Nat.le_of_ble_eq_true rfl) rfl rfl ?_
  intro p e s m' below meth c A Q X Ei Ev
  refine zz_aload_n X dX1_remove_0 rfl rfl ?_
  refine zz_dup X dX1_remove_1 rfl ?_
  refine qq_get (k0 := 2) (v := .int (v 9 2)) X imX1 (by decide) (mc flX1_45) rfl dX1_remove_2 ?_
  refine zz_top (show v 9 2 = nI (m + 1) from hm) ?_
  refine zz_iconst (v := 1) X dX1_remove_5 (by decide) ?_
  refine zz_isub X dX1_remove_6 ?_
  refine zz_top (nI_pred m) ?_
  refine qq_put (k0 := 2) (u2 := (up2 v 9 2 (nI m))) X imX1 (by decide) (mc flX1_45) (by decide) (by decide +kernel) dX1_remove_7 rfl ?_
  refine zz_iload_n X dX1_remove_10 rfl rfl ?_
  refine zz_istore_n (lv' := [some (.ref h), some (.int (nI r)), some (.int (nI r))]) X dX1_remove_11 rfl (by decide) rfl ?_
  have loop : ∀ (n i : Nat) (w : St), i + n = m → w 9 2 = nI m → mB w → zl mShf n i w = mRem v m r → zz_V p l e { frames := 0, cells := 0, slots := 0, locals := 0 } s m' [.ref h, .int (nI r)].toArray below meth c 0 0 Q 3 D vwCl A (wM h a ca w) [some (.ref h), some (.int (nI r)), some (.int (nI i))] 12 [] := by
    intro n
    induction n with
    | zero =>
      intro i w hi hw hb hz
      refine zz_iload_n X dX1_remove_12 rfl rfl ?_
      refine zz_aload_n X dX1_remove_13 rfl rfl ?_
      refine qq_get (k0 := 2) (v := .int (w 9 2)) X imX1 (by decide) (mc flX1_45) rfl dX1_remove_14 ?_
      refine zz_top (show w 9 2 = nI m from hw) ?_
      refine zz_icmp_ge (tgt := 152) X dX1_remove_17 (by decide) (fun hq => ?_) (fun hq => absurd (nI_le (a := m) (by omega) (by omega)) hq)
      exact Ev _ _ _ rfl dX1_remove_152 rfl (by rw [← hz]; rfl)
    | succ n ih =>
      intro i w hi hw hb hz
      have hlt : i < m := by omega
      refine zz_iload_n X dX1_remove_12 rfl rfl ?_
      refine zz_aload_n X dX1_remove_13 rfl rfl ?_
      refine qq_get (k0 := 2) (v := .int (w 9 2)) X imX1 (by decide) (mc flX1_45) rfl dX1_remove_14 ?_
      refine zz_top (show w 9 2 = nI m from hw) ?_
      refine zz_icmp_ge (tgt := 152) X dX1_remove_17 (by decide) (fun hq => absurd hq (nI_ge (b := m) hlt (by omega))) (fun hq => ?_)
      refine zz_aload_n X dX1_remove_20 rfl rfl ?_
      refine qq_get (k0 := 7) (v := .ref (a 0)) X imX1 (by decide) (mc flX1_7) rfl dX1_remove_21 ?_
      refine zz_iload_n X dX1_remove_24 rfl rfl ?_
      refine zz_aload_n X dX1_remove_25 rfl rfl ?_
      refine qq_get (k0 := 7) (v := .ref (a 0)) X imX1 (by decide) (mc flX1_7) rfl dX1_remove_26 ?_
      refine zz_iload_n X dX1_remove_29 rfl rfl ?_
      refine zz_iconst (v := 1) X dX1_remove_30 (by decide) ?_
      refine zz_iadd X dX1_remove_31 ?_
      refine zz_top (nI_1 _) ?_
      refine zz_iald (q0 := 1) (t0 := 0) (j := i + 1) X rfl rfl rfl (show i + 1 < 16 by omega) (by decide) dX1_remove_32 ?_
      refine zz_iast (q0 := 1) (t0 := 0) (j := i) (ws' := wM h a ca (up2 w 0 i (w 0 (i + 1)))) X rfl rfl rfl (show i < 16 by omega) (by decide) dX1_remove_33 rfl ?_
      refine zz_aload_n X dX1_remove_34 rfl rfl ?_
      refine qq_get (k0 := 8) (v := .ref (a 1)) X imX1 (by decide) (mc flX1_13) rfl dX1_remove_35 ?_
      refine zz_iload_n X dX1_remove_38 rfl rfl ?_
      refine zz_aload_n X dX1_remove_39 rfl rfl ?_
      refine qq_get (k0 := 8) (v := .ref (a 1)) X imX1 (by decide) (mc flX1_13) rfl dX1_remove_40 ?_
      refine zz_iload_n X dX1_remove_43 rfl rfl ?_
      refine zz_iconst (v := 1) X dX1_remove_44 (by decide) ?_
      refine zz_iadd X dX1_remove_45 ?_
      refine zz_top (nI_1 _) ?_
      refine zz_iald (q0 := 2) (t0 := 1) (j := i + 1) X rfl rfl rfl (show i + 1 < 16 by omega) (by decide) dX1_remove_46 ?_
      refine zz_iast (q0 := 2) (t0 := 1) (j := i) (ws' := wM h a ca ((up2 (up2 w 0 i (w 0 (i + 1))) 1 i (((up2 w 0 i (w 0 (i + 1))) 1 (i + 1)))))) X rfl rfl rfl (show i < 16 by omega) (by decide) dX1_remove_47 rfl ?_
      refine zz_aload_n X dX1_remove_48 rfl rfl ?_
      refine qq_get (k0 := 9) (v := .ref (a 2)) X imX1 (by decide) (mc flX1_16) rfl dX1_remove_49 ?_
      refine zz_iload_n X dX1_remove_52 rfl rfl ?_
      refine zz_aload_n X dX1_remove_53 rfl rfl ?_
      refine qq_get (k0 := 9) (v := .ref (a 2)) X imX1 (by decide) (mc flX1_16) rfl dX1_remove_54 ?_
      refine zz_iload_n X dX1_remove_57 rfl rfl ?_
      refine zz_iconst (v := 1) X dX1_remove_58 (by decide) ?_
      refine zz_iadd X dX1_remove_59 ?_
      refine zz_top (nI_1 _) ?_
      refine zz_iald (q0 := 3) (t0 := 2) (j := i + 1) X rfl rfl rfl (show i + 1 < 16 by omega) (by decide) dX1_remove_60 ?_
      refine zz_iast (q0 := 3) (t0 := 2) (j := i) (ws' := wM h a ca ((up2 (up2 (up2 w 0 i (w 0 (i + 1))) 1 i (((up2 w 0 i (w 0 (i + 1))) 1 (i + 1)))) 2 i (((up2 (up2 w 0 i (w 0 (i + 1))) 1 i (((up2 w 0 i (w 0 (i + 1))) 1 (i + 1)))) 2 (i + 1)))))) X rfl rfl rfl (show i < 16 by omega) (by decide) dX1_remove_61 rfl ?_
      refine zz_aload_n X dX1_remove_62 rfl rfl ?_
      refine qq_get (k0 := 10) (v := .ref (a 3)) X imX1 (by decide) (mc flX1_19) rfl dX1_remove_63 ?_
      refine zz_iload_n X dX1_remove_66 rfl rfl ?_
      refine zz_aload_n X dX1_remove_67 rfl rfl ?_
      refine qq_get (k0 := 10) (v := .ref (a 3)) X imX1 (by decide) (mc flX1_19) rfl dX1_remove_68 ?_
      refine zz_iload_n X dX1_remove_71 rfl rfl ?_
      refine zz_iconst (v := 1) X dX1_remove_72 (by decide) ?_
      refine zz_iadd X dX1_remove_73 ?_
      refine zz_top (nI_1 _) ?_
      refine zz_zald (q0 := 4) (t0 := 3) (j := i + 1) X rfl rfl rfl (show i + 1 < 16 by omega) (by decide) dX1_remove_74 ?_
      refine zz_zast (q0 := 4) (t0 := 3) (j := i) (ws' := wM h a ca ((up2 (up2 (up2 (up2 w 0 i (w 0 (i + 1))) 1 i (((up2 w 0 i (w 0 (i + 1))) 1 (i + 1)))) 2 i (((up2 (up2 w 0 i (w 0 (i + 1))) 1 i (((up2 w 0 i (w 0 (i + 1))) 1 (i + 1)))) 2 (i + 1)))) 3 i (((up2 (up2 (up2 w 0 i (w 0 (i + 1))) 1 i (((up2 w 0 i (w 0 (i + 1))) 1 (i + 1)))) 2 i (((up2 (up2 w 0 i (w 0 (i + 1))) 1 i (((up2 w 0 i (w 0 (i + 1))) 1 (i + 1)))) 2 (i + 1)))) 3 (i + 1)))))) X rfl rfl rfl (show i < 16 by omega) (by decide) (zz_nb (show (up2 (up2 (up2 w 0 i (w 0 (i + 1))) 1 i (((up2 w 0 i (w 0 (i + 1))) 1 (i + 1)))) 2 i (((up2 (up2 w 0 i (w 0 (i + 1))) 1 i (((up2 w 0 i (w 0 (i + 1))) 1 (i + 1)))) 2 (i + 1)))) 3 (i + 1) = 0 ∨ (up2 (up2 (up2 w 0 i (w 0 (i + 1))) 1 i (((up2 w 0 i (w 0 (i + 1))) 1 (i + 1)))) 2 i (((up2 (up2 w 0 i (w 0 (i + 1))) 1 i (((up2 w 0 i (w 0 (i + 1))) 1 (i + 1)))) 2 (i + 1)))) 3 (i + 1) = 1 from (hb (i + 1) (by omega)).1)) dX1_remove_75 rfl ?_
      refine zz_aload_n X dX1_remove_76 rfl rfl ?_
      refine qq_get (k0 := 11) (v := .ref (a 4)) X imX1 (by decide) (mc flX1_23) rfl dX1_remove_77 ?_
      refine zz_iload_n X dX1_remove_80 rfl rfl ?_
      refine zz_aload_n X dX1_remove_81 rfl rfl ?_
      refine qq_get (k0 := 11) (v := .ref (a 4)) X imX1 (by decide) (mc flX1_23) rfl dX1_remove_82 ?_
      refine zz_iload_n X dX1_remove_85 rfl rfl ?_
      refine zz_iconst (v := 1) X dX1_remove_86 (by decide) ?_
      refine zz_iadd X dX1_remove_87 ?_
      refine zz_top (nI_1 _) ?_
      refine zz_iald (q0 := 5) (t0 := 4) (j := i + 1) X rfl rfl rfl (show i + 1 < 16 by omega) (by decide) dX1_remove_88 ?_
      refine zz_iast (q0 := 5) (t0 := 4) (j := i) (ws' := wM h a ca ((up2 (up2 (up2 (up2 (up2 w 0 i (w 0 (i + 1))) 1 i (((up2 w 0 i (w 0 (i + 1))) 1 (i + 1)))) 2 i (((up2 (up2 w 0 i (w 0 (i + 1))) 1 i (((up2 w 0 i (w 0 (i + 1))) 1 (i + 1)))) 2 (i + 1)))) 3 i (((up2 (up2 (up2 w 0 i (w 0 (i + 1))) 1 i (((up2 w 0 i (w 0 (i + 1))) 1 (i + 1)))) 2 i (((up2 (up2 w 0 i (w 0 (i + 1))) 1 i (((up2 w 0 i (w 0 (i + 1))) 1 (i + 1)))) 2 (i + 1)))) 3 (i + 1)))) 4 i (((up2 (up2 (up2 (up2 w 0 i (w 0 (i + 1))) 1 i (((up2 w 0 i (w 0 (i + 1))) 1 (i + 1)))) 2 i (((up2 (up2 w 0 i (w 0 (i + 1))) 1 i (((up2 w 0 i (w 0 (i + 1))) 1 (i + 1)))) 2 (i + 1)))) 3 i (((up2 (up2 (up2 w 0 i (w 0 (i + 1))) 1 i (((up2 w 0 i (w 0 (i + 1))) 1 (i + 1)))) 2 i (((up2 (up2 w 0 i (w 0 (i + 1))) 1 i (((up2 w 0 i (w 0 (i + 1))) 1 (i + 1)))) 2 (i + 1)))) 3 (i + 1)))) 4 (i + 1)))))) X rfl rfl rfl (show i < 16 by omega) (by decide) dX1_remove_89 rfl ?_
      refine zz_aload_n X dX1_remove_90 rfl rfl ?_
      refine qq_get (k0 := 12) (v := .ref (a 5)) X imX1 (by decide) (mc flX1_26) rfl dX1_remove_91 ?_
      refine zz_iload_n X dX1_remove_94 rfl rfl ?_
      refine zz_aload_n X dX1_remove_95 rfl rfl ?_
      refine qq_get (k0 := 12) (v := .ref (a 5)) X imX1 (by decide) (mc flX1_26) rfl dX1_remove_96 ?_
      refine zz_iload_n X dX1_remove_99 rfl rfl ?_
      refine zz_iconst (v := 1) X dX1_remove_100 (by decide) ?_
      refine zz_iadd X dX1_remove_101 ?_
      refine zz_top (nI_1 _) ?_
      refine zz_zald (q0 := 6) (t0 := 5) (j := i + 1) X rfl rfl rfl (show i + 1 < 16 by omega) (by decide) dX1_remove_102 ?_
      refine zz_zast (q0 := 6) (t0 := 5) (j := i) (ws' := wM h a ca ((up2 (up2 (up2 (up2 (up2 (up2 w 0 i (w 0 (i + 1))) 1 i (((up2 w 0 i (w 0 (i + 1))) 1 (i + 1)))) 2 i (((up2 (up2 w 0 i (w 0 (i + 1))) 1 i (((up2 w 0 i (w 0 (i + 1))) 1 (i + 1)))) 2 (i + 1)))) 3 i (((up2 (up2 (up2 w 0 i (w 0 (i + 1))) 1 i (((up2 w 0 i (w 0 (i + 1))) 1 (i + 1)))) 2 i (((up2 (up2 w 0 i (w 0 (i + 1))) 1 i (((up2 w 0 i (w 0 (i + 1))) 1 (i + 1)))) 2 (i + 1)))) 3 (i + 1)))) 4 i (((up2 (up2 (up2 (up2 w 0 i (w 0 (i + 1))) 1 i (((up2 w 0 i (w 0 (i + 1))) 1 (i + 1)))) 2 i (((up2 (up2 w 0 i (w 0 (i + 1))) 1 i (((up2 w 0 i (w 0 (i + 1))) 1 (i + 1)))) 2 (i + 1)))) 3 i (((up2 (up2 (up2 w 0 i (w 0 (i + 1))) 1 i (((up2 w 0 i (w 0 (i + 1))) 1 (i + 1)))) 2 i (((up2 (up2 w 0 i (w 0 (i + 1))) 1 i (((up2 w 0 i (w 0 (i + 1))) 1 (i + 1)))) 2 (i + 1)))) 3 (i + 1)))) 4 (i + 1)))) 5 i (((up2 (up2 (up2 (up2 (up2 w 0 i (w 0 (i + 1))) 1 i (((up2 w 0 i (w 0 (i + 1))) 1 (i + 1)))) 2 i (((up2 (up2 w 0 i (w 0 (i + 1))) 1 i (((up2 w 0 i (w 0 (i + 1))) 1 (i + 1)))) 2 (i + 1)))) 3 i (((up2 (up2 (up2 w 0 i (w 0 (i + 1))) 1 i (((up2 w 0 i (w 0 (i + 1))) 1 (i + 1)))) 2 i (((up2 (up2 w 0 i (w 0 (i + 1))) 1 i (((up2 w 0 i (w 0 (i + 1))) 1 (i + 1)))) 2 (i + 1)))) 3 (i + 1)))) 4 i (((up2 (up2 (up2 (up2 w 0 i (w 0 (i + 1))) 1 i (((up2 w 0 i (w 0 (i + 1))) 1 (i + 1)))) 2 i (((up2 (up2 w 0 i (w 0 (i + 1))) 1 i (((up2 w 0 i (w 0 (i + 1))) 1 (i + 1)))) 2 (i + 1)))) 3 i (((up2 (up2 (up2 w 0 i (w 0 (i + 1))) 1 i (((up2 w 0 i (w 0 (i + 1))) 1 (i + 1)))) 2 i (((up2 (up2 w 0 i (w 0 (i + 1))) 1 i (((up2 w 0 i (w 0 (i + 1))) 1 (i + 1)))) 2 (i + 1)))) 3 (i + 1)))) 4 (i + 1)))) 5 (i + 1)))))) X rfl rfl rfl (show i < 16 by omega) (by decide) (zz_nb (show (up2 (up2 (up2 (up2 (up2 w 0 i (w 0 (i + 1))) 1 i (((up2 w 0 i (w 0 (i + 1))) 1 (i + 1)))) 2 i (((up2 (up2 w 0 i (w 0 (i + 1))) 1 i (((up2 w 0 i (w 0 (i + 1))) 1 (i + 1)))) 2 (i + 1)))) 3 i (((up2 (up2 (up2 w 0 i (w 0 (i + 1))) 1 i (((up2 w 0 i (w 0 (i + 1))) 1 (i + 1)))) 2 i (((up2 (up2 w 0 i (w 0 (i + 1))) 1 i (((up2 w 0 i (w 0 (i + 1))) 1 (i + 1)))) 2 (i + 1)))) 3 (i + 1)))) 4 i (((up2 (up2 (up2 (up2 w 0 i (w 0 (i + 1))) 1 i (((up2 w 0 i (w 0 (i + 1))) 1 (i + 1)))) 2 i (((up2 (up2 w 0 i (w 0 (i + 1))) 1 i (((up2 w 0 i (w 0 (i + 1))) 1 (i + 1)))) 2 (i + 1)))) 3 i (((up2 (up2 (up2 w 0 i (w 0 (i + 1))) 1 i (((up2 w 0 i (w 0 (i + 1))) 1 (i + 1)))) 2 i (((up2 (up2 w 0 i (w 0 (i + 1))) 1 i (((up2 w 0 i (w 0 (i + 1))) 1 (i + 1)))) 2 (i + 1)))) 3 (i + 1)))) 4 (i + 1)))) 5 (i + 1) = 0 ∨ (up2 (up2 (up2 (up2 (up2 w 0 i (w 0 (i + 1))) 1 i (((up2 w 0 i (w 0 (i + 1))) 1 (i + 1)))) 2 i (((up2 (up2 w 0 i (w 0 (i + 1))) 1 i (((up2 w 0 i (w 0 (i + 1))) 1 (i + 1)))) 2 (i + 1)))) 3 i (((up2 (up2 (up2 w 0 i (w 0 (i + 1))) 1 i (((up2 w 0 i (w 0 (i + 1))) 1 (i + 1)))) 2 i (((up2 (up2 w 0 i (w 0 (i + 1))) 1 i (((up2 w 0 i (w 0 (i + 1))) 1 (i + 1)))) 2 (i + 1)))) 3 (i + 1)))) 4 i (((up2 (up2 (up2 (up2 w 0 i (w 0 (i + 1))) 1 i (((up2 w 0 i (w 0 (i + 1))) 1 (i + 1)))) 2 i (((up2 (up2 w 0 i (w 0 (i + 1))) 1 i (((up2 w 0 i (w 0 (i + 1))) 1 (i + 1)))) 2 (i + 1)))) 3 i (((up2 (up2 (up2 w 0 i (w 0 (i + 1))) 1 i (((up2 w 0 i (w 0 (i + 1))) 1 (i + 1)))) 2 i (((up2 (up2 w 0 i (w 0 (i + 1))) 1 i (((up2 w 0 i (w 0 (i + 1))) 1 (i + 1)))) 2 (i + 1)))) 3 (i + 1)))) 4 (i + 1)))) 5 (i + 1) = 1 from (hb (i + 1) (by omega)).2)) dX1_remove_103 rfl ?_
      refine zz_aload_n X dX1_remove_104 rfl rfl ?_
      refine qq_get (k0 := 13) (v := .ref (a 6)) X imX1 (by decide) (mc flX1_29) rfl dX1_remove_105 ?_
      refine zz_iload_n X dX1_remove_108 rfl rfl ?_
      refine zz_aload_n X dX1_remove_109 rfl rfl ?_
      refine qq_get (k0 := 13) (v := .ref (a 6)) X imX1 (by decide) (mc flX1_29) rfl dX1_remove_110 ?_
      refine zz_iload_n X dX1_remove_113 rfl rfl ?_
      refine zz_iconst (v := 1) X dX1_remove_114 (by decide) ?_
      refine zz_iadd X dX1_remove_115 ?_
      refine zz_top (nI_1 _) ?_
      refine zz_iald (q0 := 7) (t0 := 6) (j := i + 1) X rfl rfl rfl (show i + 1 < 16 by omega) (by decide) dX1_remove_116 ?_
      refine zz_iast (q0 := 7) (t0 := 6) (j := i) (ws' := wM h a ca ((up2 (up2 (up2 (up2 (up2 (up2 (up2 w 0 i (w 0 (i + 1))) 1 i (((up2 w 0 i (w 0 (i + 1))) 1 (i + 1)))) 2 i (((up2 (up2 w 0 i (w 0 (i + 1))) 1 i (((up2 w 0 i (w 0 (i + 1))) 1 (i + 1)))) 2 (i + 1)))) 3 i (((up2 (up2 (up2 w 0 i (w 0 (i + 1))) 1 i (((up2 w 0 i (w 0 (i + 1))) 1 (i + 1)))) 2 i (((up2 (up2 w 0 i (w 0 (i + 1))) 1 i (((up2 w 0 i (w 0 (i + 1))) 1 (i + 1)))) 2 (i + 1)))) 3 (i + 1)))) 4 i (((up2 (up2 (up2 (up2 w 0 i (w 0 (i + 1))) 1 i (((up2 w 0 i (w 0 (i + 1))) 1 (i + 1)))) 2 i (((up2 (up2 w 0 i (w 0 (i + 1))) 1 i (((up2 w 0 i (w 0 (i + 1))) 1 (i + 1)))) 2 (i + 1)))) 3 i (((up2 (up2 (up2 w 0 i (w 0 (i + 1))) 1 i (((up2 w 0 i (w 0 (i + 1))) 1 (i + 1)))) 2 i (((up2 (up2 w 0 i (w 0 (i + 1))) 1 i (((up2 w 0 i (w 0 (i + 1))) 1 (i + 1)))) 2 (i + 1)))) 3 (i + 1)))) 4 (i + 1)))) 5 i (((up2 (up2 (up2 (up2 (up2 w 0 i (w 0 (i + 1))) 1 i (((up2 w 0 i (w 0 (i + 1))) 1 (i + 1)))) 2 i (((up2 (up2 w 0 i (w 0 (i + 1))) 1 i (((up2 w 0 i (w 0 (i + 1))) 1 (i + 1)))) 2 (i + 1)))) 3 i (((up2 (up2 (up2 w 0 i (w 0 (i + 1))) 1 i (((up2 w 0 i (w 0 (i + 1))) 1 (i + 1)))) 2 i (((up2 (up2 w 0 i (w 0 (i + 1))) 1 i (((up2 w 0 i (w 0 (i + 1))) 1 (i + 1)))) 2 (i + 1)))) 3 (i + 1)))) 4 i (((up2 (up2 (up2 (up2 w 0 i (w 0 (i + 1))) 1 i (((up2 w 0 i (w 0 (i + 1))) 1 (i + 1)))) 2 i (((up2 (up2 w 0 i (w 0 (i + 1))) 1 i (((up2 w 0 i (w 0 (i + 1))) 1 (i + 1)))) 2 (i + 1)))) 3 i (((up2 (up2 (up2 w 0 i (w 0 (i + 1))) 1 i (((up2 w 0 i (w 0 (i + 1))) 1 (i + 1)))) 2 i (((up2 (up2 w 0 i (w 0 (i + 1))) 1 i (((up2 w 0 i (w 0 (i + 1))) 1 (i + 1)))) 2 (i + 1)))) 3 (i + 1)))) 4 (i + 1)))) 5 (i + 1)))) 6 i (((up2 (up2 (up2 (up2 (up2 (up2 w 0 i (w 0 (i + 1))) 1 i (((up2 w 0 i (w 0 (i + 1))) 1 (i + 1)))) 2 i (((up2 (up2 w 0 i (w 0 (i + 1))) 1 i (((up2 w 0 i (w 0 (i + 1))) 1 (i + 1)))) 2 (i + 1)))) 3 i (((up2 (up2 (up2 w 0 i (w 0 (i + 1))) 1 i (((up2 w 0 i (w 0 (i + 1))) 1 (i + 1)))) 2 i (((up2 (up2 w 0 i (w 0 (i + 1))) 1 i (((up2 w 0 i (w 0 (i + 1))) 1 (i + 1)))) 2 (i + 1)))) 3 (i + 1)))) 4 i (((up2 (up2 (up2 (up2 w 0 i (w 0 (i + 1))) 1 i (((up2 w 0 i (w 0 (i + 1))) 1 (i + 1)))) 2 i (((up2 (up2 w 0 i (w 0 (i + 1))) 1 i (((up2 w 0 i (w 0 (i + 1))) 1 (i + 1)))) 2 (i + 1)))) 3 i (((up2 (up2 (up2 w 0 i (w 0 (i + 1))) 1 i (((up2 w 0 i (w 0 (i + 1))) 1 (i + 1)))) 2 i (((up2 (up2 w 0 i (w 0 (i + 1))) 1 i (((up2 w 0 i (w 0 (i + 1))) 1 (i + 1)))) 2 (i + 1)))) 3 (i + 1)))) 4 (i + 1)))) 5 i (((up2 (up2 (up2 (up2 (up2 w 0 i (w 0 (i + 1))) 1 i (((up2 w 0 i (w 0 (i + 1))) 1 (i + 1)))) 2 i (((up2 (up2 w 0 i (w 0 (i + 1))) 1 i (((up2 w 0 i (w 0 (i + 1))) 1 (i + 1)))) 2 (i + 1)))) 3 i (((up2 (up2 (up2 w 0 i (w 0 (i + 1))) 1 i (((up2 w 0 i (w 0 (i + 1))) 1 (i + 1)))) 2 i (((up2 (up2 w 0 i (w 0 (i + 1))) 1 i (((up2 w 0 i (w 0 (i + 1))) 1 (i + 1)))) 2 (i + 1)))) 3 (i + 1)))) 4 i (((up2 (up2 (up2 (up2 w 0 i (w 0 (i + 1))) 1 i (((up2 w 0 i (w 0 (i + 1))) 1 (i + 1)))) 2 i (((up2 (up2 w 0 i (w 0 (i + 1))) 1 i (((up2 w 0 i (w 0 (i + 1))) 1 (i + 1)))) 2 (i + 1)))) 3 i (((up2 (up2 (up2 w 0 i (w 0 (i + 1))) 1 i (((up2 w 0 i (w 0 (i + 1))) 1 (i + 1)))) 2 i (((up2 (up2 w 0 i (w 0 (i + 1))) 1 i (((up2 w 0 i (w 0 (i + 1))) 1 (i + 1)))) 2 (i + 1)))) 3 (i + 1)))) 4 (i + 1)))) 5 (i + 1)))) 6 (i + 1)))))) X rfl rfl rfl (show i < 16 by omega) (by decide) dX1_remove_117 rfl ?_
      refine zz_aload_n X dX1_remove_118 rfl rfl ?_
      refine qq_get (k0 := 14) (v := .ref (a 7)) X imX1 (by decide) (mc flX1_32) rfl dX1_remove_119 ?_
      refine zz_iload_n X dX1_remove_122 rfl rfl ?_
      refine zz_aload_n X dX1_remove_123 rfl rfl ?_
      refine qq_get (k0 := 14) (v := .ref (a 7)) X imX1 (by decide) (mc flX1_32) rfl dX1_remove_124 ?_
      refine zz_iload_n X dX1_remove_127 rfl rfl ?_
      refine zz_iconst (v := 1) X dX1_remove_128 (by decide) ?_
      refine zz_iadd X dX1_remove_129 ?_
      refine zz_top (nI_1 _) ?_
      refine zz_iald (q0 := 8) (t0 := 7) (j := i + 1) X rfl rfl rfl (show i + 1 < 16 by omega) (by decide) dX1_remove_130 ?_
      refine zz_iast (q0 := 8) (t0 := 7) (j := i) (ws' := wM h a ca ((up2 (up2 (up2 (up2 (up2 (up2 (up2 (up2 w 0 i (w 0 (i + 1))) 1 i (((up2 w 0 i (w 0 (i + 1))) 1 (i + 1)))) 2 i (((up2 (up2 w 0 i (w 0 (i + 1))) 1 i (((up2 w 0 i (w 0 (i + 1))) 1 (i + 1)))) 2 (i + 1)))) 3 i (((up2 (up2 (up2 w 0 i (w 0 (i + 1))) 1 i (((up2 w 0 i (w 0 (i + 1))) 1 (i + 1)))) 2 i (((up2 (up2 w 0 i (w 0 (i + 1))) 1 i (((up2 w 0 i (w 0 (i + 1))) 1 (i + 1)))) 2 (i + 1)))) 3 (i + 1)))) 4 i (((up2 (up2 (up2 (up2 w 0 i (w 0 (i + 1))) 1 i (((up2 w 0 i (w 0 (i + 1))) 1 (i + 1)))) 2 i (((up2 (up2 w 0 i (w 0 (i + 1))) 1 i (((up2 w 0 i (w 0 (i + 1))) 1 (i + 1)))) 2 (i + 1)))) 3 i (((up2 (up2 (up2 w 0 i (w 0 (i + 1))) 1 i (((up2 w 0 i (w 0 (i + 1))) 1 (i + 1)))) 2 i (((up2 (up2 w 0 i (w 0 (i + 1))) 1 i (((up2 w 0 i (w 0 (i + 1))) 1 (i + 1)))) 2 (i + 1)))) 3 (i + 1)))) 4 (i + 1)))) 5 i (((up2 (up2 (up2 (up2 (up2 w 0 i (w 0 (i + 1))) 1 i (((up2 w 0 i (w 0 (i + 1))) 1 (i + 1)))) 2 i (((up2 (up2 w 0 i (w 0 (i + 1))) 1 i (((up2 w 0 i (w 0 (i + 1))) 1 (i + 1)))) 2 (i + 1)))) 3 i (((up2 (up2 (up2 w 0 i (w 0 (i + 1))) 1 i (((up2 w 0 i (w 0 (i + 1))) 1 (i + 1)))) 2 i (((up2 (up2 w 0 i (w 0 (i + 1))) 1 i (((up2 w 0 i (w 0 (i + 1))) 1 (i + 1)))) 2 (i + 1)))) 3 (i + 1)))) 4 i (((up2 (up2 (up2 (up2 w 0 i (w 0 (i + 1))) 1 i (((up2 w 0 i (w 0 (i + 1))) 1 (i + 1)))) 2 i (((up2 (up2 w 0 i (w 0 (i + 1))) 1 i (((up2 w 0 i (w 0 (i + 1))) 1 (i + 1)))) 2 (i + 1)))) 3 i (((up2 (up2 (up2 w 0 i (w 0 (i + 1))) 1 i (((up2 w 0 i (w 0 (i + 1))) 1 (i + 1)))) 2 i (((up2 (up2 w 0 i (w 0 (i + 1))) 1 i (((up2 w 0 i (w 0 (i + 1))) 1 (i + 1)))) 2 (i + 1)))) 3 (i + 1)))) 4 (i + 1)))) 5 (i + 1)))) 6 i (((up2 (up2 (up2 (up2 (up2 (up2 w 0 i (w 0 (i + 1))) 1 i (((up2 w 0 i (w 0 (i + 1))) 1 (i + 1)))) 2 i (((up2 (up2 w 0 i (w 0 (i + 1))) 1 i (((up2 w 0 i (w 0 (i + 1))) 1 (i + 1)))) 2 (i + 1)))) 3 i (((up2 (up2 (up2 w 0 i (w 0 (i + 1))) 1 i (((up2 w 0 i (w 0 (i + 1))) 1 (i + 1)))) 2 i (((up2 (up2 w 0 i (w 0 (i + 1))) 1 i (((up2 w 0 i (w 0 (i + 1))) 1 (i + 1)))) 2 (i + 1)))) 3 (i + 1)))) 4 i (((up2 (up2 (up2 (up2 w 0 i (w 0 (i + 1))) 1 i (((up2 w 0 i (w 0 (i + 1))) 1 (i + 1)))) 2 i (((up2 (up2 w 0 i (w 0 (i + 1))) 1 i (((up2 w 0 i (w 0 (i + 1))) 1 (i + 1)))) 2 (i + 1)))) 3 i (((up2 (up2 (up2 w 0 i (w 0 (i + 1))) 1 i (((up2 w 0 i (w 0 (i + 1))) 1 (i + 1)))) 2 i (((up2 (up2 w 0 i (w 0 (i + 1))) 1 i (((up2 w 0 i (w 0 (i + 1))) 1 (i + 1)))) 2 (i + 1)))) 3 (i + 1)))) 4 (i + 1)))) 5 i (((up2 (up2 (up2 (up2 (up2 w 0 i (w 0 (i + 1))) 1 i (((up2 w 0 i (w 0 (i + 1))) 1 (i + 1)))) 2 i (((up2 (up2 w 0 i (w 0 (i + 1))) 1 i (((up2 w 0 i (w 0 (i + 1))) 1 (i + 1)))) 2 (i + 1)))) 3 i (((up2 (up2 (up2 w 0 i (w 0 (i + 1))) 1 i (((up2 w 0 i (w 0 (i + 1))) 1 (i + 1)))) 2 i (((up2 (up2 w 0 i (w 0 (i + 1))) 1 i (((up2 w 0 i (w 0 (i + 1))) 1 (i + 1)))) 2 (i + 1)))) 3 (i + 1)))) 4 i (((up2 (up2 (up2 (up2 w 0 i (w 0 (i + 1))) 1 i (((up2 w 0 i (w 0 (i + 1))) 1 (i + 1)))) 2 i (((up2 (up2 w 0 i (w 0 (i + 1))) 1 i (((up2 w 0 i (w 0 (i + 1))) 1 (i + 1)))) 2 (i + 1)))) 3 i (((up2 (up2 (up2 w 0 i (w 0 (i + 1))) 1 i (((up2 w 0 i (w 0 (i + 1))) 1 (i + 1)))) 2 i (((up2 (up2 w 0 i (w 0 (i + 1))) 1 i (((up2 w 0 i (w 0 (i + 1))) 1 (i + 1)))) 2 (i + 1)))) 3 (i + 1)))) 4 (i + 1)))) 5 (i + 1)))) 6 (i + 1)))) 7 i (((up2 (up2 (up2 (up2 (up2 (up2 (up2 w 0 i (w 0 (i + 1))) 1 i (((up2 w 0 i (w 0 (i + 1))) 1 (i + 1)))) 2 i (((up2 (up2 w 0 i (w 0 (i + 1))) 1 i (((up2 w 0 i (w 0 (i + 1))) 1 (i + 1)))) 2 (i + 1)))) 3 i (((up2 (up2 (up2 w 0 i (w 0 (i + 1))) 1 i (((up2 w 0 i (w 0 (i + 1))) 1 (i + 1)))) 2 i (((up2 (up2 w 0 i (w 0 (i + 1))) 1 i (((up2 w 0 i (w 0 (i + 1))) 1 (i + 1)))) 2 (i + 1)))) 3 (i + 1)))) 4 i (((up2 (up2 (up2 (up2 w 0 i (w 0 (i + 1))) 1 i (((up2 w 0 i (w 0 (i + 1))) 1 (i + 1)))) 2 i (((up2 (up2 w 0 i (w 0 (i + 1))) 1 i (((up2 w 0 i (w 0 (i + 1))) 1 (i + 1)))) 2 (i + 1)))) 3 i (((up2 (up2 (up2 w 0 i (w 0 (i + 1))) 1 i (((up2 w 0 i (w 0 (i + 1))) 1 (i + 1)))) 2 i (((up2 (up2 w 0 i (w 0 (i + 1))) 1 i (((up2 w 0 i (w 0 (i + 1))) 1 (i + 1)))) 2 (i + 1)))) 3 (i + 1)))) 4 (i + 1)))) 5 i (((up2 (up2 (up2 (up2 (up2 w 0 i (w 0 (i + 1))) 1 i (((up2 w 0 i (w 0 (i + 1))) 1 (i + 1)))) 2 i (((up2 (up2 w 0 i (w 0 (i + 1))) 1 i (((up2 w 0 i (w 0 (i + 1))) 1 (i + 1)))) 2 (i + 1)))) 3 i (((up2 (up2 (up2 w 0 i (w 0 (i + 1))) 1 i (((up2 w 0 i (w 0 (i + 1))) 1 (i + 1)))) 2 i (((up2 (up2 w 0 i (w 0 (i + 1))) 1 i (((up2 w 0 i (w 0 (i + 1))) 1 (i + 1)))) 2 (i + 1)))) 3 (i + 1)))) 4 i (((up2 (up2 (up2 (up2 w 0 i (w 0 (i + 1))) 1 i (((up2 w 0 i (w 0 (i + 1))) 1 (i + 1)))) 2 i (((up2 (up2 w 0 i (w 0 (i + 1))) 1 i (((up2 w 0 i (w 0 (i + 1))) 1 (i + 1)))) 2 (i + 1)))) 3 i (((up2 (up2 (up2 w 0 i (w 0 (i + 1))) 1 i (((up2 w 0 i (w 0 (i + 1))) 1 (i + 1)))) 2 i (((up2 (up2 w 0 i (w 0 (i + 1))) 1 i (((up2 w 0 i (w 0 (i + 1))) 1 (i + 1)))) 2 (i + 1)))) 3 (i + 1)))) 4 (i + 1)))) 5 (i + 1)))) 6 i (((up2 (up2 (up2 (up2 (up2 (up2 w 0 i (w 0 (i + 1))) 1 i (((up2 w 0 i (w 0 (i + 1))) 1 (i + 1)))) 2 i (((up2 (up2 w 0 i (w 0 (i + 1))) 1 i (((up2 w 0 i (w 0 (i + 1))) 1 (i + 1)))) 2 (i + 1)))) 3 i (((up2 (up2 (up2 w 0 i (w 0 (i + 1))) 1 i (((up2 w 0 i (w 0 (i + 1))) 1 (i + 1)))) 2 i (((up2 (up2 w 0 i (w 0 (i + 1))) 1 i (((up2 w 0 i (w 0 (i + 1))) 1 (i + 1)))) 2 (i + 1)))) 3 (i + 1)))) 4 i (((up2 (up2 (up2 (up2 w 0 i (w 0 (i + 1))) 1 i (((up2 w 0 i (w 0 (i + 1))) 1 (i + 1)))) 2 i (((up2 (up2 w 0 i (w 0 (i + 1))) 1 i (((up2 w 0 i (w 0 (i + 1))) 1 (i + 1)))) 2 (i + 1)))) 3 i (((up2 (up2 (up2 w 0 i (w 0 (i + 1))) 1 i (((up2 w 0 i (w 0 (i + 1))) 1 (i + 1)))) 2 i (((up2 (up2 w 0 i (w 0 (i + 1))) 1 i (((up2 w 0 i (w 0 (i + 1))) 1 (i + 1)))) 2 (i + 1)))) 3 (i + 1)))) 4 (i + 1)))) 5 i (((up2 (up2 (up2 (up2 (up2 w 0 i (w 0 (i + 1))) 1 i (((up2 w 0 i (w 0 (i + 1))) 1 (i + 1)))) 2 i (((up2 (up2 w 0 i (w 0 (i + 1))) 1 i (((up2 w 0 i (w 0 (i + 1))) 1 (i + 1)))) 2 (i + 1)))) 3 i (((up2 (up2 (up2 w 0 i (w 0 (i + 1))) 1 i (((up2 w 0 i (w 0 (i + 1))) 1 (i + 1)))) 2 i (((up2 (up2 w 0 i (w 0 (i + 1))) 1 i (((up2 w 0 i (w 0 (i + 1))) 1 (i + 1)))) 2 (i + 1)))) 3 (i + 1)))) 4 i (((up2 (up2 (up2 (up2 w 0 i (w 0 (i + 1))) 1 i (((up2 w 0 i (w 0 (i + 1))) 1 (i + 1)))) 2 i (((up2 (up2 w 0 i (w 0 (i + 1))) 1 i (((up2 w 0 i (w 0 (i + 1))) 1 (i + 1)))) 2 (i + 1)))) 3 i (((up2 (up2 (up2 w 0 i (w 0 (i + 1))) 1 i (((up2 w 0 i (w 0 (i + 1))) 1 (i + 1)))) 2 i (((up2 (up2 w 0 i (w 0 (i + 1))) 1 i (((up2 w 0 i (w 0 (i + 1))) 1 (i + 1)))) 2 (i + 1)))) 3 (i + 1)))) 4 (i + 1)))) 5 (i + 1)))) 6 (i + 1)))) 7 (i + 1)))))) X rfl rfl rfl (show i < 16 by omega) (by decide) dX1_remove_131 rfl ?_
      refine zz_aload_n X dX1_remove_132 rfl rfl ?_
      refine qq_get (k0 := 15) (v := .ref (a 8)) X imX1 (by decide) (mc flX1_35) rfl dX1_remove_133 ?_
      refine zz_iload_n X dX1_remove_136 rfl rfl ?_
      refine zz_aload_n X dX1_remove_137 rfl rfl ?_
      refine qq_get (k0 := 15) (v := .ref (a 8)) X imX1 (by decide) (mc flX1_35) rfl dX1_remove_138 ?_
      refine zz_iload_n X dX1_remove_141 rfl rfl ?_
      refine zz_iconst (v := 1) X dX1_remove_142 (by decide) ?_
      refine zz_iadd X dX1_remove_143 ?_
      refine zz_top (nI_1 _) ?_
      refine zz_iald (q0 := 9) (t0 := 8) (j := i + 1) X rfl rfl rfl (show i + 1 < 16 by omega) (by decide) dX1_remove_144 ?_
      refine zz_iast (q0 := 9) (t0 := 8) (j := i) (ws' := wM h a ca ((up2 (up2 (up2 (up2 (up2 (up2 (up2 (up2 (up2 w 0 i (w 0 (i + 1))) 1 i (((up2 w 0 i (w 0 (i + 1))) 1 (i + 1)))) 2 i (((up2 (up2 w 0 i (w 0 (i + 1))) 1 i (((up2 w 0 i (w 0 (i + 1))) 1 (i + 1)))) 2 (i + 1)))) 3 i (((up2 (up2 (up2 w 0 i (w 0 (i + 1))) 1 i (((up2 w 0 i (w 0 (i + 1))) 1 (i + 1)))) 2 i (((up2 (up2 w 0 i (w 0 (i + 1))) 1 i (((up2 w 0 i (w 0 (i + 1))) 1 (i + 1)))) 2 (i + 1)))) 3 (i + 1)))) 4 i (((up2 (up2 (up2 (up2 w 0 i (w 0 (i + 1))) 1 i (((up2 w 0 i (w 0 (i + 1))) 1 (i + 1)))) 2 i (((up2 (up2 w 0 i (w 0 (i + 1))) 1 i (((up2 w 0 i (w 0 (i + 1))) 1 (i + 1)))) 2 (i + 1)))) 3 i (((up2 (up2 (up2 w 0 i (w 0 (i + 1))) 1 i (((up2 w 0 i (w 0 (i + 1))) 1 (i + 1)))) 2 i (((up2 (up2 w 0 i (w 0 (i + 1))) 1 i (((up2 w 0 i (w 0 (i + 1))) 1 (i + 1)))) 2 (i + 1)))) 3 (i + 1)))) 4 (i + 1)))) 5 i (((up2 (up2 (up2 (up2 (up2 w 0 i (w 0 (i + 1))) 1 i (((up2 w 0 i (w 0 (i + 1))) 1 (i + 1)))) 2 i (((up2 (up2 w 0 i (w 0 (i + 1))) 1 i (((up2 w 0 i (w 0 (i + 1))) 1 (i + 1)))) 2 (i + 1)))) 3 i (((up2 (up2 (up2 w 0 i (w 0 (i + 1))) 1 i (((up2 w 0 i (w 0 (i + 1))) 1 (i + 1)))) 2 i (((up2 (up2 w 0 i (w 0 (i + 1))) 1 i (((up2 w 0 i (w 0 (i + 1))) 1 (i + 1)))) 2 (i + 1)))) 3 (i + 1)))) 4 i (((up2 (up2 (up2 (up2 w 0 i (w 0 (i + 1))) 1 i (((up2 w 0 i (w 0 (i + 1))) 1 (i + 1)))) 2 i (((up2 (up2 w 0 i (w 0 (i + 1))) 1 i (((up2 w 0 i (w 0 (i + 1))) 1 (i + 1)))) 2 (i + 1)))) 3 i (((up2 (up2 (up2 w 0 i (w 0 (i + 1))) 1 i (((up2 w 0 i (w 0 (i + 1))) 1 (i + 1)))) 2 i (((up2 (up2 w 0 i (w 0 (i + 1))) 1 i (((up2 w 0 i (w 0 (i + 1))) 1 (i + 1)))) 2 (i + 1)))) 3 (i + 1)))) 4 (i + 1)))) 5 (i + 1)))) 6 i (((up2 (up2 (up2 (up2 (up2 (up2 w 0 i (w 0 (i + 1))) 1 i (((up2 w 0 i (w 0 (i + 1))) 1 (i + 1)))) 2 i (((up2 (up2 w 0 i (w 0 (i + 1))) 1 i (((up2 w 0 i (w 0 (i + 1))) 1 (i + 1)))) 2 (i + 1)))) 3 i (((up2 (up2 (up2 w 0 i (w 0 (i + 1))) 1 i (((up2 w 0 i (w 0 (i + 1))) 1 (i + 1)))) 2 i (((up2 (up2 w 0 i (w 0 (i + 1))) 1 i (((up2 w 0 i (w 0 (i + 1))) 1 (i + 1)))) 2 (i + 1)))) 3 (i + 1)))) 4 i (((up2 (up2 (up2 (up2 w 0 i (w 0 (i + 1))) 1 i (((up2 w 0 i (w 0 (i + 1))) 1 (i + 1)))) 2 i (((up2 (up2 w 0 i (w 0 (i + 1))) 1 i (((up2 w 0 i (w 0 (i + 1))) 1 (i + 1)))) 2 (i + 1)))) 3 i (((up2 (up2 (up2 w 0 i (w 0 (i + 1))) 1 i (((up2 w 0 i (w 0 (i + 1))) 1 (i + 1)))) 2 i (((up2 (up2 w 0 i (w 0 (i + 1))) 1 i (((up2 w 0 i (w 0 (i + 1))) 1 (i + 1)))) 2 (i + 1)))) 3 (i + 1)))) 4 (i + 1)))) 5 i (((up2 (up2 (up2 (up2 (up2 w 0 i (w 0 (i + 1))) 1 i (((up2 w 0 i (w 0 (i + 1))) 1 (i + 1)))) 2 i (((up2 (up2 w 0 i (w 0 (i + 1))) 1 i (((up2 w 0 i (w 0 (i + 1))) 1 (i + 1)))) 2 (i + 1)))) 3 i (((up2 (up2 (up2 w 0 i (w 0 (i + 1))) 1 i (((up2 w 0 i (w 0 (i + 1))) 1 (i + 1)))) 2 i (((up2 (up2 w 0 i (w 0 (i + 1))) 1 i (((up2 w 0 i (w 0 (i + 1))) 1 (i + 1)))) 2 (i + 1)))) 3 (i + 1)))) 4 i (((up2 (up2 (up2 (up2 w 0 i (w 0 (i + 1))) 1 i (((up2 w 0 i (w 0 (i + 1))) 1 (i + 1)))) 2 i (((up2 (up2 w 0 i (w 0 (i + 1))) 1 i (((up2 w 0 i (w 0 (i + 1))) 1 (i + 1)))) 2 (i + 1)))) 3 i (((up2 (up2 (up2 w 0 i (w 0 (i + 1))) 1 i (((up2 w 0 i (w 0 (i + 1))) 1 (i + 1)))) 2 i (((up2 (up2 w 0 i (w 0 (i + 1))) 1 i (((up2 w 0 i (w 0 (i + 1))) 1 (i + 1)))) 2 (i + 1)))) 3 (i + 1)))) 4 (i + 1)))) 5 (i + 1)))) 6 (i + 1)))) 7 i (((up2 (up2 (up2 (up2 (up2 (up2 (up2 w 0 i (w 0 (i + 1))) 1 i (((up2 w 0 i (w 0 (i + 1))) 1 (i + 1)))) 2 i (((up2 (up2 w 0 i (w 0 (i + 1))) 1 i (((up2 w 0 i (w 0 (i + 1))) 1 (i + 1)))) 2 (i + 1)))) 3 i (((up2 (up2 (up2 w 0 i (w 0 (i + 1))) 1 i (((up2 w 0 i (w 0 (i + 1))) 1 (i + 1)))) 2 i (((up2 (up2 w 0 i (w 0 (i + 1))) 1 i (((up2 w 0 i (w 0 (i + 1))) 1 (i + 1)))) 2 (i + 1)))) 3 (i + 1)))) 4 i (((up2 (up2 (up2 (up2 w 0 i (w 0 (i + 1))) 1 i (((up2 w 0 i (w 0 (i + 1))) 1 (i + 1)))) 2 i (((up2 (up2 w 0 i (w 0 (i + 1))) 1 i (((up2 w 0 i (w 0 (i + 1))) 1 (i + 1)))) 2 (i + 1)))) 3 i (((up2 (up2 (up2 w 0 i (w 0 (i + 1))) 1 i (((up2 w 0 i (w 0 (i + 1))) 1 (i + 1)))) 2 i (((up2 (up2 w 0 i (w 0 (i + 1))) 1 i (((up2 w 0 i (w 0 (i + 1))) 1 (i + 1)))) 2 (i + 1)))) 3 (i + 1)))) 4 (i + 1)))) 5 i (((up2 (up2 (up2 (up2 (up2 w 0 i (w 0 (i + 1))) 1 i (((up2 w 0 i (w 0 (i + 1))) 1 (i + 1)))) 2 i (((up2 (up2 w 0 i (w 0 (i + 1))) 1 i (((up2 w 0 i (w 0 (i + 1))) 1 (i + 1)))) 2 (i + 1)))) 3 i (((up2 (up2 (up2 w 0 i (w 0 (i + 1))) 1 i (((up2 w 0 i (w 0 (i + 1))) 1 (i + 1)))) 2 i (((up2 (up2 w 0 i (w 0 (i + 1))) 1 i (((up2 w 0 i (w 0 (i + 1))) 1 (i + 1)))) 2 (i + 1)))) 3 (i + 1)))) 4 i (((up2 (up2 (up2 (up2 w 0 i (w 0 (i + 1))) 1 i (((up2 w 0 i (w 0 (i + 1))) 1 (i + 1)))) 2 i (((up2 (up2 w 0 i (w 0 (i + 1))) 1 i (((up2 w 0 i (w 0 (i + 1))) 1 (i + 1)))) 2 (i + 1)))) 3 i (((up2 (up2 (up2 w 0 i (w 0 (i + 1))) 1 i (((up2 w 0 i (w 0 (i + 1))) 1 (i + 1)))) 2 i (((up2 (up2 w 0 i (w 0 (i + 1))) 1 i (((up2 w 0 i (w 0 (i + 1))) 1 (i + 1)))) 2 (i + 1)))) 3 (i + 1)))) 4 (i + 1)))) 5 (i + 1)))) 6 i (((up2 (up2 (up2 (up2 (up2 (up2 w 0 i (w 0 (i + 1))) 1 i (((up2 w 0 i (w 0 (i + 1))) 1 (i + 1)))) 2 i (((up2 (up2 w 0 i (w 0 (i + 1))) 1 i (((up2 w 0 i (w 0 (i + 1))) 1 (i + 1)))) 2 (i + 1)))) 3 i (((up2 (up2 (up2 w 0 i (w 0 (i + 1))) 1 i (((up2 w 0 i (w 0 (i + 1))) 1 (i + 1)))) 2 i (((up2 (up2 w 0 i (w 0 (i + 1))) 1 i (((up2 w 0 i (w 0 (i + 1))) 1 (i + 1)))) 2 (i + 1)))) 3 (i + 1)))) 4 i (((up2 (up2 (up2 (up2 w 0 i (w 0 (i + 1))) 1 i (((up2 w 0 i (w 0 (i + 1))) 1 (i + 1)))) 2 i (((up2 (up2 w 0 i (w 0 (i + 1))) 1 i (((up2 w 0 i (w 0 (i + 1))) 1 (i + 1)))) 2 (i + 1)))) 3 i (((up2 (up2 (up2 w 0 i (w 0 (i + 1))) 1 i (((up2 w 0 i (w 0 (i + 1))) 1 (i + 1)))) 2 i (((up2 (up2 w 0 i (w 0 (i + 1))) 1 i (((up2 w 0 i (w 0 (i + 1))) 1 (i + 1)))) 2 (i + 1)))) 3 (i + 1)))) 4 (i + 1)))) 5 i (((up2 (up2 (up2 (up2 (up2 w 0 i (w 0 (i + 1))) 1 i (((up2 w 0 i (w 0 (i + 1))) 1 (i + 1)))) 2 i (((up2 (up2 w 0 i (w 0 (i + 1))) 1 i (((up2 w 0 i (w 0 (i + 1))) 1 (i + 1)))) 2 (i + 1)))) 3 i (((up2 (up2 (up2 w 0 i (w 0 (i + 1))) 1 i (((up2 w 0 i (w 0 (i + 1))) 1 (i + 1)))) 2 i (((up2 (up2 w 0 i (w 0 (i + 1))) 1 i (((up2 w 0 i (w 0 (i + 1))) 1 (i + 1)))) 2 (i + 1)))) 3 (i + 1)))) 4 i (((up2 (up2 (up2 (up2 w 0 i (w 0 (i + 1))) 1 i (((up2 w 0 i (w 0 (i + 1))) 1 (i + 1)))) 2 i (((up2 (up2 w 0 i (w 0 (i + 1))) 1 i (((up2 w 0 i (w 0 (i + 1))) 1 (i + 1)))) 2 (i + 1)))) 3 i (((up2 (up2 (up2 w 0 i (w 0 (i + 1))) 1 i (((up2 w 0 i (w 0 (i + 1))) 1 (i + 1)))) 2 i (((up2 (up2 w 0 i (w 0 (i + 1))) 1 i (((up2 w 0 i (w 0 (i + 1))) 1 (i + 1)))) 2 (i + 1)))) 3 (i + 1)))) 4 (i + 1)))) 5 (i + 1)))) 6 (i + 1)))) 7 (i + 1)))) 8 i (((up2 (up2 (up2 (up2 (up2 (up2 (up2 (up2 w 0 i (w 0 (i + 1))) 1 i (((up2 w 0 i (w 0 (i + 1))) 1 (i + 1)))) 2 i (((up2 (up2 w 0 i (w 0 (i + 1))) 1 i (((up2 w 0 i (w 0 (i + 1))) 1 (i + 1)))) 2 (i + 1)))) 3 i (((up2 (up2 (up2 w 0 i (w 0 (i + 1))) 1 i (((up2 w 0 i (w 0 (i + 1))) 1 (i + 1)))) 2 i (((up2 (up2 w 0 i (w 0 (i + 1))) 1 i (((up2 w 0 i (w 0 (i + 1))) 1 (i + 1)))) 2 (i + 1)))) 3 (i + 1)))) 4 i (((up2 (up2 (up2 (up2 w 0 i (w 0 (i + 1))) 1 i (((up2 w 0 i (w 0 (i + 1))) 1 (i + 1)))) 2 i (((up2 (up2 w 0 i (w 0 (i + 1))) 1 i (((up2 w 0 i (w 0 (i + 1))) 1 (i + 1)))) 2 (i + 1)))) 3 i (((up2 (up2 (up2 w 0 i (w 0 (i + 1))) 1 i (((up2 w 0 i (w 0 (i + 1))) 1 (i + 1)))) 2 i (((up2 (up2 w 0 i (w 0 (i + 1))) 1 i (((up2 w 0 i (w 0 (i + 1))) 1 (i + 1)))) 2 (i + 1)))) 3 (i + 1)))) 4 (i + 1)))) 5 i (((up2 (up2 (up2 (up2 (up2 w 0 i (w 0 (i + 1))) 1 i (((up2 w 0 i (w 0 (i + 1))) 1 (i + 1)))) 2 i (((up2 (up2 w 0 i (w 0 (i + 1))) 1 i (((up2 w 0 i (w 0 (i + 1))) 1 (i + 1)))) 2 (i + 1)))) 3 i (((up2 (up2 (up2 w 0 i (w 0 (i + 1))) 1 i (((up2 w 0 i (w 0 (i + 1))) 1 (i + 1)))) 2 i (((up2 (up2 w 0 i (w 0 (i + 1))) 1 i (((up2 w 0 i (w 0 (i + 1))) 1 (i + 1)))) 2 (i + 1)))) 3 (i + 1)))) 4 i (((up2 (up2 (up2 (up2 w 0 i (w 0 (i + 1))) 1 i (((up2 w 0 i (w 0 (i + 1))) 1 (i + 1)))) 2 i (((up2 (up2 w 0 i (w 0 (i + 1))) 1 i (((up2 w 0 i (w 0 (i + 1))) 1 (i + 1)))) 2 (i + 1)))) 3 i (((up2 (up2 (up2 w 0 i (w 0 (i + 1))) 1 i (((up2 w 0 i (w 0 (i + 1))) 1 (i + 1)))) 2 i (((up2 (up2 w 0 i (w 0 (i + 1))) 1 i (((up2 w 0 i (w 0 (i + 1))) 1 (i + 1)))) 2 (i + 1)))) 3 (i + 1)))) 4 (i + 1)))) 5 (i + 1)))) 6 i (((up2 (up2 (up2 (up2 (up2 (up2 w 0 i (w 0 (i + 1))) 1 i (((up2 w 0 i (w 0 (i + 1))) 1 (i + 1)))) 2 i (((up2 (up2 w 0 i (w 0 (i + 1))) 1 i (((up2 w 0 i (w 0 (i + 1))) 1 (i + 1)))) 2 (i + 1)))) 3 i (((up2 (up2 (up2 w 0 i (w 0 (i + 1))) 1 i (((up2 w 0 i (w 0 (i + 1))) 1 (i + 1)))) 2 i (((up2 (up2 w 0 i (w 0 (i + 1))) 1 i (((up2 w 0 i (w 0 (i + 1))) 1 (i + 1)))) 2 (i + 1)))) 3 (i + 1)))) 4 i (((up2 (up2 (up2 (up2 w 0 i (w 0 (i + 1))) 1 i (((up2 w 0 i (w 0 (i + 1))) 1 (i + 1)))) 2 i (((up2 (up2 w 0 i (w 0 (i + 1))) 1 i (((up2 w 0 i (w 0 (i + 1))) 1 (i + 1)))) 2 (i + 1)))) 3 i (((up2 (up2 (up2 w 0 i (w 0 (i + 1))) 1 i (((up2 w 0 i (w 0 (i + 1))) 1 (i + 1)))) 2 i (((up2 (up2 w 0 i (w 0 (i + 1))) 1 i (((up2 w 0 i (w 0 (i + 1))) 1 (i + 1)))) 2 (i + 1)))) 3 (i + 1)))) 4 (i + 1)))) 5 i (((up2 (up2 (up2 (up2 (up2 w 0 i (w 0 (i + 1))) 1 i (((up2 w 0 i (w 0 (i + 1))) 1 (i + 1)))) 2 i (((up2 (up2 w 0 i (w 0 (i + 1))) 1 i (((up2 w 0 i (w 0 (i + 1))) 1 (i + 1)))) 2 (i + 1)))) 3 i (((up2 (up2 (up2 w 0 i (w 0 (i + 1))) 1 i (((up2 w 0 i (w 0 (i + 1))) 1 (i + 1)))) 2 i (((up2 (up2 w 0 i (w 0 (i + 1))) 1 i (((up2 w 0 i (w 0 (i + 1))) 1 (i + 1)))) 2 (i + 1)))) 3 (i + 1)))) 4 i (((up2 (up2 (up2 (up2 w 0 i (w 0 (i + 1))) 1 i (((up2 w 0 i (w 0 (i + 1))) 1 (i + 1)))) 2 i (((up2 (up2 w 0 i (w 0 (i + 1))) 1 i (((up2 w 0 i (w 0 (i + 1))) 1 (i + 1)))) 2 (i + 1)))) 3 i (((up2 (up2 (up2 w 0 i (w 0 (i + 1))) 1 i (((up2 w 0 i (w 0 (i + 1))) 1 (i + 1)))) 2 i (((up2 (up2 w 0 i (w 0 (i + 1))) 1 i (((up2 w 0 i (w 0 (i + 1))) 1 (i + 1)))) 2 (i + 1)))) 3 (i + 1)))) 4 (i + 1)))) 5 (i + 1)))) 6 (i + 1)))) 7 i (((up2 (up2 (up2 (up2 (up2 (up2 (up2 w 0 i (w 0 (i + 1))) 1 i (((up2 w 0 i (w 0 (i + 1))) 1 (i + 1)))) 2 i (((up2 (up2 w 0 i (w 0 (i + 1))) 1 i (((up2 w 0 i (w 0 (i + 1))) 1 (i + 1)))) 2 (i + 1)))) 3 i (((up2 (up2 (up2 w 0 i (w 0 (i + 1))) 1 i (((up2 w 0 i (w 0 (i + 1))) 1 (i + 1)))) 2 i (((up2 (up2 w 0 i (w 0 (i + 1))) 1 i (((up2 w 0 i (w 0 (i + 1))) 1 (i + 1)))) 2 (i + 1)))) 3 (i + 1)))) 4 i (((up2 (up2 (up2 (up2 w 0 i (w 0 (i + 1))) 1 i (((up2 w 0 i (w 0 (i + 1))) 1 (i + 1)))) 2 i (((up2 (up2 w 0 i (w 0 (i + 1))) 1 i (((up2 w 0 i (w 0 (i + 1))) 1 (i + 1)))) 2 (i + 1)))) 3 i (((up2 (up2 (up2 w 0 i (w 0 (i + 1))) 1 i (((up2 w 0 i (w 0 (i + 1))) 1 (i + 1)))) 2 i (((up2 (up2 w 0 i (w 0 (i + 1))) 1 i (((up2 w 0 i (w 0 (i + 1))) 1 (i + 1)))) 2 (i + 1)))) 3 (i + 1)))) 4 (i + 1)))) 5 i (((up2 (up2 (up2 (up2 (up2 w 0 i (w 0 (i + 1))) 1 i (((up2 w 0 i (w 0 (i + 1))) 1 (i + 1)))) 2 i (((up2 (up2 w 0 i (w 0 (i + 1))) 1 i (((up2 w 0 i (w 0 (i + 1))) 1 (i + 1)))) 2 (i + 1)))) 3 i (((up2 (up2 (up2 w 0 i (w 0 (i + 1))) 1 i (((up2 w 0 i (w 0 (i + 1))) 1 (i + 1)))) 2 i (((up2 (up2 w 0 i (w 0 (i + 1))) 1 i (((up2 w 0 i (w 0 (i + 1))) 1 (i + 1)))) 2 (i + 1)))) 3 (i + 1)))) 4 i (((up2 (up2 (up2 (up2 w 0 i (w 0 (i + 1))) 1 i (((up2 w 0 i (w 0 (i + 1))) 1 (i + 1)))) 2 i (((up2 (up2 w 0 i (w 0 (i + 1))) 1 i (((up2 w 0 i (w 0 (i + 1))) 1 (i + 1)))) 2 (i + 1)))) 3 i (((up2 (up2 (up2 w 0 i (w 0 (i + 1))) 1 i (((up2 w 0 i (w 0 (i + 1))) 1 (i + 1)))) 2 i (((up2 (up2 w 0 i (w 0 (i + 1))) 1 i (((up2 w 0 i (w 0 (i + 1))) 1 (i + 1)))) 2 (i + 1)))) 3 (i + 1)))) 4 (i + 1)))) 5 (i + 1)))) 6 i (((up2 (up2 (up2 (up2 (up2 (up2 w 0 i (w 0 (i + 1))) 1 i (((up2 w 0 i (w 0 (i + 1))) 1 (i + 1)))) 2 i (((up2 (up2 w 0 i (w 0 (i + 1))) 1 i (((up2 w 0 i (w 0 (i + 1))) 1 (i + 1)))) 2 (i + 1)))) 3 i (((up2 (up2 (up2 w 0 i (w 0 (i + 1))) 1 i (((up2 w 0 i (w 0 (i + 1))) 1 (i + 1)))) 2 i (((up2 (up2 w 0 i (w 0 (i + 1))) 1 i (((up2 w 0 i (w 0 (i + 1))) 1 (i + 1)))) 2 (i + 1)))) 3 (i + 1)))) 4 i (((up2 (up2 (up2 (up2 w 0 i (w 0 (i + 1))) 1 i (((up2 w 0 i (w 0 (i + 1))) 1 (i + 1)))) 2 i (((up2 (up2 w 0 i (w 0 (i + 1))) 1 i (((up2 w 0 i (w 0 (i + 1))) 1 (i + 1)))) 2 (i + 1)))) 3 i (((up2 (up2 (up2 w 0 i (w 0 (i + 1))) 1 i (((up2 w 0 i (w 0 (i + 1))) 1 (i + 1)))) 2 i (((up2 (up2 w 0 i (w 0 (i + 1))) 1 i (((up2 w 0 i (w 0 (i + 1))) 1 (i + 1)))) 2 (i + 1)))) 3 (i + 1)))) 4 (i + 1)))) 5 i (((up2 (up2 (up2 (up2 (up2 w 0 i (w 0 (i + 1))) 1 i (((up2 w 0 i (w 0 (i + 1))) 1 (i + 1)))) 2 i (((up2 (up2 w 0 i (w 0 (i + 1))) 1 i (((up2 w 0 i (w 0 (i + 1))) 1 (i + 1)))) 2 (i + 1)))) 3 i (((up2 (up2 (up2 w 0 i (w 0 (i + 1))) 1 i (((up2 w 0 i (w 0 (i + 1))) 1 (i + 1)))) 2 i (((up2 (up2 w 0 i (w 0 (i + 1))) 1 i (((up2 w 0 i (w 0 (i + 1))) 1 (i + 1)))) 2 (i + 1)))) 3 (i + 1)))) 4 i (((up2 (up2 (up2 (up2 w 0 i (w 0 (i + 1))) 1 i (((up2 w 0 i (w 0 (i + 1))) 1 (i + 1)))) 2 i (((up2 (up2 w 0 i (w 0 (i + 1))) 1 i (((up2 w 0 i (w 0 (i + 1))) 1 (i + 1)))) 2 (i + 1)))) 3 i (((up2 (up2 (up2 w 0 i (w 0 (i + 1))) 1 i (((up2 w 0 i (w 0 (i + 1))) 1 (i + 1)))) 2 i (((up2 (up2 w 0 i (w 0 (i + 1))) 1 i (((up2 w 0 i (w 0 (i + 1))) 1 (i + 1)))) 2 (i + 1)))) 3 (i + 1)))) 4 (i + 1)))) 5 (i + 1)))) 6 (i + 1)))) 7 (i + 1)))) 8 (i + 1)))))) X rfl rfl rfl (show i < 16 by omega) (by decide) dX1_remove_145 rfl ?_
      refine zz_iinc (v := (nI (i + 1))) (lv' := [some (.ref h), some (.int (nI r)), some (.int (nI (i + 1)))]) X dX1_remove_146 rfl (nI_1 _) (by decide) rfl ?_
      refine zz_goto (tgt := 12) X dX1_remove_149 (by decide) ?_
      exact ih (i + 1) (mShf i w) (by omega) hw (mB_shf (by omega) hb) hz
  exact loop (m - r) r _ (by omega) rfl hb rfl
set_option maxHeartbeats 4000000 in
set_option maxRecDepth 100000 in
theorem m_waitsFor {l : Launch} {D : va_G} {h : Nat} {a : Nat → Nat} {ca : Nat → ClassId} (v : St) (r : Nat) (hr : r < 16) (x y : Int32) : cM l D h a ca yX1_waitsFor wsX1_waitsFor { frames := 0, cells := 0, slots := 0, locals := 0 } [.int (nI r), .int x, .int y] v (some (.int ((mWts v r x y) 1 r))) (mWts v r x y) := by
  refine zz_C.of (bytes := cX1_waitsFor) (maxL := 4) (ret := (some .int)) (lv0 := [some (.ref h), some (.int (nI r)), some (.int x), some (.int y)]) (by decide) rfl (Nat.le_of_ble_eq_true rfl) rfl rfl ?_
  intro p e s m' below meth c A Q X Ei Ev
  refine zz_aload_n X dX1_waitsFor_0 rfl rfl ?_
  refine qq_get (k0 := 13) (v := .ref (a 6)) X imX1 (by decide) (mc flX1_29) rfl dX1_waitsFor_1 ?_
  refine zz_iload_n X dX1_waitsFor_4 rfl rfl ?_
  refine zz_iconst (v := -1) X dX1_waitsFor_5 (by decide) ?_
  refine zz_iast (q0 := 7) (t0 := 6) (j := r) (ws' := wM h a ca (up2 v 6 r (-1))) X rfl rfl rfl hr (by decide) dX1_waitsFor_6 rfl ?_
  refine zz_aload_n X dX1_waitsFor_7 rfl rfl ?_
  refine qq_get (k0 := 14) (v := .ref (a 7)) X imX1 (by decide) (mc flX1_32) rfl dX1_waitsFor_8 ?_
  refine zz_iload_n X dX1_waitsFor_11 rfl rfl ?_
  refine zz_iload_n X dX1_waitsFor_12 rfl rfl ?_
  refine zz_iast (q0 := 8) (t0 := 7) (j := r) (ws' := wM h a ca (up2 (up2 v 6 r (-1)) 7 r x)) X rfl rfl rfl hr (by decide) dX1_waitsFor_13 rfl ?_
  refine zz_aload_n X dX1_waitsFor_14 rfl rfl ?_
  refine qq_get (k0 := 15) (v := .ref (a 8)) X imX1 (by decide) (mc flX1_35) rfl dX1_waitsFor_15 ?_
  refine zz_iload_n X dX1_waitsFor_18 rfl rfl ?_
  refine zz_iload_n X dX1_waitsFor_19 rfl rfl ?_
  refine zz_iast (q0 := 9) (t0 := 8) (j := r) (ws' := wM h a ca (up2 (up2 (up2 v 6 r (-1)) 7 r x) 8 r y)) X rfl rfl rfl hr (by decide) dX1_waitsFor_20 rfl ?_
  refine zz_aload_n X dX1_waitsFor_21 rfl rfl ?_
  refine qq_get (k0 := 8) (v := .ref (a 1)) X imX1 (by decide) (mc flX1_13) rfl dX1_waitsFor_22 ?_
  refine zz_iload_n X dX1_waitsFor_25 rfl rfl ?_
  refine zz_iald (q0 := 2) (t0 := 1) (j := r) X rfl rfl rfl hr (by decide) dX1_waitsFor_26 ?_
  exact Ei _ _ _ _ _ rfl rfl dX1_waitsFor_27 rfl rfl
end
section
set_option maxHeartbeats 4000000 in
set_option maxRecDepth 100000 in
theorem m_first {l : Launch} {D : va_G} {h : Nat} {a : Nat → Nat} {ca : Nat → ClassId} (v : St) (m : Nat) (hm : v 9 2 = nI m) (h16 : m ≤ 15) (h0 : v 9 0 = 0) : cM l D h a ca yX1_first wsX1_first { frames := 1, cells := 0, slots := 0, locals := 22 } [] v (some (.int (mFst v m).1)) (mFst v m).2 := by
  refine zz_C.of (bytes := cX1_first) (maxL := 2) (ret := (some .boolean)) (lv0 := [some (.ref h), none]) (by decide) rfl (Nat.le_of_ble_eq_true rfl) rfl rfl ?_
  intro p e s m' below meth c A Q X Ei Ev
  refine zz_aload_n X dX1_first_0 rfl rfl ?_
  refine zz_iconst (v := 0) X dX1_first_1 (by decide) ?_
  refine qq_put (k0 := 0) (u2 := (up2 v 9 0 0)) X imX1 (by decide) (mc flX1_42) (by decide) (by decide +kernel) dX1_first_2 rfl ?_
  refine zz_ws (ws' := wM h a ca v) (by rw [up2_0 h0]) ?_
  refine zz_aload_n X dX1_first_5 rfl rfl ?_
  refine qq_get (k0 := 2) (v := .int (v 9 2)) X imX1 (by decide) (mc flX1_45) rfl dX1_first_6 ?_
  refine zz_top (show v 9 2 = nI m from hm) ?_
  refine zz_if_le (tgt := 14) X dX1_first_9 (by decide) (fun h1 => ?_) (fun h1 => ?_)
  · refine zz_aload_n X dX1_first_14 rfl rfl ?_
    refine zz_iconst (v := 0) X dX1_first_15 (by decide) ?_
    refine qq_put (k0 := 3) (u2 := (up2 v 9 3 0)) X imX1 (by decide) (mc flX1_55) (by decide) (by decide +kernel) dX1_first_16 rfl ?_
    refine zz_aload_n X dX1_first_19 rfl rfl ?_
    refine zz_iconst (v := 0) X dX1_first_20 (by decide) ?_
    refine qq_put (k0 := 4) (u2 := (up2 (up2 v 9 3 0) 9 4 0)) X imX1 (by decide) (mc flX1_58) (by decide) (by decide +kernel) dX1_first_21 rfl ?_
    refine zz_aload_n X dX1_first_24 rfl rfl ?_
    refine zz_bipush (v := 14) X dX1_first_25 (by decide) ?_
    refine qq_put (k0 := 5) (u2 := (up2 (up2 (up2 v 9 3 0) 9 4 0) 9 5 14)) X imX1 (by decide) (mc flX1_61) (by decide) (by decide +kernel) dX1_first_27 rfl ?_
    refine zz_aload_n X dX1_first_30 rfl rfl ?_
    refine zz_iconst (v := 0) X dX1_first_31 (by decide) ?_
    refine zz_iconst (v := 0) X dX1_first_32 (by decide) ?_
    refine qq_calli (rest := []) X (m_add (up2 (up2 (up2 v 9 3 0) 9 4 0) 9 5 14) m hm h16 0 0) (cwV 2 X.1.2.2.2.2 (gw lkX1_64 imX1_add seX1_add itX1 cdX1_add) rfl rfl rfl hdX1_add ⟨Nat.le_of_ble_eq_true rfl, Nat.le_of_ble_eq_true rfl⟩) rfl rfl (Nat.le_of_ble_eq_true rfl) dX1_first_33 ⟨Nat.zero_le _, Nat.zero_le _⟩ ?_
    refine zz_istore_n (lv' := [some (.ref h), some (.int 0)]) X dX1_first_36 rfl (by decide) rfl ?_
    refine zz_iconst (v := 1) X dX1_first_37 (by decide) ?_
    have e1 : mFst v m = (1, (mAdd (up2 (up2 (up2 v 9 3 0) 9 4 0) 9 5 14) m 0 0)) := by simp [mFst, h1]
    exact Ei _ _ _ _ _ rfl rfl dX1_first_38 (by rw [e1]) (by rw [e1])
  · refine zz_iconst (v := 0) X dX1_first_12 (by decide) ?_
    have e1 : mFst v m = (0, v) := by simp [mFst, h1]
    exact Ei _ _ _ _ _ rfl rfl dX1_first_13 (by rw [e1]) (by rw [e1])
set_option maxHeartbeats 4000000 in
set_option maxRecDepth 100000 in
theorem m_pick {l : Launch} {D : va_G} {h : Nat} {a : Nat → Nat} {ca : Nat → ClassId} (v : St) (m : Nat) (hm : v 9 2 = nI m) (h16 : m ≤ 15) (h0 : v 9 0 = 0) (t : Nat) (htl : t < 15) (ht : v 9 5 = nI t) (x : Int32) : cM l D h a ca yX1_pick wsX1_pick { frames := 2, cells := 0, slots := 0, locals := 45 } [.int x] v (some (.int (mPck v m t x).1)) (mPck v m t x).2 := by
  refine zz_C.of (bytes := cX1_pick) (maxL := 5) (ret := (some .int)) (lv0 := [some (.ref h), some (.int x), none, none, none]) (by decide) rfl (Nat.le_of_ble_eq_true rfl) rfl rfl ?_
  intro p e s m' below meth c A Q X Ei Ev
  refine zz_aload_n X dX1_pick_0 rfl rfl ?_
  refine zz_iconst (v := 0) X dX1_pick_1 (by decide) ?_
  refine qq_put (k0 := 0) (u2 := (up2 v 9 0 0)) X imX1 (by decide) (mc flX1_42) (by decide) (by decide +kernel) dX1_pick_2 rfl ?_
  refine zz_ws (ws' := wM h a ca v) (by rw [up2_0 h0]) ?_
  refine zz_iload_n X dX1_pick_5 rfl rfl ?_
  refine zz_if_lt (tgt := 17) X dX1_pick_6 (by decide) (fun h1 => ?_) (fun h1 => ?_)
  · refine zz_iconst (v := -1) X dX1_pick_17 (by decide) ?_
    have e1 : mPck v m t x = (-1, v) := by simp [mPck, h1]
    exact Ei _ _ _ _ _ rfl rfl dX1_pick_18 (by rw [e1]) (by rw [e1])
  · refine zz_iload_n X dX1_pick_9 rfl rfl ?_
    refine zz_aload_n X dX1_pick_10 rfl rfl ?_
    refine qq_get (k0 := 1) (v := .int (v 9 1)) X imX1 (by decide) (mc flX1_38) rfl dX1_pick_11 ?_
    refine zz_icmp_lt (tgt := 19) X dX1_pick_14 (by decide) (fun h2 => ?_) (fun h2 => ?_)
    · refine zz_aload_n X dX1_pick_19 rfl rfl ?_
      refine zz_iload_n X dX1_pick_20 rfl rfl ?_
      refine qq_calli (rest := []) X (m_running v m hm h16 x) (cwV 1 X.1.2.2.2.2 (gw lkX1_68 imX1_running seX1_running itX1 cdX1_running) rfl rfl rfl hdX1_running ⟨Nat.le_of_ble_eq_true rfl, Nat.le_of_ble_eq_true rfl⟩) rfl rfl (Nat.le_of_ble_eq_true rfl) dX1_pick_21 ⟨Nat.zero_le _, Nat.zero_le _⟩ ?_
      refine zz_istore_n (lv' := [some (.ref h), some (.int x), some (.int (mRun v m x)), none, none]) X dX1_pick_24 rfl (by decide) rfl ?_
      refine zz_iconst (v := 1) X dX1_pick_25 (by decide) ?_
      refine zz_istore_n (lv' := [some (.ref h), some (.int x), some (.int (mRun v m x)), some (.int 1), none]) X dX1_pick_26 rfl (by decide) rfl ?_
      have tail : ∀ (r : Int32) (lw lx : Option Value), (r = -1 ∨ ∃ k, k < m ∧ r = nI k) → r = mPk1 v m t 15 1 (mRun v m x) → zz_V p l e { frames := 2, cells := 0, slots := 0, locals := 45 } s m' [.ref h, .int x].toArray below meth c 0 0 Q 5 D vwCl A (wM h a ca v) [some (.ref h), some (.int x), some (.int r), lw, lx] 80 [] := by
        intro r lw lx hr er
        rcases hr with rfl | ⟨k, hk, rfl⟩
        · refine zz_iload_n X dX1_pick_80 rfl rfl ?_
          refine zz_if_ge (tgt := 86) X dX1_pick_81 (by decide) (fun hq => absurd hq nn_m1) (fun hq => ?_)
          refine zz_iconst (v := -1) X dX1_pick_84 (by decide) ?_
          have e1 : mPck v m t x = (-1, v) := by rw [mPck, if_neg h1, if_pos h2, ← er, if_neg nn_m1]
          exact Ei _ _ _ _ _ rfl rfl dX1_pick_85 (by rw [e1]) (by rw [e1])
        · have ck := nI_clamp (show k < 2 ^ 31 by omega)
          have nn := nI_pos' (show k < 2 ^ 31 by omega)
          refine zz_iload_n X dX1_pick_80 rfl rfl ?_
          refine zz_if_ge (tgt := 86) X dX1_pick_81 (by decide) (fun hq => ?_) (fun hq => absurd nn hq)
          refine zz_aload_n X dX1_pick_86 rfl rfl ?_
          refine qq_get (k0 := 13) (v := .ref (a 6)) X imX1 (by decide) (mc flX1_29) rfl dX1_pick_87 ?_
          refine zz_iload_n X dX1_pick_90 rfl rfl ?_
          refine zz_iald (q0 := 7) (t0 := 6) (j := k) X rfl rfl rfl (show k < 16 by omega) (by decide) dX1_pick_91 ?_
          refine zz_iload_n X dX1_pick_92 rfl rfl ?_
          refine zz_icmp_eq (tgt := 120) X dX1_pick_93 (by decide) (fun h3 => ?_) (fun h3 => ?_)
          · refine zz_aload_n X dX1_pick_120 rfl rfl ?_
            refine qq_get (k0 := 8) (v := .ref (a 1)) X imX1 (by decide) (mc flX1_13) rfl dX1_pick_121 ?_
            refine zz_iload_n X dX1_pick_124 rfl rfl ?_
            refine zz_iald (q0 := 2) (t0 := 1) (j := k) X rfl rfl rfl (show k < 16 by omega) (by decide) dX1_pick_125 ?_
            have e1 : mPck v m t x = (v 1 k, v) := by rw [mPck, if_neg h1, if_pos h2, ← er, if_pos nn]; simp only [cl, ck]; rw [if_pos h3]
            exact Ei _ _ _ _ _ rfl rfl dX1_pick_126 (by rw [e1]) (by rw [e1])
          · refine zz_aload_n X dX1_pick_96 rfl rfl ?_
            refine qq_get (k0 := 13) (v := .ref (a 6)) X imX1 (by decide) (mc flX1_29) rfl dX1_pick_97 ?_
            refine zz_iload_n X dX1_pick_100 rfl rfl ?_
            refine zz_iload_n X dX1_pick_101 rfl rfl ?_
            refine zz_iast (q0 := 7) (t0 := 6) (j := k) (ws' := wM h a ca (up2 v 6 k x)) X rfl rfl rfl (show k < 16 by omega) (by decide) dX1_pick_102 rfl ?_
            refine zz_aload_n X dX1_pick_103 rfl rfl ?_
            refine qq_get (k0 := 14) (v := .ref (a 7)) X imX1 (by decide) (mc flX1_32) rfl dX1_pick_104 ?_
            refine zz_iload_n X dX1_pick_107 rfl rfl ?_
            refine zz_iconst (v := 0) X dX1_pick_108 (by decide) ?_
            refine zz_iast (q0 := 8) (t0 := 7) (j := k) (ws' := wM h a ca (up2 (up2 v 6 k x) 7 k 0)) X rfl rfl rfl (show k < 16 by omega) (by decide) dX1_pick_109 rfl ?_
            refine zz_aload_n X dX1_pick_110 rfl rfl ?_
            refine zz_aload_n X dX1_pick_111 rfl rfl ?_
            refine qq_get (k0 := 8) (v := .ref (a 1)) X imX1 (by decide) (mc flX1_13) rfl dX1_pick_112 ?_
            refine zz_iload_n X dX1_pick_115 rfl rfl ?_
            refine zz_iald (q0 := 2) (t0 := 1) (j := k) X rfl rfl rfl (show k < 16 by omega) (by decide) dX1_pick_116 ?_
            refine qq_put (k0 := 5) (u2 := (up2 (up2 (up2 v 6 k x) 7 k 0) 9 5 ((up2 (up2 v 6 k x) 7 k 0) 1 k))) X imX1 (by decide) (mc flX1_61) (by decide) (by decide +kernel) dX1_pick_117 rfl ?_
            refine zz_aload_n X dX1_pick_120 rfl rfl ?_
            refine qq_get (k0 := 8) (v := .ref (a 1)) X imX1 (by decide) (mc flX1_13) rfl dX1_pick_121 ?_
            refine zz_iload_n X dX1_pick_124 rfl rfl ?_
            refine zz_iald (q0 := 2) (t0 := 1) (j := k) X rfl rfl rfl (show k < 16 by omega) (by decide) dX1_pick_125 ?_
            have e1 : mPck v m t x = (((up2 (up2 (up2 v 6 k x) 7 k 0) 9 5 ((up2 (up2 v 6 k x) 7 k 0) 1 k))) 1 k, (up2 (up2 (up2 v 6 k x) 7 k 0) 9 5 ((up2 (up2 v 6 k x) 7 k 0) 1 k))) := by rw [mPck, if_neg h1, if_pos h2, ← er, if_pos nn]; simp only [cl, ck]; rw [if_neg h3]; rfl
            exact Ei _ _ _ _ _ rfl rfl dX1_pick_126 (by rw [e1]) (by rw [e1])
      have loop : ∀ (n i : Nat) (r : Int32) (lx : Option Value), i + n = 16 → (r = -1 ∨ ∃ k, k < m ∧ r = nI k) → mPk1 v m t n i r = mPk1 v m t 15 1 (mRun v m x) → zz_V p l e { frames := 2, cells := 0, slots := 0, locals := 45 } s m' [.ref h, .int x].toArray below meth c 0 0 Q 5 D vwCl A (wM h a ca v) [some (.ref h), some (.int x), some (.int r), some (.int (nI i)), lx] 27 [] := by
        intro n
        induction n with
        | zero =>
          intro i r lx hi hr hz
          refine zz_iload_n X dX1_pick_27 rfl rfl ?_
          refine zz_bipush (v := 15) X dX1_pick_28 (by decide) ?_
          refine zz_icmp_gt (tgt := 80) X dX1_pick_30 (by decide) (fun hq => ?_) (fun hq => absurd (nI_lt (a := 15) (by omega) (by omega)) hq)
          exact tail _ _ _ hr hz
        | succ n ih =>
          intro i r lx hi hr hz
          refine zz_iload_n X dX1_pick_27 rfl rfl ?_
          refine zz_bipush (v := 15) X dX1_pick_28 (by decide) ?_
          refine zz_icmp_gt (tgt := 80) X dX1_pick_30 (by decide) (fun hq => absurd hq (nI_nlt (a := 15) (by omega) (by omega))) (fun hq => ?_)
          refine zz_iload_n X dX1_pick_33 rfl rfl ?_
          refine zz_if_ge (tgt := 80) X dX1_pick_34 (by decide) (fun h3 => ?_) (fun h3 => ?_)
          · exact tail _ _ _ hr (by rw [← hz]; simp [mPk1, h3])
          · refine zz_aload_n X dX1_pick_37 rfl rfl ?_
            refine zz_aload_n X dX1_pick_38 rfl rfl ?_
            refine qq_get (k0 := 5) (v := .int (v 9 5)) X imX1 (by decide) (mc flX1_61) rfl dX1_pick_39 ?_
            refine zz_top (show v 9 5 = nI t from ht) ?_
            refine zz_iload_n X dX1_pick_42 rfl rfl ?_
            refine zz_iadd X dX1_pick_43 ?_
            refine zz_bipush (v := 15) X dX1_pick_44 (by decide) ?_
            refine zz_irem X dX1_pick_46 (by decide) ?_
            refine zz_top (show nI t + nI i - (nI t + nI i) / 15 * 15 = nI ((t + i) % 15) by rw [nI_add]; exact pk_rem (d := 15) (by omega) (by omega) (by omega)) ?_
            refine qq_calli (rest := []) X (m_ofPlace v m hm h16 (nI ((t + i) % 15))) (cwV 1 X.1.2.2.2.2 (gw lkX1_48 imX1_ofPlace seX1_ofPlace itX1 cdX1_ofPlace) rfl rfl rfl hdX1_ofPlace ⟨Nat.le_of_ble_eq_true rfl, Nat.le_of_ble_eq_true rfl⟩) rfl rfl (Nat.le_of_ble_eq_true rfl) dX1_pick_47 ⟨Nat.zero_le _, Nat.zero_le _⟩ ?_
            rcases mFnd_in (f := v 1) (x := nI ((t + i) % 15)) (m := m) with er | ⟨k, hk, -, er⟩
            · refine zz_top er ?_
              refine zz_istore (lv' := [some (.ref h), some (.int x), some (.int r), some (.int (nI i)), some (.int (-1))]) X dX1_pick_50 (by decide) rfl ?_
              refine zz_iload X dX1_pick_52 rfl ?_
              refine zz_if_lt (tgt := 72) X dX1_pick_54 (by decide) (fun hq => ?_) (fun hq => absurd m1_neg hq)
              refine zz_iconst (v := -1) X dX1_pick_72 (by decide) ?_
              refine zz_istore_n (lv' := [some (.ref h), some (.int x), some (.int (-1)), some (.int (nI i)), some (.int (-1))]) X dX1_pick_73 rfl (by decide) rfl ?_
              refine zz_iinc (v := (nI (i + 1))) (lv' := [some (.ref h), some (.int x), some (.int (-1)), some (.int (nI (i + 1))), some (.int (-1))]) X dX1_pick_74 rfl (nI_1 _) (by decide) rfl ?_
              refine zz_goto (tgt := 27) X dX1_pick_77 (by decide) ?_
              exact ih (i + 1) _ _ (by omega) (Or.inl rfl) (by rw [← hz]; simp [mPk1, h3, er])
            · refine zz_top er ?_
              have ck := nI_clamp (show k < 2 ^ 31 by omega)
              have np := nI_pos (show k < 2 ^ 31 by omega)
              refine zz_istore (lv' := [some (.ref h), some (.int x), some (.int r), some (.int (nI i)), some (.int (nI k))]) X dX1_pick_50 (by decide) rfl ?_
              refine zz_iload X dX1_pick_52 rfl ?_
              refine zz_if_lt (tgt := 72) X dX1_pick_54 (by decide) (fun hq => absurd hq np) (fun hq => ?_)
              refine zz_aload_n X dX1_pick_57 rfl rfl ?_
              refine zz_iload X dX1_pick_58 rfl ?_
              refine qq_calli (rest := []) X (m_state v m hm h16 k (by omega)) (cwV 1 X.1.2.2.2.2 (gw lkX1_71 imX1_state seX1_state itX1 cdX1_state) rfl rfl rfl hdX1_state ⟨Nat.le_of_ble_eq_true rfl, Nat.le_of_ble_eq_true rfl⟩) rfl rfl (Nat.le_of_ble_eq_true rfl) dX1_pick_60 ⟨Nat.zero_le _, Nat.zero_le _⟩ ?_
              refine zz_iconst (v := 1) X dX1_pick_63 (by decide) ?_
              refine zz_icmp_ne (tgt := 72) X dX1_pick_64 (by decide) (fun h4 => ?_) (fun h4 => ?_)
              · refine zz_iconst (v := -1) X dX1_pick_72 (by decide) ?_
                refine zz_istore_n (lv' := [some (.ref h), some (.int x), some (.int (-1)), some (.int (nI i)), some (.int (nI k))]) X dX1_pick_73 rfl (by decide) rfl ?_
                refine zz_iinc (v := (nI (i + 1))) (lv' := [some (.ref h), some (.int x), some (.int (-1)), some (.int (nI (i + 1))), some (.int (nI k))]) X dX1_pick_74 rfl (nI_1 _) (by decide) rfl ?_
                refine zz_goto (tgt := 27) X dX1_pick_77 (by decide) ?_
                exact ih (i + 1) _ _ (by omega) (Or.inl rfl) (by rw [← hz]; simp [mPk1, h3, er, np, cl, ck, h4])
              · refine zz_iload X dX1_pick_67 rfl ?_
                refine zz_goto (tgt := 73) X dX1_pick_69 (by decide) ?_
                refine zz_istore_n (lv' := [some (.ref h), some (.int x), some (.int (nI k)), some (.int (nI i)), some (.int (nI k))]) X dX1_pick_73 rfl (by decide) rfl ?_
                refine zz_iinc (v := (nI (i + 1))) (lv' := [some (.ref h), some (.int x), some (.int (nI k)), some (.int (nI (i + 1))), some (.int (nI k))]) X dX1_pick_74 rfl (nI_1 _) (by decide) rfl ?_
                refine zz_goto (tgt := 27) X dX1_pick_77 (by decide) ?_
                exact ih (i + 1) _ _ (by omega) (Or.inr ⟨k, hk, rfl⟩) (by rw [← hz]; simp [mPk1, h3, er, np, cl, ck, h4])
      exact loop 15 1 _ none rfl (by rcases mRun_in (v := v) (x := x) (m := m) with q | ⟨k, hk, -, q⟩; exact Or.inl q; exact Or.inr ⟨k, hk, q⟩) rfl
    · refine zz_iconst (v := -1) X dX1_pick_17 (by decide) ?_
      have e1 : mPck v m t x = (-1, v) := by simp [mPck, h1, h2]
      exact Ei _ _ _ _ _ rfl rfl dX1_pick_18 (by rw [e1]) (by rw [e1])
set_option maxHeartbeats 4000000 in
set_option maxRecDepth 100000 in
theorem m_fork {l : Launch} {D : va_G} {h : Nat} {a : Nat → Nat} {ca : Nat → ClassId} (v : St) (m : Nat) (hm : v 9 2 = nI m) (h16 : m ≤ 15) (h0 : v 9 0 = 0) (x : Int32) : cM l D h a ca yX1_fork wsX1_fork { frames := 2, cells := 0, slots := 0, locals := 44 } [.int x] v (some (.int (mFrk v m x).1)) (mFrk v m x).2 := by
  refine zz_C.of (bytes := cX1_fork) (maxL := 4) (ret := (some .int)) (lv0 := [some (.ref h), some (.int x), none, none]) (by decide) rfl (Nat.le_of_ble_eq_true rfl) rfl rfl ?_
  intro p e s m' below meth c A Q X Ei Ev
  refine zz_aload_n X dX1_fork_0 rfl rfl ?_
  refine zz_iconst (v := 0) X dX1_fork_1 (by decide) ?_
  refine qq_put (k0 := 0) (u2 := (up2 v 9 0 0)) X imX1 (by decide) (mc flX1_42) (by decide) (by decide +kernel) dX1_fork_2 rfl ?_
  refine zz_ws (ws' := wM h a ca v) (by rw [up2_0 h0]) ?_
  refine zz_aload_n X dX1_fork_5 rfl rfl ?_
  refine zz_iload_n X dX1_fork_6 rfl rfl ?_
  refine qq_calli (rest := []) X (m_running v m hm h16 x) (cwV 1 X.1.2.2.2.2 (gw lkX1_68 imX1_running seX1_running itX1 cdX1_running) rfl rfl rfl hdX1_running ⟨Nat.le_of_ble_eq_true rfl, Nat.le_of_ble_eq_true rfl⟩) rfl rfl (Nat.le_of_ble_eq_true rfl) dX1_fork_7 ⟨Nat.zero_le _, Nat.zero_le _⟩ ?_
  rcases mRun_in (v := v) (x := x) (m := m) with er | ⟨r, hrm, -, er⟩
  · refine zz_top er ?_
    refine zz_istore_n (lv' := [some (.ref h), some (.int x), some (.int (-1)), none]) X dX1_fork_10 rfl (by decide) rfl ?_
    refine zz_aload_n X dX1_fork_11 rfl rfl ?_
    refine qq_calli (rest := []) X (m_vacant v m hm h16) (cwV 0 X.1.2.2.2.2 (gw lkX1_74 imX1_vacant seX1_vacant itX1 cdX1_vacant) rfl rfl rfl hdX1_vacant ⟨Nat.le_of_ble_eq_true rfl, Nat.le_of_ble_eq_true rfl⟩) rfl rfl (Nat.le_of_ble_eq_true rfl) dX1_fork_12 ⟨Nat.zero_le _, Nat.zero_le _⟩ ?_
    refine zz_istore_n (lv' := [some (.ref h), some (.int x), some (.int (-1)), some (.int (nI (mVac v m)))]) X dX1_fork_15 rfl (by decide) rfl ?_
    refine zz_iload_n X dX1_fork_16 rfl rfl ?_
    refine zz_if_lt (tgt := 26) X dX1_fork_17 (by decide) (fun hq => ?_) (fun hq => absurd m1_neg hq)
    refine zz_iconst (v := -1) X dX1_fork_26 (by decide) ?_
    refine zz_goto (tgt := 41) X dX1_fork_27 (by decide) ?_
    have e1 : mFrk v m x = (-1, v) := by simp [mFrk, er, m1_neg]
    exact Ei _ _ _ _ _ rfl rfl dX1_fork_41 (by rw [e1]) (by rw [e1])
  · have hr : r < 16 := by omega
    have cr := nI_clamp (show r < 2 ^ 31 by omega)
    have np := nI_pos (show r < 2 ^ 31 by omega)
    have nn := nI_pos' (show r < 2 ^ 31 by omega)
    refine zz_top er ?_
    refine zz_istore_n (lv' := [some (.ref h), some (.int x), some (.int (nI r)), none]) X dX1_fork_10 rfl (by decide) rfl ?_
    refine zz_aload_n X dX1_fork_11 rfl rfl ?_
    refine qq_calli (rest := []) X (m_vacant v m hm h16) (cwV 0 X.1.2.2.2.2 (gw lkX1_74 imX1_vacant seX1_vacant itX1 cdX1_vacant) rfl rfl rfl hdX1_vacant ⟨Nat.le_of_ble_eq_true rfl, Nat.le_of_ble_eq_true rfl⟩) rfl rfl (Nat.le_of_ble_eq_true rfl) dX1_fork_12 ⟨Nat.zero_le _, Nat.zero_le _⟩ ?_
    refine zz_istore_n (lv' := [some (.ref h), some (.int x), some (.int (nI r)), some (.int (nI (mVac v m)))]) X dX1_fork_15 rfl (by decide) rfl ?_
    refine zz_iload_n X dX1_fork_16 rfl rfl ?_
    refine zz_if_lt (tgt := 26) X dX1_fork_17 (by decide) (fun hq => absurd hq np) (fun hq => ?_)
    refine zz_iload_n X dX1_fork_20 rfl rfl ?_
    refine zz_bipush (v := 15) X dX1_fork_21 (by decide) ?_
    refine zz_icmp_ne (tgt := 30) X dX1_fork_23 (by decide) (fun h1 => ?_) (fun h1 => ?_)
    · refine zz_aload_n X dX1_fork_30 rfl rfl ?_
      refine zz_iload_n X dX1_fork_31 rfl rfl ?_
      refine zz_aload_n X dX1_fork_32 rfl rfl ?_
      refine qq_get (k0 := 7) (v := .ref (a 0)) X imX1 (by decide) (mc flX1_7) rfl dX1_fork_33 ?_
      refine zz_iload_n X dX1_fork_36 rfl rfl ?_
      refine zz_iald (q0 := 1) (t0 := 0) (j := r) X rfl rfl rfl hr (by decide) dX1_fork_37 ?_
      refine qq_calli (rest := []) X (m_add v m hm h16 (nI (mVac v m)) (v 0 r)) (cwV 2 X.1.2.2.2.2 (gw lkX1_64 imX1_add seX1_add itX1 cdX1_add) rfl rfl rfl hdX1_add ⟨Nat.le_of_ble_eq_true rfl, Nat.le_of_ble_eq_true rfl⟩) rfl rfl (Nat.le_of_ble_eq_true rfl) dX1_fork_38 ⟨Nat.zero_le _, Nat.zero_le _⟩ ?_
      have e1 : mFrk v m x = (nI (mVac v m), (mAdd v m (nI (mVac v m)) (v 0 r))) := by simp [mFrk, er, np, h1, cl, cr]
      exact Ei _ _ _ _ _ rfl rfl dX1_fork_41 (by rw [e1]) (by rw [e1])
    · refine zz_iconst (v := -1) X dX1_fork_26 (by decide) ?_
      refine zz_goto (tgt := 41) X dX1_fork_27 (by decide) ?_
      have e1 : mFrk v m x = (-1, v) := by simp [mFrk, er, np, h1]
      exact Ei _ _ _ _ _ rfl rfl dX1_fork_41 (by rw [e1]) (by rw [e1])
set_option maxHeartbeats 4000000 in
set_option maxRecDepth 100000 in
theorem m_exit {l : Launch} {D : va_G} {h : Nat} {a : Nat → Nat} {ca : Nat → ClassId} (v : St) (m : Nat) (hm : v 9 2 = nI m) (h16 : m ≤ 15) (h0 : v 9 0 = 0) (x y : Int32) : cM l D h a ca yX1_exit wsX1_exit { frames := 1, cells := 0, slots := 0, locals := 23 } [.int x, .int y] v (some (.int (mExt v m x y).1)) (mExt v m x y).2 := by
  refine zz_C.of (bytes := cX1_exit) (maxL := 6) (ret := (some .int)) (lv0 := [some (.ref h), some (.int x), some (.int y), none, none, none]) (by decide) rfl (Nat.le_of_ble_eq_true rfl) rfl rfl ?_
  intro p e s m' below meth c A Q X Ei Ev
  refine zz_aload_n X dX1_exit_0 rfl rfl ?_
  refine zz_iconst (v := 0) X dX1_exit_1 (by decide) ?_
  refine qq_put (k0 := 0) (u2 := (up2 v 9 0 0)) X imX1 (by decide) (mc flX1_42) (by decide) (by decide +kernel) dX1_exit_2 rfl ?_
  refine zz_ws (ws' := wM h a ca v) (by rw [up2_0 h0]) ?_
  refine zz_aload_n X dX1_exit_5 rfl rfl ?_
  refine zz_iload_n X dX1_exit_6 rfl rfl ?_
  refine qq_calli (rest := []) X (m_running v m hm h16 x) (cwV 1 X.1.2.2.2.2 (gw lkX1_68 imX1_running seX1_running itX1 cdX1_running) rfl rfl rfl hdX1_running ⟨Nat.le_of_ble_eq_true rfl, Nat.le_of_ble_eq_true rfl⟩) rfl rfl (Nat.le_of_ble_eq_true rfl) dX1_exit_7 ⟨Nat.zero_le _, Nat.zero_le _⟩ ?_
  rcases mRun_in (v := v) (x := x) (m := m) with er | ⟨r, hrm, -, er⟩
  · refine zz_top er ?_
    refine zz_istore_n (lv' := [some (.ref h), some (.int x), some (.int y), some (.int (-1)), none, none]) X dX1_exit_10 rfl (by decide) rfl ?_
    refine zz_iload_n X dX1_exit_11 rfl rfl ?_
    refine zz_if_ge (tgt := 17) X dX1_exit_12 (by decide) (fun hq => absurd hq nn_m1) (fun hq => ?_)
    refine zz_iconst (v := -1) X dX1_exit_15 (by decide) ?_
    have e1 : mExt v m x y = (-1, v) := by simp [mExt, er, nn_m1]
    exact Ei _ _ _ _ _ rfl rfl dX1_exit_16 (by rw [e1]) (by rw [e1])
  · have hr : r < 16 := by omega
    have cr := nI_clamp (show r < 2 ^ 31 by omega)
    have np := nI_pos (show r < 2 ^ 31 by omega)
    have nn := nI_pos' (show r < 2 ^ 31 by omega)
    refine zz_top er ?_
    refine zz_istore_n (lv' := [some (.ref h), some (.int x), some (.int y), some (.int (nI r)), none, none]) X dX1_exit_10 rfl (by decide) rfl ?_
    refine zz_iload_n X dX1_exit_11 rfl rfl ?_
    refine zz_if_ge (tgt := 17) X dX1_exit_12 (by decide) (fun hq => ?_) (fun hq => absurd nn hq)
    refine zz_aload_n X dX1_exit_17 rfl rfl ?_
    refine qq_get (k0 := 8) (v := .ref (a 1)) X imX1 (by decide) (mc flX1_13) rfl dX1_exit_18 ?_
    refine zz_iload_n X dX1_exit_21 rfl rfl ?_
    refine zz_iald (q0 := 2) (t0 := 1) (j := r) X rfl rfl rfl hr (by decide) dX1_exit_22 ?_
    refine zz_istore (lv' := [some (.ref h), some (.int x), some (.int y), some (.int (nI r)), some (.int (v 1 r)), none]) X dX1_exit_23 (by decide) rfl ?_
    refine zz_aload_n X dX1_exit_25 rfl rfl ?_
    refine qq_get (k0 := 7) (v := .ref (a 0)) X imX1 (by decide) (mc flX1_7) rfl dX1_exit_26 ?_
    refine zz_iload_n X dX1_exit_29 rfl rfl ?_
    refine zz_iald (q0 := 1) (t0 := 0) (j := r) X rfl rfl rfl hr (by decide) dX1_exit_30 ?_
    refine zz_iconst (v := 1) X dX1_exit_31 (by decide) ?_
    refine zz_icmp_ne (tgt := 48) X dX1_exit_32 (by decide) (fun h1 => ?_) (fun h1 => ?_)
    · refine zz_iconst (v := 0) X dX1_exit_48 (by decide) ?_
      refine zz_istore (lv' := [some (.ref h), some (.int x), some (.int y), some (.int (nI r)), some (.int (v 1 r)), some (.int 0)]) X dX1_exit_49 (by decide) rfl ?_
      have loop : ∀ (n i : Nat) (w : St), i + n = m → w 9 2 = nI m → zl (mExt1 r) n i w = zl (mExt1 r) m 0 v → zz_V p l e { frames := 1, cells := 0, slots := 0, locals := 23 } s m' [.ref h, .int x, .int y].toArray below meth c 0 0 Q 6 D vwCl A (wM h a ca w) [some (.ref h), some (.int x), some (.int y), some (.int (nI r)), some (.int (v 1 r)), some (.int (nI i))] 51 [] := by
        intro n
        induction n with
        | zero =>
          intro i w hi hw hz
          refine zz_iload X dX1_exit_51 rfl ?_
          refine zz_aload_n X dX1_exit_53 rfl rfl ?_
          refine qq_get (k0 := 2) (v := .int (w 9 2)) X imX1 (by decide) (mc flX1_45) rfl dX1_exit_54 ?_
          refine zz_top (show w 9 2 = nI m from hw) ?_
          refine zz_icmp_ge (tgt := 100) X dX1_exit_57 (by decide) (fun hq => ?_) (fun hq => absurd (nI_le (a := m) (by omega) (by omega)) hq)
          refine zz_aload_n X dX1_exit_100 rfl rfl ?_
          refine qq_get (k0 := 10) (v := .ref (a 3)) X imX1 (by decide) (mc flX1_19) rfl dX1_exit_101 ?_
          refine zz_iload_n X dX1_exit_104 rfl rfl ?_
          refine zz_iconst (v := 1) X dX1_exit_105 (by decide) ?_
          refine zz_zast (q0 := 4) (t0 := 3) (j := r) (ws' := wM h a ca (up2 w 3 r 1)) X rfl rfl rfl hr (by decide) rfl dX1_exit_106 rfl ?_
          refine zz_aload_n X dX1_exit_107 rfl rfl ?_
          refine qq_get (k0 := 11) (v := .ref (a 4)) X imX1 (by decide) (mc flX1_23) rfl dX1_exit_108 ?_
          refine zz_iload_n X dX1_exit_111 rfl rfl ?_
          refine zz_iload_n X dX1_exit_112 rfl rfl ?_
          refine zz_iast (q0 := 5) (t0 := 4) (j := r) (ws' := wM h a ca (up2 (up2 w 3 r 1) 4 r y)) X rfl rfl rfl hr (by decide) dX1_exit_113 rfl ?_
          refine zz_aload_n X dX1_exit_114 rfl rfl ?_
          refine qq_get (k0 := 13) (v := .ref (a 6)) X imX1 (by decide) (mc flX1_29) rfl dX1_exit_115 ?_
          refine zz_iload_n X dX1_exit_118 rfl rfl ?_
          refine zz_iconst (v := -1) X dX1_exit_119 (by decide) ?_
          refine zz_iast (q0 := 7) (t0 := 6) (j := r) (ws' := wM h a ca ((up2 (up2 (up2 w 3 r 1) 4 r y) 6 r (-1)))) X rfl rfl rfl hr (by decide) dX1_exit_120 rfl ?_
          refine zz_iload X dX1_exit_121 rfl ?_
          have hz : w = zl (mExt1 r) m 0 v := hz
          have e1 : mExt v m x y = (v 1 r, (up2 (up2 (up2 w 3 r 1) 4 r y) 6 r (-1))) := by rw [mExt, er, if_pos nn]; simp only [cl, cr]; rw [if_neg h1, ← hz]; rfl
          exact Ei _ _ _ _ _ rfl rfl dX1_exit_123 (by rw [e1]) (by rw [e1])
        | succ n ih =>
          intro i w hi hw hz
          have hlt : i < m := by omega
          refine zz_iload X dX1_exit_51 rfl ?_
          refine zz_aload_n X dX1_exit_53 rfl rfl ?_
          refine qq_get (k0 := 2) (v := .int (w 9 2)) X imX1 (by decide) (mc flX1_45) rfl dX1_exit_54 ?_
          refine zz_top (show w 9 2 = nI m from hw) ?_
          refine zz_icmp_ge (tgt := 100) X dX1_exit_57 (by decide) (fun hq => absurd hq (nI_ge (b := m) hlt (by omega))) (fun hq => ?_)
          refine zz_aload_n X dX1_exit_60 rfl rfl ?_
          refine qq_get (k0 := 9) (v := .ref (a 2)) X imX1 (by decide) (mc flX1_16) rfl dX1_exit_61 ?_
          refine zz_iload X dX1_exit_64 rfl ?_
          refine zz_aload_n X dX1_exit_66 rfl rfl ?_
          refine qq_get (k0 := 9) (v := .ref (a 2)) X imX1 (by decide) (mc flX1_16) rfl dX1_exit_67 ?_
          refine zz_iload X dX1_exit_70 rfl ?_
          refine zz_iald (q0 := 3) (t0 := 2) (j := i) X rfl rfl rfl (show i < 16 by omega) (by decide) dX1_exit_72 ?_
          refine zz_aload_n X dX1_exit_73 rfl rfl ?_
          refine qq_get (k0 := 7) (v := .ref (a 0)) X imX1 (by decide) (mc flX1_7) rfl dX1_exit_74 ?_
          refine zz_iload_n X dX1_exit_77 rfl rfl ?_
          refine zz_iald (q0 := 1) (t0 := 0) (j := r) X rfl rfl rfl hr (by decide) dX1_exit_78 ?_
          refine zz_icmp_ne (tgt := 86) X dX1_exit_79 (by decide) (fun h2 => ?_) (fun h2 => ?_)
          · refine zz_aload_n X dX1_exit_86 rfl rfl ?_
            refine qq_get (k0 := 9) (v := .ref (a 2)) X imX1 (by decide) (mc flX1_16) rfl dX1_exit_87 ?_
            refine zz_iload X dX1_exit_90 rfl ?_
            refine zz_iald (q0 := 3) (t0 := 2) (j := i) X rfl rfl rfl (show i < 16 by omega) (by decide) dX1_exit_92 ?_
            refine zz_iast (q0 := 3) (t0 := 2) (j := i) (ws' := wM h a ca (up2 w 2 i (w 2 i))) X rfl rfl rfl (show i < 16 by omega) (by decide) dX1_exit_93 rfl ?_
            refine zz_iinc (v := (nI (i + 1))) (lv' := [some (.ref h), some (.int x), some (.int y), some (.int (nI r)), some (.int (v 1 r)), some (.int (nI (i + 1)))]) X dX1_exit_94 rfl (nI_1 _) (by decide) rfl ?_
            refine zz_goto (tgt := 51) X dX1_exit_97 (by decide) ?_
            exact ih (i + 1) _ (by omega) hw (by rw [← hz, zl, mExt1, if_neg h2])
          · refine zz_iconst (v := 1) X dX1_exit_82 (by decide) ?_
            refine zz_goto (tgt := 93) X dX1_exit_83 (by decide) ?_
            refine zz_iast (q0 := 3) (t0 := 2) (j := i) (ws' := wM h a ca (up2 w 2 i 1)) X rfl rfl rfl (show i < 16 by omega) (by decide) dX1_exit_93 rfl ?_
            refine zz_iinc (v := (nI (i + 1))) (lv' := [some (.ref h), some (.int x), some (.int y), some (.int (nI r)), some (.int (v 1 r)), some (.int (nI (i + 1)))]) X dX1_exit_94 rfl (nI_1 _) (by decide) rfl ?_
            refine zz_goto (tgt := 51) X dX1_exit_97 (by decide) ?_
            exact ih (i + 1) _ (by omega) hw (by rw [← hz, zl, mExt1, if_pos h2])
      exact loop m 0 v (Nat.zero_add _) hm rfl
    · refine zz_aload_n X dX1_exit_35 rfl rfl ?_
      refine zz_iload_n X dX1_exit_36 rfl rfl ?_
      refine qq_put (k0 := 6) (u2 := (up2 v 9 6 y)) X imX1 (by decide) (mc flX1_78) (by decide) (by decide +kernel) dX1_exit_37 rfl ?_
      refine zz_aload_n X dX1_exit_40 rfl rfl ?_
      refine zz_iconst (v := 0) X dX1_exit_41 (by decide) ?_
      refine qq_put (k0 := 2) (u2 := (up2 (up2 v 9 6 y) 9 2 0)) X imX1 (by decide) (mc flX1_45) (by decide) (by decide +kernel) dX1_exit_42 rfl ?_
      refine zz_iload X dX1_exit_45 rfl ?_
      have e1 : mExt v m x y = (v 1 r, (up2 (up2 v 9 6 y) 9 2 0)) := by simp [mExt, er, nn, cl, cr, h1]
      exact Ei _ _ _ _ _ rfl rfl dX1_exit_47 (by rw [e1]) (by rw [e1])
set_option maxHeartbeats 4000000 in
set_option maxRecDepth 100000 in
theorem m_await {l : Launch} {D : va_G} {h : Nat} {a : Nat → Nat} {ca : Nat → ClassId} (v : St) (m : Nat) (hm : v 9 2 = nI m) (h16 : m ≤ 15) (h0 : v 9 0 = 0) (hb : mB v) (x : Int32) : cM l D h a ca yX1_await wsX1_await { frames := 1, cells := 0, slots := 0, locals := 23 } [.int x] v (some (.int (mAwt v m x).1)) (mAwt v m x).2 := by
  refine zz_C.of (bytes := cX1_await) (maxL := 6) (ret := (some .int)) (lv0 := [some (.ref h), some (.int x), none, none, none, none]) (by decide) rfl (Nat.le_of_ble_eq_true rfl) rfl rfl ?_
  intro p e s m' below meth c A Q X Ei Ev
  refine zz_aload_n X dX1_await_0 rfl rfl ?_
  refine zz_iconst (v := 0) X dX1_await_1 (by decide) ?_
  refine qq_put (k0 := 0) (u2 := (up2 v 9 0 0)) X imX1 (by decide) (mc flX1_42) (by decide) (by decide +kernel) dX1_await_2 rfl ?_
  refine zz_ws (ws' := wM h a ca v) (by rw [up2_0 h0]) ?_
  refine zz_aload_n X dX1_await_5 rfl rfl ?_
  refine zz_iload_n X dX1_await_6 rfl rfl ?_
  refine qq_calli (rest := []) X (m_running v m hm h16 x) (cwV 1 X.1.2.2.2.2 (gw lkX1_68 imX1_running seX1_running itX1 cdX1_running) rfl rfl rfl hdX1_running ⟨Nat.le_of_ble_eq_true rfl, Nat.le_of_ble_eq_true rfl⟩) rfl rfl (Nat.le_of_ble_eq_true rfl) dX1_await_7 ⟨Nat.zero_le _, Nat.zero_le _⟩ ?_
  rcases mRun_in (v := v) (x := x) (m := m) with er | ⟨r, hrm, -, er⟩
  · refine zz_top er ?_
    refine zz_istore_n (lv' := [some (.ref h), some (.int x), some (.int (-1)), none, none, none]) X dX1_await_10 rfl (by decide) rfl ?_
    refine zz_iconst (v := 0) X dX1_await_11 (by decide) ?_
    refine zz_istore_n (lv' := [some (.ref h), some (.int x), some (.int (-1)), some (.int 0), none, none]) X dX1_await_12 rfl (by decide) rfl ?_
    refine zz_iconst (v := 0) X dX1_await_13 (by decide) ?_
    refine zz_istore (lv' := [some (.ref h), some (.int x), some (.int (-1)), some (.int 0), some (.int 0), none]) X dX1_await_14 (by decide) rfl ?_
    refine zz_iload X dX1_await_16 rfl ?_
    refine zz_aload_n X dX1_await_18 rfl rfl ?_
    refine qq_get (k0 := 2) (v := .int (v 9 2)) X imX1 (by decide) (mc flX1_45) rfl dX1_await_19 ?_
    refine zz_top (show v 9 2 = nI m from hm) ?_
    refine zz_icmp_ge (tgt := 61) X dX1_await_22 (by decide) (fun h1 => ?_) (fun h1 => ?_)
    · refine zz_iload_n X dX1_await_61 rfl rfl ?_
      refine zz_if_ne (tgt := 67) X dX1_await_62 (by decide) (fun hq => absurd rfl hq) (fun hq => ?_)
      refine zz_iconst (v := -1) X dX1_await_65 (by decide) ?_
      have e1 : mAwt v m x = (-1, v) := by simp [mAwt, er, m1_neg]
      exact Ei _ _ _ _ _ rfl rfl dX1_await_66 (by rw [e1]) (by rw [e1])
    · refine zz_iload_n X dX1_await_25 rfl rfl ?_
      refine zz_if_lt (tgt := 61) X dX1_await_26 (by decide) (fun hq => ?_) (fun hq => absurd m1_neg hq)
      refine zz_iload_n X dX1_await_61 rfl rfl ?_
      refine zz_if_ne (tgt := 67) X dX1_await_62 (by decide) (fun hq => absurd rfl hq) (fun hq => ?_)
      refine zz_iconst (v := -1) X dX1_await_65 (by decide) ?_
      have e1 : mAwt v m x = (-1, v) := by simp [mAwt, er, m1_neg]
      exact Ei _ _ _ _ _ rfl rfl dX1_await_66 (by rw [e1]) (by rw [e1])
  · have hr : r < 16 := by omega
    have cr := nI_clamp (show r < 2 ^ 31 by omega)
    have np := nI_pos (show r < 2 ^ 31 by omega)
    have nn := nI_pos' (show r < 2 ^ 31 by omega)
    refine zz_top er ?_
    refine zz_istore_n (lv' := [some (.ref h), some (.int x), some (.int (nI r)), none, none, none]) X dX1_await_10 rfl (by decide) rfl ?_
    refine zz_iconst (v := 0) X dX1_await_11 (by decide) ?_
    refine zz_istore_n (lv' := [some (.ref h), some (.int x), some (.int (nI r)), some (.int 0), none, none]) X dX1_await_12 rfl (by decide) rfl ?_
    refine zz_iconst (v := 0) X dX1_await_13 (by decide) ?_
    refine zz_istore (lv' := [some (.ref h), some (.int x), some (.int (nI r)), some (.int 0), some (.int 0), none]) X dX1_await_14 (by decide) rfl ?_
    have loop : ∀ (n i : Nat) (f : Int32), i + n = m → (f = 0 ∨ f = 1) → zl (fun k (f : Int32) => if f = 0 then (if v 2 k = v 0 r then 1 else 0) else 1) n i f = mChd v m r → zz_V p l e { frames := 1, cells := 0, slots := 0, locals := 23 } s m' [.ref h, .int x].toArray below meth c 0 0 Q 6 D vwCl A (wM h a ca v) [some (.ref h), some (.int x), some (.int (nI r)), some (.int f), some (.int (nI i)), none] 16 [] := by
      intro n
      induction n with
      | zero =>
        intro i f hi hf hz
        refine zz_iload X dX1_await_16 rfl ?_
        refine zz_aload_n X dX1_await_18 rfl rfl ?_
        refine qq_get (k0 := 2) (v := .int (v 9 2)) X imX1 (by decide) (mc flX1_45) rfl dX1_await_19 ?_
        refine zz_top (show v 9 2 = nI m from hm) ?_
        refine zz_icmp_ge (tgt := 61) X dX1_await_22 (by decide) (fun hq => ?_) (fun hq => absurd (nI_le (a := m) (by omega) (by omega)) hq)
        have hz : f = mChd v m r := hz
        refine zz_iload_n X dX1_await_61 rfl rfl ?_
        refine zz_if_ne (tgt := 67) X dX1_await_62 (by decide) (fun h1 => ?_) (fun h1 => ?_)
        · refine zz_aload_n X dX1_await_67 rfl rfl ?_
          refine zz_iload_n X dX1_await_68 rfl rfl ?_
          refine qq_calli (rest := []) X (m_endedChild v m hm h16 r hr) (cwV 1 X.1.2.2.2.2 (gw lkX1_52 imX1_endedChild seX1_endedChild itX1 cdX1_endedChild) rfl rfl rfl hdX1_endedChild ⟨Nat.le_of_ble_eq_true rfl, Nat.le_of_ble_eq_true rfl⟩) rfl rfl (Nat.le_of_ble_eq_true rfl) dX1_await_69 ⟨Nat.zero_le _, Nat.zero_le _⟩ ?_
          rcases mEnd_in (v := v) (r := r) (m := m) with ee | ⟨k, hk, ee⟩
          · refine zz_top ee ?_
            refine zz_istore (lv' := [some (.ref h), some (.int x), some (.int (nI r)), some (.int f), some (.int (-1)), none]) X dX1_await_72 (by decide) rfl ?_
            refine zz_iload X dX1_await_74 rfl ?_
            refine zz_if_ge (tgt := 90) X dX1_await_76 (by decide) (fun hq => absurd hq nn_m1) (fun hq => ?_)
            refine zz_aload_n X dX1_await_79 rfl rfl ?_
            refine zz_iload_n X dX1_await_80 rfl rfl ?_
            refine zz_iconst (v := 2) X dX1_await_81 (by decide) ?_
            refine zz_iconst (v := 0) X dX1_await_82 (by decide) ?_
            refine qq_calli (rest := []) X (m_waitsFor v r hr 2 0) (cwV 3 X.1.2.2.2.2 (gw lkX1_81 imX1_waitsFor seX1_waitsFor itX1 cdX1_waitsFor) rfl rfl rfl hdX1_waitsFor ⟨Nat.le_of_ble_eq_true rfl, Nat.le_of_ble_eq_true rfl⟩) rfl rfl (Nat.le_of_ble_eq_true rfl) dX1_await_83 ⟨Nat.zero_le _, Nat.zero_le _⟩ ?_
            refine zz_istore (lv' := [some (.ref h), some (.int x), some (.int (nI r)), some (.int f), some (.int (-1)), some (.int ((mWts v r 2 0) 1 r))]) X dX1_await_86 (by decide) rfl ?_
            refine zz_iconst (v := 0) X dX1_await_88 (by decide) ?_
            have e1 : mAwt v m x = (0, (mWts v r 2 0)) := by rw [mAwt, er, if_neg np]; simp only [cl, cr]; rw [← hz, if_neg h1, ee, if_neg nn_m1]
            exact Ei _ _ _ _ _ rfl rfl dX1_await_89 (by rw [e1]) (by rw [e1])
          · refine zz_top ee ?_
            have ck := nI_clamp (show k < 2 ^ 31 by omega)
            have nk := nI_pos' (show k < 2 ^ 31 by omega)
            refine zz_istore (lv' := [some (.ref h), some (.int x), some (.int (nI r)), some (.int f), some (.int (nI k)), none]) X dX1_await_72 (by decide) rfl ?_
            refine zz_iload X dX1_await_74 rfl ?_
            refine zz_if_ge (tgt := 90) X dX1_await_76 (by decide) (fun hq => ?_) (fun hq => absurd nk hq)
            refine zz_aload_n X dX1_await_90 rfl rfl ?_
            refine qq_get (k0 := 7) (v := .ref (a 0)) X imX1 (by decide) (mc flX1_7) rfl dX1_await_91 ?_
            refine zz_iload X dX1_await_94 rfl ?_
            refine zz_iald (q0 := 1) (t0 := 0) (j := k) X rfl rfl rfl (show k < 16 by omega) (by decide) dX1_await_96 ?_
            refine zz_istore (lv' := [some (.ref h), some (.int x), some (.int (nI r)), some (.int f), some (.int (nI k)), some (.int (v 0 k))]) X dX1_await_97 (by decide) rfl ?_
            refine zz_aload_n X dX1_await_99 rfl rfl ?_
            refine zz_aload_n X dX1_await_100 rfl rfl ?_
            refine qq_get (k0 := 11) (v := .ref (a 4)) X imX1 (by decide) (mc flX1_23) rfl dX1_await_101 ?_
            refine zz_iload X dX1_await_104 rfl ?_
            refine zz_iald (q0 := 5) (t0 := 4) (j := k) X rfl rfl rfl (show k < 16 by omega) (by decide) dX1_await_106 ?_
            refine qq_put (k0 := 6) (u2 := (up2 v 9 6 (v 4 k))) X imX1 (by decide) (mc flX1_78) (by decide) (by decide +kernel) dX1_await_107 rfl ?_
            refine zz_aload_n X dX1_await_110 rfl rfl ?_
            refine zz_iload X dX1_await_111 rfl ?_
            obtain ⟨q, rfl⟩ : ∃ q, m = q + 1 := ⟨m - 1, by omega⟩
            refine qq_callv (rest := []) X (m_remove (up2 v 9 6 (v 4 k)) q hm h16 hb k (by omega)) (cwV 1 X.1.2.2.2.2 (gw lkX1_85 imX1_remove seX1_remove itX1 cdX1_remove) rfl rfl rfl hdX1_remove ⟨Nat.le_of_ble_eq_true rfl, Nat.le_of_ble_eq_true rfl⟩) rfl rfl (Nat.le_of_ble_eq_true rfl) dX1_await_113 ⟨Nat.zero_le _, Nat.zero_le _⟩ ?_
            refine zz_iload X dX1_await_116 rfl ?_
            have e1 : mAwt v (q + 1) x = (v 0 k, (mRem (up2 v 9 6 (v 4 k)) q k)) := by rw [mAwt, er, if_neg np]; simp only [cl, cr]; rw [← hz, if_neg h1, ee, if_pos nk]; simp only [cl, ck]; rfl
            exact Ei _ _ _ _ _ rfl rfl dX1_await_118 (by rw [e1]) (by rw [e1])
        · refine zz_iconst (v := -1) X dX1_await_65 (by decide) ?_
          have e1 : mAwt v m x = (-1, v) := by rw [mAwt, er, if_neg np]; simp only [cl, cr]; rw [← hz, if_pos h1]
          exact Ei _ _ _ _ _ rfl rfl dX1_await_66 (by rw [e1]) (by rw [e1])
      | succ n ih =>
        intro i f hi hf hz
        have hlt : i < m := by omega
        refine zz_iload X dX1_await_16 rfl ?_
        refine zz_aload_n X dX1_await_18 rfl rfl ?_
        refine qq_get (k0 := 2) (v := .int (v 9 2)) X imX1 (by decide) (mc flX1_45) rfl dX1_await_19 ?_
        refine zz_top (show v 9 2 = nI m from hm) ?_
        refine zz_icmp_ge (tgt := 61) X dX1_await_22 (by decide) (fun hq => absurd hq (nI_ge (b := m) hlt (by omega))) (fun hq => ?_)
        refine zz_iload_n X dX1_await_25 rfl rfl ?_
        refine zz_if_lt (tgt := 61) X dX1_await_26 (by decide) (fun hq => absurd hq np) (fun hq => ?_)
        refine zz_iload_n X dX1_await_29 rfl rfl ?_
        refine zz_if_ne (tgt := 49) X dX1_await_30 (by decide) (fun h1 => ?_) (fun h1 => ?_)
        · refine zz_iconst (v := 1) X dX1_await_49 (by decide) ?_
          refine zz_goto (tgt := 54) X dX1_await_50 (by decide) ?_
          refine zz_istore_n (lv' := [some (.ref h), some (.int x), some (.int (nI r)), some (.int 1), some (.int (nI i)), none]) X dX1_await_54 rfl (by decide) rfl ?_
          refine zz_iinc (v := (nI (i + 1))) (lv' := [some (.ref h), some (.int x), some (.int (nI r)), some (.int 1), some (.int (nI (i + 1))), none]) X dX1_await_55 rfl (nI_1 _) (by decide) rfl ?_
          refine zz_goto (tgt := 16) X dX1_await_58 (by decide) ?_
          exact ih (i + 1) _ (by omega) (Or.inr rfl) (by rw [← hz]; simp [zl, h1])
        · refine zz_aload_n X dX1_await_33 rfl rfl ?_
          refine qq_get (k0 := 9) (v := .ref (a 2)) X imX1 (by decide) (mc flX1_16) rfl dX1_await_34 ?_
          refine zz_iload X dX1_await_37 rfl ?_
          refine zz_iald (q0 := 3) (t0 := 2) (j := i) X rfl rfl rfl (show i < 16 by omega) (by decide) dX1_await_39 ?_
          refine zz_aload_n X dX1_await_40 rfl rfl ?_
          refine qq_get (k0 := 7) (v := .ref (a 0)) X imX1 (by decide) (mc flX1_7) rfl dX1_await_41 ?_
          refine zz_iload_n X dX1_await_44 rfl rfl ?_
          refine zz_iald (q0 := 1) (t0 := 0) (j := r) X rfl rfl rfl hr (by decide) dX1_await_45 ?_
          refine zz_icmp_ne (tgt := 53) X dX1_await_46 (by decide) (fun h2 => ?_) (fun h2 => ?_)
          · refine zz_iconst (v := 0) X dX1_await_53 (by decide) ?_
            refine zz_istore_n (lv' := [some (.ref h), some (.int x), some (.int (nI r)), some (.int 0), some (.int (nI i)), none]) X dX1_await_54 rfl (by decide) rfl ?_
            refine zz_iinc (v := (nI (i + 1))) (lv' := [some (.ref h), some (.int x), some (.int (nI r)), some (.int 0), some (.int (nI (i + 1))), none]) X dX1_await_55 rfl (nI_1 _) (by decide) rfl ?_
            refine zz_goto (tgt := 16) X dX1_await_58 (by decide) ?_
            exact ih (i + 1) _ (by omega) (Or.inl rfl) (by rw [← hz]; simp [zl, h1, h2])
          · refine zz_iconst (v := 1) X dX1_await_49 (by decide) ?_
            refine zz_goto (tgt := 54) X dX1_await_50 (by decide) ?_
            refine zz_istore_n (lv' := [some (.ref h), some (.int x), some (.int (nI r)), some (.int 1), some (.int (nI i)), none]) X dX1_await_54 rfl (by decide) rfl ?_
            refine zz_iinc (v := (nI (i + 1))) (lv' := [some (.ref h), some (.int x), some (.int (nI r)), some (.int 1), some (.int (nI (i + 1))), none]) X dX1_await_55 rfl (nI_1 _) (by decide) rfl ?_
            refine zz_goto (tgt := 16) X dX1_await_58 (by decide) ?_
            exact ih (i + 1) _ (by omega) (Or.inr rfl) (by rw [← hz]; simp [zl, h1, h2])
    exact loop m 0 0 (Nat.zero_add _) (Or.inl rfl) rfl
set_option maxHeartbeats 4000000 in
set_option maxRecDepth 100000 in
theorem m_status {l : Launch} {D : va_G} {h : Nat} {a : Nat → Nat} {ca : Nat → ClassId} (v : St) (m : Nat) (hm : v 9 2 = nI m) (h16 : m ≤ 15) (h0 : v 9 0 = 0) : cM l D h a ca yX1_status wsX1_status { frames := 0, cells := 0, slots := 0, locals := 0 } [] v (some (.int (v 9 6))) v := by
  refine zz_C.of (bytes := cX1_status) (maxL := 1) (ret := (some .int)) (lv0 := [some (.ref h)]) (by decide) rfl (Nat.le_of_ble_eq_true rfl) rfl rfl ?_
  intro p e s m' below meth c A Q X Ei Ev
  refine zz_aload_n X dX1_status_0 rfl rfl ?_
  refine zz_iconst (v := 0) X dX1_status_1 (by decide) ?_
  refine qq_put (k0 := 0) (u2 := (up2 v 9 0 0)) X imX1 (by decide) (mc flX1_42) (by decide) (by decide +kernel) dX1_status_2 rfl ?_
  refine zz_ws (ws' := wM h a ca v) (by rw [up2_0 h0]) ?_
  refine zz_aload_n X dX1_status_5 rfl rfl ?_
  refine qq_get (k0 := 6) (v := .int (v 9 6)) X imX1 (by decide) (mc flX1_78) rfl dX1_status_6 ?_
  exact Ei _ _ _ _ _ rfl rfl dX1_status_9 rfl rfl
set_option maxHeartbeats 4000000 in
set_option maxRecDepth 100000 in
theorem m_block {l : Launch} {D : va_G} {h : Nat} {a : Nat → Nat} {ca : Nat → ClassId} (v : St) (m : Nat) (hm : v 9 2 = nI m) (h16 : m ≤ 15) (h0 : v 9 0 = 0) (x y : Int32) : cM l D h a ca yX1_block wsX1_block { frames := 1, cells := 0, slots := 0, locals := 23 } [.int x, .int y] v (some (.int (mBlo v m x y).1)) (mBlo v m x y).2 := by
  refine zz_C.of (bytes := cX1_block) (maxL := 4) (ret := (some .int)) (lv0 := [some (.ref h), some (.int x), some (.int y), none]) (by decide) rfl (Nat.le_of_ble_eq_true rfl) rfl rfl ?_
  intro p e s m' below meth c A Q X Ei Ev
  refine zz_aload_n X dX1_block_0 rfl rfl ?_
  refine zz_iconst (v := 0) X dX1_block_1 (by decide) ?_
  refine qq_put (k0 := 0) (u2 := (up2 v 9 0 0)) X imX1 (by decide) (mc flX1_42) (by decide) (by decide +kernel) dX1_block_2 rfl ?_
  refine zz_ws (ws' := wM h a ca v) (by rw [up2_0 h0]) ?_
  refine zz_aload_n X dX1_block_5 rfl rfl ?_
  refine zz_iload_n X dX1_block_6 rfl rfl ?_
  refine qq_calli (rest := []) X (m_running v m hm h16 x) (cwV 1 X.1.2.2.2.2 (gw lkX1_68 imX1_running seX1_running itX1 cdX1_running) rfl rfl rfl hdX1_running ⟨Nat.le_of_ble_eq_true rfl, Nat.le_of_ble_eq_true rfl⟩) rfl rfl (Nat.le_of_ble_eq_true rfl) dX1_block_7 ⟨Nat.zero_le _, Nat.zero_le _⟩ ?_
  rcases mRun_in (v := v) (x := x) (m := m) with er | ⟨r, hrm, -, er⟩
  · refine zz_top er ?_
    refine zz_istore_n (lv' := [some (.ref h), some (.int x), some (.int y), some (.int (-1))]) X dX1_block_10 rfl (by decide) rfl ?_
    refine zz_iload_n X dX1_block_11 rfl rfl ?_
    refine zz_if_ge (tgt := 19) X dX1_block_12 (by decide) (fun hq => absurd hq nn_m1) (fun hq => ?_)
    refine zz_iconst (v := -1) X dX1_block_15 (by decide) ?_
    refine zz_goto (tgt := 26) X dX1_block_16 (by decide) ?_
    have e1 : mBlo v m x y = (-1, v) := by simp [mBlo, er, nn_m1]
    exact Ei _ _ _ _ _ rfl rfl dX1_block_26 (by rw [e1]) (by rw [e1])
  · have hr : r < 16 := by omega
    have cr := nI_clamp (show r < 2 ^ 31 by omega)
    have np := nI_pos (show r < 2 ^ 31 by omega)
    have nn := nI_pos' (show r < 2 ^ 31 by omega)
    refine zz_top er ?_
    refine zz_istore_n (lv' := [some (.ref h), some (.int x), some (.int y), some (.int (nI r))]) X dX1_block_10 rfl (by decide) rfl ?_
    refine zz_iload_n X dX1_block_11 rfl rfl ?_
    refine zz_if_ge (tgt := 19) X dX1_block_12 (by decide) (fun hq => ?_) (fun hq => absurd nn hq)
    refine zz_aload_n X dX1_block_19 rfl rfl ?_
    refine zz_iload_n X dX1_block_20 rfl rfl ?_
    refine zz_iconst (v := 1) X dX1_block_21 (by decide) ?_
    refine zz_iload_n X dX1_block_22 rfl rfl ?_
    refine qq_calli (rest := []) X (m_waitsFor v r hr 1 y) (cwV 3 X.1.2.2.2.2 (gw lkX1_81 imX1_waitsFor seX1_waitsFor itX1 cdX1_waitsFor) rfl rfl rfl hdX1_waitsFor ⟨Nat.le_of_ble_eq_true rfl, Nat.le_of_ble_eq_true rfl⟩) rfl rfl (Nat.le_of_ble_eq_true rfl) dX1_block_23 ⟨Nat.zero_le _, Nat.zero_le _⟩ ?_
    have e1 : mBlo v m x y = ((mWts v r 1 y) 1 r, (mWts v r 1 y)) := by simp [mBlo, er, nn, cl, cr]
    exact Ei _ _ _ _ _ rfl rfl dX1_block_26 (by rw [e1]) (by rw [e1])
set_option maxHeartbeats 4000000 in
set_option maxRecDepth 100000 in
theorem m_sleep {l : Launch} {D : va_G} {h : Nat} {a : Nat → Nat} {ca : Nat → ClassId} (v : St) (m : Nat) (hm : v 9 2 = nI m) (h16 : m ≤ 15) (h0 : v 9 0 = 0) (x y : Int32) : cM l D h a ca yX1_sleep wsX1_sleep { frames := 1, cells := 0, slots := 0, locals := 23 } [.int x, .int y] v (some (.int (mSlp v m x y).1)) (mSlp v m x y).2 := by
  refine zz_C.of (bytes := cX1_sleep) (maxL := 4) (ret := (some .int)) (lv0 := [some (.ref h), some (.int x), some (.int y), none]) (by decide) rfl (Nat.le_of_ble_eq_true rfl) rfl rfl ?_
  intro p e s m' below meth c A Q X Ei Ev
  refine zz_aload_n X dX1_sleep_0 rfl rfl ?_
  refine zz_iconst (v := 0) X dX1_sleep_1 (by decide) ?_
  refine qq_put (k0 := 0) (u2 := (up2 v 9 0 0)) X imX1 (by decide) (mc flX1_42) (by decide) (by decide +kernel) dX1_sleep_2 rfl ?_
  refine zz_ws (ws' := wM h a ca v) (by rw [up2_0 h0]) ?_
  refine zz_aload_n X dX1_sleep_5 rfl rfl ?_
  refine zz_iload_n X dX1_sleep_6 rfl rfl ?_
  refine qq_calli (rest := []) X (m_running v m hm h16 x) (cwV 1 X.1.2.2.2.2 (gw lkX1_68 imX1_running seX1_running itX1 cdX1_running) rfl rfl rfl hdX1_running ⟨Nat.le_of_ble_eq_true rfl, Nat.le_of_ble_eq_true rfl⟩) rfl rfl (Nat.le_of_ble_eq_true rfl) dX1_sleep_7 ⟨Nat.zero_le _, Nat.zero_le _⟩ ?_
  rcases mRun_in (v := v) (x := x) (m := m) with er | ⟨r, hrm, -, er⟩
  · refine zz_top er ?_
    refine zz_istore_n (lv' := [some (.ref h), some (.int x), some (.int y), some (.int (-1))]) X dX1_sleep_10 rfl (by decide) rfl ?_
    refine zz_iload_n X dX1_sleep_11 rfl rfl ?_
    refine zz_if_ge (tgt := 19) X dX1_sleep_12 (by decide) (fun hq => absurd hq nn_m1) (fun hq => ?_)
    refine zz_iconst (v := -1) X dX1_sleep_15 (by decide) ?_
    refine zz_goto (tgt := 61) X dX1_sleep_16 (by decide) ?_
    have e1 : mSlp v m x y = (-1, v) := by simp [mSlp, er, nn_m1]
    exact Ei _ _ _ _ _ rfl rfl dX1_sleep_61 (by rw [e1]) (by rw [e1])
  · have hr : r < 16 := by omega
    have cr := nI_clamp (show r < 2 ^ 31 by omega)
    have np := nI_pos (show r < 2 ^ 31 by omega)
    have nn := nI_pos' (show r < 2 ^ 31 by omega)
    refine zz_top er ?_
    refine zz_istore_n (lv' := [some (.ref h), some (.int x), some (.int y), some (.int (nI r))]) X dX1_sleep_10 rfl (by decide) rfl ?_
    refine zz_iload_n X dX1_sleep_11 rfl rfl ?_
    refine zz_if_ge (tgt := 19) X dX1_sleep_12 (by decide) (fun hq => ?_) (fun hq => absurd nn hq)
    refine zz_iload_n X dX1_sleep_19 rfl rfl ?_
    refine zz_iconst (v := 1) X dX1_sleep_20 (by decide) ?_
    refine zz_icmp_ge (tgt := 33) X dX1_sleep_21 (by decide) (fun h1 => ?_) (fun h1 => ?_)
    · refine zz_aload_n X dX1_sleep_33 rfl rfl ?_
      refine zz_iload_n X dX1_sleep_34 rfl rfl ?_
      refine zz_iconst (v := 3) X dX1_sleep_35 (by decide) ?_
      refine zz_aload_n X dX1_sleep_36 rfl rfl ?_
      refine qq_get (k0 := 3) (v := .int (v 9 3)) X imX1 (by decide) (mc flX1_55) rfl dX1_sleep_37 ?_
      refine zz_ldc (v := 2147483647) X dX1_sleep_40 (mc ctX1_89) ?_
      refine zz_iload_n X dX1_sleep_42 rfl rfl ?_
      refine zz_isub X dX1_sleep_43 ?_
      refine zz_icmp_le (tgt := 52) X dX1_sleep_44 (by decide) (fun h2 => ?_) (fun h2 => ?_)
      · refine zz_aload_n X dX1_sleep_52 rfl rfl ?_
        refine qq_get (k0 := 3) (v := .int (v 9 3)) X imX1 (by decide) (mc flX1_55) rfl dX1_sleep_53 ?_
        refine zz_iload_n X dX1_sleep_56 rfl rfl ?_
        refine zz_iadd X dX1_sleep_57 ?_
        have ew : mSlpW v y = (v 9 3 + y) := by rw [mSlpW, if_pos h2]
        refine qq_calli (rest := []) X (m_waitsFor v r hr 3 (v 9 3 + y)) (cwV 3 X.1.2.2.2.2 (gw lkX1_81 imX1_waitsFor seX1_waitsFor itX1 cdX1_waitsFor) rfl rfl rfl hdX1_waitsFor ⟨Nat.le_of_ble_eq_true rfl, Nat.le_of_ble_eq_true rfl⟩) rfl rfl (Nat.le_of_ble_eq_true rfl) dX1_sleep_58 ⟨Nat.zero_le _, Nat.zero_le _⟩ ?_
        have e1 : mSlp v m x y = ((mWts v r 3 (v 9 3 + y)) 1 r, (mWts v r 3 (v 9 3 + y))) := by rw [mSlp, er, if_pos nn, if_pos h1]; simp only [cl, cr]; rw [ew]
        exact Ei _ _ _ _ _ rfl rfl dX1_sleep_61 (by rw [e1]) (by rw [e1])
      · refine zz_ldc (v := 2147483647) X dX1_sleep_47 (mc ctX1_89) ?_
        refine zz_goto (tgt := 58) X dX1_sleep_49 (by decide) ?_
        have ew : mSlpW v y = 2147483647 := by rw [mSlpW, if_neg h2]
        refine qq_calli (rest := []) X (m_waitsFor v r hr 3 2147483647) (cwV 3 X.1.2.2.2.2 (gw lkX1_81 imX1_waitsFor seX1_waitsFor itX1 cdX1_waitsFor) rfl rfl rfl hdX1_waitsFor ⟨Nat.le_of_ble_eq_true rfl, Nat.le_of_ble_eq_true rfl⟩) rfl rfl (Nat.le_of_ble_eq_true rfl) dX1_sleep_58 ⟨Nat.zero_le _, Nat.zero_le _⟩ ?_
        have e1 : mSlp v m x y = ((mWts v r 3 2147483647) 1 r, (mWts v r 3 2147483647)) := by rw [mSlp, er, if_pos nn, if_pos h1]; simp only [cl, cr]; rw [ew]
        exact Ei _ _ _ _ _ rfl rfl dX1_sleep_61 (by rw [e1]) (by rw [e1])
    · refine zz_aload_n X dX1_sleep_24 rfl rfl ?_
      refine qq_get (k0 := 8) (v := .ref (a 1)) X imX1 (by decide) (mc flX1_13) rfl dX1_sleep_25 ?_
      refine zz_iload_n X dX1_sleep_28 rfl rfl ?_
      refine zz_iald (q0 := 2) (t0 := 1) (j := r) X rfl rfl rfl hr (by decide) dX1_sleep_29 ?_
      refine zz_goto (tgt := 61) X dX1_sleep_30 (by decide) ?_
      have e1 : mSlp v m x y = (v 1 r, v) := by simp [mSlp, er, nn, cl, cr, h1]
      exact Ei _ _ _ _ _ rfl rfl dX1_sleep_61 (by rw [e1]) (by rw [e1])
set_option maxHeartbeats 4000000 in
set_option maxRecDepth 100000 in
theorem m_wake {l : Launch} {D : va_G} {h : Nat} {a : Nat → Nat} {ca : Nat → ClassId} (v : St) (m : Nat) (hm : v 9 2 = nI m) (h16 : m ≤ 15) (h0 : v 9 0 = 0) (x : Int32) : cM l D h a ca yX1_wake wsX1_wake { frames := 0, cells := 0, slots := 0, locals := 0 } [.int x] v (some (.int (nI (mWak v m x).1))) (mWak v m x).2 := by
  refine zz_C.of (bytes := cX1_wake) (maxL := 4) (ret := (some .int)) (lv0 := [some (.ref h), some (.int x), none, none]) (by decide) rfl (Nat.le_of_ble_eq_true rfl) rfl rfl ?_
  intro p e s m' below meth c A Q X Ei Ev
  refine zz_aload_n X dX1_wake_0 rfl rfl ?_
  refine zz_iconst (v := 0) X dX1_wake_1 (by decide) ?_
  refine qq_put (k0 := 0) (u2 := (up2 v 9 0 0)) X imX1 (by decide) (mc flX1_42) (by decide) (by decide +kernel) dX1_wake_2 rfl ?_
  refine zz_ws (ws' := wM h a ca v) (by rw [up2_0 h0]) ?_
  refine zz_iconst (v := 0) X dX1_wake_5 (by decide) ?_
  refine zz_istore_n (lv' := [some (.ref h), some (.int x), some (.int 0), none]) X dX1_wake_6 rfl (by decide) rfl ?_
  refine zz_iconst (v := 0) X dX1_wake_7 (by decide) ?_
  refine zz_istore_n (lv' := [some (.ref h), some (.int x), some (.int 0), some (.int 0)]) X dX1_wake_8 rfl (by decide) rfl ?_
  have loop : ∀ (n i k : Nat) (w : St), i + n = m → w 9 2 = nI m → zl (mWak1 x) n i (k, w) = mWak v m x → zz_V p l e { frames := 0, cells := 0, slots := 0, locals := 0 } s m' [.ref h, .int x].toArray below meth c 0 0 Q 4 D vwCl A (wM h a ca w) [some (.ref h), some (.int x), some (.int (nI k)), some (.int (nI i))] 9 [] := by
    intro n
    induction n with
    | zero =>
      intro i k w hi hw hz
      refine zz_iload_n X dX1_wake_9 rfl rfl ?_
      refine zz_aload_n X dX1_wake_10 rfl rfl ?_
      refine qq_get (k0 := 2) (v := .int (w 9 2)) X imX1 (by decide) (mc flX1_45) rfl dX1_wake_11 ?_
      refine zz_top (show w 9 2 = nI m from hw) ?_
      refine zz_icmp_ge (tgt := 71) X dX1_wake_14 (by decide) (fun hq => ?_) (fun hq => absurd (nI_le (a := m) (by omega) (by omega)) hq)
      refine zz_iload_n X dX1_wake_71 rfl rfl ?_
      exact Ei _ _ _ _ _ rfl rfl dX1_wake_72 (by rw [← hz]; rfl) (by rw [← hz]; rfl)
    | succ n ih =>
      intro i k w hi hw hz
      have hlt : i < m := by omega
      refine zz_iload_n X dX1_wake_9 rfl rfl ?_
      refine zz_aload_n X dX1_wake_10 rfl rfl ?_
      refine qq_get (k0 := 2) (v := .int (w 9 2)) X imX1 (by decide) (mc flX1_45) rfl dX1_wake_11 ?_
      refine zz_top (show w 9 2 = nI m from hw) ?_
      refine zz_icmp_ge (tgt := 71) X dX1_wake_14 (by decide) (fun hq => absurd hq (nI_ge (b := m) hlt (by omega))) (fun hq => ?_)
      refine zz_aload_n X dX1_wake_17 rfl rfl ?_
      refine qq_get (k0 := 10) (v := .ref (a 3)) X imX1 (by decide) (mc flX1_19) rfl dX1_wake_18 ?_
      refine zz_iload_n X dX1_wake_21 rfl rfl ?_
      refine zz_zald (q0 := 4) (t0 := 3) (j := i) X rfl rfl rfl (show i < 16 by omega) (by decide) dX1_wake_22 ?_
      refine zz_if_ne (tgt := 65) X dX1_wake_23 (by decide) (fun h1 => ?_) (fun h1 => ?_)
      · refine zz_iinc (v := (nI (i + 1))) (lv' := [some (.ref h), some (.int x), some (.int (nI k)), some (.int (nI (i + 1)))]) X dX1_wake_65 rfl (nI_1 _) (by decide) rfl ?_
        refine zz_goto (tgt := 9) X dX1_wake_68 (by decide) ?_
        exact ih (i + 1) k _ (by omega) hw (by rw [← hz, zl, mWak1, if_neg h1])
      · refine zz_aload_n X dX1_wake_26 rfl rfl ?_
        refine qq_get (k0 := 13) (v := .ref (a 6)) X imX1 (by decide) (mc flX1_29) rfl dX1_wake_27 ?_
        refine zz_iload_n X dX1_wake_30 rfl rfl ?_
        refine zz_iald (q0 := 7) (t0 := 6) (j := i) X rfl rfl rfl (show i < 16 by omega) (by decide) dX1_wake_31 ?_
        refine zz_if_ge (tgt := 65) X dX1_wake_32 (by decide) (fun h2 => ?_) (fun h2 => ?_)
        · refine zz_iinc (v := (nI (i + 1))) (lv' := [some (.ref h), some (.int x), some (.int (nI k)), some (.int (nI (i + 1)))]) X dX1_wake_65 rfl (nI_1 _) (by decide) rfl ?_
          refine zz_goto (tgt := 9) X dX1_wake_68 (by decide) ?_
          exact ih (i + 1) k _ (by omega) hw (by rw [← hz, zl, mWak1, if_pos h1, if_pos h2])
        · refine zz_aload_n X dX1_wake_35 rfl rfl ?_
          refine qq_get (k0 := 14) (v := .ref (a 7)) X imX1 (by decide) (mc flX1_32) rfl dX1_wake_36 ?_
          refine zz_iload_n X dX1_wake_39 rfl rfl ?_
          refine zz_iald (q0 := 8) (t0 := 7) (j := i) X rfl rfl rfl (show i < 16 by omega) (by decide) dX1_wake_40 ?_
          refine zz_iconst (v := 1) X dX1_wake_41 (by decide) ?_
          refine zz_icmp_ne (tgt := 65) X dX1_wake_42 (by decide) (fun h3 => ?_) (fun h3 => ?_)
          · refine zz_iinc (v := (nI (i + 1))) (lv' := [some (.ref h), some (.int x), some (.int (nI k)), some (.int (nI (i + 1)))]) X dX1_wake_65 rfl (nI_1 _) (by decide) rfl ?_
            refine zz_goto (tgt := 9) X dX1_wake_68 (by decide) ?_
            exact ih (i + 1) k _ (by omega) hw (by rw [← hz, zl, mWak1, if_pos h1, if_neg h2, if_neg h3])
          · refine zz_aload_n X dX1_wake_45 rfl rfl ?_
            refine qq_get (k0 := 15) (v := .ref (a 8)) X imX1 (by decide) (mc flX1_35) rfl dX1_wake_46 ?_
            refine zz_iload_n X dX1_wake_49 rfl rfl ?_
            refine zz_iald (q0 := 9) (t0 := 8) (j := i) X rfl rfl rfl (show i < 16 by omega) (by decide) dX1_wake_50 ?_
            refine zz_iload_n X dX1_wake_51 rfl rfl ?_
            refine zz_icmp_ne (tgt := 65) X dX1_wake_52 (by decide) (fun h4 => ?_) (fun h4 => ?_)
            · refine zz_iinc (v := (nI (i + 1))) (lv' := [some (.ref h), some (.int x), some (.int (nI k)), some (.int (nI (i + 1)))]) X dX1_wake_65 rfl (nI_1 _) (by decide) rfl ?_
              refine zz_goto (tgt := 9) X dX1_wake_68 (by decide) ?_
              exact ih (i + 1) k _ (by omega) hw (by rw [← hz, zl, mWak1, if_pos h1, if_neg h2, if_pos h3, if_neg h4])
            · refine zz_aload_n X dX1_wake_55 rfl rfl ?_
              refine qq_get (k0 := 14) (v := .ref (a 7)) X imX1 (by decide) (mc flX1_32) rfl dX1_wake_56 ?_
              refine zz_iload_n X dX1_wake_59 rfl rfl ?_
              refine zz_iconst (v := 0) X dX1_wake_60 (by decide) ?_
              refine zz_iast (q0 := 8) (t0 := 7) (j := i) (ws' := wM h a ca (up2 w 7 i 0)) X rfl rfl rfl (show i < 16 by omega) (by decide) dX1_wake_61 rfl ?_
              refine zz_iinc (v := (nI (k + 1))) (lv' := [some (.ref h), some (.int x), some (.int (nI (k + 1))), some (.int (nI i))]) X dX1_wake_62 rfl (nI_1 _) (by decide) rfl ?_
              refine zz_iinc (v := (nI (i + 1))) (lv' := [some (.ref h), some (.int x), some (.int (nI (k + 1))), some (.int (nI (i + 1)))]) X dX1_wake_65 rfl (nI_1 _) (by decide) rfl ?_
              refine zz_goto (tgt := 9) X dX1_wake_68 (by decide) ?_
              exact ih (i + 1) (k + 1) _ (by omega) hw (by rw [← hz, zl, mWak1, if_pos h1, if_neg h2, if_pos h3, if_pos h4])
  exact loop m 0 0 v (Nat.zero_add _) hm rfl
set_option maxHeartbeats 4000000 in
set_option maxRecDepth 100000 in
theorem m_rest {l : Launch} {D : va_G} {h : Nat} {a : Nat → Nat} {ca : Nat → ClassId} (v : St) (m : Nat) (hm : v 9 2 = nI m) (h16 : m ≤ 15) (h0 : v 9 0 = 0) (x : Int32) : cM l D h a ca yX1_rest wsX1_rest { frames := 1, cells := 0, slots := 0, locals := 23 } [.int x] v (some (.int (mRst v m x).1)) (mRst v m x).2 := by
  refine zz_C.of (bytes := cX1_rest) (maxL := 3) (ret := (some .int)) (lv0 := [some (.ref h), some (.int x), none]) (by decide) rfl (Nat.le_of_ble_eq_true rfl) rfl rfl ?_
  intro p e s m' below meth c A Q X Ei Ev
  refine zz_aload_n X dX1_rest_0 rfl rfl ?_
  refine zz_iconst (v := 0) X dX1_rest_1 (by decide) ?_
  refine qq_put (k0 := 0) (u2 := (up2 v 9 0 0)) X imX1 (by decide) (mc flX1_42) (by decide) (by decide +kernel) dX1_rest_2 rfl ?_
  refine zz_ws (ws' := wM h a ca v) (by rw [up2_0 h0]) ?_
  refine zz_aload_n X dX1_rest_5 rfl rfl ?_
  refine zz_iload_n X dX1_rest_6 rfl rfl ?_
  refine qq_calli (rest := []) X (m_running v m hm h16 x) (cwV 1 X.1.2.2.2.2 (gw lkX1_68 imX1_running seX1_running itX1 cdX1_running) rfl rfl rfl hdX1_running ⟨Nat.le_of_ble_eq_true rfl, Nat.le_of_ble_eq_true rfl⟩) rfl rfl (Nat.le_of_ble_eq_true rfl) dX1_rest_7 ⟨Nat.zero_le _, Nat.zero_le _⟩ ?_
  rcases mRun_in (v := v) (x := x) (m := m) with er | ⟨r, hrm, -, er⟩
  · refine zz_top er ?_
    refine zz_istore_n (lv' := [some (.ref h), some (.int x), some (.int (-1))]) X dX1_rest_10 rfl (by decide) rfl ?_
    refine zz_iload_n X dX1_rest_11 rfl rfl ?_
    refine zz_if_ge (tgt := 19) X dX1_rest_12 (by decide) (fun hq => absurd hq nn_m1) (fun hq => ?_)
    refine zz_iconst (v := -1) X dX1_rest_15 (by decide) ?_
    refine zz_goto (tgt := 26) X dX1_rest_16 (by decide) ?_
    have e1 : mRst v m x = (-1, v) := by simp [mRst, er, nn_m1]
    exact Ei _ _ _ _ _ rfl rfl dX1_rest_26 (by rw [e1]) (by rw [e1])
  · have hr : r < 16 := by omega
    have cr := nI_clamp (show r < 2 ^ 31 by omega)
    have np := nI_pos (show r < 2 ^ 31 by omega)
    have nn := nI_pos' (show r < 2 ^ 31 by omega)
    refine zz_top er ?_
    refine zz_istore_n (lv' := [some (.ref h), some (.int x), some (.int (nI r))]) X dX1_rest_10 rfl (by decide) rfl ?_
    refine zz_iload_n X dX1_rest_11 rfl rfl ?_
    refine zz_if_ge (tgt := 19) X dX1_rest_12 (by decide) (fun hq => ?_) (fun hq => absurd nn hq)
    refine zz_aload_n X dX1_rest_19 rfl rfl ?_
    refine zz_iload_n X dX1_rest_20 rfl rfl ?_
    refine zz_iconst (v := 0) X dX1_rest_21 (by decide) ?_
    refine zz_iconst (v := 0) X dX1_rest_22 (by decide) ?_
    refine qq_calli (rest := []) X (m_waitsFor v r hr 0 0) (cwV 3 X.1.2.2.2.2 (gw lkX1_81 imX1_waitsFor seX1_waitsFor itX1 cdX1_waitsFor) rfl rfl rfl hdX1_waitsFor ⟨Nat.le_of_ble_eq_true rfl, Nat.le_of_ble_eq_true rfl⟩) rfl rfl (Nat.le_of_ble_eq_true rfl) dX1_rest_23 ⟨Nat.zero_le _, Nat.zero_le _⟩ ?_
    have e1 : mRst v m x = ((mWts v r 0 0) 1 r, (mWts v r 0 0)) := by simp [mRst, er, nn, cl, cr]
    exact Ei _ _ _ _ _ rfl rfl dX1_rest_26 (by rw [e1]) (by rw [e1])
set_option maxHeartbeats 4000000 in
set_option maxRecDepth 100000 in
theorem m_tick {l : Launch} {D : va_G} {h : Nat} {a : Nat → Nat} {ca : Nat → ClassId} (v : St) (m : Nat) (hm : v 9 2 = nI m) (h16 : m ≤ 15) (h0 : v 9 0 = 0) : cM l D h a ca yX1_tick wsX1_tick { frames := 0, cells := 0, slots := 0, locals := 0 } [] v (some (.int (mTck v m).1)) (mTck v m).2 := by
  refine zz_C.of (bytes := cX1_tick) (maxL := 2) (ret := (some .int)) (lv0 := [some (.ref h), none]) (by decide) rfl (Nat.le_of_ble_eq_true rfl) rfl rfl ?_
  intro p e s m' below meth c A Q X Ei Ev
  refine zz_aload_n X dX1_tick_0 rfl rfl ?_
  refine zz_iconst (v := 0) X dX1_tick_1 (by decide) ?_
  refine qq_put (k0 := 0) (u2 := (up2 v 9 0 0)) X imX1 (by decide) (mc flX1_42) (by decide) (by decide +kernel) dX1_tick_2 rfl ?_
  refine zz_ws (ws' := wM h a ca v) (by rw [up2_0 h0]) ?_
  refine zz_aload_n X dX1_tick_5 rfl rfl ?_
  refine qq_get (k0 := 2) (v := .int (v 9 2)) X imX1 (by decide) (mc flX1_45) rfl dX1_tick_6 ?_
  refine zz_top (show v 9 2 = nI m from hm) ?_
  refine zz_if_ne (tgt := 14) X dX1_tick_9 (by decide) (fun h1 => ?_) (fun h1 => ?_)
  · refine zz_aload_n X dX1_tick_14 rfl rfl ?_
    refine zz_dup X dX1_tick_15 rfl ?_
    refine qq_get (k0 := 3) (v := .int (v 9 3)) X imX1 (by decide) (mc flX1_55) rfl dX1_tick_16 ?_
    refine zz_iconst (v := 1) X dX1_tick_19 (by decide) ?_
    refine zz_iadd X dX1_tick_20 ?_
    refine qq_put (k0 := 3) (u2 := (up2 v 9 3 ((v 9 3) + 1))) X imX1 (by decide) (mc flX1_55) (by decide) (by decide +kernel) dX1_tick_21 rfl ?_
    refine zz_iconst (v := 0) X dX1_tick_24 (by decide) ?_
    refine zz_istore_n (lv' := [some (.ref h), some (.int 0)]) X dX1_tick_25 rfl (by decide) rfl ?_
    have loop : ∀ (n i : Nat) (w : St), i + n = m → w 9 2 = nI m → zl (fun k w => up2 w 6 k (-1)) n i w = mTck1 m v → zz_V p l e { frames := 0, cells := 0, slots := 0, locals := 0 } s m' [.ref h].toArray below meth c 0 0 Q 2 D vwCl A (wM h a ca w) [some (.ref h), some (.int (nI i))] 26 [] := by
      intro n
      induction n with
      | zero =>
        intro i w hi hw hz
        refine zz_iload_n X dX1_tick_26 rfl rfl ?_
        refine zz_aload_n X dX1_tick_27 rfl rfl ?_
        refine qq_get (k0 := 2) (v := .int (w 9 2)) X imX1 (by decide) (mc flX1_45) rfl dX1_tick_28 ?_
        refine zz_top (show w 9 2 = nI m from hw) ?_
        refine zz_icmp_ge (tgt := 47) X dX1_tick_31 (by decide) (fun hq => ?_) (fun hq => absurd (nI_le (a := m) (by omega) (by omega)) hq)
        refine zz_aload_n X dX1_tick_47 rfl rfl ?_
        refine qq_get (k0 := 3) (v := .int (w 9 3)) X imX1 (by decide) (mc flX1_55) rfl dX1_tick_48 ?_
        have hz : w = mTck1 m v := hz
        have e1 : mTck v m = (w 9 3, w) := by rw [mTck, if_neg h1, ← hz]
        exact Ei _ _ _ _ _ rfl rfl dX1_tick_51 (by rw [e1]) (by rw [e1])
      | succ n ih =>
        intro i w hi hw hz
        have hlt : i < m := by omega
        refine zz_iload_n X dX1_tick_26 rfl rfl ?_
        refine zz_aload_n X dX1_tick_27 rfl rfl ?_
        refine qq_get (k0 := 2) (v := .int (w 9 2)) X imX1 (by decide) (mc flX1_45) rfl dX1_tick_28 ?_
        refine zz_top (show w 9 2 = nI m from hw) ?_
        refine zz_icmp_ge (tgt := 47) X dX1_tick_31 (by decide) (fun hq => absurd hq (nI_ge (b := m) hlt (by omega))) (fun hq => ?_)
        refine zz_aload_n X dX1_tick_34 rfl rfl ?_
        refine qq_get (k0 := 13) (v := .ref (a 6)) X imX1 (by decide) (mc flX1_29) rfl dX1_tick_35 ?_
        refine zz_iload_n X dX1_tick_38 rfl rfl ?_
        refine zz_iconst (v := -1) X dX1_tick_39 (by decide) ?_
        refine zz_iast (q0 := 7) (t0 := 6) (j := i) (ws' := wM h a ca (up2 w 6 i (-1))) X rfl rfl rfl (show i < 16 by omega) (by decide) dX1_tick_40 rfl ?_
        refine zz_iinc (v := (nI (i + 1))) (lv' := [some (.ref h), some (.int (nI (i + 1)))]) X dX1_tick_41 rfl (nI_1 _) (by decide) rfl ?_
        refine zz_goto (tgt := 26) X dX1_tick_44 (by decide) ?_
        exact ih (i + 1) _ (by omega) hw hz
    exact loop m 0 _ (Nat.zero_add _) hm rfl
  · refine zz_iconst (v := -1) X dX1_tick_12 (by decide) ?_
    have e1 : mTck v m = (-1, v) := by simp [mTck, h1]
    exact Ei _ _ _ _ _ rfl rfl dX1_tick_13 (by rw [e1]) (by rw [e1])
set_option maxHeartbeats 4000000 in
set_option maxRecDepth 100000 in
theorem m_kill {l : Launch} {D : va_G} {h : Nat} {a : Nat → Nat} {ca : Nat → ClassId} (v : St) (m : Nat) (hm : v 9 2 = nI m) (h16 : m ≤ 15) (h0 : v 9 0 = 0) (x : Int32) : cM l D h a ca yX1_kill wsX1_kill { frames := 1, cells := 0, slots := 0, locals := 23 } [.int x] v (some (.int (mKil v m x).1)) (mKil v m x).2 := by
  refine zz_C.of (bytes := cX1_kill) (maxL := 3) (ret := (some .boolean)) (lv0 := [some (.ref h), some (.int x), none]) (by decide) rfl (Nat.le_of_ble_eq_true rfl) rfl rfl ?_
  intro p e s m' below meth c A Q X Ei Ev
  refine zz_aload_n X dX1_kill_0 rfl rfl ?_
  refine zz_iconst (v := 0) X dX1_kill_1 (by decide) ?_
  refine qq_put (k0 := 0) (u2 := (up2 v 9 0 0)) X imX1 (by decide) (mc flX1_42) (by decide) (by decide +kernel) dX1_kill_2 rfl ?_
  refine zz_ws (ws' := wM h a ca v) (by rw [up2_0 h0]) ?_
  refine zz_aload_n X dX1_kill_5 rfl rfl ?_
  refine zz_iload_n X dX1_kill_6 rfl rfl ?_
  refine qq_calli (rest := []) X (m_ofNumber v m hm h16 x) (cwV 1 X.1.2.2.2.2 (gw lkX1_90 imX1_ofNumber seX1_ofNumber itX1 cdX1_ofNumber) rfl rfl rfl hdX1_ofNumber ⟨Nat.le_of_ble_eq_true rfl, Nat.le_of_ble_eq_true rfl⟩) rfl rfl (Nat.le_of_ble_eq_true rfl) dX1_kill_7 ⟨Nat.zero_le _, Nat.zero_le _⟩ ?_
  rcases mFnd_in (f := v 0) (x := x) (m := m) with er | ⟨r, hrm, -, er⟩
  · refine zz_top er ?_
    refine zz_istore_n (lv' := [some (.ref h), some (.int x), some (.int (-1))]) X dX1_kill_10 rfl (by decide) rfl ?_
    refine zz_iload_n X dX1_kill_11 rfl rfl ?_
    refine zz_if_lt (tgt := 24) X dX1_kill_12 (by decide) (fun hq => ?_) (fun hq => absurd m1_neg hq)
    refine zz_iconst (v := 0) X dX1_kill_24 (by decide) ?_
    have e1 : mKil v m x = (0, v) := by simp [mKil, er, m1_neg]
    exact Ei _ _ _ _ _ rfl rfl dX1_kill_25 (by rw [e1]) (by rw [e1])
  · have hr : r < 16 := by omega
    have cr := nI_clamp (show r < 2 ^ 31 by omega)
    have np := nI_pos (show r < 2 ^ 31 by omega)
    refine zz_top er ?_
    refine zz_istore_n (lv' := [some (.ref h), some (.int x), some (.int (nI r))]) X dX1_kill_10 rfl (by decide) rfl ?_
    refine zz_iload_n X dX1_kill_11 rfl rfl ?_
    refine zz_if_lt (tgt := 24) X dX1_kill_12 (by decide) (fun hq => absurd hq np) (fun hq => ?_)
    refine zz_aload_n X dX1_kill_15 rfl rfl ?_
    refine qq_get (k0 := 10) (v := .ref (a 3)) X imX1 (by decide) (mc flX1_19) rfl dX1_kill_16 ?_
    refine zz_iload_n X dX1_kill_19 rfl rfl ?_
    refine zz_zald (q0 := 4) (t0 := 3) (j := r) X rfl rfl rfl hr (by decide) dX1_kill_20 ?_
    refine zz_if_eq (tgt := 26) X dX1_kill_21 (by decide) (fun h1 => ?_) (fun h1 => ?_)
    · refine zz_aload_n X dX1_kill_26 rfl rfl ?_
      refine qq_get (k0 := 12) (v := .ref (a 5)) X imX1 (by decide) (mc flX1_26) rfl dX1_kill_27 ?_
      refine zz_iload_n X dX1_kill_30 rfl rfl ?_
      refine zz_iconst (v := 1) X dX1_kill_31 (by decide) ?_
      refine zz_zast (q0 := 6) (t0 := 5) (j := r) (ws' := wM h a ca (up2 v 5 r 1)) X rfl rfl rfl hr (by decide) rfl dX1_kill_32 rfl ?_
      refine zz_aload_n X dX1_kill_33 rfl rfl ?_
      refine qq_get (k0 := 14) (v := .ref (a 7)) X imX1 (by decide) (mc flX1_32) rfl dX1_kill_34 ?_
      refine zz_iload_n X dX1_kill_37 rfl rfl ?_
      refine zz_iconst (v := 0) X dX1_kill_38 (by decide) ?_
      refine zz_iast (q0 := 8) (t0 := 7) (j := r) (ws' := wM h a ca (up2 (up2 v 5 r 1) 7 r 0)) X rfl rfl rfl hr (by decide) dX1_kill_39 rfl ?_
      refine zz_iconst (v := 1) X dX1_kill_40 (by decide) ?_
      have e1 : mKil v m x = (1, (up2 (up2 v 5 r 1) 7 r 0)) := by simp [mKil, er, np, cl, cr, h1]
      exact Ei _ _ _ _ _ rfl rfl dX1_kill_41 (by rw [e1]) (by rw [e1])
    · refine zz_iconst (v := 0) X dX1_kill_24 (by decide) ?_
      have e1 : mKil v m x = (0, v) := by simp [mKil, er, np, cl, cr, h1]
      exact Ei _ _ _ _ _ rfl rfl dX1_kill_25 (by rw [e1]) (by rw [e1])
set_option maxHeartbeats 4000000 in
set_option maxRecDepth 100000 in
theorem m_about {l : Launch} {D : va_G} {h : Nat} {a : Nat → Nat} {ca : Nat → ClassId} (v : St) (m : Nat) (hm : v 9 2 = nI m) (h16 : m ≤ 15) (h0 : v 9 0 = 0) (x y : Int32) : cM l D h a ca yX1_about wsX1_about { frames := 2, cells := 0, slots := 0, locals := 45 } [.int x, .int y] v (some (.int (mAbt v m x y))) v := by
  refine zz_C.of (bytes := cX1_about) (maxL := 4) (ret := (some .int)) (lv0 := [some (.ref h), some (.int x), some (.int y), none]) (by decide) rfl (Nat.le_of_ble_eq_true rfl) rfl rfl ?_
  intro p e s m' below meth c A Q X Ei Ev
  refine zz_aload_n X dX1_about_0 rfl rfl ?_
  refine zz_iconst (v := 0) X dX1_about_1 (by decide) ?_
  refine qq_put (k0 := 0) (u2 := (up2 v 9 0 0)) X imX1 (by decide) (mc flX1_42) (by decide) (by decide +kernel) dX1_about_2 rfl ?_
  refine zz_ws (ws' := wM h a ca v) (by rw [up2_0 h0]) ?_
  have none_ : ∀ lw : Option Value, mAbtR v m x = -1 → zz_V p l e { frames := 2, cells := 0, slots := 0, locals := 45 } s m' [.ref h, .int x, .int y].toArray below meth c 0 0 Q 4 D vwCl A (wM h a ca v) [some (.ref h), some (.int x), some (.int y), some (.int (-1))] 25 [] := by
    intro lw er
    refine zz_iload_n X dX1_about_25 rfl rfl ?_
    refine zz_if_ge (tgt := 50) X dX1_about_26 (by decide) (fun hq => absurd hq nn_m1) (fun hq => ?_)
    refine zz_iload_n X dX1_about_29 rfl rfl ?_
    refine zz_if_lt (tgt := 48) X dX1_about_30 (by decide) (fun k1 => ?_) (fun k1 => ?_)
    · refine zz_iconst (v := -1) X dX1_about_48 (by decide) ?_
      exact Ei _ _ _ _ _ rfl rfl dX1_about_49 (by simp [mAbt, er, nn_m1, k1]) rfl
    · refine zz_iload_n X dX1_about_33 rfl rfl ?_
      refine zz_bipush (v := 15) X dX1_about_34 (by decide) ?_
      refine zz_icmp_ge (tgt := 48) X dX1_about_36 (by decide) (fun k2 => ?_) (fun k2 => ?_)
      · refine zz_iconst (v := -1) X dX1_about_48 (by decide) ?_
        exact Ei _ _ _ _ _ rfl rfl dX1_about_49 (by simp [mAbt, er, nn_m1, k1, k2]) rfl
      · refine zz_iload_n X dX1_about_39 rfl rfl ?_
        refine zz_iconst (v := 1) X dX1_about_40 (by decide) ?_
        refine zz_icmp_ne (tgt := 48) X dX1_about_41 (by decide) (fun k3 => ?_) (fun k3 => ?_)
        · refine zz_iconst (v := -1) X dX1_about_48 (by decide) ?_
          exact Ei _ _ _ _ _ rfl rfl dX1_about_49 (by simp [mAbt, er, nn_m1, k1, k2, k3]) rfl
        · refine zz_iconst (v := 0) X dX1_about_44 (by decide) ?_
          refine zz_goto (tgt := 49) X dX1_about_45 (by decide) ?_
          exact Ei _ _ _ _ _ rfl rfl dX1_about_49 (by simp [mAbt, er, nn_m1, k1, k2, k3]) rfl
  refine zz_iload_n X dX1_about_5 rfl rfl ?_
  refine zz_if_lt (tgt := 23) X dX1_about_6 (by decide) (fun h1 => ?_) (fun h1 => ?_)
  · refine zz_iconst (v := -1) X dX1_about_23 (by decide) ?_
    refine zz_istore_n (lv' := [some (.ref h), some (.int x), some (.int y), some (.int (-1))]) X dX1_about_24 rfl (by decide) rfl ?_
    exact none_ none (by rw [mAbtR, if_pos h1])
  · refine zz_iload_n X dX1_about_9 rfl rfl ?_
    refine zz_bipush (v := 15) X dX1_about_10 (by decide) ?_
    refine zz_icmp_ge (tgt := 23) X dX1_about_12 (by decide) (fun h2 => ?_) (fun h2 => ?_)
    · refine zz_iconst (v := -1) X dX1_about_23 (by decide) ?_
      refine zz_istore_n (lv' := [some (.ref h), some (.int x), some (.int y), some (.int (-1))]) X dX1_about_24 rfl (by decide) rfl ?_
      exact none_ none (by rw [mAbtR, if_neg h1, if_pos h2])
    · refine zz_aload_n X dX1_about_15 rfl rfl ?_
      refine zz_iload_n X dX1_about_16 rfl rfl ?_
      refine qq_calli (rest := []) X (m_ofPlace v m hm h16 x) (cwV 1 X.1.2.2.2.2 (gw lkX1_48 imX1_ofPlace seX1_ofPlace itX1 cdX1_ofPlace) rfl rfl rfl hdX1_ofPlace ⟨Nat.le_of_ble_eq_true rfl, Nat.le_of_ble_eq_true rfl⟩) rfl rfl (Nat.le_of_ble_eq_true rfl) dX1_about_17 ⟨Nat.zero_le _, Nat.zero_le _⟩ ?_
      rcases mFnd_in (f := v 1) (x := x) (m := m) with er | ⟨r, hrm, -, er⟩
      · refine zz_top er ?_
        refine zz_goto (tgt := 24) X dX1_about_20 (by decide) ?_
        refine zz_istore_n (lv' := [some (.ref h), some (.int x), some (.int y), some (.int (-1))]) X dX1_about_24 rfl (by decide) rfl ?_
        exact none_ none (by rw [mAbtR, if_neg h1, if_neg h2, er])
      · have hr : r < 16 := by omega
        have cr := nI_clamp (show r < 2 ^ 31 by omega)
        have nn := nI_pos' (show r < 2 ^ 31 by omega)
        have eR : mAbtR v m x = nI r := by rw [mAbtR, if_neg h1, if_neg h2, er]
        refine zz_top er ?_
        refine zz_goto (tgt := 24) X dX1_about_20 (by decide) ?_
        refine zz_istore_n (lv' := [some (.ref h), some (.int x), some (.int y), some (.int (nI r))]) X dX1_about_24 rfl (by decide) rfl ?_
        refine zz_iload_n X dX1_about_25 rfl rfl ?_
        refine zz_if_ge (tgt := 50) X dX1_about_26 (by decide) (fun hq => ?_) (fun hq => absurd nn hq)
        refine zz_iload_n X dX1_about_50 rfl rfl ?_
        by_cases g0 : y = 0
        · subst g0
          refine zz_tabIn (tgt := 88) X dX1_about_51 (by decide) (by decide) rfl (by decide) ?_
          refine zz_aload_n X dX1_about_88 rfl rfl ?_
          refine qq_get (k0 := 7) (v := .ref (a 0)) X imX1 (by decide) (mc flX1_7) rfl dX1_about_89 ?_
          refine zz_iload_n X dX1_about_92 rfl rfl ?_
          refine zz_iald (q0 := 1) (t0 := 0) (j := r) X rfl rfl rfl hr (by decide) dX1_about_93 ?_
          exact Ei _ _ _ _ _ rfl rfl dX1_about_94 (by simp [mAbt, eR, nn, cl, cr]) rfl
        by_cases g1 : y = 1
        · subst g1
          refine zz_tabIn (tgt := 95) X dX1_about_51 (by decide) (by decide) rfl (by decide) ?_
          refine zz_aload_n X dX1_about_95 rfl rfl ?_
          refine zz_iload_n X dX1_about_96 rfl rfl ?_
          refine qq_calli (rest := []) X (m_state v m hm h16 r hr) (cwV 1 X.1.2.2.2.2 (gw lkX1_71 imX1_state seX1_state itX1 cdX1_state) rfl rfl rfl hdX1_state ⟨Nat.le_of_ble_eq_true rfl, Nat.le_of_ble_eq_true rfl⟩) rfl rfl (Nat.le_of_ble_eq_true rfl) dX1_about_97 ⟨Nat.zero_le _, Nat.zero_le _⟩ ?_
          exact Ei _ _ _ _ _ rfl rfl dX1_about_100 (by simp [mAbt, eR, nn, cl, cr]) rfl
        by_cases g2 : y = 2
        · subst g2
          refine zz_tabIn (tgt := 101) X dX1_about_51 (by decide) (by decide) rfl (by decide) ?_
          refine zz_aload_n X dX1_about_101 rfl rfl ?_
          refine qq_get (k0 := 9) (v := .ref (a 2)) X imX1 (by decide) (mc flX1_16) rfl dX1_about_102 ?_
          refine zz_iload_n X dX1_about_105 rfl rfl ?_
          refine zz_iald (q0 := 3) (t0 := 2) (j := r) X rfl rfl rfl hr (by decide) dX1_about_106 ?_
          exact Ei _ _ _ _ _ rfl rfl dX1_about_107 (by simp [mAbt, eR, nn, cl, cr]) rfl
        by_cases g3 : y = 3
        · subst g3
          refine zz_tabIn (tgt := 108) X dX1_about_51 (by decide) (by decide) rfl (by decide) ?_
          refine zz_aload_n X dX1_about_108 rfl rfl ?_
          refine qq_get (k0 := 12) (v := .ref (a 5)) X imX1 (by decide) (mc flX1_26) rfl dX1_about_109 ?_
          refine zz_iload_n X dX1_about_112 rfl rfl ?_
          refine zz_zald (q0 := 6) (t0 := 5) (j := r) X rfl rfl rfl hr (by decide) dX1_about_113 ?_
          refine zz_if_eq (tgt := 121) X dX1_about_114 (by decide) (fun h5 => ?_) (fun h5 => ?_)
          · refine zz_iconst (v := 0) X dX1_about_121 (by decide) ?_
            exact Ei _ _ _ _ _ rfl rfl dX1_about_122 (by simp [mAbt, eR, nn, cl, cr, h5]) rfl
          · refine zz_iconst (v := 1) X dX1_about_117 (by decide) ?_
            refine zz_goto (tgt := 122) X dX1_about_118 (by decide) ?_
            exact Ei _ _ _ _ _ rfl rfl dX1_about_122 (by simp [mAbt, eR, nn, cl, cr, h5]) rfl
        by_cases g4 : y = 4
        · subst g4
          refine zz_tabIn (tgt := 123) X dX1_about_51 (by decide) (by decide) rfl (by decide) ?_
          refine zz_aload_n X dX1_about_123 rfl rfl ?_
          refine qq_get (k0 := 10) (v := .ref (a 3)) X imX1 (by decide) (mc flX1_19) rfl dX1_about_124 ?_
          refine zz_iload_n X dX1_about_127 rfl rfl ?_
          refine zz_zald (q0 := 4) (t0 := 3) (j := r) X rfl rfl rfl hr (by decide) dX1_about_128 ?_
          refine zz_if_eq (tgt := 141) X dX1_about_129 (by decide) (fun h5 => ?_) (fun h5 => ?_)
          · refine zz_iconst (v := 0) X dX1_about_141 (by decide) ?_
            exact Ei _ _ _ _ _ rfl rfl dX1_about_142 (by simp [mAbt, eR, nn, cl, cr, h5]) rfl
          · refine zz_aload_n X dX1_about_132 rfl rfl ?_
            refine qq_get (k0 := 11) (v := .ref (a 4)) X imX1 (by decide) (mc flX1_23) rfl dX1_about_133 ?_
            refine zz_iload_n X dX1_about_136 rfl rfl ?_
            refine zz_iald (q0 := 5) (t0 := 4) (j := r) X rfl rfl rfl hr (by decide) dX1_about_137 ?_
            refine zz_goto (tgt := 142) X dX1_about_138 (by decide) ?_
            exact Ei _ _ _ _ _ rfl rfl dX1_about_142 (by simp [mAbt, eR, nn, cl, cr, h5]) rfl
        by_cases g5 : y = 5
        · subst g5
          refine zz_tabIn (tgt := 143) X dX1_about_51 (by decide) (by decide) rfl (by decide) ?_
          refine zz_aload_n X dX1_about_143 rfl rfl ?_
          refine qq_get (k0 := 13) (v := .ref (a 6)) X imX1 (by decide) (mc flX1_29) rfl dX1_about_144 ?_
          refine zz_iload_n X dX1_about_147 rfl rfl ?_
          refine zz_iald (q0 := 7) (t0 := 6) (j := r) X rfl rfl rfl hr (by decide) dX1_about_148 ?_
          exact Ei _ _ _ _ _ rfl rfl dX1_about_149 (by simp [mAbt, eR, nn, cl, cr]) rfl
        refine zz_tabOut (tgt := 150) X dX1_about_51 (by rcases Int.lt_or_le y.toInt 0 with q | q; exact Or.inl q; rcases Int.lt_or_le 5 y.toInt with q2 | q2; exact Or.inr q2; exact absurd (zz_six q q2) (by simp [g0, g1, g2, g3, g4, g5])) (by decide) ?_
        refine zz_iconst (v := -1) X dX1_about_150 (by decide) ?_
        exact Ei _ _ _ _ _ rfl rfl dX1_about_151 (by simp [mAbt, eR, nn, cl, cr, g0, g1, g2, g3, g4, g5]) rfl
set_option maxHeartbeats 4000000 in
set_option maxRecDepth 100000 in
theorem m_count {l : Launch} {D : va_G} {h : Nat} {a : Nat → Nat} {ca : Nat → ClassId} (v : St) (m : Nat) (hm : v 9 2 = nI m) (h16 : m ≤ 15) (h0 : v 9 0 = 0) (x : Int32) : cM l D h a ca yX1_count wsX1_count { frames := 2, cells := 0, slots := 0, locals := 45 } [.int x] v (some (.int (mCnt v m x))) v := by
  refine zz_C.of (bytes := cX1_count) (maxL := 4) (ret := (some .int)) (lv0 := [some (.ref h), some (.int x), none, none]) (by decide) rfl (Nat.le_of_ble_eq_true rfl) rfl rfl ?_
  intro p e s m' below meth c A Q X Ei Ev
  refine zz_aload_n X dX1_count_0 rfl rfl ?_
  refine zz_iconst (v := 0) X dX1_count_1 (by decide) ?_
  refine qq_put (k0 := 0) (u2 := (up2 v 9 0 0)) X imX1 (by decide) (mc flX1_42) (by decide) (by decide +kernel) dX1_count_2 rfl ?_
  refine zz_ws (ws' := wM h a ca v) (by rw [up2_0 h0]) ?_
  refine zz_iload_n X dX1_count_5 rfl rfl ?_
  refine zz_if_lt (tgt := 14) X dX1_count_6 (by decide) (fun h1 => ?_) (fun h1 => ?_)
  · refine zz_iconst (v := -1) X dX1_count_14 (by decide) ?_
    exact Ei _ _ _ _ _ rfl rfl dX1_count_15 (by simp [mCnt, h1]) rfl
  · refine zz_iload_n X dX1_count_9 rfl rfl ?_
    refine zz_iconst (v := 4) X dX1_count_10 (by decide) ?_
    refine zz_icmp_le (tgt := 16) X dX1_count_11 (by decide) (fun h2 => ?_) (fun h2 => ?_)
    · refine zz_iconst (v := 0) X dX1_count_16 (by decide) ?_
      refine zz_istore_n (lv' := [some (.ref h), some (.int x), some (.int 0), none]) X dX1_count_17 rfl (by decide) rfl ?_
      refine zz_iconst (v := 0) X dX1_count_18 (by decide) ?_
      refine zz_istore_n (lv' := [some (.ref h), some (.int x), some (.int 0), some (.int 0)]) X dX1_count_19 rfl (by decide) rfl ?_
      have loop : ∀ (n i k : Nat), i + n = m → zk (fun k => if x = 0 then true else decide (mSta v m k = x)) n i k = mCnt1 v m x → zz_V p l e { frames := 2, cells := 0, slots := 0, locals := 45 } s m' [.ref h, .int x].toArray below meth c 0 0 Q 4 D vwCl A (wM h a ca v) [some (.ref h), some (.int x), some (.int (nI k)), some (.int (nI i))] 20 [] := by
        intro n
        induction n with
        | zero =>
          intro i k hi hz
          refine zz_iload_n X dX1_count_20 rfl rfl ?_
          refine zz_aload_n X dX1_count_21 rfl rfl ?_
          refine qq_get (k0 := 2) (v := .int (v 9 2)) X imX1 (by decide) (mc flX1_45) rfl dX1_count_22 ?_
          refine zz_top (show v 9 2 = nI m from hm) ?_
          refine zz_icmp_ge (tgt := 55) X dX1_count_25 (by decide) (fun hq => ?_) (fun hq => absurd (nI_le (a := m) (by omega) (by omega)) hq)
          refine zz_iload_n X dX1_count_55 rfl rfl ?_
          exact Ei _ _ _ _ _ rfl rfl dX1_count_56 (by rw [mCnt, if_neg h1, if_pos h2, ← hz]; rfl) rfl
        | succ n ih =>
          intro i k hi hz
          have hlt : i < m := by omega
          refine zz_iload_n X dX1_count_20 rfl rfl ?_
          refine zz_aload_n X dX1_count_21 rfl rfl ?_
          refine qq_get (k0 := 2) (v := .int (v 9 2)) X imX1 (by decide) (mc flX1_45) rfl dX1_count_22 ?_
          refine zz_top (show v 9 2 = nI m from hm) ?_
          refine zz_icmp_ge (tgt := 55) X dX1_count_25 (by decide) (fun hq => absurd hq (nI_ge (b := m) hlt (by omega))) (fun hq => ?_)
          refine zz_iload_n X dX1_count_28 rfl rfl ?_
          refine zz_iload_n X dX1_count_29 rfl rfl ?_
          refine zz_if_eq (tgt := 42) X dX1_count_30 (by decide) (fun h3 => ?_) (fun h3 => ?_)
          · refine zz_iconst (v := 1) X dX1_count_42 (by decide) ?_
            refine zz_goto (tgt := 47) X dX1_count_43 (by decide) ?_
            refine zz_iadd X dX1_count_47 ?_
            refine zz_top (nI_1 _) ?_
            refine zz_istore_n (lv' := [some (.ref h), some (.int x), some (.int (nI (k + 1))), some (.int (nI i))]) X dX1_count_48 rfl (by decide) rfl ?_
            refine zz_iinc (v := (nI (i + 1))) (lv' := [some (.ref h), some (.int x), some (.int (nI (k + 1))), some (.int (nI (i + 1)))]) X dX1_count_49 rfl (nI_1 _) (by decide) rfl ?_
            refine zz_goto (tgt := 20) X dX1_count_52 (by decide) ?_
            exact ih (i + 1) _ (by omega) (by rw [← hz]; simp [zk, h3])
          · refine zz_aload_n X dX1_count_33 rfl rfl ?_
            refine zz_iload_n X dX1_count_34 rfl rfl ?_
            refine qq_calli (rest := [.int (nI k)]) X (m_state v m hm h16 i (by omega)) (cwV 1 X.1.2.2.2.2 (gw lkX1_71 imX1_state seX1_state itX1 cdX1_state) rfl rfl rfl hdX1_state ⟨Nat.le_of_ble_eq_true rfl, Nat.le_of_ble_eq_true rfl⟩) rfl rfl (Nat.le_of_ble_eq_true rfl) dX1_count_35 ⟨Nat.zero_le _, Nat.zero_le _⟩ ?_
            refine zz_iload_n X dX1_count_38 rfl rfl ?_
            refine zz_icmp_ne (tgt := 46) X dX1_count_39 (by decide) (fun h4 => ?_) (fun h4 => ?_)
            · refine zz_iconst (v := 0) X dX1_count_46 (by decide) ?_
              refine zz_iadd X dX1_count_47 ?_
              refine zz_top (Int32.add_zero _) ?_
              refine zz_istore_n (lv' := [some (.ref h), some (.int x), some (.int (nI k)), some (.int (nI i))]) X dX1_count_48 rfl (by decide) rfl ?_
              refine zz_iinc (v := (nI (i + 1))) (lv' := [some (.ref h), some (.int x), some (.int (nI k)), some (.int (nI (i + 1)))]) X dX1_count_49 rfl (nI_1 _) (by decide) rfl ?_
              refine zz_goto (tgt := 20) X dX1_count_52 (by decide) ?_
              exact ih (i + 1) _ (by omega) (by rw [← hz]; simp [zk, h3, h4])
            · refine zz_iconst (v := 1) X dX1_count_42 (by decide) ?_
              refine zz_goto (tgt := 47) X dX1_count_43 (by decide) ?_
              refine zz_iadd X dX1_count_47 ?_
              refine zz_top (nI_1 _) ?_
              refine zz_istore_n (lv' := [some (.ref h), some (.int x), some (.int (nI (k + 1))), some (.int (nI i))]) X dX1_count_48 rfl (by decide) rfl ?_
              refine zz_iinc (v := (nI (i + 1))) (lv' := [some (.ref h), some (.int x), some (.int (nI (k + 1))), some (.int (nI (i + 1)))]) X dX1_count_49 rfl (nI_1 _) (by decide) rfl ?_
              refine zz_goto (tgt := 20) X dX1_count_52 (by decide) ?_
              exact ih (i + 1) _ (by omega) (by rw [← hz]; simp [zk, h3, h4])
      exact loop m 0 0 (Nat.zero_add _) rfl
    · refine zz_iconst (v := -1) X dX1_count_14 (by decide) ?_
      exact Ei _ _ _ _ _ rfl rfl dX1_count_15 (by simp [mCnt, h1, h2]) rfl
end
section
def mU0 (N : Nat) : St := up2 rZ 9 1 (nI N)
theorem rN_eq2 (x : Int32) : (1 ≤ x → x ≤ 4 → x = nI (rN x)) ∧ (1 ≤ x → ¬ x ≤ 4 → (4 : Int32) = nI (rN x)) ∧ (¬ 1 ≤ x → (1 : Int32) = nI (rN x)) := by
  have h4 : (4 : Int32).toInt = 4 := by decide
  have h1 : (1 : Int32).toInt = 1 := by decide
  have e := (rN_eq x).1
  refine ⟨fun a b => ?_, fun a b => ?_, fun a => ?_⟩
  · rw [← e]
    unfold rNv
    rw [Int32.le_iff_toInt_le] at a b
    by_cases c : x < 4
    · rw [if_pos c]
      by_cases d : 1 < x
      · rw [if_pos d]
      · rw [if_neg d]
        rw [Int32.lt_iff_toInt_lt] at d
        exact Int32.toInt_inj.mp (by omega)
    · rw [if_neg c, if_pos (by decide)]
      rw [Int32.lt_iff_toInt_lt] at c
      exact Int32.toInt_inj.mp (by omega)
  · rw [← e]
    unfold rNv
    rw [Int32.le_iff_toInt_le] at a b
    have c : ¬ x < 4 := by rw [Int32.lt_iff_toInt_lt]; omega
    rw [if_neg c, if_pos (by decide)]
  · rw [← e]
    unfold rNv
    rw [Int32.le_iff_toInt_le] at a
    have c : x < 4 := by rw [Int32.lt_iff_toInt_lt]; omega
    have d : ¬ 1 < x := by rw [Int32.lt_iff_toInt_lt]; omega
    rw [if_pos c, if_neg d]
set_option maxHeartbeats 4000000 in
set_option maxRecDepth 100000 in
theorem m_init {l : Launch} {D : va_G} {h : Nat} (x : Int32) : zz_CI l D vwCl yX1_init wsX1_init { frames := 1, cells := 9, slots := 144, locals := 14 } [.ref h, .int x] [(h, .inr (1, [.int 0, .int 0, .int 0, .int 0, .int 0, .int 0, .int 0, .null, .null, .null, .null, .null, .null, .null, .null, .null]))] (S := (Nat → Nat) × (Nat → ClassId)) (fun z => tyM z.2) (fun z => wM h z.1 z.2 (mU0 (rN x))) (fun _ => True) 9 144 := by
  refine zz_CI.of (bytes := cX1_init) (maxL := 2) (lv0 := [some (.ref h), some (.int x)]) (by decide) rfl rfl (Nat.le_of_ble_eq_true rfl) rfl rfl ?_
  intro p e s m' below meth c A Q X hini Ev
  refine zz_aload_n X dX1_init_0 rfl rfl ?_
  refine zz_objInit X (mc lkX1_1) (mc im_obj) (mc me_obj) dX1_init_1 (by decide) (fun ls => Nat.le_of_ble_eq_true rfl) ?_
  refine zz_aload_n X dX1_init_4 rfl rfl ?_
  refine zz_bipush (v := 16) X dX1_init_5 (by decide) ?_
  refine zz_newa (atype := .int) (ty := .int) (N' := 16) (a0 := (16, .inl (fun _ => 0))) X (mc ar_int) rfl (fun _ => rfl) (by decide) (by decide) (by decide) (by decide) (by decide) dX1_init_7 (fun q0 c0 X => ?_)
  refine zz_putF (q0 := 0) (k0 := 7) (ty := tyX1 7) (ws' := [(h, .inr (1, [.int 0, .int 0, .int 0, .int 0, .int 0, .int 0, .int 0, .ref q0, .null, .null, .null, .null, .null, .null, .null, .null])), (q0, .inl (c0, 16, .inl (fun _ => 0)))]) X imX1 tyX1 tyX1_ok nmX1 rfl rfl (by decide) (mc flX1_7) (by decide) hini rfl (tyX1_ok 7 (by decide)) rfl rfl (Nat.le_of_ble_eq_true rfl) dX1_init_9 rfl ?_
  refine zz_aload_n X dX1_init_12 rfl rfl ?_
  refine zz_bipush (v := 16) X dX1_init_13 (by decide) ?_
  refine zz_newa (atype := .int) (ty := .int) (N' := 16) (a0 := (16, .inl (fun _ => 0))) X (mc ar_int) rfl (fun _ => rfl) (by decide) (by decide) (by decide) (by decide) (by decide) dX1_init_15 (fun q1 c1 X => ?_)
  refine zz_putF (q0 := 0) (k0 := 8) (ty := tyX1 8) (ws' := [(h, .inr (1, [.int 0, .int 0, .int 0, .int 0, .int 0, .int 0, .int 0, .ref q0, .ref q1, .null, .null, .null, .null, .null, .null, .null])), (q0, .inl (c0, 16, .inl (fun _ => 0))), (q1, .inl (c1, 16, .inl (fun _ => 0)))]) X imX1 tyX1 tyX1_ok nmX1 rfl rfl (by decide) (mc flX1_13) (by decide) hini rfl (tyX1_ok 8 (by decide)) rfl rfl (Nat.le_of_ble_eq_true rfl) dX1_init_17 rfl ?_
  refine zz_aload_n X dX1_init_20 rfl rfl ?_
  refine zz_bipush (v := 16) X dX1_init_21 (by decide) ?_
  refine zz_newa (atype := .int) (ty := .int) (N' := 16) (a0 := (16, .inl (fun _ => 0))) X (mc ar_int) rfl (fun _ => rfl) (by decide) (by decide) (by decide) (by decide) (by decide) dX1_init_23 (fun q2 c2 X => ?_)
  refine zz_putF (q0 := 0) (k0 := 9) (ty := tyX1 9) (ws' := [(h, .inr (1, [.int 0, .int 0, .int 0, .int 0, .int 0, .int 0, .int 0, .ref q0, .ref q1, .ref q2, .null, .null, .null, .null, .null, .null])), (q0, .inl (c0, 16, .inl (fun _ => 0))), (q1, .inl (c1, 16, .inl (fun _ => 0))), (q2, .inl (c2, 16, .inl (fun _ => 0)))]) X imX1 tyX1 tyX1_ok nmX1 rfl rfl (by decide) (mc flX1_16) (by decide) hini rfl (tyX1_ok 9 (by decide)) rfl rfl (Nat.le_of_ble_eq_true rfl) dX1_init_25 rfl ?_
  refine zz_aload_n X dX1_init_28 rfl rfl ?_
  refine zz_bipush (v := 16) X dX1_init_29 (by decide) ?_
  refine zz_newa (atype := .boolean) (ty := .boolean) (N' := 16) (a0 := (16, .inl (fun _ => 0))) X (mc ar_boolean) rfl (fun _ => rfl) (by decide) (by decide) (by decide) (by decide) (by decide) dX1_init_31 (fun q3 c3 X => ?_)
  refine zz_putF (q0 := 0) (k0 := 10) (ty := tyX1 10) (ws' := [(h, .inr (1, [.int 0, .int 0, .int 0, .int 0, .int 0, .int 0, .int 0, .ref q0, .ref q1, .ref q2, .ref q3, .null, .null, .null, .null, .null])), (q0, .inl (c0, 16, .inl (fun _ => 0))), (q1, .inl (c1, 16, .inl (fun _ => 0))), (q2, .inl (c2, 16, .inl (fun _ => 0))), (q3, .inl (c3, 16, .inl (fun _ => 0)))]) X imX1 tyX1 tyX1_ok nmX1 rfl rfl (by decide) (mc flX1_19) (by decide) hini rfl (tyX1_ok 10 (by decide)) rfl rfl (Nat.le_of_ble_eq_true rfl) dX1_init_33 rfl ?_
  refine zz_aload_n X dX1_init_36 rfl rfl ?_
  refine zz_bipush (v := 16) X dX1_init_37 (by decide) ?_
  refine zz_newa (atype := .int) (ty := .int) (N' := 16) (a0 := (16, .inl (fun _ => 0))) X (mc ar_int) rfl (fun _ => rfl) (by decide) (by decide) (by decide) (by decide) (by decide) dX1_init_39 (fun q4 c4 X => ?_)
  refine zz_putF (q0 := 0) (k0 := 11) (ty := tyX1 11) (ws' := [(h, .inr (1, [.int 0, .int 0, .int 0, .int 0, .int 0, .int 0, .int 0, .ref q0, .ref q1, .ref q2, .ref q3, .ref q4, .null, .null, .null, .null])), (q0, .inl (c0, 16, .inl (fun _ => 0))), (q1, .inl (c1, 16, .inl (fun _ => 0))), (q2, .inl (c2, 16, .inl (fun _ => 0))), (q3, .inl (c3, 16, .inl (fun _ => 0))), (q4, .inl (c4, 16, .inl (fun _ => 0)))]) X imX1 tyX1 tyX1_ok nmX1 rfl rfl (by decide) (mc flX1_23) (by decide) hini rfl (tyX1_ok 11 (by decide)) rfl rfl (Nat.le_of_ble_eq_true rfl) dX1_init_41 rfl ?_
  refine zz_aload_n X dX1_init_44 rfl rfl ?_
  refine zz_bipush (v := 16) X dX1_init_45 (by decide) ?_
  refine zz_newa (atype := .boolean) (ty := .boolean) (N' := 16) (a0 := (16, .inl (fun _ => 0))) X (mc ar_boolean) rfl (fun _ => rfl) (by decide) (by decide) (by decide) (by decide) (by decide) dX1_init_47 (fun q5 c5 X => ?_)
  refine zz_putF (q0 := 0) (k0 := 12) (ty := tyX1 12) (ws' := [(h, .inr (1, [.int 0, .int 0, .int 0, .int 0, .int 0, .int 0, .int 0, .ref q0, .ref q1, .ref q2, .ref q3, .ref q4, .ref q5, .null, .null, .null])), (q0, .inl (c0, 16, .inl (fun _ => 0))), (q1, .inl (c1, 16, .inl (fun _ => 0))), (q2, .inl (c2, 16, .inl (fun _ => 0))), (q3, .inl (c3, 16, .inl (fun _ => 0))), (q4, .inl (c4, 16, .inl (fun _ => 0))), (q5, .inl (c5, 16, .inl (fun _ => 0)))]) X imX1 tyX1 tyX1_ok nmX1 rfl rfl (by decide) (mc flX1_26) (by decide) hini rfl (tyX1_ok 12 (by decide)) rfl rfl (Nat.le_of_ble_eq_true rfl) dX1_init_49 rfl ?_
  refine zz_aload_n X dX1_init_52 rfl rfl ?_
  refine zz_bipush (v := 16) X dX1_init_53 (by decide) ?_
  refine zz_newa (atype := .int) (ty := .int) (N' := 16) (a0 := (16, .inl (fun _ => 0))) X (mc ar_int) rfl (fun _ => rfl) (by decide) (by decide) (by decide) (by decide) (by decide) dX1_init_55 (fun q6 c6 X => ?_)
  refine zz_putF (q0 := 0) (k0 := 13) (ty := tyX1 13) (ws' := [(h, .inr (1, [.int 0, .int 0, .int 0, .int 0, .int 0, .int 0, .int 0, .ref q0, .ref q1, .ref q2, .ref q3, .ref q4, .ref q5, .ref q6, .null, .null])), (q0, .inl (c0, 16, .inl (fun _ => 0))), (q1, .inl (c1, 16, .inl (fun _ => 0))), (q2, .inl (c2, 16, .inl (fun _ => 0))), (q3, .inl (c3, 16, .inl (fun _ => 0))), (q4, .inl (c4, 16, .inl (fun _ => 0))), (q5, .inl (c5, 16, .inl (fun _ => 0))), (q6, .inl (c6, 16, .inl (fun _ => 0)))]) X imX1 tyX1 tyX1_ok nmX1 rfl rfl (by decide) (mc flX1_29) (by decide) hini rfl (tyX1_ok 13 (by decide)) rfl rfl (Nat.le_of_ble_eq_true rfl) dX1_init_57 rfl ?_
  refine zz_aload_n X dX1_init_60 rfl rfl ?_
  refine zz_bipush (v := 16) X dX1_init_61 (by decide) ?_
  refine zz_newa (atype := .int) (ty := .int) (N' := 16) (a0 := (16, .inl (fun _ => 0))) X (mc ar_int) rfl (fun _ => rfl) (by decide) (by decide) (by decide) (by decide) (by decide) dX1_init_63 (fun q7 c7 X => ?_)
  refine zz_putF (q0 := 0) (k0 := 14) (ty := tyX1 14) (ws' := [(h, .inr (1, [.int 0, .int 0, .int 0, .int 0, .int 0, .int 0, .int 0, .ref q0, .ref q1, .ref q2, .ref q3, .ref q4, .ref q5, .ref q6, .ref q7, .null])), (q0, .inl (c0, 16, .inl (fun _ => 0))), (q1, .inl (c1, 16, .inl (fun _ => 0))), (q2, .inl (c2, 16, .inl (fun _ => 0))), (q3, .inl (c3, 16, .inl (fun _ => 0))), (q4, .inl (c4, 16, .inl (fun _ => 0))), (q5, .inl (c5, 16, .inl (fun _ => 0))), (q6, .inl (c6, 16, .inl (fun _ => 0))), (q7, .inl (c7, 16, .inl (fun _ => 0)))]) X imX1 tyX1 tyX1_ok nmX1 rfl rfl (by decide) (mc flX1_32) (by decide) hini rfl (tyX1_ok 14 (by decide)) rfl rfl (Nat.le_of_ble_eq_true rfl) dX1_init_65 rfl ?_
  refine zz_aload_n X dX1_init_68 rfl rfl ?_
  refine zz_bipush (v := 16) X dX1_init_69 (by decide) ?_
  refine zz_newa (atype := .int) (ty := .int) (N' := 16) (a0 := (16, .inl (fun _ => 0))) X (mc ar_int) rfl (fun _ => rfl) (by decide) (by decide) (by decide) (by decide) (by decide) dX1_init_71 (fun q8 c8 X => ?_)
  refine zz_putF (q0 := 0) (k0 := 15) (ty := tyX1 15) (ws' := [(h, .inr (1, [.int 0, .int 0, .int 0, .int 0, .int 0, .int 0, .int 0, .ref q0, .ref q1, .ref q2, .ref q3, .ref q4, .ref q5, .ref q6, .ref q7, .ref q8])), (q0, .inl (c0, 16, .inl (fun _ => 0))), (q1, .inl (c1, 16, .inl (fun _ => 0))), (q2, .inl (c2, 16, .inl (fun _ => 0))), (q3, .inl (c3, 16, .inl (fun _ => 0))), (q4, .inl (c4, 16, .inl (fun _ => 0))), (q5, .inl (c5, 16, .inl (fun _ => 0))), (q6, .inl (c6, 16, .inl (fun _ => 0))), (q7, .inl (c7, 16, .inl (fun _ => 0))), (q8, .inl (c8, 16, .inl (fun _ => 0)))]) X imX1 tyX1 tyX1_ok nmX1 rfl rfl (by decide) (mc flX1_35) (by decide) hini rfl (tyX1_ok 15 (by decide)) rfl rfl (Nat.le_of_ble_eq_true rfl) dX1_init_73 rfl ?_
  obtain ⟨a, ea⟩ : ∃ a : Nat → Nat, a = mk9 q0 q1 q2 q3 q4 q5 q6 q7 q8 := ⟨_, rfl⟩
  obtain ⟨ca, eca⟩ : ∃ ca : Nat → ClassId, ca = mk9 c0 c1 c2 c3 c4 c5 c6 c7 c8 := ⟨_, rfl⟩
  have X : zz_X p s m' [Value.ref h, .int x].toArray c cX1_init 2 wsX1_init RX1 D vwCl (tyM ca) A := by rw [eca]; exact X
  refine zz_ws (ws' := wM h a ca rZ) (by rw [ea, eca]; rfl) ?_
  refine zz_widen (k2 := 9) (n2 := 144) (by decide) (by decide) ?_
  have fin : ∀ z : Int32, z = nI (rN x) → zz_V p l e { frames := 1, cells := 9, slots := 144, locals := 14 } s m' [.ref h, .int x].toArray below meth c 9 144 Q 2 D vwCl A (wM h a ca rZ) [some (.ref h), some (.int x)] 96 [.int z, .ref h] := by
    intro z ez
    subst ez
    refine zz_putF (q0 := 0) (k0 := 1) (ty := tyX1 1) (ws' := wM h a ca (mU0 (rN x))) X imX1 tyX1 tyX1_ok nmX1 rfl rfl (by decide) (mc flX1_38) (by decide) hini rfl (tyX1_ok 1 (by decide)) rfl rfl (Nat.le_of_ble_eq_true rfl) dX1_init_96 rfl ?_
    exact Ev (a, ca) _ _ _ _ _ _ X dX1_init_99 trivial rfl rfl (Nat.le_refl _) (Nat.le_refl _)
  refine zz_aload_n X dX1_init_76 rfl rfl ?_
  refine zz_iload_n X dX1_init_77 rfl rfl ?_
  refine zz_iconst (v := 1) X dX1_init_78 (by decide) ?_
  refine zz_icmp_ge (tgt := 86) X dX1_init_79 (by decide) (fun h1 => ?_) (fun h1 => ?_)
  · refine zz_iload_n X dX1_init_86 rfl rfl ?_
    refine zz_iconst (v := 4) X dX1_init_87 (by decide) ?_
    refine zz_icmp_le (tgt := 95) X dX1_init_88 (by decide) (fun h2 => ?_) (fun h2 => ?_)
    · refine zz_iload_n X dX1_init_95 rfl rfl ?_
      exact fin _ ((rN_eq2 x).1 h1 h2)
    · refine zz_iconst (v := 4) X dX1_init_91 (by decide) ?_
      refine zz_goto (tgt := 96) X dX1_init_92 (by decide) ?_
      exact fin _ ((rN_eq2 x).2.1 h1 h2)
  · refine zz_iconst (v := 1) X dX1_init_82 (by decide) ?_
    refine zz_goto (tgt := 96) X dX1_init_83 (by decide) ?_
    exact fin _ ((rN_eq2 x).2.2 h1)
end
section
/-! WHAT HOLDS BETWEEN THE CLASS'S STATE u AND THE REFERENCE'S v AFTER n CALLS: m rows; pl k is the place of row k. -/
/-- a wait for a time: what is left and what has gone come to the hour -/
def zTm (a b c : Int32) : Prop := 0 < a.toInt ∧ (c.toInt = a.toInt + b.toInt ∨ (c.toInt = 2147483647 ∧ 2147483647 ≤ a.toInt + b.toInt))
/-- the wait of a row that is blocked, at place i -/
def zWt (u v : St) (i k : Nat) : Prop := u 5 i = v 7 k ∧ (v 7 k = 1 → u 6 i = v 8 k) ∧ (v 7 k = 3 → zTm (u 7 i) (v 9 3) (v 8 k))
def zRow (N m : Nat) (u v : St) (i k : Nat) : Prop :=
  i < 15 ∧ v 1 k = nI i ∧ u 0 i = v 0 k ∧ u 2 i = v 2 k ∧ u 3 i = v 5 k ∧ u 4 i = (if v 3 k = 0 then 0 else v 4 k) ∧ u 1 i = mSta v m k ∧
  (u 1 i = 3 → zWt u v i k) ∧ (v 6 k = -1 ∨ (v 3 k = 0 ∧ v 7 k = 0 ∧ ∃ j, j < N ∧ v 6 k = nI j ∧ u 8 j = nI i))
/-- the rows' numbers, places, parents -/
def zNum (m lt : Nat) (v : St) (pl : Nat → Nat) : Prop :=
  (∀ k, k < m → ∃ q, 1 ≤ q ∧ q ≤ lt ∧ v 0 k = nI q) ∧ (∀ k j, k < m → j < m → v 0 k = v 0 j → k = j) ∧ (∀ k j, k < m → j < m → pl k = pl j → k = j) ∧
  (∀ k, k < m → (v 0 k = 1 ↔ pl k = 0)) ∧ (∀ k, k < m → v 0 k = 1 → v 2 k = 0) ∧ (∀ k, k < m → ¬ v 2 k = v 0 k) ∧ (0 < m → ∃ k, k < m ∧ pl k = 0)
def zCov (N m : Nat) (u v : St) (pl : Nat → Nat) : Prop :=
  (∀ i, i < 15 → ¬ u 1 i = 0 → ∃ k, k < m ∧ pl k = i) ∧ (∀ i, i < 15 → u 1 i = 0 → u 3 i = 0 ∧ u 4 i = 0) ∧ (∀ j, j < N → u 8 j = -1 ∨ ∃ k, k < m ∧ u 8 j = nI (pl k) ∧ v 6 k = nI j)
def zSc (N n m t lt tk : Nat) (u v : St) : Prop :=
  v 9 2 = nI m ∧ m ≤ 15 ∧ v 9 0 = 0 ∧ v 9 1 = nI N ∧ mB v ∧ t < 15 ∧ v 9 5 = nI t ∧ u 9 3 = v 9 6 ∧ 1 ≤ N ∧ N ≤ 4 ∧ u 9 2 = v 9 3 ∧ u 9 1 = v 9 4 ∧ v 9 3 = nI tk ∧ tk ≤ n ∧ v 9 4 = nI lt ∧ lt ≤ n ∧ n ≤ 1000 ∧ (0 < m → u 9 0 = v 9 5) ∧ ∃ t0, t0 < 15 ∧ u 9 0 = nI t0
def zB (N n m t : Nat) (u v : St) : Prop := ∃ (lt tk : Nat) (pl : Nat → Nat), zSc N n m t lt tk u v ∧ zNum m lt v pl ∧ (∀ k, k < m → zRow N m u v (pl k) k) ∧ zCov N m u v pl
/-- the two states go on alike -/
def zN (N n : Nat) (u v : St) : Prop := ∃ m t, zB N n m t u v
theorem zB.m {N n m t : Nat} {u v : St} (h : zB N n m t u v) : v 9 2 = nI m := by
  obtain ⟨lt, tk, pl, h, -⟩ := h
  exact h.1
theorem zB.m15 {N n m t : Nat} {u v : St} (h : zB N n m t u v) : m ≤ 15 := by
  obtain ⟨lt, tk, pl, h, -⟩ := h
  exact h.2.1
theorem zB.th {N n m t : Nat} {u v : St} (h : zB N n m t u v) : v 9 0 = 0 := by
  obtain ⟨lt, tk, pl, h, -⟩ := h
  exact h.2.2.1
theorem zB.b {N n m t : Nat} {u v : St} (h : zB N n m t u v) : mB v := by
  obtain ⟨lt, tk, pl, h, -⟩ := h
  exact h.2.2.2.2.1
theorem zB.t {N n m t : Nat} {u v : St} (h : zB N n m t u v) : t < 15 ∧ v 9 5 = nI t := by
  obtain ⟨lt, tk, pl, h, -⟩ := h
  exact ⟨h.2.2.2.2.2.1, h.2.2.2.2.2.2.1⟩
theorem zB.I {N n m t : Nat} {u v : St} (h : zB N n m t u v) : rI N u := by
  obtain ⟨lt, tk, pl, h, h2, h3, h4⟩ := h
  refine ⟨fun j hj => ?_, h.2.2.2.2.2.2.2.2.2.2.2.2.2.2.2.2.2.2⟩
  rcases h4.2.2 j hj with q | ⟨k, hk, q, -⟩
  · exact Or.inl q
  · exact Or.inr ⟨pl k, (h3 k hk).1, q⟩
theorem zB.N {N n m t : Nat} {u v : St} (h : zB N n m t u v) : 1 ≤ N ∧ N ≤ 4 := by
  obtain ⟨lt, tk, pl, h, -⟩ := h
  exact ⟨h.2.2.2.2.2.2.2.2.1, h.2.2.2.2.2.2.2.2.2.1⟩
end
section
theorem mFnd_cases {f : Nat → Int32} {x : Int32} {m : Nat} : (mFnd f x m = -1 ∧ ∀ k, k < m → ¬ f k = x) ∨ ∃ k, k < m ∧ f k = x ∧ mFnd f x m = nI k := by
  have h := zl_inv (f := fun k (r : Int32) => if f k = x then nI k else r) (I := fun i r => (r = -1 ∧ ∀ k, k < i → ¬ f k = x) ∨ ∃ k, k < i ∧ f k = x ∧ r = nI k) m 0 (-1) (fun j r _ _ hr => by
    show ((if f j = x then nI j else r) = -1 ∧ _) ∨ _
    by_cases e : f j = x
    · rw [if_pos e]
      exact Or.inr ⟨j, by omega, e, rfl⟩
    · rw [if_neg e]
      rcases hr with ⟨q, q2⟩ | ⟨k, a, b, c⟩
      · refine Or.inl ⟨q, fun k hk => ?_⟩
        rcases Nat.lt_or_eq_of_le (Nat.le_of_lt_succ hk) with z | z
        · exact q2 k z
        · rw [z]; exact e
      · exact Or.inr ⟨k, by omega, b, c⟩) (Or.inl ⟨rfl, fun k hk => absurd hk (by omega)⟩)
  rw [Nat.zero_add] at h
  exact h
theorem mFnd_eq {f : Nat → Int32} {x : Int32} {m k : Nat} (hk : k < m) (hf : f k = x) (hu : ∀ j, j < m → f j = x → j = k) : mFnd f x m = nI k := by
  rcases mFnd_cases (f := f) (x := x) (m := m) with ⟨-, q⟩ | ⟨j, a, b, c⟩
  · exact absurd hf (q k hk)
  · rw [c, hu j a b]
theorem mFnd_no {f : Nat → Int32} {x : Int32} {m : Nat} (h : ∀ k, k < m → ¬ f k = x) : mFnd f x m = -1 := by
  rcases mFnd_cases (f := f) (x := x) (m := m) with ⟨q, -⟩ | ⟨j, a, b, c⟩
  · exact q
  · exact absurd b (h j a)
theorem i_nle {a b : Int32} (h : ¬ a ≤ b) : b ≤ a := by
  rw [Int32.le_iff_toInt_le] at *
  omega
theorem i_tr {a b c : Int32} (h : a ≤ b) (h2 : b ≤ c) : a ≤ c := by
  rw [Int32.le_iff_toInt_le] at *
  omega
theorem i_rf (a : Int32) : a ≤ a := by
  rw [Int32.le_iff_toInt_le]
  omega
theorem mEnd_cases {v : St} {r m : Nat} (hm : m < 2 ^ 31) : (mEnd v m r = -1 ∧ ∀ c, c < m → v 2 c = v 0 r → v 3 c = 0) ∨ ∃ c, c < m ∧ v 2 c = v 0 r ∧ ¬ v 3 c = 0 ∧ mEnd v m r = nI c ∧ ∀ d, d < m → v 2 d = v 0 r → ¬ v 3 d = 0 → v 1 c ≤ v 1 d := by
  have h := zl_inv (f := mEnd1 v r) (I := fun i q => (q = -1 ∧ ∀ c, c < i → v 2 c = v 0 r → v 3 c = 0) ∨ ∃ c, c < i ∧ c < m ∧ v 2 c = v 0 r ∧ ¬ v 3 c = 0 ∧ q = nI c ∧ ∀ d, d < i → v 2 d = v 0 r → ¬ v 3 d = 0 → v 1 c ≤ v 1 d) m 0 (-1) (fun j q _ hj hr => by
    have hjm : j < m := by omega
    by_cases h1 : v 2 j = v 0 r
    · by_cases h2 : v 3 j = 0
      · have e : mEnd1 v r j q = q := by simp [mEnd1, h1, h2]
        rw [e]
        rcases hr with ⟨a, b⟩ | ⟨c, a0, a, b1, b2, b3, b4⟩
        · refine Or.inl ⟨a, fun c hc hc2 => ?_⟩
          rcases Nat.lt_or_eq_of_le (Nat.le_of_lt_succ hc) with z | z
          · exact b c z hc2
          · rw [z]; exact h2
        · refine Or.inr ⟨c, by omega, a, b1, b2, b3, fun d hd d1 d2 => ?_⟩
          rcases Nat.lt_or_eq_of_le (Nat.le_of_lt_succ hd) with z | z
          · exact b4 d z d1 d2
          · rw [z] at d2; exact absurd h2 d2
      · rcases hr with ⟨a, b⟩ | ⟨c, a0, a, b1, b2, b3, b4⟩
        · have e : mEnd1 v r j q = nI j := by simp [mEnd1, h1, h2, a, m1_neg]
          rw [e]
          refine Or.inr ⟨j, by omega, hjm, h1, h2, rfl, fun d hd d1 d2 => ?_⟩
          rcases Nat.lt_or_eq_of_le (Nat.le_of_lt_succ hd) with z | z
          · exact absurd (b d z d1) d2
          · rw [z]; exact i_rf _
        · have np := nI_pos (show c < 2 ^ 31 by omega)
          have cc := nI_clamp (show c < 2 ^ 31 by omega)
          by_cases h4 : v 1 c ≤ v 1 j
          · have e : mEnd1 v r j q = q := by simp [mEnd1, h1, h2, b3, np, cl, cc, h4]
            rw [e]
            refine Or.inr ⟨c, by omega, a, b1, b2, b3, fun d hd d1 d2 => ?_⟩
            rcases Nat.lt_or_eq_of_le (Nat.le_of_lt_succ hd) with z | z
            · exact b4 d z d1 d2
            · rw [z]; exact h4
          · have e : mEnd1 v r j q = nI j := by simp [mEnd1, h1, h2, b3, np, cl, cc, h4]
            rw [e]
            refine Or.inr ⟨j, by omega, hjm, h1, h2, rfl, fun d hd d1 d2 => ?_⟩
            rcases Nat.lt_or_eq_of_le (Nat.le_of_lt_succ hd) with z | z
            · exact i_tr (i_nle h4) (b4 d z d1 d2)
            · rw [z]; exact i_rf _
    · have e : mEnd1 v r j q = q := by simp [mEnd1, h1]
      rw [e]
      rcases hr with ⟨a, b⟩ | ⟨c, a0, a, b1, b2, b3, b4⟩
      · refine Or.inl ⟨a, fun c hc hc2 => ?_⟩
        rcases Nat.lt_or_eq_of_le (Nat.le_of_lt_succ hc) with z | z
        · exact b c z hc2
        · rw [z] at hc2; exact absurd hc2 h1
      · refine Or.inr ⟨c, by omega, a, b1, b2, b3, fun d hd d1 d2 => ?_⟩
        rcases Nat.lt_or_eq_of_le (Nat.le_of_lt_succ hd) with z | z
        · exact b4 d z d1 d2
        · rw [z] at d1; exact absurd d1 h1) (Or.inl ⟨rfl, fun c hc => absurd hc (by omega)⟩)
  rw [Nat.zero_add] at h
  rcases h with q | ⟨c, -, a, b⟩
  · exact Or.inl q
  · exact Or.inr ⟨c, a, b⟩
/-- no child of the row has ended -/
def zNE (v : St) (m k : Nat) : Prop := ∀ c, c < m → v 2 c = v 0 k → v 3 c = 0
theorem mEnd_neg {v : St} {r m : Nat} (hm : m ≤ 15) : mEnd v m r < 0 ↔ zNE v m r := by
  rcases mEnd_cases (v := v) (r := r) (show m < 2 ^ 31 by omega) with ⟨a, b⟩ | ⟨c, a, b1, b2, b3, b4⟩
  · exact ⟨fun _ => b, fun _ => by rw [a]; exact m1_neg⟩
  · constructor
    · intro q
      rw [b3] at q
      exact absurd q (nI_pos (by omega))
    · intro q
      exact absurd (q c a b1) b2
def sF (en on wt wh tk : Int32) (b : Bool) : Int32 := if en = 0 then (if on < 0 then (if wt = 1 then 3 else if wt = 2 then (if b = true then 3 else 1) else if wt = 3 then (if wh ≤ tk then 1 else 3) else 1) else 2) else 4
theorem mSta_sF (v : St) (m k : Nat) : mSta v m k = sF (v 3 k) (v 6 k) (v 7 k) (v 8 k) (v 9 3) (decide (mEnd v m k < 0)) := by
  unfold mSta sF
  simp only [decide_eq_true_eq]
theorem sF_in (en on wt wh tk : Int32) (b : Bool) : sF en on wt wh tk b = 1 ∨ sF en on wt wh tk b = 2 ∨ sF en on wt wh tk b = 3 ∨ sF en on wt wh tk b = 4 := by
  unfold sF
  split
  · split
    · split
      · exact Or.inr (Or.inr (Or.inl rfl))
      · split
        · split
          · exact Or.inr (Or.inr (Or.inl rfl))
          · exact Or.inl rfl
        · split
          · split
            · exact Or.inl rfl
            · exact Or.inr (Or.inr (Or.inl rfl))
          · exact Or.inl rfl
    · exact Or.inr (Or.inl rfl)
  · exact Or.inr (Or.inr (Or.inr rfl))
theorem sF_ne (en on wt wh tk : Int32) (b : Bool) : ¬ sF en on wt wh tk b = 0 := by
  rcases sF_in en on wt wh tk b with q | q | q | q <;> rw [q] <;> decide
theorem mSta_ne (v : St) (m k : Nat) : ¬ mSta v m k = 0 := by
  rw [mSta_sF]
  exact sF_ne _ _ _ _ _ _
/-- rows that are the same on both sides stay related -/
theorem zRow_cg {N m m' i k k' : Nat} {u v u' v' : St} (h : zRow N m u v i k) (hu : ∀ q, q < 8 → u' q i = u q i) (hv : ∀ q, q < 9 → v' q k' = v q k) (ht : v' 9 3 = v 9 3) (hm : m ≤ 15) (hm' : m' ≤ 15) (he : v 7 k = 2 → (zNE v' m' k' ↔ zNE v m k)) (h8 : ∀ j, j < N → u 8 j = nI i → u' 8 j = nI i) : zRow N m' u' v' i k' := by
  obtain ⟨a1, a2, a3, a4, a5, a6, a7, a8, a9⟩ := h
  have hd : sF (v 3 k) (v 6 k) (v 7 k) (v 8 k) (v 9 3) (decide (mEnd v' m' k' < 0)) = sF (v 3 k) (v 6 k) (v 7 k) (v 8 k) (v 9 3) (decide (mEnd v m k < 0)) := by
    by_cases q : v 7 k = 2
    · have : decide (mEnd v' m' k' < 0) = decide (mEnd v m k < 0) := by
        rw [decide_eq_decide, mEnd_neg hm', mEnd_neg hm]
        exact he q
      rw [this]
    · unfold sF
      simp only [q, if_false]
  refine ⟨a1, ?_, ?_, ?_, ?_, ?_, ?_, ?_, ?_⟩
  · rw [hv 1 (by decide)]; exact a2
  · rw [hu 0 (by decide), hv 0 (by decide)]; exact a3
  · rw [hu 2 (by decide), hv 2 (by decide)]; exact a4
  · rw [hu 3 (by decide), hv 5 (by decide)]; exact a5
  · rw [hu 4 (by decide), hv 3 (by decide), hv 4 (by decide)]; exact a6
  · rw [hu 1 (by decide), mSta_sF, hv 3 (by decide), hv 6 (by decide), hv 7 (by decide), hv 8 (by decide), ht, hd, ← mSta_sF]; exact a7
  · rw [hu 1 (by decide)]
    intro q
    have b := a8 q
    unfold zWt at *
    rw [hu 5 (by decide), hu 6 (by decide), hu 7 (by decide), hv 7 (by decide), hv 8 (by decide), ht]
    exact b
  · rw [hv 6 (by decide), hv 3 (by decide), hv 7 (by decide)]
    rcases a9 with q | ⟨q1, q2, j, q3, q4, q5⟩
    · exact Or.inl q
    · exact Or.inr ⟨q1, q2, j, q3, q4, h8 j q3 q5⟩
theorem zNE_cg {m : Nat} {v v' : St} {k : Nat} (h : ∀ c, c < m → v' 2 c = v 2 c ∧ v' 3 c = v 3 c) (h0 : v' 0 k = v 0 k) : zNE v' m k ↔ zNE v m k := by
  unfold zNE
  constructor
  · intro q c hc e
    have := q c hc (by rw [(h c hc).1, h0]; exact e)
    rwa [(h c hc).2] at this
  · intro q c hc e
    rw [(h c hc).2]
    rw [(h c hc).1, h0] at e
    exact q c hc e
theorem nI_inj {a b : Nat} (h : nI a = nI b) (ha : a < 2 ^ 31) (hb : b < 2 ^ 31) : a = b := (nI_eq ha hb).mp h
/-- the row at place i, from its state -/
theorem zFnd_pl {N m : Nat} {u v : St} {pl : Nat → Nat} {lt : Nat} (M : zNum m lt v pl) (Rw : ∀ k, k < m → zRow N m u v (pl k) k) {k : Nat} (hk : k < m) : mFnd (v 1) (nI (pl k)) m = nI k := by
  refine mFnd_eq hk (Rw k hk).2.1 (fun j hj e => ?_)
  rw [(Rw j hj).2.1] at e
  have h1 := (Rw j hj).1
  have h2 := (Rw k hk).1
  exact M.2.2.1 j k hj hk (nI_inj e (by omega) (by omega))
theorem zFnd_no {N m : Nat} {u v : St} {pl : Nat → Nat} (Rw : ∀ k, k < m → zRow N m u v (pl k) k) {i : Nat} (hi : i < 15) (h0 : u 1 i = 0) : mFnd (v 1) (nI i) m = -1 := by
  refine mFnd_no (fun k hk e => ?_)
  rw [(Rw k hk).2.1] at e
  have h1 := (Rw k hk).1
  have := nI_inj e (by omega) (by omega)
  have h7 := (Rw k hk).2.2.2.2.2.2.1
  rw [this, h0] at h7
  exact mSta_ne v m k h7.symm
theorem zFnd_nu {m lt : Nat} {v : St} {pl : Nat → Nat} (M : zNum m lt v pl) {k : Nat} (hk : k < m) : mFnd (v 0) (v 0 k) m = nI k := mFnd_eq hk rfl (fun j hj e => M.2.1 j k hj hk e)
/-- who is on a processor: none on both sides, or a row and its place -/
theorem zOn {N n m t lt tk : Nat} {u v : St} {pl : Nat → Nat} (S : zSc N n m t lt tk u v) (M : zNum m lt v pl) (Rw : ∀ k, k < m → zRow N m u v (pl k) k) (Cv : zCov N m u v pl) (x : Int32) :
    (rOn N u x = -1 ∧ mRun v m x = -1) ∨ ∃ j r, j < N ∧ r < m ∧ x = nI j ∧ v 6 r = nI j ∧ u 8 j = nI (pl r) ∧ rOn N u x = nI (pl r) ∧ mRun v m x = nI r ∧ v 3 r = 0 ∧ v 7 r = 0 := by
  have hN : N < 2 ^ 31 := by have := S.2.2.2.2.2.2.2.2.2.1; omega
  have h1 := S.2.2.2.1
  rcases pk_ix x hN with q | q | ⟨j, hj, rfl⟩
  · refine Or.inl ⟨?_, ?_⟩
    · simp [rOn, rIsP, q]
    · simp [mRun, q]
  · refine Or.inl ⟨?_, ?_⟩
    · have : rIsP N x = 0 := by
        unfold rIsP
        split
        · rfl
        · first | rfl | rw [if_pos q]
      rw [rOn, if_pos this]
    · unfold mRun
      split
      · rfl
      · rw [h1, if_pos q]
  · have er : mRun v m (nI j) = mFnd (v 6) (nI j) m := by
      unfold mRun
      rw [if_neg (nI_pos (by omega)), h1, if_neg (nI_ge hj hN)]
    rcases Cv.2.2 j hj with e8 | ⟨r, hr, e8, e6⟩
    · refine Or.inl ⟨by rw [rOn_in hN hj, e8], ?_⟩
      rw [er]
      refine mFnd_no (fun k hk e6 => ?_)
      rcases (Rw k hk).2.2.2.2.2.2.2.2 with z | ⟨-, -, j', hj', e1, e2⟩
      · rw [z] at e6
        exact nI_m1 (show j < 2 ^ 31 by omega) e6.symm
      · rw [e6] at e1
        have := nI_inj e1 (by omega) (by omega)
        subst this
        rw [e8] at e2
        have h15 := (Rw k hk).1
        exact nI_m1 (show pl k < 2 ^ 31 by omega) e2.symm
    · have hz : v 3 r = 0 ∧ v 7 r = 0 := by
        rcases (Rw r hr).2.2.2.2.2.2.2.2 with z | ⟨z1, z2, -⟩
        · rw [z] at e6
          exact absurd e6.symm (nI_m1 (show j < 2 ^ 31 by omega))
        · exact ⟨z1, z2⟩
      refine Or.inr ⟨j, r, hj, hr, rfl, e6, e8, by rw [rOn_in hN hj, e8], ?_, hz.1, hz.2⟩
      rw [er]
      refine mFnd_eq hr e6 (fun k hk ek => ?_)
      rcases (Rw k hk).2.2.2.2.2.2.2.2 with z | ⟨-, -, j', hj', e1, e2⟩
      · rw [z] at ek
        exact absurd ek.symm (nI_m1 (show j < 2 ^ 31 by omega))
      · rw [ek] at e1
        have := nI_inj e1 (by omega) (by omega)
        subst this
        rw [e8] at e2
        have h15 := (Rw k hk).1
        have h16 := (Rw r hr).1
        exact (M.2.2.1 r k hr hk (nI_inj e2 (by omega) (by omega))).symm
theorem zSc.up {N n m t lt tk : Nat} {u v : St} (S : zSc N n m t lt tk u v) (hn : n < 600) : zSc N (n + 1) m t lt tk u v := by
  obtain ⟨a1, a2, a3, a4, a5, a6, a7, a8, a9, b1, b2, b3, b4, b5, b6, b7, b8, b9⟩ := S
  exact ⟨a1, a2, a3, a4, a5, a6, a7, a8, a9, b1, b2, b3, b4, by omega, b6, by omega, by omega, b9⟩
theorem zB.up {N n m t : Nat} {u v : St} (h : zB N n m t u v) (hn : n < 600) : zN N (n + 1) u v := by
  obtain ⟨lt, tk, pl, S, M, Rw, Cv⟩ := h
  exact ⟨m, t, lt, tk, pl, S.up hn, M, Rw, Cv⟩
end
section
theorem mWts_at (v : St) (r : Nat) (x y : Int32) (q k : Nat) : mWts v r x y q k = if q = 8 ∧ k = r then y else if q = 7 ∧ k = r then x else if q = 6 ∧ k = r then -1 else v q k := by
  simp only [mWts, up2_at]
theorem rOff_at (u : St) (j i : Nat) (x : Int32) (q k : Nat) : rOff u j i x q k = if q = 1 ∧ k = i then x else if q = 8 ∧ k = j then -1 else u q k := by
  simp only [rOff, up2_at]
/-- a row leaves its processor: it waits for something, or for nothing -/
theorem zOffB {N n m t lt tk : Nat} {u v u' : St} {pl : Nat → Nat} (S : zSc N n m t lt tk u v) (M : zNum m lt v pl) (Rw : ∀ k, k < m → zRow N m u v (pl k) k) (Cv : zCov N m u v pl) (hn : n < 600)
    {r j : Nat} (hr : r < m) (hj : j < N) (e6 : v 6 r = nI j) (h3 : v 3 r = 0) (w y : Int32)
    (hu : ∀ q a, ¬ (q = 8 ∧ a = j) → ¬ (q = 1 ∧ a = pl r) → ¬ (q = 5 ∧ a = pl r) → ¬ (q = 6 ∧ a = pl r) → ¬ (q = 7 ∧ a = pl r) → u' q a = u q a) (h8 : u' 8 j = -1)
    (h1 : u' 1 (pl r) = sF 0 (-1) w y (v 9 3) (decide (mEnd v m r < 0)))
    (hw : u' 1 (pl r) = 3 → u' 5 (pl r) = w ∧ (w = 1 → u' 6 (pl r) = y) ∧ (w = 3 → zTm (u' 7 (pl r)) (v 9 3) y)) : zN N (n + 1) u' (mWts v r w y) := by
  have hm := S.2.1
  have hN : N ≤ 4 := S.2.2.2.2.2.2.2.2.2.1
  have hother : ∀ k, k < m → ¬ k = r → ¬ pl k = pl r := fun k hk hkr e => hkr (M.2.2.1 k r hk hr e)
  have hne : ∀ k, k < m → (zNE (mWts v r w y) m k ↔ zNE v m k) := fun k hk => zNE_cg (fun c _ => by constructor <;> simp [mWts_at]) (by simp [mWts_at])
  have hd : decide (mEnd (mWts v r w y) m r < 0) = decide (mEnd v m r < 0) := by
    rw [decide_eq_decide, mEnd_neg hm, mEnd_neg hm]
    exact hne r hr
  have ha : ∀ q a, ¬ q = 8 → ¬ q = 1 → ¬ q = 5 → ¬ q = 6 → ¬ q = 7 → u' q a = u q a := fun q a b1 b2 b3 b4 b5 => hu q a (fun z => b1 z.1) (fun z => b2 z.1) (fun z => b3 z.1) (fun z => b4 z.1) (fun z => b5 z.1)
  refine ⟨m, t, lt, tk, pl, ?_, ?_, ?_, ?_, ?_, ?_⟩
  · obtain ⟨a1, a2, a3, a4, a5, a6, a7, a8, a9, b1, b2, b3, b4, b5, b6, b7, b8, b9, b0⟩ := S
    have e9 : ∀ a, u' 9 a = u 9 a := fun a => ha 9 a (by decide) (by decide) (by decide) (by decide) (by decide)
    refine ⟨by simpa [mWts_at] using a1, a2, by simpa [mWts_at] using a3, by simpa [mWts_at] using a4, ?_, a6, by simpa [mWts_at] using a7, ?_, a9, b1, ?_, ?_, by simpa [mWts_at] using b4, by omega, by simpa [mWts_at] using b6, by omega, by omega, ?_, ?_⟩
    · intro k hk
      simpa [mWts_at] using a5 k hk
    · rw [e9]; simpa [mWts_at] using a8
    · rw [e9]; simpa [mWts_at] using b2
    · rw [e9]; simpa [mWts_at] using b3
    · rw [e9]; simpa [mWts_at] using b9
    · rw [e9]; exact b0
  · obtain ⟨c1, c2, c3, c4, c5, c6, c7⟩ := M
    refine ⟨fun k hk => by simpa [mWts_at] using c1 k hk, fun k j hk hj => by simpa [mWts_at] using c2 k j hk hj, c3, fun k hk => by simpa [mWts_at] using c4 k hk, fun k hk => by simpa [mWts_at] using c5 k hk, fun k hk => by simpa [mWts_at] using c6 k hk, c7⟩
  · intro k hk
    by_cases e : k = r
    · subst e
      obtain ⟨a1, a2, a3, a4, a5, a6, a7, a8, a9⟩ := Rw k hr
      refine ⟨a1, by simpa [mWts_at] using a2, ?_, ?_, ?_, ?_, ?_, ?_, ?_⟩
      · rw [ha 0 _ (by decide) (by decide) (by decide) (by decide) (by decide)]; simpa [mWts_at] using a3
      · rw [ha 2 _ (by decide) (by decide) (by decide) (by decide) (by decide)]; simpa [mWts_at] using a4
      · rw [ha 3 _ (by decide) (by decide) (by decide) (by decide) (by decide)]; simpa [mWts_at] using a5
      · rw [ha 4 _ (by decide) (by decide) (by decide) (by decide) (by decide)]; simpa [mWts_at] using a6
      · rw [h1, mSta_sF, hd]
        simp [mWts_at, h3]
      · intro q
        have := hw q
        unfold zWt
        simpa [mWts_at] using this
      · exact Or.inl (by simp [mWts_at])
    · have ep := hother k hk e
      refine zRow_cg (Rw k hk) (fun q hq => hu q _ (fun z => by omega) (fun z => ep z.2) (fun z => ep z.2) (fun z => ep z.2) (fun z => ep z.2)) (fun q hq => by simp [mWts_at, e]) (by simp [mWts_at]) hm hm (fun _ => hne k hk) (fun j' hj' e8 => ?_)
      by_cases ej : j' = j
      · subst ej
        rcases (Rw r hr).2.2.2.2.2.2.2.2 with z | ⟨-, -, j2, hj2, z1, z2⟩
        · rw [z] at e6; exact absurd e6.symm (nI_m1 (show j' < 2 ^ 31 by omega))
        · rw [e6] at z1
          have := nI_inj z1 (by omega) (by omega)
          subst this
          rw [e8] at z2
          have g1 := (Rw k hk).1
          have g2 := (Rw r hr).1
          exact absurd (nI_inj z2 (by omega) (by omega)) ep
      · rw [hu 8 j' (fun z => ej z.2) (fun z => absurd z.1 (by decide)) (fun z => absurd z.1 (by decide)) (fun z => absurd z.1 (by decide)) (fun z => absurd z.1 (by decide))]
        exact e8
  · intro i hi h0
    by_cases e : i = pl r
    · exact ⟨r, hr, e.symm⟩
    · rw [hu 1 i (fun z => absurd z.1 (by decide)) (fun z => e z.2) (fun z => absurd z.1 (by decide)) (fun z => absurd z.1 (by decide)) (fun z => absurd z.1 (by decide))] at h0
      exact Cv.1 i hi h0
  · intro i hi h0
    by_cases e : i = pl r
    · rw [e, h1] at h0
      exact absurd h0 (sF_ne _ _ _ _ _ _)
    · rw [hu 1 i (fun z => absurd z.1 (by decide)) (fun z => e z.2) (fun z => absurd z.1 (by decide)) (fun z => absurd z.1 (by decide)) (fun z => absurd z.1 (by decide))] at h0
      rw [ha 3 _ (by decide) (by decide) (by decide) (by decide) (by decide), ha 4 _ (by decide) (by decide) (by decide) (by decide) (by decide)]
      exact Cv.2.1 i hi h0
  · intro j' hj'
    by_cases ej : j' = j
    · rw [ej]; exact Or.inl h8
    · rw [hu 8 j' (fun z => ej z.2) (fun z => absurd z.1 (by decide)) (fun z => absurd z.1 (by decide)) (fun z => absurd z.1 (by decide)) (fun z => absurd z.1 (by decide))]
      rcases Cv.2.2 j' hj' with q | ⟨k, hk, q1, q2⟩
      · exact Or.inl q
      · have e : ¬ k = r := fun z => by
          rw [z, e6] at q2
          exact ej (nI_inj q2 (by omega) (by omega)).symm
        exact Or.inr ⟨k, hk, q1, by simpa [mWts_at, e] using q2⟩
theorem sim_block {N n m t : Nat} {u v : St} (h : zB N n m t u v) (hn : n < 600) (x y : Int32) : (rBlo N u x y).1 = (mBlo v m x y).1 ∧ zN N (n + 1) (rBlo N u x y).2 (mBlo v m x y).2 := by
  have h' := h
  obtain ⟨lt, tk, pl, S, M, Rw, Cv⟩ := h
  rcases zOn S M Rw Cv x with ⟨e1, e2⟩ | ⟨j, r, hj, hr, rfl, e6, e8, e1, e2, z3, z7⟩
  · have a : rBlo N u x y = (-1, u) := by simp [rBlo, e1]
    have b : mBlo v m x y = (-1, v) := by simp [mBlo, e2, nn_m1]
    rw [a, b]
    exact ⟨rfl, h'.up hn⟩
  · have g := (Rw r hr).1
    have hN : N ≤ 4 := S.2.2.2.2.2.2.2.2.2.1
    have hm := S.2.1
    have c1 := nI_clamp (show pl r < 2 ^ 31 by omega)
    have c2 := nI_clamp (show r < 2 ^ 31 by omega)
    have c3 := nI_clamp (show j < 2 ^ 31 by omega)
    have n1 := nI_m1 (show pl r < 2 ^ 31 by omega)
    have n2 := nI_pos' (show r < 2 ^ 31 by omega)
    have a : rBlo N u (nI j) y = (nI (pl r), up2 (up2 (rOff u j (pl r) 3) 5 (pl r) 1) 6 (pl r) y) := by simp [rBlo, e1, n1, cl, c1, c3]
    have b : mBlo v m (nI j) y = ((mWts v r 1 y) 1 r, mWts v r 1 y) := by simp [mBlo, e2, n2, cl, c2]
    rw [a, b]
    refine ⟨by simp [mWts_at, (Rw r hr).2.1], ?_⟩
    refine zOffB S M Rw Cv hn hr hj e6 z3 1 y (fun q a b1 b2 b3 b4 b5 => ?_) ?_ ?_ ?_
    · simp only [up2_at, rOff_at]
      rw [if_neg b4, if_neg b3, if_neg b2, if_neg b1]
    · simp [up2_at, rOff_at]
    · simp [up2_at, rOff_at, sF, m1_neg]
    · intro _
      simp [up2_at, rOff_at]
theorem sim_rest {N n m t : Nat} {u v : St} (h : zB N n m t u v) (hn : n < 600) (x : Int32) : (rRst N u x).1 = (mRst v m x).1 ∧ zN N (n + 1) (rRst N u x).2 (mRst v m x).2 := by
  have h' := h
  obtain ⟨lt, tk, pl, S, M, Rw, Cv⟩ := h
  rcases zOn S M Rw Cv x with ⟨e1, e2⟩ | ⟨j, r, hj, hr, rfl, e6, e8, e1, e2, z3, z7⟩
  · have a : rRst N u x = (-1, u) := by simp [rRst, e1]
    have b : mRst v m x = (-1, v) := by simp [mRst, e2, nn_m1]
    rw [a, b]
    exact ⟨rfl, h'.up hn⟩
  · have g := (Rw r hr).1
    have hN : N ≤ 4 := S.2.2.2.2.2.2.2.2.2.1
    have hm := S.2.1
    have c1 := nI_clamp (show pl r < 2 ^ 31 by omega)
    have c2 := nI_clamp (show r < 2 ^ 31 by omega)
    have c3 := nI_clamp (show j < 2 ^ 31 by omega)
    have n1 := nI_m1 (show pl r < 2 ^ 31 by omega)
    have n2 := nI_pos' (show r < 2 ^ 31 by omega)
    have a : rRst N u (nI j) = (nI (pl r), rOff u j (pl r) 1) := by simp [rRst, e1, n1, cl, c1, c3]
    have b : mRst v m (nI j) = ((mWts v r 0 0) 1 r, mWts v r 0 0) := by simp [mRst, e2, n2, cl, c2]
    rw [a, b]
    refine ⟨by simp [mWts_at, (Rw r hr).2.1], ?_⟩
    refine zOffB S M Rw Cv hn hr hj e6 z3 0 0 (fun q a b1 b2 b3 b4 b5 => ?_) ?_ ?_ ?_
    · simp only [rOff_at]
      rw [if_neg b2, if_neg b1]
    · simp [rOff_at]
    · simp [rOff_at, sF, m1_neg]
    · intro q
      simp [rOff_at] at q
theorem sim_status {N n m t : Nat} {u v : St} (h : zB N n m t u v) (hn : n < 600) : u 9 3 = v 9 6 ∧ zN N (n + 1) u v := by
  refine ⟨?_, h.up hn⟩
  obtain ⟨lt, tk, pl, S, -⟩ := h
  exact S.2.2.2.2.2.2.2.1
end
section
theorem i_add {a b : Int32} (h1 : -2147483648 ≤ a.toInt + b.toInt) (h2 : a.toInt + b.toInt < 2147483648) : (a + b).toInt = a.toInt + b.toInt := by
  rw [Int32.toInt_add, Int.bmod_def]
  split <;> omega
theorem i_sub {a b : Int32} (h1 : -2147483648 ≤ a.toInt - b.toInt) (h2 : a.toInt - b.toInt < 2147483648) : (a - b).toInt = a.toInt - b.toInt := by
  rw [Int32.toInt_sub, Int.bmod_def]
  split <;> omega
theorem i_max (a : Int32) : a.toInt < 2147483648 := by
  have := Int32.toInt_lt a
  omega
theorem i_min (a : Int32) : -2147483648 ≤ a.toInt := by
  have := Int32.le_toInt a
  omega
theorem zSlp {v : St} {tk : Nat} {y : Int32} (ht : v 9 3 = nI tk) (hk : tk ≤ 1000) (hy : 1 ≤ y) : zTm y (v 9 3) (mSlpW v y) ∧ ¬ mSlpW v y ≤ v 9 3 := by
  have e1 : (1 : Int32).toInt = 1 := by decide
  have e2 : (2147483647 : Int32).toInt = 2147483647 := by decide
  have e3 : (v 9 3).toInt = tk := by rw [ht, nI_toInt (by omega)]
  rw [Int32.le_iff_toInt_le, e1] at hy
  have hx := i_max y
  have e4 : ((2147483647 : Int32) - y).toInt = 2147483647 - y.toInt := by rw [i_sub (by omega) (by omega), e2]
  unfold mSlpW zTm
  by_cases q : v 9 3 ≤ 2147483647 - y
  · rw [if_pos q]
    rw [Int32.le_iff_toInt_le, e3, e4] at q
    have e5 : (v 9 3 + y).toInt = tk + y.toInt := by rw [i_add (by omega) (by omega), e3]
    refine ⟨⟨by omega, Or.inl (by omega)⟩, ?_⟩
    rw [Int32.le_iff_toInt_le]
    omega
  · rw [if_neg q]
    rw [Int32.le_iff_toInt_le, e3, e4] at q
    refine ⟨⟨by omega, Or.inr ⟨e2, by omega⟩⟩, ?_⟩
    rw [Int32.le_iff_toInt_le]
    omega
theorem sim_sleep {N n m t : Nat} {u v : St} (h : zB N n m t u v) (hn : n < 600) (x y : Int32) : (rSlp N u x y).1 = (mSlp v m x y).1 ∧ zN N (n + 1) (rSlp N u x y).2 (mSlp v m x y).2 := by
  have h' := h
  obtain ⟨lt, tk, pl, S, M, Rw, Cv⟩ := h
  rcases zOn S M Rw Cv x with ⟨e1, e2⟩ | ⟨j, r, hj, hr, rfl, e6, e8, e1, e2, z3, z7⟩
  · have a : rSlp N u x y = (-1, u) := by simp [rSlp, e1]
    have b : mSlp v m x y = (-1, v) := by simp [mSlp, e2, nn_m1]
    rw [a, b]
    exact ⟨rfl, h'.up hn⟩
  · have g := (Rw r hr).1
    have hN : N ≤ 4 := S.2.2.2.2.2.2.2.2.2.1
    have hm := S.2.1
    have htk := S.2.2.2.2.2.2.2.2.2.2.2.2.1
    have hkn := S.2.2.2.2.2.2.2.2.2.2.2.2.2.1
    have c1 := nI_clamp (show pl r < 2 ^ 31 by omega)
    have c2 := nI_clamp (show r < 2 ^ 31 by omega)
    have c3 := nI_clamp (show j < 2 ^ 31 by omega)
    have n1 := nI_m1 (show pl r < 2 ^ 31 by omega)
    have n2 := nI_pos' (show r < 2 ^ 31 by omega)
    by_cases hy : 1 ≤ y
    · obtain ⟨t1, t2⟩ := zSlp htk (by omega) hy
      have a : rSlp N u (nI j) y = (nI (pl r), up2 (up2 (rOff u j (pl r) 3) 5 (pl r) 3) 7 (pl r) y) := by simp [rSlp, e1, n1, hy, cl, c1, c3]
      have b : mSlp v m (nI j) y = ((mWts v r 3 (mSlpW v y)) 1 r, mWts v r 3 (mSlpW v y)) := by simp [mSlp, e2, n2, hy, cl, c2]
      rw [a, b]
      refine ⟨by simp [mWts_at, (Rw r hr).2.1], ?_⟩
      refine zOffB S M Rw Cv hn hr hj e6 z3 3 (mSlpW v y) (fun q a b1 b2 b3 b4 b5 => ?_) ?_ ?_ ?_
      · simp only [up2_at, rOff_at]
        rw [if_neg b5, if_neg b3, if_neg b2, if_neg b1]
      · simp [up2_at, rOff_at]
      · simp [up2_at, rOff_at, sF, m1_neg, t2]
      · intro _
        simp [up2_at, rOff_at]
        exact t1
    · have a : rSlp N u (nI j) y = (nI (pl r), u) := by simp [rSlp, e1, n1, hy]
      have b : mSlp v m (nI j) y = (v 1 r, v) := by simp [mSlp, e2, n2, hy, cl, c2]
      rw [a, b]
      exact ⟨(Rw r hr).2.1.symm, h'.up hn⟩
/-- the process of a number: none on both sides, or a row and its place -/
theorem zPlc {N m lt : Nat} {u v : St} {pl : Nat → Nat} (M : zNum m lt v pl) (Rw : ∀ k, k < m → zRow N m u v (pl k) k) (Cv : zCov N m u v pl) (x : Int32) :
    (rPlc u x = -1 ∧ mFnd (v 0) x m = -1 ∧ ∀ k, k < m → ¬ v 0 k = x) ∨ ∃ r, r < m ∧ v 0 r = x ∧ rPlc u x = nI (pl r) ∧ mFnd (v 0) x m = nI r := by
  rcases zs_cases (fun j => decide (¬ u 1 j = 0 ∧ u 0 j = x)) 15 0 with ⟨a, b⟩ | ⟨i, -, a, b, c, -⟩
  · have hno : ∀ k, k < m → ¬ v 0 k = x := fun k hk e => by
      have g := Rw k hk
      have := b (pl k) (Nat.zero_le _) (by have := g.1; omega)
      simp only [decide_eq_false_iff_not] at this
      exact this ⟨by rw [g.2.2.2.2.2.2.1]; exact mSta_ne _ _ _, by rw [g.2.2.1]; exact e⟩
    exact Or.inl ⟨a, mFnd_no hno, hno⟩
  · simp only [decide_eq_true_eq] at b
    obtain ⟨r, hr, e⟩ := Cv.1 i (by omega) b.1
    have g := Rw r hr
    rw [← e] at b
    have hx : v 0 r = x := by rw [← g.2.2.1]; exact b.2
    refine Or.inr ⟨r, hr, hx, by rw [e]; exact c, ?_⟩
    rw [← hx]
    exact zFnd_nu M hr
theorem sF_4 {en on wt wh tk : Int32} {b : Bool} : sF en on wt wh tk b = 4 ↔ ¬ en = 0 := by
  unfold sF
  by_cases h : en = 0
  · rw [if_pos h]
    constructor
    · intro q
      exfalso
      revert q
      split
      · split
        · decide
        · split
          · split
            · decide
            · decide
          · split
            · split
              · decide
              · decide
            · decide
      · decide
    · intro q
      exact absurd h q
  · rw [if_neg h]
    exact ⟨fun _ => h, fun _ => rfl⟩
theorem sF_on {on wt wh tk : Int32} {b : Bool} (h : ¬ on < 0) : sF 0 on wt wh tk b = 2 := by
  unfold sF
  rw [if_pos rfl, if_neg h]
theorem sF_off {wt wh tk : Int32} {b : Bool} : sF 0 (-1) wt wh tk b = 1 ∨ sF 0 (-1) wt wh tk b = 3 := by
  unfold sF
  rw [if_pos rfl, if_pos m1_neg]
  split
  · exact Or.inr rfl
  · split
    · split
      · exact Or.inr rfl
      · exact Or.inl rfl
    · split
      · split
        · exact Or.inl rfl
        · exact Or.inr rfl
      · exact Or.inl rfl
/-- one row is changed, nothing else; who is on which processor stays -/
theorem zOneB {N n m t lt tk : Nat} {u v u' v' : St} {pl : Nat → Nat} (S : zSc N n m t lt tk u v) (M : zNum m lt v pl) (Rw : ∀ k, k < m → zRow N m u v (pl k) k) (Cv : zCov N m u v pl) (hn : n < 600)
    {r : Nat} (hr : r < m) (hu : ∀ q a, q < 8 → ¬ a = pl r → u' q a = u q a) (hu8 : ∀ a, u' 8 a = u 8 a) (hu9 : ∀ a, u' 9 a = u 9 a) (hv : ∀ q a, q < 9 → ¬ a = r → v' q a = v q a) (hv9 : ∀ a, v' 9 a = v 9 a) (hb : mB v')
    (h0 : v' 0 r = v 0 r) (h1 : v' 1 r = v 1 r) (h2 : v' 2 r = v 2 r) (h3 : v' 3 r = v 3 r) (h6 : v' 6 r = v 6 r) (hrow : zRow N m u' v' (pl r) r) : zN N (n + 1) u' v' := by
  have hm := S.2.1
  have hq : ∀ k, v' 0 k = v 0 k ∧ v' 1 k = v 1 k ∧ v' 2 k = v 2 k ∧ v' 3 k = v 3 k ∧ v' 6 k = v 6 k := fun k => by
    by_cases e : k = r
    · rw [e]; exact ⟨h0, h1, h2, h3, h6⟩
    · exact ⟨hv 0 k (by decide) e, hv 1 k (by decide) e, hv 2 k (by decide) e, hv 3 k (by decide) e, hv 6 k (by decide) e⟩
  refine ⟨m, t, lt, tk, pl, ?_, ?_, ?_, ?_, ?_, ?_⟩
  · obtain ⟨a1, a2, a3, a4, a5, a6, a7, a8, a9, b1, b2, b3, b4, b5, b6, b7, b8, b9, b0⟩ := S
    simp only [zSc, hu9, hv9]
    exact ⟨a1, a2, a3, a4, hb, a6, a7, a8, a9, b1, b2, b3, b4, by omega, b6, by omega, by omega, b9, b0⟩
  · obtain ⟨c1, c2, c3, c4, c5, c6, c7⟩ := M
    refine ⟨fun k hk => by rw [(hq k).1]; exact c1 k hk, fun k j hk hj => by rw [(hq k).1, (hq j).1]; exact c2 k j hk hj, c3, fun k hk => by rw [(hq k).1]; exact c4 k hk, fun k hk => by rw [(hq k).1, (hq k).2.2.1]; exact c5 k hk, fun k hk => by rw [(hq k).1, (hq k).2.2.1]; exact c6 k hk, c7⟩
  · intro k hk
    by_cases e : k = r
    · rw [e]; exact hrow
    · have ep : ¬ pl k = pl r := fun z => e (M.2.2.1 k r hk hr z)
      exact zRow_cg (Rw k hk) (fun q hq' => hu q _ hq' ep) (fun q hq' => hv q k hq' e) (hv9 3) hm hm (fun _ => zNE_cg (fun c _ => ⟨(hq c).2.2.1, (hq c).2.2.2.1⟩) (hq k).1) (fun j _ e8 => by rw [hu8]; exact e8)
  · intro i hi hne
    by_cases e : i = pl r
    · exact ⟨r, hr, e.symm⟩
    · rw [hu 1 i (by decide) e] at hne
      exact Cv.1 i hi hne
  · intro i hi hne
    by_cases e : i = pl r
    · rw [e, hrow.2.2.2.2.2.2.1] at hne
      exact absurd hne (mSta_ne _ _ _)
    · rw [hu 1 i (by decide) e] at hne
      rw [hu 3 i (by decide) e, hu 4 i (by decide) e]
      exact Cv.2.1 i hi hne
  · intro j hj
    rw [hu8]
    rcases Cv.2.2 j hj with q | ⟨k, hk, q1, q2⟩
    · exact Or.inl q
    · exact Or.inr ⟨k, hk, q1, by rw [(hq k).2.2.2.2]; exact q2⟩
theorem sim_kill {N n m t : Nat} {u v : St} (h : zB N n m t u v) (hn : n < 600) (x : Int32) : (rKil u x).1 = (mKil v m x).1 ∧ zN N (n + 1) (rKil u x).2 (mKil v m x).2 := by
  have h' := h
  obtain ⟨lt, tk, pl, S, M, Rw, Cv⟩ := h
  rcases zPlc M Rw Cv x with ⟨e1, e2, -⟩ | ⟨r, hr, ex, e1, e2⟩
  · have a : rKil u x = (0, u) := by simp [rKil, e1]
    have b : mKil v m x = (0, v) := by simp [mKil, e2, m1_neg]
    rw [a, b]
    exact ⟨rfl, h'.up hn⟩
  · have hm := S.2.1
    obtain ⟨a1, a2, a3, a4, a5, a6, a7, a8, a9⟩ := Rw r hr
    have c1 := nI_clamp (show pl r < 2 ^ 31 by omega)
    have c2 := nI_clamp (show r < 2 ^ 31 by omega)
    have n1 := nI_m1 (show pl r < 2 ^ 31 by omega)
    have n2 := nI_pos (show r < 2 ^ 31 by omega)
    by_cases h3 : v 3 r = 0
    · have h4 : ¬ u 1 (pl r) = 4 := by
        rw [a7, mSta_sF, sF_4]
        exact fun q => q h3
      have b : mKil v m x = (1, up2 (up2 v 5 r 1) 7 r 0) := by simp [mKil, e2, n2, cl, c2, h3]
      have hb : mB (up2 (up2 v 5 r 1) 7 r 0) := by
        intro k hk
        have := S.2.2.2.2.1 k hk
        simp only [up2_at]
        by_cases e : k = r
        · simp [e]
          rw [← e]
          exact this.1
        · simp [e]
          exact this
      have hrow : ∀ u' : St, (∀ q, ¬ q = 1 → ¬ q = 3 → ¬ q = 5 → u' q (pl r) = u q (pl r)) → u' 3 (pl r) = 1 → (u' 1 (pl r) = if u 1 (pl r) = 3 then 1 else u 1 (pl r)) → (∀ j, u' 8 j = u 8 j) → zRow N m u' (up2 (up2 v 5 r 1) 7 r 0) (pl r) r := by
        intro u' g1 g2 g3 g4
        refine ⟨a1, by simpa [up2_at] using a2, by rw [g1 0 (by decide) (by decide) (by decide)]; simpa [up2_at] using a3, by rw [g1 2 (by decide) (by decide) (by decide)]; simpa [up2_at] using a4, by rw [g2]; simp [up2_at], by rw [g1 4 (by decide) (by decide) (by decide)]; simpa [up2_at] using a6, ?_, ?_, ?_⟩
        · rw [g3, a7, mSta_sF, mSta_sF]
          simp only [up2_at]
          simp [h3]
          rcases a9 with q | ⟨-, z7, j, hj, q, -⟩
          · rw [q]
            have e0 : sF 0 (-1) 0 (v 8 r) (v 9 3) (decide (mEnd (up2 (up2 v 5 r 1) 7 r 0) m r < 0)) = 1 := by simp [sF, m1_neg]
            rcases sF_off (wt := v 7 r) (wh := v 8 r) (tk := v 9 3) (b := decide (mEnd v m r < 0)) with z | z
            · rw [z, e0]; decide
            · rw [z, e0]; decide
          · have hN : N ≤ 4 := S.2.2.2.2.2.2.2.2.2.1
            rw [q, sF_on (nI_pos (by omega)), sF_on (nI_pos (by omega))]
            decide
        · rw [g3]
          intro q
          exfalso
          revert q
          split
          · decide
          · rename_i z
            exact z
        · rcases a9 with q | ⟨z3, z7, j, hj, q, q8⟩
          · exact Or.inl (by simpa [up2_at] using q)
          · exact Or.inr ⟨by simpa [up2_at] using z3, by simp [up2_at], j, hj, by simpa [up2_at] using q, by rw [g4]; exact q8⟩
      have fin : ∀ u' : St, (∀ q a, q < 8 → ¬ a = pl r → u' q a = u q a) → (∀ a, u' 8 a = u 8 a) → (∀ a, u' 9 a = u 9 a) → (∀ q, ¬ q = 1 → ¬ q = 3 → ¬ q = 5 → u' q (pl r) = u q (pl r)) → u' 3 (pl r) = 1 → (u' 1 (pl r) = if u 1 (pl r) = 3 then 1 else u 1 (pl r)) → zN N (n + 1) u' (up2 (up2 v 5 r 1) 7 r 0) := fun u' k1 k2 k3 k4 k5 k6 =>
        zOneB S M Rw Cv hn hr k1 k2 k3 (fun q a hq ha => by simp [up2_at, ha]) (fun a => by simp [up2_at]) hb (by simp [up2_at]) (by simp [up2_at]) (by simp [up2_at]) (by simp [up2_at]) (by simp [up2_at]) (hrow u' k4 k5 k6 k2)
      by_cases h5 : u 1 (pl r) = 3
      · have a : rKil u x = (1, rRdy (up2 u 3 (pl r) 1) (pl r)) := by
          unfold rKil
          rw [e1, if_neg n1]
          simp only [cl, c1]
          rw [if_neg h4, if_pos (by simpa [up2_at] using h5)]
        rw [a, b]
        refine ⟨rfl, fin _ (fun q a hq ha => by simp [rRdy, up2_at, ha]) (fun a => by simp [rRdy, up2_at]) (fun a => by simp [rRdy, up2_at]) (fun q q1 q3 q5 => by simp [rRdy, up2_at, q1, q3, q5]) (by simp [rRdy, up2_at]) (by rw [if_pos h5]; simp [rRdy, up2_at])⟩
      · have a : rKil u x = (1, up2 u 3 (pl r) 1) := by
          unfold rKil
          rw [e1, if_neg n1]
          simp only [cl, c1]
          rw [if_neg h4, if_neg (by simpa [up2_at] using h5)]
        rw [a, b]
        refine ⟨rfl, fin _ (fun q a hq ha => by simp [up2_at, ha]) (fun a => by simp [up2_at]) (fun a => by simp [up2_at]) (fun q q1 q3 q5 => by simp [up2_at, q3]) (by simp [up2_at]) (by rw [if_neg h5]; simp [up2_at])⟩
    · have h4 : u 1 (pl r) = 4 := by
        rw [a7, mSta_sF, sF_4]
        exact h3
      have a : rKil u x = (0, u) := by simp [rKil, e1, n1, cl, c1, h4]
      have b : mKil v m x = (0, v) := by simp [mKil, e2, n2, cl, c2, h3]
      rw [a, b]
      exact ⟨rfl, h'.up hn⟩
end
section
theorem mPk1_nn {v : St} {m t n i : Nat} {r : Int32} (h : 0 ≤ r) : mPk1 v m t n i r = r := by
  cases n with
  | zero => rfl
  | succ n => simp [mPk1, h]
theorem zNx {N m lt : Nat} {u v : St} {pl : Nat → Nat} (M : zNum m lt v pl) (Rw : ∀ k, k < m → zRow N m u v (pl k) k) (Cv : zCov N m u v pl) (hm : m ≤ 15) (t : Nat) :
    ∀ n i, (zn (fun j => decide (u 1 j = 1)) t n i = -1 ∧ mPk1 v m t n i (-1) = -1) ∨ ∃ r, r < m ∧ zn (fun j => decide (u 1 j = 1)) t n i = nI (pl r) ∧ mPk1 v m t n i (-1) = nI r ∧ mSta v m r = 1
  | 0, i => Or.inl ⟨rfl, rfl⟩
  | n + 1, i => by
    have hp : (t + i) % 15 < 15 := Nat.mod_lt _ (by decide)
    by_cases h1 : u 1 ((t + i) % 15) = 1
    · obtain ⟨r, hr, e⟩ := Cv.1 _ hp (by rw [h1]; decide)
      have ef := zFnd_pl M Rw hr
      rw [e] at ef
      have es : mSta v m r = 1 := by rw [← (Rw r hr).2.2.2.2.2.2.1, e, h1]
      have np := nI_pos (show r < 2 ^ 31 by omega)
      have cr := nI_clamp (show r < 2 ^ 31 by omega)
      refine Or.inr ⟨r, hr, ?_, ?_, es⟩
      · rw [e]
        simp [zn, h1]
      · simp only [mPk1]
        rw [if_neg nn_m1, ef, if_neg np]
        simp only [cl, cr]
        rw [if_pos es]
        exact mPk1_nn (nI_pos' (by omega))
    · have e : zn (fun j => decide (u 1 j = 1)) t (n + 1) i = zn (fun j => decide (u 1 j = 1)) t n (i + 1) := by simp [zn, h1]
      have e2 : mPk1 v m t (n + 1) i (-1) = mPk1 v m t n (i + 1) (-1) := by
        by_cases h0 : u 1 ((t + i) % 15) = 0
        · have ef := zFnd_no Rw hp h0
          simp [mPk1, nn_m1, ef, m1_neg]
        · obtain ⟨r, hr, e⟩ := Cv.1 _ hp h0
          have ef := zFnd_pl M Rw hr
          rw [e] at ef
          have es : ¬ mSta v m r = 1 := by rw [← (Rw r hr).2.2.2.2.2.2.1, e]; exact h1
          have np := nI_pos (show r < 2 ^ 31 by omega)
          have cr := nI_clamp (show r < 2 ^ 31 by omega)
          simp only [mPk1]
          rw [if_neg nn_m1, ef, if_neg np]
          simp only [cl, cr]
          rw [if_neg es]
      rw [e, e2]
      exact zNx M Rw Cv hm t n (i + 1)
theorem mPk2_at (v : St) (r : Nat) (x : Int32) (q k : Nat) : mPk2 v r x q k = if q = 9 ∧ k = 5 then v 1 r else if q = 7 ∧ k = r then 0 else if q = 6 ∧ k = r then x else v q k := by
  simp [mPk2, up2_at]
theorem sim_pick {N n m t : Nat} {u v : St} (h : zB N n m t u v) (hn : n < 600) (x : Int32) : (rPck N u x).1 = (mPck v m t x).1 ∧ zN N (n + 1) (rPck N u x).2 (mPck v m t x).2 := by
  have h' := h
  obtain ⟨lt, tk, pl, S, M, Rw, Cv⟩ := h
  have hm := S.2.1
  have hN4 : N ≤ 4 := S.2.2.2.2.2.2.2.2.2.1
  have hN : N < 2 ^ 31 := by omega
  have h91 := S.2.2.2.1
  obtain ⟨t0, ht0, et0⟩ := S.2.2.2.2.2.2.2.2.2.2.2.2.2.2.2.2.2.2
  have htm := S.2.2.2.2.2.2.2.2.2.2.2.2.2.2.2.2.2.1
  have ct0 := nI_clamp (show t0 < 2 ^ 31 by omega)
  rcases pk_ix x hN with q | q | ⟨j, hj, rfl⟩
  · have a : rPck N u x = (-1, u) := by simp [rPck, rIsP, q]
    have b : mPck v m t x = (-1, v) := by simp [mPck, q]
    rw [a, b]
    exact ⟨rfl, h'.up hn⟩
  · have z : rIsP N x = 0 := by
      unfold rIsP
      split
      · rfl
      · first | rfl | rw [if_pos q]
    have a : rPck N u x = (-1, u) := by simp [rPck, z]
    have hnl : ¬ x < v 9 1 := by
      rw [h91]
      rw [Int32.lt_iff_toInt_lt]
      rw [Int32.le_iff_toInt_le] at q
      omega
    have b : mPck v m t x = (-1, v) := by simp [mPck, hnl]
    rw [a, b]
    exact ⟨rfl, h'.up hn⟩
  · have hp1 := rIsP_in hN hj
    have hjn := nI_pos (show j < 2 ^ 31 by omega)
    have hjl : nI j < v 9 1 := by rw [h91]; exact nI_lt hj hN
    have cj := nI_clamp (show j < 2 ^ 31 by omega)
    rcases zOn S M Rw Cv (nI j) with ⟨e1, e2⟩ | ⟨j', r, hj', hr, ej, e6, e8, e1, e2, z3, z7⟩
    · have e8 : u 8 j = -1 := (rOn_in (u := u) hN hj).symm.trans e1
      have key : ∀ w, rNxt u t0 = w → (m = 0 ∨ t0 = t) → True := fun _ _ _ => trivial
      have ht : m = 0 ∨ t0 = t := by
        rcases Nat.eq_zero_or_pos m with q | q
        · exact Or.inl q
        · right
          have := htm q
          rw [et0, S.2.2.2.2.2.2.1] at this
          have h15 := S.2.2.2.2.2.1
          exact nI_inj this (by omega) (by omega)
      rcases zNx M Rw Cv hm t 15 1 with ⟨g1, g2⟩ | ⟨r, hr, g1, g2, gs⟩
      · have gn : rNxt u t0 = -1 := by
          rcases ht with q | q
          · rcases zNx M Rw Cv hm t0 15 1 with ⟨k1, -⟩ | ⟨r, hr, -⟩
            · exact k1
            · omega
          · rw [q]; exact g1
        have a : rPck N u (nI j) = (-1, u) := by simp [rPck, hp1, cl, cj, e8, et0, ct0, gn]
        have b : mPck v m t (nI j) = (-1, v) := by simp [mPck, hjn, hjl, e2, g2, nn_m1]
        rw [a, b]
        exact ⟨rfl, h'.up hn⟩
      · have htt : t0 = t := by
          rcases ht with q | q
          · omega
          · exact q
        have gn : rNxt u t0 = nI (pl r) := by rw [htt]; exact g1
        obtain ⟨a1, a2, a3, a4, a5, a6, a7, a8, a9⟩ := Rw r hr
        have n1 := nI_m1 (show pl r < 2 ^ 31 by omega)
        have n2 := nI_pos' (show r < 2 ^ 31 by omega)
        have c1 := nI_clamp (show pl r < 2 ^ 31 by omega)
        have c2 := nI_clamp (show r < 2 ^ 31 by omega)
        have hz3 : v 3 r = 0 := by
          by_cases q : v 3 r = 0
          · exact q
          · rw [mSta_sF, sF_4.mpr q] at gs
            exact absurd gs (by decide)
        have hz6 : v 6 r = -1 := by
          rcases a9 with q | ⟨-, -, j2, hj2, q, -⟩
          · exact q
          · rw [mSta_sF, hz3, q, sF_on (nI_pos (by omega))] at gs
            exact absurd gs (by decide)
        have hnx : ¬ v 6 r = nI j := by rw [hz6]; exact fun q => nI_m1 (show j < 2 ^ 31 by omega) q.symm
        have a : rPck N u (nI j) = (nI (pl r), up2 (up2 (up2 u 1 (pl r) 2) 8 j (nI (pl r))) 9 0 (nI (pl r))) := by simp [rPck, hp1, cl, cj, e8, et0, ct0, gn, n1, c1]
        have b : mPck v m t (nI j) = ((mPk2 v r (nI j)) 1 r, mPk2 v r (nI j)) := by simp [mPck, hjn, hjl, e2, g2, n2, cl, c2, hnx]
        rw [a, b]
        refine ⟨by simp [mPk2_at, a2], m, pl r, lt, tk, pl, ?_, ?_, ?_, ?_, ?_, ?_⟩
        · obtain ⟨p1, p2, p3, p4, p5, p6, p7, p8, p9, b1, b2, b3, b4, b5, b6, b7, b8, b9, b0⟩ := S
          refine ⟨by simpa [mPk2_at] using p1, p2, by simpa [mPk2_at] using p3, by simpa [mPk2_at] using p4, ?_, a1, by simp [mPk2_at, a2], by simpa [mPk2_at, up2_at] using p8, p9, b1, by simpa [mPk2_at, up2_at] using b2, by simpa [mPk2_at, up2_at] using b3, by simpa [mPk2_at] using b4, by omega, by simpa [mPk2_at] using b6, by omega, by omega, fun _ => by simp [mPk2_at, up2_at, a2], pl r, a1, by simp [up2_at]⟩
          intro k hk
          simpa [mPk2_at] using p5 k hk
        · obtain ⟨q1, q2, q3, q4, q5, q6, q7⟩ := M
          exact ⟨fun k hk => by simpa [mPk2_at] using q1 k hk, fun k j hk hj => by simpa [mPk2_at] using q2 k j hk hj, q3, fun k hk => by simpa [mPk2_at] using q4 k hk, fun k hk => by simpa [mPk2_at] using q5 k hk, fun k hk => by simpa [mPk2_at] using q6 k hk, q7⟩
        · intro k hk
          by_cases e : k = r
          · subst e
            refine ⟨a1, by simpa [mPk2_at] using a2, by simpa [mPk2_at, up2_at] using a3, by simpa [mPk2_at, up2_at] using a4, by simpa [mPk2_at, up2_at] using a5, by simpa [mPk2_at, up2_at] using a6, ?_, ?_, ?_⟩
            · rw [mSta_sF]
              simp only [mPk2_at, up2_at]
              simp [hz3]
              rw [sF_on hjn]
            · intro q
              simp [up2_at] at q
            · exact Or.inr ⟨by simpa [mPk2_at] using hz3, by simp [mPk2_at], j, hj, by simp [mPk2_at], by simp [up2_at]⟩
          · have ep : ¬ pl k = pl r := fun z => e (M.2.2.1 k r hk hr z)
            refine zRow_cg (Rw k hk) (fun q hq => ?_) (fun q hq => ?_) (by simp [mPk2_at]) hm hm (fun _ => zNE_cg (fun c _ => by constructor <;> simp [mPk2_at]) (by simp [mPk2_at])) (fun j2 hj2 z8 => ?_)
            · have q9 : ¬ q = 9 := by omega
              have q8 : ¬ q = 8 := by omega
              simp [up2_at, ep, q9, q8]
            · have q9 : ¬ q = 9 := by omega
              simp [mPk2_at, e, q9]
            · have : ¬ j2 = j := fun z => by
                rw [z, e8] at z8
                have h15 := (Rw k hk).1
                exact nI_m1 (show pl k < 2 ^ 31 by omega) z8.symm
              simpa [up2_at, this] using z8
        · intro i hi h0
          by_cases e : i = pl r
          · exact ⟨r, hr, e.symm⟩
          · exact Cv.1 i hi (by simpa [up2_at, e] using h0)
        · intro i hi h0
          by_cases e : i = pl r
          · simp [up2_at, e] at h0
          · have := Cv.2.1 i hi (by simpa [up2_at, e] using h0)
            simpa [up2_at] using this
        · intro j2 hj2
          by_cases e : j2 = j
          · exact Or.inr ⟨r, hr, by simp [up2_at, e], by simp [mPk2_at, e]⟩
          · rcases Cv.2.2 j2 hj2 with q | ⟨k, hk, q1, q2⟩
            · exact Or.inl (by simpa [up2_at, e] using q)
            · have ek : ¬ k = r := fun z => by
                rw [z, hz6] at q2
                exact nI_m1 (show j2 < 2 ^ 31 by omega) q2.symm
              exact Or.inr ⟨k, hk, by simpa [up2_at, e] using q1, by simpa [mPk2_at, ek] using q2⟩
    · have hjj := nI_inj ej (by omega) (by omega)
      subst hjj
      have g := (Rw r hr).1
      have n1 := nI_m1 (show pl r < 2 ^ 31 by omega)
      have n2 := nI_pos' (show r < 2 ^ 31 by omega)
      have c2 := nI_clamp (show r < 2 ^ 31 by omega)
      have a : rPck N u (nI j) = (nI (pl r), u) := by simp [rPck, hp1, cl, cj, e8, n1]
      have b : mPck v m t (nI j) = (v 1 r, v) := by simp [mPck, hjn, hjl, e2, mPk1_nn n2, n2, cl, c2, e6]
      rw [a, b]
      exact ⟨(Rw r hr).2.1.symm, h'.up hn⟩
/-- the processor of a place -/
theorem zPrc {N m lt : Nat} {u v : St} {pl : Nat → Nat} (M : zNum m lt v pl) (Rw : ∀ k, k < m → zRow N m u v (pl k) k) (Cv : zCov N m u v pl) (hN : N ≤ 4) {k : Nat} (hk : k < m) : rPrc N u (nI (pl k)) = v 6 k := by
  have uniq : ∀ j, j < N → u 8 j = nI (pl k) → v 6 k = nI j := fun j hj e => by
    rcases Cv.2.2 j hj with q | ⟨k', hk', q1, q2⟩
    · rw [q] at e
      have := (Rw k hk).1
      exact absurd e.symm (nI_m1 (show pl k < 2 ^ 31 by omega))
    · rw [q1] at e
      have g1 := (Rw k hk).1
      have g2 := (Rw k' hk').1
      have := M.2.2.1 k' k hk' hk (nI_inj e (by omega) (by omega))
      rw [← this]
      exact q2
  rcases zs_cases (fun j => decide (u 8 j = nI (pl k))) N 0 with ⟨a, b⟩ | ⟨j, -, a, b, c, -⟩
  · rcases (Rw k hk).2.2.2.2.2.2.2.2 with q | ⟨-, -, j, hj, q, q8⟩
    · rw [q]; exact a
    · have := b j (Nat.zero_le _) (by omega)
      simp [q8] at this
  · simp only [decide_eq_true_eq] at b
    rw [uniq j (by omega) b]
    exact c
theorem sim_about {N n m t : Nat} {u v : St} (h : zB N n m t u v) (hn : n < 600) (x y : Int32) : rAbt N u x y = mAbt v m x y ∧ zN N (n + 1) u v := by
  refine ⟨?_, h.up hn⟩
  obtain ⟨lt, tk, pl, S, M, Rw, Cv⟩ := h
  have hm := S.2.1
  have hN : N ≤ 4 := S.2.2.2.2.2.2.2.2.2.1
  rcases pk_ix x (n := 15) (by decide) with q | q | ⟨i, hi, rfl⟩
  · simp [rAbt, mAbt, mAbtR, q, nn_m1]
  · have q : (15 : Int32) ≤ x := q
    have hl : ¬ x < 15 := by
      rw [Int32.lt_iff_toInt_lt]
      rw [Int32.le_iff_toInt_le] at q
      omega
    have eR : mAbtR v m x = -1 := by
      unfold mAbtR
      split
      · rfl
      · first | rfl | rw [if_pos q]
    simp [rAbt, mAbt, eR, hl, q, nn_m1]
  · have h1 := nI_pos (show i < 2 ^ 31 by omega)
    have h2 : nI i < 15 := nI_lt (b := 15) hi (by decide)
    have h3 : ¬ (15 : Int32) ≤ nI i := nI_ge (b := 15) hi (by decide)
    have ci := nI_clamp (show i < 2 ^ 31 by omega)
    have eR : mAbtR v m (nI i) = mFnd (v 1) (nI i) m := by simp [mAbtR, h1, h3]
    by_cases h0 : u 1 i = 0
    · have ef := zFnd_no Rw hi h0
      simp [rAbt, mAbt, eR, ef, h1, h2, h3, cl, ci, h0, nn_m1]
    · obtain ⟨r, hr, e⟩ := Cv.1 i hi h0
      have ef := zFnd_pl M Rw hr
      have ep := zPrc M Rw Cv hN hr
      rw [e] at ef ep
      obtain ⟨a1, a2, a3, a4, a5, a6, a7, a8, a9⟩ := Rw r hr
      rw [e] at a2 a3 a4 a5 a6 a7
      have n2 := nI_pos' (show r < 2 ^ 31 by omega)
      have c2 := nI_clamp (show r < 2 ^ 31 by omega)
      have hs : ¬ mSta v m r = 0 := mSta_ne _ _ _
      simp [rAbt, mAbt, eR, ef, h1, h2, cl, ci, c2, n2, a3, a4, a5, a6, a7, hs, ep]
end
section
theorem zk_snoc {P : Nat → Bool} : ∀ (n i c : Nat), zk P (n + 1) i c = zk P n i c + (if P (i + n) = true then 1 else 0)
  | 0, i, c => by
    simp only [zk, Nat.add_zero]
    split <;> rfl
  | n + 1, i, c => by
    have h := zk_snoc (P := P) n (i + 1) (if P i = true then c + 1 else c)
    rw [show i + 1 + n = i + (n + 1) by omega] at h
    exact h
theorem zk_off {P : Nat → Bool} {i0 : Nat} : ∀ (n i c : Nat), i ≤ i0 → i0 < i + n → zk P n i c = zk (fun j => if j = i0 then false else P j) n i c + (if P i0 = true then 1 else 0)
  | 0, i, c, h1, h2 => absurd h2 (by omega)
  | n + 1, i, c, h1, h2 => by
    rw [zk_snoc, zk_snoc]
    by_cases e : i0 = i + n
    · have hc : zk P n i c = zk (fun j => if j = i0 then false else P j) n i c := zk_congr n i c (fun j a b => by
        have : ¬ j = i0 := by omega
        simp [this])
      rw [hc, ← e]
      simp
    · have h := zk_off (P := P) (i0 := i0) n i c h1 (by omega)
      have : ¬ i + n = i0 := fun z => e z.symm
      rw [h]
      simp only [this, if_false]
      omega
theorem zk_zero {P : Nat → Bool} : ∀ (n i c : Nat), (∀ j, i ≤ j → j < i + n → P j = false) → zk P n i c = c
  | 0, i, c, _ => rfl
  | n + 1, i, c, h => by
    rw [zk_snoc, zk_zero n i c (fun j a b => h j a (by omega)), h (i + n) (by omega) (by omega)]
    simp
theorem zk_le {P : Nat → Bool} : ∀ (n i c : Nat), zk P n i c ≤ c + n
  | 0, i, c => Nat.le_refl _
  | n + 1, i, c => by
    rw [zk_snoc]
    have := zk_le (P := P) n i c
    split <;> omega
theorem zk_all : ∀ (n i c : Nat), zk (fun _ => true) n i c = c + n
  | 0, i, c => rfl
  | n + 1, i, c => by
    rw [zk_snoc, zk_all n i c]
    simp
    omega
/-- counting places is counting rows -/
theorem zk_bij : ∀ (m : Nat) (pl : Nat → Nat) (P : Nat → Bool), (∀ k, k < m → pl k < 15) → (∀ k j, k < m → j < m → pl k = pl j → k = j) → (∀ i, i < 15 → P i = true → ∃ k, k < m ∧ pl k = i) → zk P 15 0 0 = zk (fun k => P (pl k)) m 0 0
  | 0, pl, P, h1, h2, h3 => by
    rw [zk_zero 15 0 0 (fun j _ b => by
      cases e : P j with
      | false => rfl
      | true =>
        obtain ⟨k, hk, -⟩ := h3 j (by omega) e
        omega)]
    rfl
  | m + 1, pl, P, h1, h2, h3 => by
    rw [zk_off (i0 := pl m) 15 0 0 (Nat.zero_le _) (by have := h1 m (by omega); omega), zk_snoc (P := fun k => P (pl k)) m 0 0, Nat.zero_add]
    have h := zk_bij m pl (fun j => if j = pl m then false else P j) (fun k hk => h1 k (by omega)) (fun k j hk hj e => h2 k j (by omega) (by omega) e) (fun i hi e => by
      have ne : ¬ i = pl m := fun z => by simp [z] at e
      simp only [ne, if_false] at e
      obtain ⟨k, hk, ek⟩ := h3 i hi e
      refine ⟨k, ?_, ek⟩
      rcases Nat.lt_or_eq_of_le (Nat.le_of_lt_succ hk) with z | z
      · exact z
      · rw [z] at ek; exact absurd ek.symm ne)
    rw [h]
    congr 1
    refine zk_congr m 0 0 (fun k _ hk => ?_)
    have : ¬ pl k = pl m := fun z => by
      have := h2 k m (by omega) (by omega) z
      omega
    simp [this]
theorem sim_count {N n m t : Nat} {u v : St} (h : zB N n m t u v) (hn : n < 600) (x : Int32) : rCnt u x = mCnt v m x ∧ zN N (n + 1) u v := by
  refine ⟨?_, h.up hn⟩
  obtain ⟨lt, tk, pl, S, M, Rw, Cv⟩ := h
  unfold rCnt mCnt mCnt1
  have e := zk_bij m pl (fun j => if x = 0 then decide (¬ u 1 j = 0) else decide (u 1 j = x)) (fun k hk => (Rw k hk).1) M.2.2.1 (fun i hi e => Cv.1 i hi (fun z => by
    by_cases q : x = 0
    · simp [q, z] at e
    · simp [q, z] at e
      exact q e.symm))
  rw [e]
  have e2 : zk (fun k => (fun j => if x = 0 then decide (¬ u 1 j = 0) else decide (u 1 j = x)) (pl k)) m 0 0 = zk (fun k => if x = 0 then true else decide (mSta v m k = x)) m 0 0 := zk_congr m 0 0 (fun k _ hk => by
    have g := (Rw k (by omega)).2.2.2.2.2.2.1
    by_cases q : x = 0
    · have := mSta_ne v m k
      simp [q, g, this]
    · simp [q, g])
  rw [e2]
/-- a free place: fewer than fifteen rows -/
theorem zRoom {N m lt : Nat} {u v : St} {pl : Nat → Nat} (M : zNum m lt v pl) (Rw : ∀ k, k < m → zRow N m u v (pl k) k) (Cv : zCov N m u v pl) {i : Nat} (hi : i < 15) (h0 : u 1 i = 0) : m < 15 := by
  have e := zk_bij m pl (fun j => decide (¬ u 1 j = 0)) (fun k hk => (Rw k hk).1) M.2.2.1 (fun i hi e => Cv.1 i hi (by simpa using e))
  have e2 : zk (fun k => (fun j => decide (¬ u 1 j = 0)) (pl k)) m 0 0 = zk (fun _ => true) m 0 0 := zk_congr m 0 0 (fun k _ hk => by
    have g := (Rw k (by omega)).2.2.2.2.2.2.1
    have := mSta_ne v m k
    simp [g, this])
  rw [e2, zk_all] at e
  have e3 := zk_off (P := fun j => if j = i then true else decide (¬ u 1 j = 0)) (i0 := i) 15 0 0 (Nat.zero_le _) (by omega)
  have e4 : zk (fun j => if j = i then false else (fun j => if j = i then true else decide (¬ u 1 j = 0)) j) 15 0 0 = zk (fun j => decide (¬ u 1 j = 0)) 15 0 0 := zk_congr 15 0 0 (fun j _ _ => by
    by_cases q : j = i
    · simp [q, h0]
    · simp [q])
  rw [e4, e] at e3
  have e5 := zk_le (P := fun j => if j = i then true else decide (¬ u 1 j = 0)) 15 0 0
  have e6 : (if (fun j => if j = i then true else decide (¬ u 1 j = 0)) i = true then 1 else 0) = 1 := by simp
  rw [e6] at e3
  omega
theorem zl_8 : ∀ (n i : Nat) (w : St) (q a : Nat), zl (fun i v => up2 v 8 i (-1)) n i w q a = if q = 8 ∧ i ≤ a ∧ a < i + n then -1 else w q a
  | 0, i, w, q, a => by
    rw [if_neg (by omega)]
    rfl
  | n + 1, i, w, q, a => by
    have h := zl_8 n (i + 1) (up2 w 8 i (-1)) q a
    show zl (fun i v => up2 v 8 i (-1)) n (i + 1) (up2 w 8 i (-1)) q a = _
    rw [h, up2_at]
    by_cases e : q = 8
    · subst e
      by_cases e1 : a = i
      · subst e1
        simp
      · have e2 : (i + 1 ≤ a ∧ a < i + 1 + n) ↔ (i ≤ a ∧ a < i + (n + 1)) := by omega
        simp [e1, e2]
    · simp [e]
theorem sim_new {N : Nat} (h1 : 1 ≤ N) (h4 : N ≤ 4) : zN N 0 (rU0 N) (mU0 N) := by
  refine ⟨0, 0, 0, 0, fun _ => 0, ?_, ?_, ?_, ?_, ?_, ?_⟩
  · refine ⟨by simp [mU0, up2_at, rZ, nI_0], by omega, by simp [mU0, up2_at, rZ], by simp [mU0, up2_at], ?_, by omega, by simp [mU0, up2_at, rZ, nI_0], by simp [rU0, mU0, up2_at, rZ], h1, h4, by simp [rU0, mU0, up2_at, rZ], by simp [rU0, mU0, up2_at, rZ], by simp [mU0, up2_at, rZ, nI_0], by omega, by simp [mU0, up2_at, rZ, nI_0], by omega, by omega, fun z => absurd z (by omega), 14, by omega, ?_⟩
    · intro k hk
      simp [mU0, up2_at, rZ]
    · simp [rU0, up2_at]
      rfl
  · exact ⟨fun k hk => absurd hk (by omega), fun k j hk => absurd hk (by omega), fun k j hk => absurd hk (by omega), fun k hk => absurd hk (by omega), fun k hk => absurd hk (by omega), fun k hk => absurd hk (by omega), fun z => absurd z (by omega)⟩
  · exact fun k hk => absurd hk (by omega)
  · intro i hi z
    simp [rU0, up2_at, zl_8, rZ] at z
  · intro i hi z
    simp [rU0, up2_at, zl_8, rZ]
  · intro j hj
    left
    simp [rU0, up2_at, zl_8, hj]
theorem mAdd_at (v : St) (m : Nat) (x y : Int32) (q k : Nat) : mAdd v m x y q k = if q = 9 ∧ k = 2 then nI (m + 1) else if q = 7 ∧ k = m then 0 else if q = 6 ∧ k = m then -1 else if q = 5 ∧ k = m then 0 else if q = 4 ∧ k = m then 0 else if q = 3 ∧ k = m then 0 else if q = 2 ∧ k = m then y else if q = 1 ∧ k = m then x else if q = 0 ∧ k = m then v 9 4 + 1 else if q = 9 ∧ k = 4 then v 9 4 + 1 else v q k := by
  simp [mAdd, mAdd1, up2_at]
theorem rSet_at (u : St) (i : Nat) (x y : Int32) (q k : Nat) : rSet u i x y q k = if q = 1 ∧ k = i then 1 else if q = 2 ∧ k = i then y else if q = 0 ∧ k = i then x else u q k := by
  simp only [rSet, up2_at]
theorem sim_first {N n m t : Nat} {u v : St} (h : zB N n m t u v) (hn : n < 600) : (rFst u).1 = (mFst v m).1 ∧ zN N (n + 1) (rFst u).2 (mFst v m).2 := by
  have h' := h
  obtain ⟨lt, tk, pl, S, M, Rw, Cv⟩ := h
  rcases Nat.eq_zero_or_pos m with q | q
  · subst q
    have free : ∀ i, i < 15 → u 1 i = 0 := fun i hi => by
      by_cases z : u 1 i = 0
      · exact z
      · obtain ⟨k, hk, -⟩ := Cv.1 i hi z
        omega
    have e0 := free 0 (by omega)
    have a : rFst u = (1, rSet (up2 (up2 (up2 u 9 2 0) 9 0 14) 9 1 1) 0 1 0) := by simp [rFst, rIsE, e0]
    have b : mFst v 0 = (1, mAdd (up2 (up2 (up2 v 9 3 0) 9 4 0) 9 5 14) 0 0 0) := by simp [mFst, nI_0]
    rw [a, b]
    have hf := Cv.2.1 0 (by omega) e0
    obtain ⟨p1, p2, p3, p4, p5, p6, p7, p8, p9, b1, b2, b3, b4, b5, b6, b7, b8, b9, b0⟩ := S
    refine ⟨rfl, 1, 14, 1, 0, fun _ => 0, ?_, ?_, ?_, ?_, ?_, ?_⟩
    · refine ⟨by simp [mAdd_at], by omega, by simpa [mAdd_at, up2_at] using p3, by simpa [mAdd_at, up2_at] using p4, ?_, by omega, ?_, by simpa [mAdd_at, up2_at, rSet_at] using p8, p9, b1, by simp [mAdd_at, up2_at, rSet_at], by simp [mAdd_at, up2_at, rSet_at], by simp [mAdd_at, up2_at, nI_0], by omega, ?_, by omega, by omega, fun _ => by simp [mAdd_at, up2_at, rSet_at], 14, by omega, ?_⟩
      · intro k hk
        have := p5 k hk
        by_cases e : k = 0
        · simp [mAdd_at, up2_at, e]
        · simpa [mAdd_at, up2_at, e] using this
      · simp [mAdd_at, up2_at]
        rfl
      · simp [mAdd_at, up2_at]
        rfl
      · simp [up2_at, rSet_at]
        rfl
    · refine ⟨fun k hk => ⟨1, by omega, by omega, ?_⟩, fun k j hk hj _ => by omega, fun k j hk hj _ => by omega, fun k hk => ⟨fun _ => rfl, fun _ => ?_⟩, fun k hk _ => ?_, fun k hk => ?_, fun _ => ⟨0, by omega, rfl⟩⟩
      · have e : k = 0 := by omega
        simp [mAdd_at, up2_at, e]
        rfl
      · have e : k = 0 := by omega
        simp [mAdd_at, up2_at, e]
      · have e : k = 0 := by omega
        simp [mAdd_at, e]
      · have e : k = 0 := by omega
        simp [mAdd_at, up2_at, e]
    · intro k hk
      have e : k = 0 := by omega
      subst e
      refine ⟨by show 0 < 15; omega, by simp [mAdd_at, nI_0], by simp [mAdd_at, up2_at, rSet_at], by simp [mAdd_at, up2_at, rSet_at], by simpa [mAdd_at, up2_at, rSet_at] using hf.1, by simpa [mAdd_at, up2_at, rSet_at] using hf.2, ?_, ?_, Or.inl (by simp [mAdd_at])⟩
      · rw [mSta_sF]
        simp [mAdd_at, rSet_at, sF, m1_neg]
      · intro z
        simp [rSet_at] at z
    · intro i hi z
      by_cases e : i = 0
      · exact ⟨0, by omega, e.symm⟩
      · have := free i hi
        simp [rSet_at, up2_at, e, this] at z
    · intro i hi z
      by_cases e : i = 0
      · simp [rSet_at, e] at z
      · have := Cv.2.1 i hi (free i hi)
        simpa [rSet_at, up2_at, e] using this
    · intro j hj
      rcases Cv.2.2 j hj with z | ⟨k, hk, -⟩
      · left
        simpa [rSet_at, up2_at] using z
      · omega
  · obtain ⟨k, hk, e⟩ := M.2.2.2.2.2.2 q
    have g := (Rw k hk).2.2.2.2.2.2.1
    rw [e] at g
    have h0 : ¬ u 1 0 = 0 := by rw [g]; exact mSta_ne _ _ _
    have hm := S.2.1
    have a : rFst u = (0, u) := by simp [rFst, rIsE, h0]
    have hz : ¬ nI m ≤ 0 := nI_nle q (by omega)
    have b : mFst v m = (0, v) := by simp [mFst, hz]
    rw [a, b]
    exact ⟨rfl, h'.up hn⟩
end
section
theorem zVac {N m lt : Nat} {u v : St} {pl : Nat → Nat} (M : zNum m lt v pl) (Rw : ∀ k, k < m → zRow N m u v (pl k) k) (Cv : zCov N m u v pl) (hm : m ≤ 15) :
    ∀ n i, i + n = 15 → (zs (fun j => decide (u 1 j = 0)) n i = -1 ∧ zv (fun j => decide (¬ mFnd (v 1) (nI j) m < 0)) n i = 15) ∨ ∃ p, p < 15 ∧ u 1 p = 0 ∧ zs (fun j => decide (u 1 j = 0)) n i = nI p ∧ zv (fun j => decide (¬ mFnd (v 1) (nI j) m < 0)) n i = p
  | 0, i, h => Or.inl ⟨rfl, h⟩
  | n + 1, i, h => by
    by_cases h0 : u 1 i = 0
    · have ef := zFnd_no Rw (show i < 15 by omega) h0
      exact Or.inr ⟨i, by omega, h0, by simp [zs, h0], by simp [zv, ef, m1_neg]⟩
    · obtain ⟨r, hr, e⟩ := Cv.1 i (by omega) h0
      have ef := zFnd_pl M Rw hr
      rw [e] at ef
      have np := nI_pos (show r < 2 ^ 31 by omega)
      have e1 : zs (fun j => decide (u 1 j = 0)) (n + 1) i = zs (fun j => decide (u 1 j = 0)) n (i + 1) := by simp [zs, h0]
      have e2 : zv (fun j => decide (¬ mFnd (v 1) (nI j) m < 0)) (n + 1) i = zv (fun j => decide (¬ mFnd (v 1) (nI j) m < 0)) n (i + 1) := by simp [zv, ef, np]
      rw [e1, e2]
      exact zVac M Rw Cv hm n (i + 1) (by omega)
theorem sim_fork {N n m t : Nat} {u v : St} (h : zB N n m t u v) (hn : n < 600) (x : Int32) : (rFrk N u x).1 = (mFrk v m x).1 ∧ zN N (n + 1) (rFrk N u x).2 (mFrk v m x).2 := by
  have h' := h
  obtain ⟨lt, tk, pl, S, M, Rw, Cv⟩ := h
  have hm := S.2.1
  rcases zOn S M Rw Cv x with ⟨e1, e2⟩ | ⟨j, r, hj, hr, rfl, e6, e8, e1, e2, z3, z7⟩
  · have a : rFrk N u x = (-1, u) := by simp [rFrk, e1]
    have b : mFrk v m x = (-1, v) := by simp [mFrk, e2, m1_neg]
    rw [a, b]
    exact ⟨rfl, h'.up hn⟩
  · have g := (Rw r hr).1
    have hN : N ≤ 4 := S.2.2.2.2.2.2.2.2.2.1
    have c1 := nI_clamp (show pl r < 2 ^ 31 by omega)
    have c2 := nI_clamp (show r < 2 ^ 31 by omega)
    have n1 := nI_m1 (show pl r < 2 ^ 31 by omega)
    have n2 := nI_pos (show r < 2 ^ 31 by omega)
    rcases zVac M Rw Cv hm 15 0 rfl with ⟨f1, f2⟩ | ⟨p, hp, f0, f1, f2⟩
    · have f1 : rFre u = -1 := f1
      have f2 : mVac v m = 15 := f2
      have a : rFrk N u (nI j) = (-1, u) := by simp [rFrk, e1, n1, f1]
      have b : mFrk v m (nI j) = (-1, v) := by
        have : nI 15 = (15 : Int32) := rfl
        simp [mFrk, e2, n2, f2, this]
      rw [a, b]
      exact ⟨rfl, h'.up hn⟩
    · have f1 : rFre u = nI p := f1
      have f2 : mVac v m = p := f2
      have n3 := nI_m1 (show p < 2 ^ 31 by omega)
      have c3 := nI_clamp (show p < 2 ^ 31 by omega)
      have n4 : ¬ nI p = 15 := fun q => by
        have q : nI p = nI 15 := q
        have := nI_inj q (by omega) (by omega)
        omega
      have hm15 := zRoom M Rw Cv hp f0
      have a : rFrk N u (nI j) = (nI p, rSet (up2 u 9 1 (u 9 1 + 1)) p (u 9 1 + 1) (u 0 (pl r))) := by simp [rFrk, e1, n1, f1, n3, cl, c1, c3, up2_at]
      have b : mFrk v m (nI j) = (nI p, mAdd v m (nI p) (v 0 r)) := by simp [mFrk, e2, n2, f2, n4, cl, c2]
      rw [a, b]
      show _ ∧ zN N (n + 1) (rSet (up2 u 9 1 (u 9 1 + 1)) p (u 9 1 + 1) (u 0 (pl r))) (mAdd v m (nI p) (v 0 r))
      have hocc : ∀ k, k < m → ¬ pl k = p := fun k hk e => by
        have := (Rw k hk).2.2.2.2.2.2.1
        rw [e, f0] at this
        exact mSta_ne _ _ _ this.symm
      have hfc := Cv.2.1 p hp f0
      obtain ⟨qr, q1, q2, q3⟩ := M.1 r hr
      have hpl0 : ¬ p = 0 := fun e => by
        obtain ⟨k, hk, ek⟩ := M.2.2.2.2.2.2 (by omega)
        exact hocc k hk (by rw [ek, e])
      have hvq : ∀ q k, q < 9 → ¬ k = m → mAdd v m (nI p) (v 0 r) q k = v q k := fun q k hq hk => by
        have : ¬ q = 9 := by omega
        simp [mAdd_at, hk, this]
      obtain ⟨p1, p2, p3, p4, p5, p6, p7, p8, p9, b1, b2, b3, b4, b5, b6, b7, b8, b9, b0⟩ := S
      have hlt1 : v 9 4 + 1 = nI (lt + 1) := by rw [b6]; exact nI_1 lt
      refine ⟨rfl, m + 1, t, lt + 1, tk, fun k => if k = m then p else pl k, ?_, ?_, ?_, ?_, ?_, ?_⟩
      · refine ⟨by simp [mAdd_at], by omega, by simpa [mAdd_at] using p3, by simpa [mAdd_at] using p4, ?_, p6, by simpa [mAdd_at] using p7, by simpa [mAdd_at, rSet_at, up2_at] using p8, p9, b1, by simpa [mAdd_at, rSet_at, up2_at] using b2, by simp [mAdd_at, rSet_at, up2_at, b3], by simpa [mAdd_at] using b4, by omega, by simpa [mAdd_at] using hlt1, by omega, by omega, fun _ => by simpa [mAdd_at, rSet_at, up2_at] using b9 (by omega), ?_⟩
        · intro k hk
          by_cases e : k = m
          · simp [mAdd_at, e]
          · rw [hvq 3 k (by decide) e, hvq 5 k (by decide) e]
            exact p5 k hk
        · obtain ⟨t0, ht0, et0⟩ := b0
          exact ⟨t0, ht0, by simpa [rSet_at, up2_at] using et0⟩
      · have hnew : mAdd v m (nI p) (v 0 r) 0 m = nI (lt + 1) := by simpa [mAdd_at] using hlt1
        obtain ⟨d1, d2, d3, d4, d5, d6, d7⟩ := M
        refine ⟨fun k hk => ?_, fun k i hk hi => ?_, fun k i hk hi => ?_, fun k hk => ?_, fun k hk => ?_, fun k hk => ?_, fun _ => ?_⟩
        · by_cases e : k = m
          · exact ⟨lt + 1, by omega, by omega, by rw [e]; exact hnew⟩
          · obtain ⟨q, z1, z2, z3⟩ := d1 k (by omega)
            exact ⟨q, z1, by omega, by rw [hvq 0 k (by decide) e]; exact z3⟩
        · by_cases e : k = m
          · by_cases e' : i = m
            · omega
            · obtain ⟨q, z1, z2, z3⟩ := d1 i (by omega)
              rw [e, hnew, hvq 0 i (by decide) e', z3]
              intro z
              have := nI_inj z (by omega) (by omega)
              omega
          · by_cases e' : i = m
            · obtain ⟨q, z1, z2, z3⟩ := d1 k (by omega)
              rw [e', hnew, hvq 0 k (by decide) e, z3]
              intro z
              have := nI_inj z (by omega) (by omega)
              omega
            · rw [hvq 0 k (by decide) e, hvq 0 i (by decide) e']
              exact d2 k i (by omega) (by omega)
        · by_cases e : k = m
          · by_cases e' : i = m
            · omega
            · simp only [e, e', if_true, if_false]
              intro z
              exact absurd z.symm (hocc i (by omega))
          · by_cases e' : i = m
            · simp only [e, e', if_true, if_false]
              intro z
              exact absurd z (hocc k (by omega))
            · simp only [e, e', if_false]
              exact d3 k i (by omega) (by omega)
        · by_cases e : k = m
          · simp only [e, if_true]
            rw [hnew]
            constructor
            · intro z
              have z : nI (lt + 1) = nI 1 := z
              have := nI_inj z (by omega) (by omega)
              omega
            · intro z
              exact absurd z hpl0
          · simp only [e, if_false]
            rw [hvq 0 k (by decide) e]
            exact d4 k (by omega)
        · by_cases e : k = m
          · rw [e, hnew]
            intro z
            have z : nI (lt + 1) = nI 1 := z
            have := nI_inj z (by omega) (by omega)
            omega
          · rw [hvq 0 k (by decide) e, hvq 2 k (by decide) e]
            exact d5 k (by omega)
        · by_cases e : k = m
          · rw [e, hnew]
            have : mAdd v m (nI p) (v 0 r) 2 m = v 0 r := by simp [mAdd_at]
            rw [this, q3]
            intro z
            have := nI_inj z (by omega) (by omega)
            omega
          · rw [hvq 0 k (by decide) e, hvq 2 k (by decide) e]
            exact d6 k (by omega)
        · obtain ⟨k, hk, ek⟩ := d7 (by omega)
          exact ⟨k, by omega, by simp only [show ¬ k = m by omega, if_false]; exact ek⟩
      · intro k hk
        by_cases e : k = m
        · subst e
          simp only [if_true]
          refine ⟨hp, by simp [mAdd_at], by simp [mAdd_at, rSet_at, b3], by simp [mAdd_at, rSet_at, (Rw r hr).2.2.1], by simpa [mAdd_at, rSet_at, up2_at] using hfc.1, by simpa [mAdd_at, rSet_at, up2_at] using hfc.2, ?_, ?_, Or.inl (by simp [mAdd_at])⟩
          · rw [mSta_sF]
            simp [mAdd_at, rSet_at, sF, m1_neg]
          · intro z
            simp [rSet_at] at z
        · simp only [e, if_false]
          have ek := hocc k (by omega)
          refine zRow_cg (Rw k (by omega)) (fun q hq => ?_) (fun q hq => hvq q k hq e) (by simp [mAdd_at]) hm (by omega) (fun _ => ?_) (fun j2 _ z => by simpa [rSet_at, up2_at] using z)
          · have : ¬ q = 9 := by omega
            simp [rSet_at, up2_at, ek, this]
          · unfold zNE
            rw [hvq 0 k (by decide) e]
            constructor
            · intro z c hc hc2
              have := z c (by omega) (by rw [hvq 2 c (by decide) (by omega)]; exact hc2)
              rwa [hvq 3 c (by decide) (by omega)] at this
            · intro z c hc hc2
              by_cases ec : c = m
              · simp [mAdd_at, ec]
              · rw [hvq 3 c (by decide) ec]
                rw [hvq 2 c (by decide) ec] at hc2
                exact z c (by omega) hc2
      · intro i hi z
        by_cases e : i = p
        · exact ⟨m, by omega, by simp [e]⟩
        · obtain ⟨k, hk, ek⟩ := Cv.1 i hi (by simpa [rSet_at, up2_at, e] using z)
          exact ⟨k, by omega, by simp only [show ¬ k = m by omega, if_false]; exact ek⟩
      · intro i hi z
        by_cases e : i = p
        · simp [rSet_at, e] at z
        · have := Cv.2.1 i hi (by simpa [rSet_at, up2_at, e] using z)
          simpa [rSet_at, up2_at] using this
      · intro j2 hj2
        rcases Cv.2.2 j2 hj2 with z | ⟨k, hk, z1, z2⟩
        · left
          simpa [rSet_at, up2_at] using z
        · refine Or.inr ⟨k, by omega, ?_, by rw [hvq 6 k (by decide) (by omega)]; exact z2⟩
          simp only [show ¬ k = m by omega, if_false]
          simpa [rSet_at, up2_at] using z1
end
section
/-- a loop whose turn i reads and writes at i alone -/
theorem zl_loc {f : Nat → St → St} (h1 : ∀ i w q a, ¬ a = i → f i w q a = w q a) (h2 : ∀ i w w', (∀ q, w q i = w' q i) → ∀ q, f i w q i = f i w' q i) : ∀ (n i : Nat) (w : St) (q a : Nat), zl f n i w q a = if i ≤ a ∧ a < i + n then f a w q a else w q a
  | 0, i, w, q, a => by
    rw [if_neg (by omega)]
    rfl
  | n + 1, i, w, q, a => by
    have h := zl_loc h1 h2 n (i + 1) (f i w) q a
    show zl f n (i + 1) (f i w) q a = _
    rw [h]
    by_cases e : a = i
    · subst e
      rw [if_neg (by omega), if_pos (by omega)]
    · by_cases e2 : i + 1 ≤ a ∧ a < i + 1 + n
      · rw [if_pos e2, if_pos (by omega)]
        exact h2 a (f i w) w (fun q => h1 i w q a e) q
      · rw [if_neg e2, if_neg (by omega)]
        exact h1 i w q a e
theorem rRdy_at (u : St) (i q k : Nat) : rRdy u i q k = if q = 5 ∧ k = i then 0 else if q = 1 ∧ k = i then 1 else u q k := by
  simp only [rRdy, up2_at]
/-- woken by a channel -/
def wP_ (x : Int32) (u : St) (i : Nat) : Bool := decide (u 1 i = 3 ∧ u 5 i = 1 ∧ u 6 i = x)
def wQ_ (x : Int32) (v : St) (k : Nat) : Bool := decide (v 3 k = 0 ∧ ¬ 0 ≤ v 6 k ∧ v 7 k = 1 ∧ v 8 k = x)
theorem rWak1_eq (x : Int32) (i c : Nat) (w : St) : rWak1 x i (c, w) = if wP_ x w i = true then (c + 1, rRdy w i) else (c, w) := by
  unfold rWak1 wP_ rBlk
  by_cases h1 : w 1 i = 3
  · by_cases h2 : w 5 i = 1
    · by_cases h3 : w 6 i = x
      · simp [h1, h2, h3]
      · simp [h1, h2, h3]
    · simp [h1, h2]
  · simp [h1]
theorem mWak1_eq (x : Int32) (i c : Nat) (w : St) : mWak1 x i (c, w) = if wQ_ x w i = true then (c + 1, up2 w 7 i 0) else (c, w) := by
  unfold mWak1 wQ_
  by_cases h1 : w 3 i = 0
  · by_cases h2 : 0 ≤ w 6 i
    · simp [h1, h2]
    · by_cases h3 : w 7 i = 1
      · by_cases h4 : w 8 i = x
        · simp [h1, h2, h3, h4]
        · simp [h1, h2, h3, h4]
      · simp [h1, h2, h3]
  · simp [h1]
/-- a loop that counts, and writes at i alone where P holds -/
theorem zl_cnt {f : Nat → Nat × St → Nat × St} {P : St → Nat → Bool} {g : St → Nat → St} (hf : ∀ i c w, f i (c, w) = if P w i = true then (c + 1, g w i) else (c, w)) (h1 : ∀ i w q a, ¬ a = i → g w i q a = w q a) (h2 : ∀ i w w', (∀ q, w q i = w' q i) → P w i = P w' i ∧ ∀ q, g w i q i = g w' i q i) :
    ∀ (n i c : Nat) (w : St), (zl f n i (c, w)).1 = zk (P w) n i c ∧ ∀ q a, (zl f n i (c, w)).2 q a = if (i ≤ a ∧ a < i + n) ∧ P w a = true then g w a q a else w q a
  | 0, i, c, w => ⟨rfl, fun q a => by rw [if_neg (by omega)]; rfl⟩
  | n + 1, i, c, w => by
    have hs : ∀ w', (∀ q a, ¬ a = i → w' q a = w q a) → ∀ c', zl f (n + 1) i (c, w) = zl f n (i + 1) (c', w') → c' = (if P w i = true then c + 1 else c) → (∀ q, w' q i = if P w i = true then g w i q i else w q i) → (zl f (n + 1) i (c, w)).1 = zk (P w) (n + 1) i c ∧ ∀ q a, (zl f (n + 1) i (c, w)).2 q a = if (i ≤ a ∧ a < i + (n + 1)) ∧ P w a = true then g w a q a else w q a := by
      intro w' hw c' e ec hi
      obtain ⟨a1, a2⟩ := zl_cnt hf h1 h2 n (i + 1) c' w'
      rw [e]
      have hp : ∀ j, ¬ j = i → P w' j = P w j := fun j hj => (h2 j w' w (fun q => hw q j hj)).1
      refine ⟨?_, fun q a => ?_⟩
      · rw [a1, ec]
        show zk (P w') n (i + 1) _ = zk (P w) n (i + 1) _
        exact zk_congr n (i + 1) _ (fun j b1 b2 => hp j (by omega))
      · rw [a2 q a]
        by_cases ea : a = i
        · subst ea
          rw [if_neg (by omega), hi q]
          by_cases hP : P w a = true
          · rw [if_pos hP, if_pos ⟨by omega, hP⟩]
          · rw [if_neg hP, if_neg (fun z => hP z.2)]
        · rw [hp a ea]
          by_cases hc : (i ≤ a ∧ a < i + (n + 1)) ∧ P w a = true
          · rw [if_pos hc, if_pos ⟨by omega, hc.2⟩]
            exact (h2 a w' w (fun q => hw q a ea)).2 q
          · rw [if_neg hc, if_neg (fun z => hc ⟨by omega, z.2⟩)]
            exact hw q a ea
    by_cases hP : P w i = true
    · refine hs (g w i) (fun q a ha => h1 i w q a ha) (c + 1) ?_ ?_ ?_
      · show zl f n (i + 1) (f i (c, w)) = _
        rw [hf, if_pos hP]
      · rw [if_pos hP]
      · intro q
        rw [if_pos hP]
    · refine hs w (fun q a ha => rfl) c ?_ ?_ ?_
      · show zl f n (i + 1) (f i (c, w)) = _
        rw [hf, if_neg hP]
      · rw [if_neg hP]
      · intro q
        rw [if_neg hP]
theorem rWak_at (u : St) (x : Int32) : (rWak u x).1 = zk (wP_ x u) 15 0 0 ∧ ∀ q a, (rWak u x).2 q a = if a < 15 ∧ wP_ x u a = true then (if q = 5 then 0 else if q = 1 then 1 else u q a) else u q a := by
  obtain ⟨a1, a2⟩ := zl_cnt (f := rWak1 x) (P := wP_ x) (g := rRdy) (rWak1_eq x) (fun i w q a ha => by simp [rRdy_at, ha]) (fun i w w' h => ⟨by simp only [wP_, h], fun q => by simp only [rRdy_at, h]⟩) 15 0 0 u
  unfold rWak
  refine ⟨a1, fun q a => ?_⟩
  rw [a2 q a]
  by_cases hc : a < 15 ∧ wP_ x u a = true
  · rw [if_pos hc, if_pos ⟨by omega, hc.2⟩, rRdy_at]
    simp
  · rw [if_neg hc, if_neg (fun z => hc ⟨by omega, z.2⟩)]
theorem mWak_at (v : St) (m : Nat) (x : Int32) : (mWak v m x).1 = zk (wQ_ x v) m 0 0 ∧ ∀ q a, (mWak v m x).2 q a = if (a < m ∧ wQ_ x v a = true) ∧ q = 7 then 0 else v q a := by
  obtain ⟨a1, a2⟩ := zl_cnt (f := mWak1 x) (P := wQ_ x) (g := fun w i => up2 w 7 i 0) (mWak1_eq x) (fun i w q a ha => by simp [up2_at, ha]) (fun i w w' h => ⟨by simp only [wQ_, h], fun q => by simp only [up2_at, h]⟩) m 0 0 v
  unfold mWak
  refine ⟨a1, fun q a => ?_⟩
  rw [a2 q a]
  by_cases hc : a < m ∧ wQ_ x v a = true
  · rw [if_pos ⟨by omega, hc.2⟩]
    simp [up2_at, hc]
  · rw [if_neg (fun z => hc ⟨by omega, z.2⟩), if_neg (fun z => hc z.1)]
theorem i_neg {a : Int32} : ¬ 0 ≤ a ↔ a < 0 := by
  rw [Int32.le_iff_toInt_le, Int32.lt_iff_toInt_lt]
  omega
theorem sF_3 {en on wt wh tk : Int32} {b : Bool} (h : sF en on wt wh tk b = 3) : en = 0 ∧ on < 0 := by
  by_cases h1 : en = 0
  · refine ⟨h1, ?_⟩
    by_cases h2 : on < 0
    · exact h2
    · rw [h1, sF_on h2] at h
      exact absurd h (by decide)
  · rw [sF_4.mpr h1] at h
    exact absurd h (by decide)
theorem zWk {N m : Nat} {u v : St} {i k : Nat} (x : Int32) (R : zRow N m u v i k) : wP_ x u i = wQ_ x v k := by
  obtain ⟨a1, a2, a3, a4, a5, a6, a7, a8, a9⟩ := R
  unfold wP_ wQ_
  rw [decide_eq_decide]
  constructor
  · rintro ⟨h1, h2, h3⟩
    have w := a8 h1
    rw [a7, mSta_sF] at h1
    have s := sF_3 h1
    have e7 : v 7 k = 1 := by rw [← w.1]; exact h2
    exact ⟨s.1, i_neg.mpr s.2, e7, by rw [← w.2.1 e7]; exact h3⟩
  · rintro ⟨h1, h2, h3, h4⟩
    have e1 : u 1 i = 3 := by
      rw [a7, mSta_sF]
      simp [sF, h1, i_neg.mp h2, h3]
    have w := a8 e1
    exact ⟨e1, by rw [w.1]; exact h3, by rw [w.2.1 h3]; exact h4⟩
theorem sim_wake {N n m t : Nat} {u v : St} (h : zB N n m t u v) (hn : n < 600) (x : Int32) : nI (rWak u x).1 = nI (mWak v m x).1 ∧ zN N (n + 1) (rWak u x).2 (mWak v m x).2 := by
  obtain ⟨lt, tk, pl, S, M, Rw, Cv⟩ := h
  have hm := S.2.1
  obtain ⟨c1, c2⟩ := rWak_at u x
  obtain ⟨d1, d2⟩ := mWak_at v m x
  have ec : (rWak u x).1 = (mWak v m x).1 := by
    rw [c1, d1, zk_bij m pl (wP_ x u) (fun k hk => (Rw k hk).1) M.2.2.1 (fun i hi e => Cv.1 i hi (fun z => by simp [wP_, z] at e))]
    exact zk_congr m 0 0 (fun k _ hk => zWk x (Rw k (by omega)))
  refine ⟨by rw [ec], ?_⟩
  generalize (rWak u x).2 = u' at c2
  generalize (mWak v m x).2 = v' at d2
  have hu9 : ∀ a, u' 9 a = u 9 a := fun a => by
    rw [c2]
    split <;> simp
  have hu8 : ∀ a, u' 8 a = u 8 a := fun a => by
    rw [c2]
    split <;> simp
  have hv9 : ∀ q a, ¬ q = 7 → v' q a = v q a := fun q a hq => by
    rw [d2, if_neg (fun z => hq z.2)]
  refine ⟨m, t, lt, tk, pl, ?_, ?_, ?_, ?_, ?_, ?_⟩
  · obtain ⟨p1, p2, p3, p4, p5, p6, p7, p8, p9, b1, b2, b3, b4, b5, b6, b7, b8, b9, b0⟩ := S
    have e9 : ∀ a, v' 9 a = v 9 a := fun a => hv9 9 a (by decide)
    simp only [zSc, hu9, e9]
    refine ⟨p1, p2, p3, p4, fun k hk => ?_, p6, p7, p8, p9, b1, b2, b3, b4, by omega, b6, by omega, by omega, b9, b0⟩
    rw [hv9 3 k (by decide), hv9 5 k (by decide)]
    exact p5 k hk
  · have e0 : ∀ a, v' 0 a = v 0 a := fun a => hv9 0 a (by decide)
    have e2 : ∀ a, v' 2 a = v 2 a := fun a => hv9 2 a (by decide)
    simp only [zNum, e0, e2]
    exact M
  · intro k hk
    have R := Rw k hk
    by_cases hq : wQ_ x v k = true
    · have hp : wP_ x u (pl k) = true := by rw [zWk x R]; exact hq
      obtain ⟨a1, a2, a3, a4, a5, a6, a7, a8, a9⟩ := R
      have hu : ∀ q, u' q (pl k) = if q = 5 then 0 else if q = 1 then 1 else u q (pl k) := fun q => by rw [c2, if_pos ⟨a1, hp⟩]
      have hv7 : v' 7 k = 0 := by rw [d2, if_pos ⟨⟨hk, hq⟩, rfl⟩]
      have hq' := hq
      simp only [wQ_, decide_eq_true_eq] at hq'
      refine ⟨a1, by rw [hv9 1 k (by decide)]; exact a2, ?_, ?_, ?_, ?_, ?_, ?_, ?_⟩
      · rw [hu 0, hv9 0 k (by decide)]; simpa using a3
      · rw [hu 2, hv9 2 k (by decide)]; simpa using a4
      · rw [hu 3, hv9 5 k (by decide)]; simpa using a5
      · rw [hu 4, hv9 3 k (by decide), hv9 4 k (by decide)]; simpa using a6
      · rw [hu 1, mSta_sF, hv9 3 k (by decide), hv9 6 k (by decide), hv7, hq'.1]
        simp [sF, i_neg.mp hq'.2.1]
      · rw [hu 1]
        intro z
        simp at z
      · left
        rw [hv9 6 k (by decide)]
        rcases a9 with z | ⟨-, z, -⟩
        · exact z
        · rw [z] at hq'
          exact absurd hq'.2.2.1 (by decide)
    · have hp : ¬ wP_ x u (pl k) = true := by rw [zWk x R]; exact hq
      refine zRow_cg R (fun q _ => by rw [c2, if_neg (fun z => hp z.2)]) (fun q _ => by rw [d2, if_neg (fun z => hq z.1.2)]) (hv9 9 3 (by decide)) hm hm (fun _ => zNE_cg (fun c _ => ⟨hv9 2 c (by decide), hv9 3 c (by decide)⟩) (hv9 0 k (by decide))) (fun j _ z => by rw [hu8]; exact z)
  · intro i hi z
    refine Cv.1 i hi (fun z0 => z ?_)
    have : ¬ wP_ x u i = true := by simp [wP_, z0]
    rw [c2, if_neg (fun z => this z.2)]
    exact z0
  · intro i hi z
    by_cases hc : i < 15 ∧ wP_ x u i = true
    · rw [c2, if_pos hc] at z
      simp at z
    · rw [c2, if_neg hc] at z
      rw [c2, if_neg hc, c2, if_neg hc]
      exact Cv.2.1 i hi z
  · intro j hj
    rw [hu8]
    rcases Cv.2.2 j hj with z | ⟨k, hk, z1, z2⟩
    · exact Or.inl z
    · exact Or.inr ⟨k, hk, z1, by rw [hv9 6 k (by decide)]; exact z2⟩
end
section
theorem zl_6 : ∀ (n i : Nat) (w : St) (q a : Nat), zl (fun k w => up2 w 6 k (-1)) n i w q a = if q = 6 ∧ i ≤ a ∧ a < i + n then -1 else w q a
  | 0, i, w, q, a => by
    rw [if_neg (by omega)]
    rfl
  | n + 1, i, w, q, a => by
    have h := zl_6 n (i + 1) (up2 w 6 i (-1)) q a
    show zl (fun k w => up2 w 6 k (-1)) n (i + 1) (up2 w 6 i (-1)) q a = _
    rw [h, up2_at]
    by_cases e : q = 6
    · subst e
      by_cases e1 : a = i
      · subst e1
        simp
      · have e2 : (i + 1 ≤ a ∧ a < i + 1 + n) ↔ (i ≤ a ∧ a < i + (n + 1)) := by omega
        simp [e1, e2]
    · simp [e]
theorem rTck1_at (i : Nat) (w : St) (q a : Nat) : rTck1 i w q a = if a = i ∧ w 1 i = 3 ∧ w 5 i = 3 then (if q = 7 then w 7 i - 1 else if 0 < w 7 i - 1 then w q a else if q = 5 then 0 else if q = 1 then 1 else w q a) else w q a := by
  unfold rTck1 rBlk
  by_cases h1 : w 1 i = 3
  · by_cases h2 : w 5 i = 3
    · simp only [h1, h2, if_true]
      rw [if_neg (by decide)]
      unfold rDwn
      have e7 : up2 w 7 i (w 7 i - 1) 7 i = w 7 i - 1 := by simp [up2_at]
      rw [e7]
      by_cases h3 : 0 < w 7 i - 1
      · rw [if_pos h3, up2_at]
        by_cases ea : a = i
        · simp [ea, h3]
        · simp [ea]
      · rw [if_neg h3, rRdy_at, up2_at]
        by_cases ea : a = i
        · subst ea
          by_cases e5 : q = 5
          · simp [e5, h3]
          · by_cases e1 : q = 1
            · simp [e1, h3]
            · by_cases e7 : q = 7
              · simp [e7]
              · simp [e5, e1, e7]
        · simp [ea]
    · simp [h1, h2]
  · simp [h1]
theorem rTck_at (w : St) (q a : Nat) : zl rTck1 15 0 w q a = if a < 15 then rTck1 a w q a else w q a := by
  rw [zl_loc (f := rTck1) (fun i w q a ha => by rw [rTck1_at, if_neg (fun z => ha z.1)]) (fun i w w' h q => by rw [rTck1_at, rTck1_at, h 1, h 5, h 7, h q]) 15 0 w q a]
  by_cases h : a < 15
  · rw [if_pos h, if_pos (by omega)]
  · rw [if_neg h, if_neg (by omega)]
/-- all processors rest -/
theorem zRsts {N : Nat} {u : St} (hN : N < 2 ^ 31) (hI : ∀ j, j < N → u 8 j = -1 ∨ ∃ i, i < 15 ∧ u 8 j = nI i) : ∀ w, w = zl (fun j v => (rRst N v (nI j)).2) N 0 u → (∀ q a, ¬ q = 8 → ¬ q = 1 → w q a = u q a) ∧ (∀ j, j < N → w 8 j = -1) ∧ ∀ a, a < 15 → (w 1 a = 1 ∧ ∃ j, j < N ∧ u 8 j = nI a) ∨ (w 1 a = u 1 a ∧ ∀ j, j < N → ¬ u 8 j = nI a) := by
  intro w hw
  have h := zl_inv (f := fun j v => (rRst N v (nI j)).2) (I := fun i (w : St) => (∀ q a, ¬ q = 8 → ¬ q = 1 → w q a = u q a) ∧ (∀ j, w 8 j = if j < i then -1 else u 8 j) ∧ ∀ a, a < 15 → (w 1 a = 1 ∧ ∃ j, j < i ∧ u 8 j = nI a) ∨ (w 1 a = u 1 a ∧ ∀ j, j < i → ¬ u 8 j = nI a)) N 0 u (fun j w _ hj hr => by
    have hjN : j < N := by omega
    obtain ⟨r1, r2, r3⟩ := hr
    have e8 : w 8 j = u 8 j := by rw [r2, if_neg (by omega)]
    have eo : rOn N w (nI j) = u 8 j := by rw [rOn_in hN hjN, e8]
    rcases hI j hjN with q | ⟨i, hi, q⟩
    · have e : (rRst N w (nI j)).2 = w := by simp [rRst, eo, q]
      show _ ∧ _ ∧ _
      simp only [e]
      refine ⟨r1, fun j' => ?_, fun a ha => ?_⟩
      · rw [r2]
        by_cases z : j' < j
        · rw [if_pos z, if_pos (by omega)]
        · by_cases z2 : j' = j
          · rw [if_neg z, if_pos (by omega), z2, q]
          · rw [if_neg z, if_neg (by omega)]
      · rcases r3 a ha with ⟨z1, j', z2, z3⟩ | ⟨z1, z2⟩
        · exact Or.inl ⟨z1, j', by omega, z3⟩
        · refine Or.inr ⟨z1, fun j' hj' => ?_⟩
          rcases Nat.lt_or_eq_of_le (Nat.le_of_lt_succ hj') with z | z
          · exact z2 j' z
          · rw [z, q]
            exact fun z => nI_m1 (show a < 2 ^ 31 by omega) z.symm
    · have n1 := nI_m1 (show i < 2 ^ 31 by omega)
      have ci := nI_clamp (show i < 2 ^ 31 by omega)
      have cj := nI_clamp (show j < 2 ^ 31 by omega)
      have e : (rRst N w (nI j)).2 = rOff w j i 1 := by simp [rRst, eo, q, n1, cl, ci, cj]
      show _ ∧ _ ∧ _
      simp only [e]
      refine ⟨fun q a h8 h1 => ?_, fun j' => ?_, fun a ha => ?_⟩
      · rw [rOff_at, if_neg (fun z => h1 z.1), if_neg (fun z => h8 z.1)]
        exact r1 q a h8 h1
      · rw [rOff_at]
        by_cases z2 : j' = j
        · subst z2
          simp
        · have z3 : j' < j + 1 ↔ j' < j := by omega
          simp [z2, r2, z3]
      · rw [rOff_at]
        by_cases z : a = i
        · refine Or.inl ⟨by simp [z], j, by omega, by rw [q, z]⟩
        · simp only [z, and_false, if_false]
          simp only [show ¬ (1 : Nat) = 8 by decide, false_and, if_false]
          rcases r3 a ha with ⟨z1, j', z2, z3⟩ | ⟨z1, z2⟩
          · exact Or.inl ⟨z1, j', by omega, z3⟩
          · refine Or.inr ⟨z1, fun j' hj' => ?_⟩
            rcases Nat.lt_or_eq_of_le (Nat.le_of_lt_succ hj') with y | y
            · exact z2 j' y
            · rw [y, q]
              intro x
              exact z (nI_inj x (by omega) (by omega)).symm) ⟨fun _ _ _ _ => rfl, fun j => by rw [if_neg (by omega)], fun a _ => Or.inr ⟨rfl, fun j hj => absurd hj (by omega)⟩⟩
  rw [Nat.zero_add, ← hw] at h
  exact ⟨h.1, fun j hj => by rw [h.2.1, if_pos hj], h.2.2⟩
theorem sim_tick {N n m t : Nat} {u v : St} (h : zB N n m t u v) (hn : n < 600) : (rTck N u).1 = (mTck v m).1 ∧ zN N (n + 1) (rTck N u).2 (mTck v m).2 := by
  have h' := h
  obtain ⟨lt, tk, pl, S, M, Rw, Cv⟩ := h
  have hm := S.2.1
  have hN4 : N ≤ 4 := S.2.2.2.2.2.2.2.2.2.1
  have hN : N < 2 ^ 31 := by omega
  rcases Nat.eq_zero_or_pos m with q | q
  · subst q
    have e0 : u 1 0 = 0 := by
      by_cases z : u 1 0 = 0
      · exact z
      · obtain ⟨k, hk, -⟩ := Cv.1 0 (by omega) z
        omega
    have a : rTck N u = (-1, u) := by simp [rTck, rIsE, e0]
    have b : mTck v 0 = (-1, v) := by simp [mTck, nI_0]
    rw [a, b]
    exact ⟨rfl, h'.up hn⟩
  · obtain ⟨k0, hk0, ek0⟩ := M.2.2.2.2.2.2 q
    have g0 := (Rw k0 hk0).2.2.2.2.2.2.1
    rw [ek0] at g0
    have h10 : ¬ u 1 0 = 0 := by rw [g0]; exact mSta_ne _ _ _
    have hie : rIsE u = 0 := by simp [rIsE, h10]
    have hnz := nI_ne0 q (show m < 2 ^ 31 by omega)
    obtain ⟨U, eU⟩ : ∃ U, U = zl rTck1 15 0 (rTck2 N u) := ⟨_, rfl⟩
    obtain ⟨V, eV⟩ : ∃ V, V = mTck1 m v := ⟨_, rfl⟩
    have a : rTck N u = (U 9 2, U) := by unfold rTck; rw [if_pos hie, ← eU]
    have b : mTck v m = (V 9 3, V) := by unfold mTck; rw [if_neg hnz, ← eV]
    rw [a, b]
    show U 9 2 = V 9 3 ∧ zN N (n + 1) U V
    have hV : ∀ q a, V q a = if q = 6 ∧ a < m then -1 else if q = 9 ∧ a = 3 then v 9 3 + 1 else v q a := fun q a => by
      rw [eV, mTck1, zl_6, up2_at]
      simp
    obtain ⟨W, eW⟩ : ∃ W, W = rTck2 N u := ⟨_, rfl⟩
    rw [← eW] at eU
    have hI : ∀ j, j < N → (up2 u 9 2 (u 9 2 + 1)) 8 j = -1 ∨ ∃ i, i < 15 ∧ (up2 u 9 2 (u 9 2 + 1)) 8 j = nI i := fun j hj => (zB.I h').1 j hj
    obtain ⟨w1, w2, w3⟩ := zRsts hN hI W (by rw [eW]; rfl)
    have hW9 : ∀ a, W 9 a = if a = 2 then u 9 2 + 1 else u 9 a := fun a => by
      rw [w1 9 a (by decide) (by decide), up2_at]
      simp
    have hWq : ∀ q a, ¬ q = 8 → ¬ q = 1 → ¬ q = 9 → W q a = u q a := fun q a h8 h1 h9 => by
      rw [w1 q a h8 h1, up2_at, if_neg (fun z => h9 z.1)]
    have hW1 : ∀ a, a < 15 → (W 1 a = 1 ∧ ∃ j, j < N ∧ u 8 j = nI a) ∨ (W 1 a = u 1 a ∧ ∀ j, j < N → ¬ u 8 j = nI a) := w3
    have hU : ∀ q a, U q a = if a < 15 then rTck1 a W q a else W q a := fun q a => by rw [eU, rTck_at]
    have hU9 : ∀ a, U 9 a = W 9 a := fun a => by
      rw [hU]
      split
      · rw [rTck1_at]
        split
        · simp
        · rfl
      · rfl
    have hU8 : ∀ a, U 8 a = W 8 a := fun a => by
      rw [hU]
      split
      · rw [rTck1_at]
        split
        · simp
        · rfl
      · rfl
    obtain ⟨p1, p2, p3, p4, p5, p6, p7, p8, p9, b1, b2, b3, b4, b5, b6, b7, b8, b9, b0⟩ := S
    have htk : v 9 3 + 1 = nI (tk + 1) := by rw [b4]; exact nI_1 tk
    have hVq : ∀ q a, ¬ q = 6 → ¬ q = 9 → V q a = v q a := fun q a h6 h9 => by rw [hV, if_neg (fun z => h6 z.1), if_neg (fun z => h9 z.1)]
    have hV9 : ∀ a, V 9 a = if a = 3 then v 9 3 + 1 else v 9 a := fun a => by
      rw [hV]
      simp
    refine ⟨by rw [hU9, hW9, hV9]; simp [b2], m, t, lt, tk + 1, pl, ?_, ?_, ?_, ?_, ?_, ?_⟩
    · refine ⟨by rw [hV9]; simpa using p1, p2, by rw [hV9]; simpa using p3, by rw [hV9]; simpa using p4, ?_, p6, by rw [hV9]; simpa using p7, by rw [hU9, hW9, hV9]; simpa using p8, p9, b1, by rw [hU9, hW9, hV9]; simp [b2], by rw [hU9, hW9, hV9]; simpa using b3, by rw [hV9]; simpa using htk, by omega, by rw [hV9]; simpa using b6, by omega, by omega, fun z => by rw [hU9, hW9, hV9]; simpa using b9 z, ?_⟩
      · intro k hk
        rw [hVq 3 k (by decide) (by decide), hVq 5 k (by decide) (by decide)]
        exact p5 k hk
      · obtain ⟨t0, ht0, et0⟩ := b0
        exact ⟨t0, ht0, by rw [hU9, hW9]; simpa using et0⟩
    · have e0 : ∀ a, V 0 a = v 0 a := fun a => hVq 0 a (by decide) (by decide)
      have e2 : ∀ a, V 2 a = v 2 a := fun a => hVq 2 a (by decide) (by decide)
      simp only [zNum, e0, e2]
      exact M
    · intro k hk
      have hoff : v 6 k = -1 → ∀ j, j < N → ¬ u 8 j = nI (pl k) := fun e6 j hj e => by
        rcases Cv.2.2 j hj with z | ⟨k', hk', z1, z2⟩
        · rw [z] at e
          have := (Rw k hk).1
          exact nI_m1 (show pl k < 2 ^ 31 by omega) e.symm
        · rw [z1] at e
          have g1 := (Rw k hk).1
          have g2 := (Rw k' hk').1
          have := M.2.2.1 k' k hk' hk (nI_inj e (by omega) (by omega))
          rw [this, e6] at z2
          exact nI_m1 (show j < 2 ^ 31 by omega) z2.symm
      obtain ⟨a1, a2, a3, a4, a5, a6, a7, a8, a9⟩ := Rw k hk
      have hne : decide (mEnd V m k < 0) = decide (mEnd v m k < 0) := by
        rw [decide_eq_decide, mEnd_neg hm, mEnd_neg hm]
        exact zNE_cg (fun c _ => ⟨hVq 2 c (by decide) (by decide), hVq 3 c (by decide) (by decide)⟩) (hVq 0 k (by decide) (by decide))
      have hms : mSta V m k = sF (v 3 k) (-1) (v 7 k) (v 8 k) (v 9 3 + 1) (decide (mEnd v m k < 0)) := by
        rw [mSta_sF, hne, hVq 3 k (by decide) (by decide), hVq 7 k (by decide) (by decide), hVq 8 k (by decide) (by decide), hV9 3, if_pos rfl, hV 6 k, if_pos ⟨rfl, hk⟩]
      have hU0 : ∀ q, ¬ q = 1 → ¬ q = 5 → ¬ q = 7 → ¬ q = 8 → ¬ q = 9 → U q (pl k) = u q (pl k) := fun q h1 h5 h7 h8 h9 => by
        rw [hU, if_pos a1, rTck1_at]
        split
        · simp [h1, h5, h7, hWq q _ h8 h1 h9]
        · exact hWq q _ h8 h1 h9
      have hUk : ∀ q, U q (pl k) = if W 1 (pl k) = 3 ∧ u 5 (pl k) = 3 then (if q = 7 then u 7 (pl k) - 1 else if 0 < u 7 (pl k) - 1 then W q (pl k) else if q = 5 then 0 else if q = 1 then 1 else W q (pl k)) else W q (pl k) := fun q => by
        rw [hU, if_pos a1, rTck1_at, hWq 5 _ (by decide) (by decide) (by decide), hWq 7 _ (by decide) (by decide) (by decide)]
        simp
      have base : ∀ (hst : U 1 (pl k) = mSta V m k) (hwt : U 1 (pl k) = 3 → zWt U V (pl k) k), zRow N m U V (pl k) k := fun hst hwt => ⟨a1, by rw [hVq 1 k (by decide) (by decide)]; exact a2, by rw [hU0 0 (by decide) (by decide) (by decide) (by decide) (by decide), hVq 0 k (by decide) (by decide)]; exact a3, by rw [hU0 2 (by decide) (by decide) (by decide) (by decide) (by decide), hVq 2 k (by decide) (by decide)]; exact a4, by rw [hU0 3 (by decide) (by decide) (by decide) (by decide) (by decide), hVq 5 k (by decide) (by decide)]; exact a5, by rw [hU0 4 (by decide) (by decide) (by decide) (by decide) (by decide), hVq 3 k (by decide) (by decide), hVq 4 k (by decide) (by decide)]; exact a6, hst, hwt, Or.inl (by rw [hV, if_pos ⟨rfl, hk⟩])⟩
      rcases a9 with e6 | ⟨z3, z7, j, hj, e6, e8⟩
      · have hw : W 1 (pl k) = u 1 (pl k) := by
          rcases hW1 (pl k) a1 with ⟨-, j, hj, z⟩ | ⟨z, -⟩
          · exact absurd z (hoff e6 j hj)
          · exact z
        rw [mSta_sF, e6] at a7
        by_cases h3 : v 3 k = 0
        · rw [h3] at a7
          by_cases h7 : v 7 k = 3
          · by_cases hle : v 8 k ≤ v 9 3
            · have e1 : u 1 (pl k) = 1 := by rw [a7]; simp [sF, m1_neg, h7, hle]
              have e2 : U 1 (pl k) = 1 := by rw [hUk, hw, e1]; simp
              refine base ?_ (fun z => by rw [e2] at z; exact absurd z (by decide))
              have hle2 : v 8 k ≤ v 9 3 + 1 := by
                rw [htk]
                rw [b4] at hle
                rw [Int32.le_iff_toInt_le, nI_toInt (by omega)] at *
                omega
              rw [e2, hms, h3, h7]
              simp [sF, m1_neg, hle2]
            · have e1 : u 1 (pl k) = 3 := by rw [a7]; simp [sF, m1_neg, h7, hle]
              obtain ⟨x1, x2, x3⟩ := a8 e1
              have x3 := x3 h7
              unfold zTm at x3
              rw [b4, nI_toInt (show tk < 2 ^ 31 by omega)] at x3
              have i1 : (1 : Int32).toInt = 1 := by decide
              have i0 : (0 : Int32).toInt = 0 := by decide
              have hmx := i_max (u 7 (pl k))
              have es : (u 7 (pl k) - 1).toInt = (u 7 (pl k)).toInt - 1 := by rw [i_sub (by omega) (by omega), i1]
              have hc : W 1 (pl k) = 3 ∧ u 5 (pl k) = 3 := ⟨by rw [hw, e1], by rw [x1, h7]⟩
              by_cases hp : 0 < u 7 (pl k) - 1
              · have e2 : U 1 (pl k) = 3 := by rw [hUk, if_pos hc]; simp [hp, hw, e1]
                have hp' := hp
                rw [Int32.lt_iff_toInt_lt, i0, es] at hp'
                have hnl : ¬ v 8 k ≤ v 9 3 + 1 := by
                  rw [htk, Int32.le_iff_toInt_le, nI_toInt (by omega)]
                  omega
                refine base ?_ (fun _ => ⟨?_, fun z => ?_, fun _ => ?_⟩)
                · rw [e2, hms, h3, h7]
                  simp [sF, m1_neg, hnl]
                · rw [hVq 7 k (by decide) (by decide), h7, hUk, if_pos hc]
                  simp [hp, hWq 5 (pl k) (by decide) (by decide) (by decide), hc.2]
                · rw [hVq 7 k (by decide) (by decide), h7] at z
                  exact absurd z (by decide)
                · rw [hVq 8 k (by decide) (by decide), hV9 3, if_pos rfl, htk, hUk, if_pos hc]
                  simp only [if_true]
                  unfold zTm
                  rw [es, nI_toInt (by omega)]
                  omega
              · have e2 : U 1 (pl k) = 1 := by rw [hUk, if_pos hc]; simp [hp]
                have hp' := hp
                rw [Int32.lt_iff_toInt_lt, i0, es] at hp'
                have hl : v 8 k ≤ v 9 3 + 1 := by
                  rw [htk, Int32.le_iff_toInt_le, nI_toInt (by omega)]
                  omega
                refine base ?_ (fun z => by rw [e2] at z; exact absurd z (by decide))
                rw [e2, hms, h3, h7]
                simp [sF, m1_neg, hl]
          · have hsame : sF 0 (-1) (v 7 k) (v 8 k) (v 9 3 + 1) (decide (mEnd v m k < 0)) = sF 0 (-1) (v 7 k) (v 8 k) (v 9 3) (decide (mEnd v m k < 0)) := by
              unfold sF
              simp only [h7, if_false]
            have hnc : ¬ (W 1 (pl k) = 3 ∧ u 5 (pl k) = 3) := fun z => by
              rw [hw] at z
              exact h7 (by rw [← (a8 z.1).1]; exact z.2)
            have e2 : U 1 (pl k) = u 1 (pl k) := by rw [hUk, if_neg hnc, hw]
            refine base ?_ (fun z => ?_)
            · rw [e2, hms, h3, hsame, a7]
            · rw [e2] at z
              obtain ⟨x1, x2, x3⟩ := a8 z
              refine ⟨?_, fun y => ?_, fun y => ?_⟩
              · rw [hUk, if_neg hnc, hWq 5 _ (by decide) (by decide) (by decide), hVq 7 k (by decide) (by decide)]
                exact x1
              · rw [hU0 6 (by decide) (by decide) (by decide) (by decide) (by decide), hVq 8 k (by decide) (by decide)]
                rw [hVq 7 k (by decide) (by decide)] at y
                exact x2 y
              · rw [hVq 7 k (by decide) (by decide)] at y
                exact absurd y h7
        · have e1 : u 1 (pl k) = 4 := by rw [a7]; exact sF_4.mpr h3
          have e2 : U 1 (pl k) = 4 := by rw [hUk, hw, e1]; simp
          refine base ?_ (fun z => by rw [e2] at z; exact absurd z (by decide))
          rw [e2, hms]
          exact (sF_4.mpr h3).symm
      · have hw : W 1 (pl k) = 1 := by
          rcases hW1 (pl k) a1 with ⟨z, -⟩ | ⟨-, z⟩
          · exact z
          · exact absurd e8 (z j hj)
        have e2 : U 1 (pl k) = 1 := by rw [hUk, hw]; simp
        refine base ?_ (fun z => by rw [e2] at z; exact absurd z (by decide))
        rw [e2, hms, z3, z7]
        simp [sF, m1_neg]
    · intro i hi z
      refine Cv.1 i hi (fun z0 => z ?_)
      have hw : W 1 i = 0 := by
        rcases hW1 i hi with ⟨-, j, hj, y⟩ | ⟨y, -⟩
        · rcases Cv.2.2 j hj with y2 | ⟨k, hk, y2, -⟩
          · rw [y2] at y
            exact absurd y.symm (nI_m1 (show i < 2 ^ 31 by omega))
          · rw [y2] at y
            have g := (Rw k hk).1
            have e := nI_inj y (by omega) (by omega)
            have g7 := (Rw k hk).2.2.2.2.2.2.1
            rw [e, z0] at g7
            exact absurd g7.symm (mSta_ne _ _ _)
        · rw [y, z0]
      rw [hU, if_pos hi, rTck1_at, hw]
      simp
    · intro i hi z
      have hz0 : u 1 i = 0 := by
        by_cases y : u 1 i = 0
        · exact y
        · exfalso
          have hw : ¬ W 1 i = 0 := by
            rcases hW1 i hi with ⟨y2, -⟩ | ⟨y2, -⟩
            · rw [y2]; decide
            · rw [y2]; exact y
          rw [hU, if_pos hi, rTck1_at] at z
          revert z
          split
          · simp only [show ¬ (1 : Nat) = 7 by decide, show ¬ (1 : Nat) = 5 by decide, if_false, if_true]
            split
            · exact hw
            · decide
          · exact hw
      have hc := Cv.2.1 i hi hz0
      have hq : ∀ q, ¬ q = 1 → ¬ q = 5 → ¬ q = 7 → ¬ q = 8 → ¬ q = 9 → U q i = u q i := fun q h1 h5 h7 h8 h9 => by
        rw [hU, if_pos hi, rTck1_at]
        split
        · simp [h1, h5, h7, hWq q _ h8 h1 h9]
        · exact hWq q _ h8 h1 h9
      rw [hq 3 (by decide) (by decide) (by decide) (by decide) (by decide), hq 4 (by decide) (by decide) (by decide) (by decide) (by decide)]
      exact hc
    · intro j hj
      left
      rw [hU8]
      exact w2 j hj
end
section
theorem mS_at (p k : Nat) (v : St) (q a : Nat) : mS p k v q a = if q = p ∧ a = k then v p (k + 1) else v q a := by
  simp only [mS, up2_at]
theorem mShf_at (k : Nat) (w : St) (q a : Nat) : mShf k w q a = if q < 9 ∧ a = k then w q (k + 1) else w q a := by
  have hk : ¬ k + 1 = k := by omega
  by_cases e : a = k
  · subst e
    by_cases hq : q < 9
    · rcases (show q = 0 ∨ q = 1 ∨ q = 2 ∨ q = 3 ∨ q = 4 ∨ q = 5 ∨ q = 6 ∨ q = 7 ∨ q = 8 by omega) with rfl | rfl | rfl | rfl | rfl | rfl | rfl | rfl | rfl <;> simp [mShf, mS_at]
    · have h0 : ¬ q = 0 := by omega
      have h1 : ¬ q = 1 := by omega
      have h2 : ¬ q = 2 := by omega
      have h3 : ¬ q = 3 := by omega
      have h4 : ¬ q = 4 := by omega
      have h5 : ¬ q = 5 := by omega
      have h6 : ¬ q = 6 := by omega
      have h7 : ¬ q = 7 := by omega
      have h8 : ¬ q = 8 := by omega
      simp [mShf, mS_at, h0, h1, h2, h3, h4, h5, h6, h7, h8, hq]
  · simp [mShf, mS_at, e]
theorem zl_shf : ∀ (n i : Nat) (w : St) (q a : Nat), zl mShf n i w q a = if q < 9 ∧ i ≤ a ∧ a < i + n then w q (a + 1) else w q a
  | 0, i, w, q, a => by
    rw [if_neg (by omega)]
    rfl
  | n + 1, i, w, q, a => by
    have h := zl_shf n (i + 1) (mShf i w) q a
    show zl mShf n (i + 1) (mShf i w) q a = _
    rw [h, mShf_at, mShf_at]
    by_cases hq : q < 9
    · by_cases e1 : a = i
      · subst e1
        rw [if_neg (by omega), if_pos ⟨hq, rfl⟩, if_pos (by omega)]
      · by_cases e2 : i + 1 ≤ a ∧ a < i + 1 + n
        · rw [if_pos ⟨hq, e2⟩, if_neg (by omega), if_pos (by omega)]
        · rw [if_neg (fun z => e2 z.2), if_neg (fun z => e1 z.2), if_neg (by omega)]
    · rw [if_neg (fun z => hq z.1), if_neg (fun z => hq z.1), if_neg (fun z => hq z.1)]
theorem mRem_at (v : St) (m r q a : Nat) (h : r ≤ m) : mRem v m r q a = if q = 9 ∧ a = 2 then nI m else if q < 9 ∧ r ≤ a ∧ a < m then v q (a + 1) else v q a := by
  rw [mRem, zl_shf, up2_at, up2_at]
  by_cases hq : q < 9
  · have h9 : ¬ q = 9 := by omega
    simp only [h9, false_and, if_false]
    by_cases e : r ≤ a ∧ a < m
    · rw [if_pos (by omega), if_pos (by omega)]
    · rw [if_neg (by omega), if_neg (by omega)]
  · rw [if_neg (fun z => hq z.1)]
    by_cases e : q = 9 ∧ a = 2
    · rw [if_pos e, if_pos e]
    · rw [if_neg e, if_neg e, if_neg (fun z => hq z.1)]
theorem rClr_at (u : St) (i q a : Nat) : rClr u i q a = if q < 8 ∧ a = i then 0 else u q a := by
  by_cases e : a = i
  · subst e
    by_cases hq : q < 8
    · rcases (show q = 0 ∨ q = 1 ∨ q = 2 ∨ q = 3 ∨ q = 4 ∨ q = 5 ∨ q = 6 ∨ q = 7 by omega) with rfl | rfl | rfl | rfl | rfl | rfl | rfl | rfl <;> simp [rClr, up2_at]
    · have h0 : ¬ q = 0 := by omega
      have h1 : ¬ q = 1 := by omega
      have h2 : ¬ q = 2 := by omega
      have h3 : ¬ q = 3 := by omega
      have h4 : ¬ q = 4 := by omega
      have h5 : ¬ q = 5 := by omega
      have h6 : ¬ q = 6 := by omega
      have h7 : ¬ q = 7 := by omega
      simp [rClr, up2_at, h0, h1, h2, h3, h4, h5, h6, h7, hq]
  · simp [rClr, up2_at, e]
theorem rChi_iff {u : St} {i : Nat} {x : Int32} : ¬ rChi u i x = 0 ↔ (¬ u 1 i = 0 ∧ u 2 i = x) := by
  unfold rChi
  by_cases h : u 1 i = 0
  · simp [h]
  · by_cases h2 : u 2 i = x
    · simp [h, h2]
    · simp [h, h2]
theorem mChd_cases {v : St} {m r : Nat} : (mChd v m r = 0 ∧ ∀ k, k < m → ¬ v 2 k = v 0 r) ∨ (mChd v m r = 1 ∧ ∃ k, k < m ∧ v 2 k = v 0 r) := by
  have h := zl_inv (f := fun k (f : Int32) => if f = 0 then (if v 2 k = v 0 r then 1 else 0) else 1) (I := fun i f => (f = 0 ∧ ∀ k, k < i → ¬ v 2 k = v 0 r) ∨ (f = 1 ∧ ∃ k, k < i ∧ v 2 k = v 0 r)) m 0 0 (fun j f _ _ hr => by
    show ((if f = 0 then (if v 2 j = v 0 r then 1 else 0) else 1) = 0 ∧ _) ∨ ((if f = 0 then (if v 2 j = v 0 r then 1 else 0) else 1) = 1 ∧ _)
    rcases hr with ⟨a, b⟩ | ⟨a, k, b, c⟩
    · by_cases e : v 2 j = v 0 r
      · exact Or.inr ⟨by simp [a, e], j, by omega, e⟩
      · refine Or.inl ⟨by simp [a, e], fun k hk => ?_⟩
        rcases Nat.lt_or_eq_of_le (Nat.le_of_lt_succ hk) with z | z
        · exact b k z
        · rw [z]; exact e
    · exact Or.inr ⟨by simp [a], k, by omega, c⟩) (Or.inl ⟨rfl, fun k hk => absurd hk (by omega)⟩)
  rw [Nat.zero_add] at h
  exact h
theorem zHas {N m lt : Nat} {u v : St} {pl : Nat → Nat} (M : zNum m lt v pl) (Rw : ∀ k, k < m → zRow N m u v (pl k) k) (Cv : zCov N m u v pl) {r : Nat} (hr : r < m) : (rHas u (v 0 r) = 0 ∧ mChd v m r = 0) ∨ (rHas u (v 0 r) = 1 ∧ mChd v m r = 1) := by
  unfold rHas
  rcases mChd_cases (v := v) (m := m) (r := r) with ⟨a, b⟩ | ⟨a, k, hk, b⟩
  · left
    refine ⟨?_, a⟩
    rcases zs_cases (fun j => decide (¬ rChi u j (v 0 r) = 0)) 15 0 with ⟨c, -⟩ | ⟨i, -, c, d, -, -⟩
    · rw [if_pos c]
    · exfalso
      simp only [decide_eq_true_eq, rChi_iff] at d
      obtain ⟨k, hk, e⟩ := Cv.1 i (by omega) d.1
      have g := (Rw k hk).2.2.2.1
      rw [e] at g
      exact b k hk (by rw [← g]; exact d.2)
  · right
    refine ⟨?_, a⟩
    have g := Rw k hk
    rcases zs_cases (fun j => decide (¬ rChi u j (v 0 r) = 0)) 15 0 with ⟨-, c⟩ | ⟨i, -, c, -, d, -⟩
    · exfalso
      have := c (pl k) (Nat.zero_le _) (by have := g.1; omega)
      simp only [decide_eq_false_iff_not, rChi_iff] at this
      exact this ⟨by rw [g.2.2.2.2.2.2.1]; exact mSta_ne _ _ _, by rw [g.2.2.2.1]; exact b⟩
    · rw [if_neg (by rw [d]; exact nI_m1 (by omega))]
theorem zFzc {N m lt : Nat} {u v : St} {pl : Nat → Nat} (M : zNum m lt v pl) (Rw : ∀ k, k < m → zRow N m u v (pl k) k) (Cv : zCov N m u v pl) (hm : m ≤ 15) {r : Nat} (hr : r < m) : (rFzc u (v 0 r) = -1 ∧ mEnd v m r = -1) ∨ ∃ c, c < m ∧ rFzc u (v 0 r) = nI (pl c) ∧ mEnd v m r = nI c ∧ v 2 c = v 0 r ∧ ¬ v 3 c = 0 := by
  have hP : ∀ k, k < m → ((¬ rChi u (pl k) (v 0 r) = 0 ∧ u 1 (pl k) = 4) ↔ (v 2 k = v 0 r ∧ ¬ v 3 k = 0)) := fun k hk => by
    have g := Rw k hk
    rw [rChi_iff, g.2.2.2.1, g.2.2.2.2.2.2.1]
    have e4 : mSta v m k = 4 ↔ ¬ v 3 k = 0 := by rw [mSta_sF]; exact sF_4
    rw [e4]
    exact ⟨fun z => ⟨z.1.2, z.2⟩, fun z => ⟨⟨mSta_ne _ _ _, z.1⟩, z.2⟩⟩
  rcases mEnd_cases (v := v) (r := r) (show m < 2 ^ 31 by omega) with ⟨a, b⟩ | ⟨c, hc, b1, b2, b3, b4⟩
  · left
    refine ⟨?_, a⟩
    unfold rFzc
    rcases zs_cases (fun j => decide (¬ rChi u j (v 0 r) = 0 ∧ u 1 j = 4)) 15 0 with ⟨c, -⟩ | ⟨i, -, c, d, -, -⟩
    · exact c
    · exfalso
      simp only [decide_eq_true_eq] at d
      obtain ⟨k, hk, e⟩ := Cv.1 i (by omega) (by rw [d.2]; decide)
      rw [← e] at d
      have := (hP k hk).mp d
      exact this.2 (b k hk this.1)
  · right
    refine ⟨c, hc, ?_, b3, b1, b2⟩
    unfold rFzc
    have gc := Rw c hc
    rcases zs_cases (fun j => decide (¬ rChi u j (v 0 r) = 0 ∧ u 1 j = 4)) 15 0 with ⟨-, d⟩ | ⟨i, -, c1, d, e, f⟩
    · exfalso
      have := d (pl c) (Nat.zero_le _) (by have := gc.1; omega)
      simp only [decide_eq_false_iff_not] at this
      exact this ((hP c hc).mpr ⟨b1, b2⟩)
    · rw [e]
      simp only [decide_eq_true_eq] at d
      obtain ⟨k, hk, ek⟩ := Cv.1 i (by omega) (by rw [d.2]; decide)
      rw [← ek] at d
      have hk2 := (hP k hk).mp d
      have gk := Rw k hk
      have hle := b4 k hk hk2.1 hk2.2
      rw [gc.2.1, gk.2.1] at hle
      have g1 := gc.1
      have g2 := gk.1
      have hle2 := (nI_leI (show pl c < 2 ^ 31 by omega) (show pl k < 2 ^ 31 by omega)).mp hle
      have : ¬ pl c < i := fun z => by
        have := f (pl c) (Nat.zero_le _) z
        simp only [decide_eq_false_iff_not] at this
        exact this ((hP c hc).mpr ⟨b1, b2⟩)
      have e3 : i = pl c := by omega
      rw [e3]
theorem sim_await {N n m t : Nat} {u v : St} (h : zB N n m t u v) (hn : n < 600) (x : Int32) : (rAwt N u x).1 = (mAwt v m x).1 ∧ zN N (n + 1) (rAwt N u x).2 (mAwt v m x).2 := by
  have h' := h
  obtain ⟨lt, tk, pl, S, M, Rw, Cv⟩ := h
  have hm := S.2.1
  have hN4 : N ≤ 4 := S.2.2.2.2.2.2.2.2.2.1
  rcases zOn S M Rw Cv x with ⟨e1, e2⟩ | ⟨j, r, hj, hr, rfl, e6, e8, e1, e2, z3, z7⟩
  · have a : rAwt N u x = (-1, u) := by simp [rAwt, e1]
    have b : mAwt v m x = (-1, v) := by simp [mAwt, e2, m1_neg]
    rw [a, b]
    exact ⟨rfl, h'.up hn⟩
  · have g := (Rw r hr).1
    have c1 := nI_clamp (show pl r < 2 ^ 31 by omega)
    have c2 := nI_clamp (show r < 2 ^ 31 by omega)
    have c3 := nI_clamp (show j < 2 ^ 31 by omega)
    have n1 := nI_m1 (show pl r < 2 ^ 31 by omega)
    have n2 := nI_pos (show r < 2 ^ 31 by omega)
    have eu0 := (Rw r hr).2.2.1
    rcases zHas M Rw Cv hr with ⟨f1, f2⟩ | ⟨f1, f2⟩
    · have a : rAwt N u (nI j) = (-1, u) := by
        unfold rAwt
        rw [e1, if_neg n1]
        simp only [cl, c1]
        rw [eu0, if_pos f1]
      have b : mAwt v m (nI j) = (-1, v) := by
        unfold mAwt
        rw [e2, if_neg n2]
        simp only [cl, c2]
        rw [if_pos f2]
      rw [a, b]
      exact ⟨rfl, h'.up hn⟩
    · have f1' : ¬ rHas u (v 0 r) = 0 := by rw [f1]; decide
      have f2' : ¬ mChd v m r = 0 := by rw [f2]; decide
      rcases zFzc M Rw Cv hm hr with ⟨k1, k2⟩ | ⟨c, hc, k1, k2, k3, k4⟩
      · have a : rAwt N u (nI j) = (0, up2 (rOff u j (pl r) 3) 5 (pl r) 2) := by
          unfold rAwt
          rw [e1, if_neg n1]
          simp only [cl, c1, c3]
          rw [eu0, if_neg f1', if_pos k1]
        have b : mAwt v m (nI j) = (0, mWts v r 2 0) := by
          unfold mAwt
          rw [e2, if_neg n2]
          simp only [cl, c2]
          rw [if_neg f2', k2, if_neg nn_m1]
        rw [a, b]
        refine ⟨rfl, ?_⟩
        refine zOffB S M Rw Cv hn hr hj e6 z3 2 0 (fun q a b1 b2 b3 b4 b5 => ?_) ?_ ?_ ?_
        · simp only [up2_at, rOff_at]
          rw [if_neg b3, if_neg b2, if_neg b1]
        · simp [up2_at, rOff_at]
        · simp [up2_at, rOff_at, sF, m1_neg, k2]
        · intro _
          simp [up2_at]
      · obtain ⟨a1, a2, a3, a4, a5, a6, a7, a8, a9⟩ := Rw c hc
        have d1 := nI_clamp (show pl c < 2 ^ 31 by omega)
        have d2 := nI_clamp (show c < 2 ^ 31 by omega)
        have d3 := nI_m1 (show pl c < 2 ^ 31 by omega)
        have d4 := nI_pos' (show c < 2 ^ 31 by omega)
        have a : rAwt N u (nI j) = (u 0 (pl c), rClr (up2 u 9 3 (u 4 (pl c))) (pl c)) := by
          unfold rAwt
          rw [e1, if_neg n1]
          simp only [cl, c1]
          rw [eu0, if_neg f1', k1, if_neg d3]
          simp only [d1]
        have b : mAwt v m (nI j) = (v 0 c, mRem (up2 v 9 6 (v 4 c)) (m - 1) c) := by
          unfold mAwt
          rw [e2, if_neg n2]
          simp only [cl, c2]
          rw [if_neg f2', k2, if_pos d4]
          simp only [d2]
        rw [a, b]
        refine ⟨a3, ?_⟩
        obtain ⟨U, eU⟩ : ∃ U, U = rClr (up2 u 9 3 (u 4 (pl c))) (pl c) := ⟨_, rfl⟩
        obtain ⟨V, eV⟩ : ∃ V, V = mRem (up2 v 9 6 (v 4 c)) (m - 1) c := ⟨_, rfl⟩
        show zN N (n + 1) (rClr (up2 u 9 3 (u 4 (pl c))) (pl c)) (mRem (up2 v 9 6 (v 4 c)) (m - 1) c)
        rw [← eU, ← eV]
        have hU : ∀ q a, U q a = if q < 8 ∧ a = pl c then 0 else if q = 9 ∧ a = 3 then u 4 (pl c) else u q a := fun q a => by rw [eU, rClr_at, up2_at]
        have hV9 : ∀ a, V 9 a = if a = 2 then nI (m - 1) else if a = 6 then v 4 c else v 9 a := fun a => by
          rw [eV, mRem_at _ _ _ _ _ (by omega)]
          simp [up2_at]
        obtain ⟨s, es⟩ : ∃ s : Nat → Nat, s = fun k => if k < c then k else k + 1 := ⟨_, rfl⟩
        have hV : ∀ q k, q < 9 → k < m - 1 → V q k = v q (s k) := fun q k hq hk => by
          have h9 : ¬ q = 9 := by omega
          rw [eV, mRem_at _ _ _ _ _ (by omega), es]
          simp only [h9, false_and, if_false, up2_at]
          by_cases z : k < c
          · simp only [z, if_true]
            rw [if_neg (by omega)]
          · simp only [z, if_false]
            rw [if_pos (by omega)]
        have hs : ∀ k, k < m - 1 → s k < m ∧ ¬ s k = c := fun k hk => by
          rw [es]
          show (if k < c then k else k + 1) < m ∧ ¬ (if k < c then k else k + 1) = c
          split <;> omega
        have hsi : ∀ k i, s k = s i → k = i := fun k i => by
          rw [es]
          show (if k < c then k else k + 1) = (if i < c then i else i + 1) → k = i
          split <;> split <;> omega
        have hss : ∀ k, k < m → ¬ k = c → ∃ i, i < m - 1 ∧ s i = k := fun k hk hkc => by
          rw [es]
          by_cases z : k < c
          · exact ⟨k, by omega, by show (if k < c then k else k + 1) = k; rw [if_pos z]⟩
          · exact ⟨k - 1, by omega, by show (if k - 1 < c then k - 1 else k - 1 + 1) = k; rw [if_neg (by omega)]; omega⟩
        have hpc : ∀ k, k < m → ¬ k = c → ¬ pl k = pl c := fun k hk hkc e => hkc (M.2.2.1 k c hk hc e)
        have hU8 : ∀ a, U 8 a = u 8 a := fun a => by rw [hU]; simp
        have hU9 : ∀ a, U 9 a = if a = 3 then u 4 (pl c) else u 9 a := fun a => by rw [hU]; simp
        have hUq : ∀ q a, q < 8 → ¬ a = pl c → U q a = u q a := fun q a hq ha => by
          have h9 : ¬ q = 9 := by omega
          rw [hU, if_neg (fun z => ha z.2), if_neg (fun z => h9 z.1)]
        have hc0 : ¬ pl c = 0 := fun z => by
          have := M.2.2.2.2.1 c hc ((M.2.2.2.1 c hc).mpr z)
          rw [k3] at this
          obtain ⟨qr, q1, q2, q3⟩ := M.1 r hr
          rw [this] at q3
          have q3 : nI 0 = nI qr := q3
          have hlt := S.2.2.2.2.2.2.2.2.2.2.2.2.2.2.2.1
          have := nI_inj q3 (by omega) (by omega)
          omega
        have hst : u 4 (pl c) = v 4 c := by rw [a6, if_neg k4]
        obtain ⟨p1, p2, p3, p4, p5, p6, p7, p8, p9, b1, b2, b3, b4, b5, b6, b7, b8, b9, b0⟩ := S
        refine ⟨m - 1, t, lt, tk, fun k => pl (s k), ?_, ?_, ?_, ?_, ?_, ?_⟩
        · refine ⟨by rw [hV9]; simp, by omega, by rw [hV9]; simpa using p3, by rw [hV9]; simpa using p4, ?_, p6, by rw [hV9]; simpa using p7, by rw [hU9, hV9]; simpa using hst, p9, b1, by rw [hU9, hV9]; simpa using b2, by rw [hU9, hV9]; simpa using b3, by rw [hV9]; simpa using b4, by omega, by rw [hV9]; simpa using b6, by omega, by omega, fun _ => by rw [hU9, hV9]; simpa using b9 (by omega), ?_⟩
          · intro k hk
            have e3 : ∀ q, q < 9 → V q k = v q k ∨ (k + 1 < 16 ∧ V q k = v q (k + 1)) := fun q hq => by
              have h9 : ¬ q = 9 := by omega
              rw [eV, mRem_at _ _ _ _ _ (by omega)]
              simp only [h9, false_and, if_false, up2_at]
              by_cases z : q < 9 ∧ c ≤ k ∧ k < m - 1
              · rw [if_pos z]; exact Or.inr ⟨by omega, rfl⟩
              · rw [if_neg z]; exact Or.inl rfl
            constructor
            · rcases e3 3 (by decide) with z | ⟨z1, z⟩
              · rw [z]; exact (p5 k hk).1
              · rw [z]; exact (p5 (k + 1) z1).1
            · rcases e3 5 (by decide) with z | ⟨z1, z⟩
              · rw [z]; exact (p5 k hk).2
              · rw [z]; exact (p5 (k + 1) z1).2
          · obtain ⟨t0, ht0, et0⟩ := b0
            exact ⟨t0, ht0, by rw [hU9]; simpa using et0⟩
        · obtain ⟨x1, x2, x3, x4, x5, x6, x7⟩ := M
          refine ⟨fun k hk => ?_, fun k i hk hi z => ?_, fun k i hk hi z => ?_, fun k hk => ?_, fun k hk => ?_, fun k hk => ?_, fun hp => ?_⟩
          · rw [hV 0 k (by decide) hk]; exact x1 _ (hs k hk).1
          · rw [hV 0 k (by decide) hk, hV 0 i (by decide) hi] at z
            exact hsi k i (x2 _ _ (hs k hk).1 (hs i hi).1 z)
          · exact hsi k i (x3 _ _ (hs k hk).1 (hs i hi).1 z)
          · rw [hV 0 k (by decide) hk]; exact x4 _ (hs k hk).1
          · rw [hV 0 k (by decide) hk, hV 2 k (by decide) hk]; exact x5 _ (hs k hk).1
          · rw [hV 0 k (by decide) hk, hV 2 k (by decide) hk]; exact x6 _ (hs k hk).1
          · obtain ⟨k, hk, ek⟩ := x7 (by omega)
            obtain ⟨i, hi, ei⟩ := hss k hk (fun z => hc0 (by rw [← z]; exact ek))
            exact ⟨i, hi, by show pl (s i) = 0; rw [ei]; exact ek⟩
        · intro k hk
          have hk2 := hs k hk
          show zRow N (m - 1) U V (pl (s k)) k
          refine zRow_cg (Rw (s k) hk2.1) (fun q hq => hUq q _ hq (hpc _ hk2.1 hk2.2)) (fun q hq => hV q k hq hk) (by rw [hV9]; simp) hm (by omega) (fun h2 => ?_) (fun j' _ z => by rw [hU8]; exact z)
          have hnr : ¬ s k = r := fun z => by
            rw [z, z7] at h2
            exact absurd h2 (by decide)
          have hnc : ¬ v 2 c = v 0 (s k) := fun z => by
            rw [k3] at z
            exact hnr (M.2.1 r (s k) hr hk2.1 z).symm
          unfold zNE
          rw [hV 0 k (by decide) hk]
          constructor
          · intro z d hd e
            by_cases ed : d = c
            · rw [ed] at e; exact absurd e hnc
            · obtain ⟨i, hi, ei⟩ := hss d hd ed
              have := z i hi (by rw [hV 2 i (by decide) hi, ei]; exact e)
              rwa [hV 3 i (by decide) hi, ei] at this
          · intro z d hd e
            rw [hV 2 d (by decide) hd] at e
            rw [hV 3 d (by decide) hd]
            exact z _ (hs d hd).1 e
        · intro i hi z
          have hic : ¬ i = pl c := fun y => by
            rw [hU, if_pos ⟨by decide, y⟩] at z
            exact z rfl
          rw [hUq 1 i (by decide) hic] at z
          obtain ⟨k, hk, ek⟩ := Cv.1 i hi z
          obtain ⟨d, hd, ed⟩ := hss k hk (fun y => hic (by rw [← ek, y]))
          exact ⟨d, hd, by show pl (s d) = i; rw [ed]; exact ek⟩
        · intro i hi z
          by_cases hic : i = pl c
          · rw [hU, hU, if_pos ⟨by decide, hic⟩, if_pos ⟨by decide, hic⟩]
            exact ⟨rfl, rfl⟩
          · rw [hUq 1 i (by decide) hic] at z
            rw [hUq 3 i (by decide) hic, hUq 4 i (by decide) hic]
            exact Cv.2.1 i hi z
        · intro j' hj'
          rw [hU8]
          rcases Cv.2.2 j' hj' with z | ⟨k, hk, y1, y2⟩
          · exact Or.inl z
          · have hkc : ¬ k = c := fun y => by
              rw [y] at y2
              rcases a9 with w | ⟨w, -⟩
              · rw [w] at y2
                exact nI_m1 (show j' < 2 ^ 31 by omega) y2.symm
              · exact k4 w
            obtain ⟨d, hd, ed⟩ := hss k hk hkc
            refine Or.inr ⟨d, hd, ?_, ?_⟩
            · show u 8 j' = nI (pl (s d))
              rw [ed]; exact y1
            · rw [hV 6 d (by decide) hd, ed]; exact y2
end
section
theorem rEmp_at (N : Nat) (u : St) (q a : Nat) : rEmp N u q a = if q = 8 ∧ a < N then -1 else if q < 8 ∧ a < 15 then 0 else u q a := by
  rw [rEmp, zl_8, zl_loc (f := fun i v => rClr v i) (fun i w q a ha => by rw [rClr_at, if_neg (fun z => ha z.2)]) (fun i w w' h q => by rw [rClr_at, rClr_at, h q]) 15 0 u q a]
  by_cases h1 : q = 8 ∧ a < N
  · rw [if_pos h1, if_pos ⟨h1.1, by omega⟩]
  · rw [if_neg h1, if_neg (fun z => h1 ⟨z.1, by omega⟩), rClr_at]
    by_cases h2 : a < 15
    · rw [if_pos (by omega)]
      by_cases h3 : q < 8
      · rw [if_pos ⟨h3, rfl⟩, if_pos ⟨h3, h2⟩]
      · rw [if_neg (fun z => h3 z.1), if_neg (fun z => h3 z.1)]
    · rw [if_neg (by omega), if_neg (fun z => h2 z.2)]
theorem mExt1_at (r k : Nat) (w : St) (q a : Nat) : mExt1 r k w q a = if (q = 2 ∧ a = k) ∧ w 2 k = w 0 r then 1 else w q a := by
  unfold mExt1
  by_cases h : w 2 k = w 0 r
  · rw [if_pos h, up2_at]
    by_cases e : q = 2 ∧ a = k
    · rw [if_pos e, if_pos ⟨e, h⟩]
    · rw [if_neg e, if_neg (fun z => e z.1)]
  · rw [if_neg h, up2_at, if_neg (show ¬ ((q = 2 ∧ a = k) ∧ w 2 k = w 0 r) from fun z => h z.2)]
    by_cases e : q = 2 ∧ a = k
    · rw [if_pos e, e.1, e.2]
    · rw [if_neg e]
theorem zl_ext (r : Nat) : ∀ (n i : Nat) (w : St) (q a : Nat), zl (mExt1 r) n i w q a = if (q = 2 ∧ i ≤ a ∧ a < i + n) ∧ w 2 a = w 0 r then 1 else w q a
  | 0, i, w, q, a => by
    rw [if_neg (by omega)]
    rfl
  | n + 1, i, w, q, a => by
    have h := zl_ext r n (i + 1) (mExt1 r i w) q a
    show zl (mExt1 r) n (i + 1) (mExt1 r i w) q a = _
    have e0 : mExt1 r i w 0 r = w 0 r := by rw [mExt1_at, if_neg (fun z => absurd z.1.1 (by decide))]
    rw [h, e0, mExt1_at, mExt1_at]
    by_cases ea : a = i
    · subst ea
      rw [if_neg (by omega)]
      by_cases z : q = 2 ∧ w 2 a = w 0 r
      · rw [if_pos ⟨⟨z.1, rfl⟩, z.2⟩, if_pos ⟨⟨z.1, by omega⟩, z.2⟩]
      · rw [if_neg (fun y => z ⟨y.1.1, y.2⟩), if_neg (fun y => z ⟨y.1.1, y.2⟩)]
    · have ne : ¬ ((2 = 2 ∧ a = i) ∧ w 2 i = w 0 r) := fun z => ea z.1.2
      have ne2 : ¬ ((q = 2 ∧ a = i) ∧ w 2 i = w 0 r) := fun z => ea z.1.2
      rw [if_neg ne, if_neg ne2]
      by_cases z : (q = 2 ∧ i + 1 ≤ a ∧ a < i + 1 + n) ∧ w 2 a = w 0 r
      · rw [if_pos z, if_pos ⟨⟨z.1.1, by omega⟩, z.2⟩]
      · rw [if_neg z, if_neg (fun y => z ⟨⟨y.1.1, by omega⟩, y.2⟩)]
/-- the places of a state are the rows' -/
def zId (m : Nat) (v : St) (pl : Nat → Nat) (w : St) : Prop := (∀ k, k < m → pl k < 15 ∧ w 0 (pl k) = v 0 k ∧ ¬ w 1 (pl k) = 0) ∧ ∀ a, a < 15 → ¬ w 1 a = 0 → ∃ k, k < m ∧ pl k = a
theorem zTel {m lt : Nat} {v w : St} {pl : Nat → Nat} (M : zNum m lt v pl) (Id : zId m v pl w) (x : Int32) : (rTel w x = w ∧ ∀ k, k < m → v 0 k = x → ¬ (w 1 (pl k) = 3 ∧ w 5 (pl k) = 2)) ∨ ∃ k, k < m ∧ v 0 k = x ∧ w 1 (pl k) = 3 ∧ w 5 (pl k) = 2 ∧ rTel w x = rRdy w (pl k) := by
  rcases zs_cases (fun j => decide (¬ w 1 j = 0 ∧ w 0 j = x)) 15 0 with ⟨a, b⟩ | ⟨i, -, a, b, c, -⟩
  · left
    have a : rPlc w x = -1 := a
    refine ⟨by rw [rTel, if_pos a], fun k hk e => ?_⟩
    have g := Id.1 k hk
    have := b (pl k) (Nat.zero_le _) (by have := g.1; omega)
    simp only [decide_eq_false_iff_not] at this
    exact absurd ⟨g.2.2, by rw [g.2.1]; exact e⟩ this
  · simp only [decide_eq_true_eq] at b
    obtain ⟨k, hk, e⟩ := Id.2 i (by omega) b.1
    have g := Id.1 k hk
    rw [← e] at b
    have hx : v 0 k = x := by rw [← g.2.1]; exact b.2
    have c : rPlc w x = nI (pl k) := by rw [e]; exact c
    have cc := nI_clamp (show pl k < 2 ^ 31 by have := g.1; omega)
    have nm := nI_m1 (show pl k < 2 ^ 31 by have := g.1; omega)
    by_cases h : w 1 (pl k) = 3 ∧ w 5 (pl k) = 2
    · refine Or.inr ⟨k, hk, hx, h.1, h.2, ?_⟩
      have hb : ¬ rBlk w (pl k) 2 = 0 := by
        unfold rBlk
        rw [if_pos h.1, if_pos h.2]
        decide
      rw [rTel, c, if_neg nm, cc, if_neg hb]
    · left
      have hb : rBlk w (pl k) 2 = 0 := by
        unfold rBlk
        by_cases z : w 1 (pl k) = 3
        · rw [if_pos z, if_neg (fun y => h ⟨z, y⟩)]
        · rw [if_neg z]
      refine ⟨by rw [rTel, c, if_neg nm, cc, if_pos hb], fun k' hk' e' => ?_⟩
      have : k' = k := M.2.1 k' k hk' hk (e'.trans hx.symm)
      rw [this]
      exact h
/-- from w0 to w: those of K that were blocked for a child are ready, no one else -/
def zJ (w0 w : St) (K : Nat → Prop) : Prop := ∀ a, (w 1 a = w0 1 a ∧ w 5 a = w0 5 a ∧ (K a → ¬ (w0 1 a = 3 ∧ w0 5 a = 2))) ∨ (w 1 a = 1 ∧ w 5 a = 0 ∧ w0 1 a = 3 ∧ w0 5 a = 2 ∧ K a)
theorem zJ.mono {w0 w : St} {K K' : Nat → Prop} (h : zJ w0 w K) (e : ∀ a, K' a ↔ K a) : zJ w0 w K' := fun a => by
  rcases h a with ⟨a1, a2, a3⟩ | ⟨a1, a2, a3, a4, a5⟩
  · exact Or.inl ⟨a1, a2, fun z => a3 ((e a).mp z)⟩
  · exact Or.inr ⟨a1, a2, a3, a4, (e a).mpr a5⟩
theorem zJ.z {w0 w : St} {K : Nat → Prop} (h : zJ w0 w K) (a : Nat) : w 1 a = 0 ↔ w0 1 a = 0 := by
  rcases h a with ⟨a1, -⟩ | ⟨a1, -, a3, -⟩
  · rw [a1]
  · rw [a1, a3]
    decide
theorem zJ.id {m : Nat} {v w0 w : St} {pl : Nat → Nat} {K : Nat → Prop} (h : zJ w0 w K) (Id : zId m v pl w0) (h0 : ∀ a, w 0 a = w0 0 a) : zId m v pl w :=
  ⟨fun k hk => ⟨(Id.1 k hk).1, by rw [h0]; exact (Id.1 k hk).2.1, fun z => (Id.1 k hk).2.2 ((h.z _).mp z)⟩, fun a ha z => Id.2 a ha (fun y => z ((h.z a).mpr y))⟩
theorem zJ.tel {m lt : Nat} {v w0 w : St} {pl : Nat → Nat} {K : Nat → Prop} (h : zJ w0 w K) (M : zNum m lt v pl) (Id : zId m v pl w) (x : Int32) : zJ w0 (rTel w x) (fun a => K a ∨ ∃ k, k < m ∧ v 0 k = x ∧ a = pl k) ∧ ∀ q a, ¬ q = 1 → ¬ q = 5 → rTel w x q a = w q a := by
  rcases zTel M Id x with ⟨e, hno⟩ | ⟨k, hk, ex, h1, h5, e⟩
  · rw [e]
    refine ⟨fun a => ?_, fun _ _ _ _ => rfl⟩
    rcases h a with ⟨p1, p2, p3⟩ | ⟨p1, p2, p3, p4, p5⟩
    · refine Or.inl ⟨p1, p2, fun z => ?_⟩
      rcases z with z | ⟨k, hk, ex, ea⟩
      · exact p3 z
      · have := hno k hk ex
        rw [← ea, p1, p2] at this
        exact this
    · exact Or.inr ⟨p1, p2, p3, p4, Or.inl p5⟩
  · rw [e]
    refine ⟨fun a => ?_, fun q a q1 q5 => by rw [rRdy_at, if_neg (fun z => q5 z.1), if_neg (fun z => q1 z.1)]⟩
    by_cases ea : a = pl k
    · rcases h a with ⟨p1, p2, p3⟩ | ⟨p1, p2, p3, p4, p5⟩
      · refine Or.inr ⟨by rw [rRdy_at]; simp [ea], by rw [rRdy_at]; simp [ea], ?_, ?_, Or.inr ⟨k, hk, ex, ea⟩⟩
        · rw [← p1, ea]; exact h1
        · rw [← p2, ea]; exact h5
      · rw [ea, h1] at p1
        exact absurd p1 (by decide)
    · have r1 : rRdy w (pl k) 1 a = w 1 a := by rw [rRdy_at]; simp [ea]
      have r5 : rRdy w (pl k) 5 a = w 5 a := by rw [rRdy_at]; simp [ea]
      rw [r1, r5]
      rcases h a with ⟨p1, p2, p3⟩ | ⟨p1, p2, p3, p4, p5⟩
      · refine Or.inl ⟨p1, p2, fun z => ?_⟩
        rcases z with z | ⟨k', hk', ex', ea'⟩
        · exact p3 z
        · have : k' = k := M.2.1 k' k hk' hk (ex'.trans ex.symm)
          rw [this] at ea'
          exact absurd ea' ea
      · exact Or.inr ⟨p1, p2, p3, p4, Or.inl p5⟩
/-- who is woken by ended children that are handed on -/
def zK (m : Nat) (v w0 : St) (pl : Nat → Nat) (x : Int32) (i a : Nat) : Prop := (∃ k, k < m ∧ v 0 k = 1 ∧ a = pl k) ∧ ∃ b, b < i ∧ w0 1 b = 4 ∧ w0 2 b = x
theorem zHnd {m lt : Nat} {v w0 : St} {pl : Nat → Nat} (M : zNum m lt v pl) (Id : zId m v pl w0) (x : Int32) : zJ w0 (rHnd w0 x) (zK m v w0 pl x 15) ∧ (∀ q a, ¬ q = 1 → ¬ q = 2 → ¬ q = 5 → rHnd w0 x q a = w0 q a) ∧ ∀ a, rHnd w0 x 2 a = if a < 15 ∧ ¬ w0 1 a = 0 ∧ w0 2 a = x then 1 else w0 2 a := by
  have h := zl_inv (f := rHnd1 x) (I := fun i (w : St) => zJ w0 w (zK m v w0 pl x i) ∧ (∀ q a, ¬ q = 1 → ¬ q = 2 → ¬ q = 5 → w q a = w0 q a) ∧ ∀ a, w 2 a = if a < i ∧ ¬ w0 1 a = 0 ∧ w0 2 a = x then 1 else w0 2 a) 15 0 w0 (fun i w _ hi hr => by
    obtain ⟨J, hq, h2⟩ := hr
    have e2 : w 2 i = w0 2 i := by rw [h2, if_neg (by omega)]
    by_cases hc : ¬ w0 1 i = 0 ∧ w0 2 i = x
    · have hch : ¬ rChi w i x = 0 := rChi_iff.mpr ⟨fun z => hc.1 ((J.z i).mp z), by rw [e2]; exact hc.2⟩
      have J1 : zJ w0 (up2 w 2 i 1) (zK m v w0 pl x i) := fun a => by
        have r1 : up2 w 2 i 1 1 a = w 1 a := by rw [up2_at, if_neg (by omega)]
        have r5 : up2 w 2 i 1 5 a = w 5 a := by rw [up2_at, if_neg (by omega)]
        rw [r1, r5]
        exact J a
      have hq1 : ∀ q a, ¬ q = 1 → ¬ q = 2 → ¬ q = 5 → up2 w 2 i 1 q a = w0 q a := fun q a q1 q2 q5 => by
        rw [up2_at, if_neg (fun z => q2 z.1)]
        exact hq q a q1 q2 q5
      have h21 : ∀ a, up2 w 2 i 1 2 a = if a < i + 1 ∧ ¬ w0 1 a = 0 ∧ w0 2 a = x then 1 else w0 2 a := fun a => by
        rw [up2_at]
        by_cases ea : a = i
        · rw [if_pos ⟨rfl, ea⟩, if_pos ⟨by omega, by rw [ea]; exact hc⟩]
        · rw [if_neg (fun z => ea z.2), h2]
          by_cases z : a < i ∧ ¬ w0 1 a = 0 ∧ w0 2 a = x
          · rw [if_pos z, if_pos ⟨by omega, z.2⟩]
          · rw [if_neg z, if_neg (fun y => z ⟨by omega, y.2⟩)]
      have r1 : up2 w 2 i 1 1 i = w 1 i := by rw [up2_at, if_neg (by omega)]
      by_cases h4 : up2 w 2 i 1 1 i = 4
      · have e : rHnd1 x i w = rTel (up2 w 2 i 1) 1 := by rw [rHnd1, if_neg hch, if_pos h4]
        rw [e]
        obtain ⟨t1, t2⟩ := J1.tel M (J1.id Id (fun a => hq1 0 a (by decide) (by decide) (by decide))) 1
        refine ⟨t1.mono (fun a => ?_), fun q a q1 q2 q5 => ?_, fun a => ?_⟩
        · have w4 : w0 1 i = 4 := by
            rw [r1] at h4
            rcases J i with ⟨p1, -⟩ | ⟨p1, -⟩
            · rw [← p1]; exact h4
            · rw [h4] at p1
              exact absurd p1 (by decide)
          constructor
          · rintro ⟨z, -⟩
            exact Or.inr z
          · rintro (⟨z, b, hb, z2⟩ | z)
            · exact ⟨z, b, by omega, z2⟩
            · exact ⟨z, i, by omega, w4, hc.2⟩
        · rw [t2 q a q1 q5]
          exact hq1 q a q1 q2 q5
        · rw [t2 2 a (by decide) (by decide)]
          exact h21 a
      · have e : rHnd1 x i w = up2 w 2 i 1 := by rw [rHnd1, if_neg hch, if_neg h4]
        rw [e]
        refine ⟨J1.mono (fun a => ?_), hq1, h21⟩
        constructor
        · rintro ⟨z, b, hb, z4, z2⟩
          refine ⟨z, b, ?_, z4, z2⟩
          rcases Nat.lt_or_eq_of_le (Nat.le_of_lt_succ hb) with y | y
          · exact y
          · exfalso
            rw [y] at z4
            rcases J i with ⟨p1, -⟩ | ⟨-, -, p1, -⟩
            · exact h4 (by rw [r1, p1]; exact z4)
            · rw [z4] at p1
              exact absurd p1 (by decide)
        · rintro ⟨z, b, hb, z2⟩
          exact ⟨z, b, by omega, z2⟩
    · have hch : rChi w i x = 0 := by
        by_cases z : rChi w i x = 0
        · exact z
        · have := rChi_iff.mp z
          rw [e2] at this
          exact absurd ⟨fun y => this.1 ((J.z i).mpr y), this.2⟩ hc
      have e : rHnd1 x i w = w := by rw [rHnd1, if_pos hch]
      rw [e]
      refine ⟨J.mono (fun a => ?_), hq, fun a => ?_⟩
      · constructor
        · rintro ⟨z, b, hb, z4, z2⟩
          refine ⟨z, b, ?_, z4, z2⟩
          rcases Nat.lt_or_eq_of_le (Nat.le_of_lt_succ hb) with y | y
          · exact y
          · exfalso
            rw [y] at z4 z2
            exact hc ⟨by rw [z4]; decide, z2⟩
        · rintro ⟨z, b, hb, z2⟩
          exact ⟨z, b, by omega, z2⟩
      · rw [h2]
        by_cases z : a < i ∧ ¬ w0 1 a = 0 ∧ w0 2 a = x
        · rw [if_pos z, if_pos ⟨by omega, z.2⟩]
        · rw [if_neg z, if_neg (fun y => z ⟨by
            rcases Nat.lt_or_eq_of_le (Nat.le_of_lt_succ y.1) with k | k
            · exact k
            · rw [k] at y
              exact absurd y.2 hc, y.2⟩)]) ⟨fun a => Or.inl ⟨rfl, rfl, fun z => absurd z.2.choose_spec.1 (by omega)⟩, fun _ _ _ _ _ => rfl, fun a => by rw [if_neg (by omega)]⟩
  exact h
theorem sF_b {en on wt wh tk : Int32} {b b' : Bool} (h : ¬ wt = 2) : sF en on wt wh tk b = sF en on wt wh tk b' := by
  unfold sF
  simp only [h, if_false]
end
section
theorem rExt1_at (u : St) (j i : Nat) (y : Int32) (q a : Nat) : rExt1 u j i y q a = if q = 4 ∧ a = i then y else if q = 1 ∧ a = i then 4 else if q = 8 ∧ a = j then -1 else u q a := by
  simp only [rExt1, rOff_at, up2_at]
theorem mExt2_at (v : St) (m r : Nat) (y : Int32) (q k : Nat) : mExt2 (zl (mExt1 r) m 0 v) r y q k = if q = 6 ∧ k = r then -1 else if q = 4 ∧ k = r then y else if q = 3 ∧ k = r then 1 else if (q = 2 ∧ k < m) ∧ v 2 k = v 0 r then 1 else v q k := by
  have h0 : (0 ≤ k ∧ k < 0 + m) ↔ k < m := by omega
  simp only [mExt2, up2_at, zl_ext, h0]
theorem sim_exit1 {N n m t lt tk : Nat} {u v : St} {pl : Nat → Nat} (S : zSc N n m t lt tk u v) (hn : n < 600) (y : Int32) : zN N (n + 1) (rEmp N (up2 u 9 3 y)) (up2 (up2 v 9 6 y) 9 2 0) := by
  obtain ⟨p1, p2, p3, p4, p5, p6, p7, p8, p9, b1, b2, b3, b4, b5, b6, b7, b8, b9, b0⟩ := S
  have hU : ∀ q a, rEmp N (up2 u 9 3 y) q a = if q = 8 ∧ a < N then -1 else if q < 8 ∧ a < 15 then 0 else (up2 u 9 3 y) q a := fun q a => rEmp_at _ _ _ _
  refine ⟨0, t, lt, tk, pl, ?_, ?_, ?_, ?_, ?_, ?_⟩
  · refine ⟨by simp [up2_at, nI_0], by omega, by simpa [up2_at] using p3, by simpa [up2_at] using p4, ?_, p6, by simpa [up2_at] using p7, by rw [hU]; simp [up2_at], p9, b1, by rw [hU]; simpa [up2_at] using b2, by rw [hU]; simpa [up2_at] using b3, by simpa [up2_at] using b4, by omega, by simpa [up2_at] using b6, by omega, by omega, fun z => absurd z (by omega), ?_⟩
    · intro k hk
      simpa [up2_at] using p5 k hk
    · obtain ⟨t0, ht0, et0⟩ := b0
      exact ⟨t0, ht0, by rw [hU]; simpa [up2_at] using et0⟩
  · exact ⟨fun k hk => absurd hk (by omega), fun k j hk => absurd hk (by omega), fun k j hk => absurd hk (by omega), fun k hk => absurd hk (by omega), fun k hk => absurd hk (by omega), fun k hk => absurd hk (by omega), fun z => absurd z (by omega)⟩
  · exact fun k hk => absurd hk (by omega)
  · intro i hi z
    rw [hU] at z
    simp [hi] at z
  · intro i hi z
    rw [hU, hU]
    simp [hi]
  · intro j hj
    left
    rw [hU]
    simp [hj]
theorem sim_exit2 {N n m t lt tk : Nat} {u v : St} {pl : Nat → Nat} (S : zSc N n m t lt tk u v) (M : zNum m lt v pl) (Rw : ∀ k, k < m → zRow N m u v (pl k) k) (Cv : zCov N m u v pl) (hn : n < 600) {r j : Nat} (hr : r < m) (hj : j < N) (e6 : v 6 r = nI j) (e8 : u 8 j = nI (pl r)) (z3 : v 3 r = 0) (y : Int32) :
    zN N (n + 1) (rExt2 (rExt1 u j (pl r) y) (pl r)) (mExt2 (zl (mExt1 r) m 0 v) r y) := by
  have hm := S.2.1
  have hN4 : N ≤ 4 := S.2.2.2.2.2.2.2.2.2.1
  obtain ⟨w0, ew⟩ : ∃ w, w = rExt1 u j (pl r) y := ⟨_, rfl⟩
  obtain ⟨V, eV⟩ : ∃ V, V = mExt2 (zl (mExt1 r) m 0 v) r y := ⟨_, rfl⟩
  rw [← ew, ← eV]
  have hw : ∀ q a, w0 q a = if q = 4 ∧ a = pl r then y else if q = 1 ∧ a = pl r then 4 else if q = 8 ∧ a = j then -1 else u q a := fun q a => by rw [ew, rExt1_at]
  have hV : ∀ q k, V q k = if q = 6 ∧ k = r then -1 else if q = 4 ∧ k = r then y else if q = 3 ∧ k = r then 1 else if (q = 2 ∧ k < m) ∧ v 2 k = v 0 r then 1 else v q k := fun q k => by rw [eV, mExt2_at]
  have gr := Rw r hr
  have hpl : ∀ k, k < m → ¬ k = r → ¬ pl k = pl r := fun k hk e z => e (M.2.2.1 k r hk hr z)
  have hwq : ∀ q a, ¬ q = 4 → ¬ q = 1 → ¬ q = 8 → w0 q a = u q a := fun q a h4 h1 h8 => by rw [hw, if_neg (fun z => h4 z.1), if_neg (fun z => h1 z.1), if_neg (fun z => h8 z.1)]
  have hw1 : ∀ a, w0 1 a = if a = pl r then 4 else u 1 a := fun a => by rw [hw]; simp
  have hw1r : w0 1 (pl r) = 4 := by rw [hw1, if_pos rfl]
  have Id : zId m v pl w0 := by
    refine ⟨fun k hk => ⟨(Rw k hk).1, ?_, ?_⟩, fun a ha z => ?_⟩
    · rw [hwq 0 _ (by decide) (by decide) (by decide)]
      exact (Rw k hk).2.2.1
    · rw [hw1]
      split
      · decide
      · rw [(Rw k hk).2.2.2.2.2.2.1]
        exact mSta_ne _ _ _
    · by_cases e : a = pl r
      · exact ⟨r, hr, e.symm⟩
      · rw [hw1, if_neg e] at z
        exact Cv.1 a ha z
  have hpr : ¬ v 2 r = v 0 r := M.2.2.2.2.2.1 r hr
  have ex : w0 0 (pl r) = v 0 r := (Id.1 r hr).2.1
  have hw2 : ∀ a, w0 2 a = u 2 a := fun a => hwq 2 a (by decide) (by decide) (by decide)
  have hw2r : w0 2 (pl r) = v 2 r := by rw [hw2]; exact gr.2.2.2.1
  obtain ⟨J2, q2, p2⟩ := zHnd M Id (v 0 r)
  have e22 : rHnd w0 (v 0 r) 2 (pl r) = v 2 r := by
    rw [p2, if_neg (fun z => hpr (by rw [← hw2r]; exact z.2.2)), hw2r]
  obtain ⟨J3, q3⟩ := J2.tel M (J2.id Id (fun a => q2 0 a (by decide) (by decide) (by decide))) (v 2 r)
  have eU : rExt2 w0 (pl r) = rTel (rHnd w0 (v 0 r)) (v 2 r) := by
    unfold rExt2
    rw [ex, e22]
  rw [eU]
  generalize rTel (rHnd w0 (v 0 r)) (v 2 r) = U at J3 q3
  have hUq : ∀ q a, ¬ q = 1 → ¬ q = 2 → ¬ q = 5 → U q a = w0 q a := fun q a h1 h2 h5 => by rw [q3 q a h1 h5]; exact q2 q a h1 h2 h5
  have hU2 : ∀ a, U 2 a = if a < 15 ∧ ¬ w0 1 a = 0 ∧ w0 2 a = v 0 r then 1 else w0 2 a := fun a => by rw [q3 2 a (by decide) (by decide)]; exact p2 a
  obtain ⟨qr, qr1, qr2, qr3⟩ := M.1 r hr
  have hlt := S.2.2.2.2.2.2.2.2.2.2.2.2.2.2.2.1
  have hr0 : ¬ v 0 r = 0 := fun z => by
    rw [qr3] at z
    have z : nI qr = nI 0 := z
    have := nI_inj z (by omega) (by omega)
    omega
  have hV0 : ∀ k, V 0 k = v 0 k := fun k => by rw [hV]; simp
  have hV2 : ∀ k, k < m → V 2 k = if v 2 k = v 0 r then 1 else v 2 k := fun k hk => by rw [hV]; simp [hk]
  have hVq : ∀ q k, ¬ q = 6 → ¬ q = 4 → ¬ q = 3 → ¬ q = 2 → V q k = v q k := fun q k h6 h4 h3 h2 => by rw [hV, if_neg (fun z => h6 z.1), if_neg (fun z => h4 z.1), if_neg (fun z => h3 z.1), if_neg (fun z => h2 z.1.1)]
  have hVk : ∀ q k, ¬ k = r → ¬ q = 2 → V q k = v q k := fun q k hk h2 => by rw [hV, if_neg (fun z => hk z.2), if_neg (fun z => hk z.2), if_neg (fun z => hk z.2), if_neg (fun z => h2 z.1.1)]
  have hV3r : V 3 r = 1 := by rw [hV]; simp
  have hV2r : V 2 r = v 2 r := by rw [hV2 r hr, if_neg hpr]
  refine ⟨m, t, lt, tk, pl, ?_, ?_, ?_, ?_, ?_, ?_⟩
  · obtain ⟨p1, p2, p3, p4, p5, p6, p7, p8, p9, b1, b2, b3, b4, b5, b6, b7, b8, b9, b0⟩ := S
    have hv9 : ∀ a, V 9 a = v 9 a := fun a => hVq 9 a (by decide) (by decide) (by decide) (by decide)
    have hu9 : ∀ a, U 9 a = u 9 a := fun a => by rw [hUq 9 a (by decide) (by decide) (by decide), hwq 9 a (by decide) (by decide) (by decide)]
    simp only [zSc, hv9, hu9]
    refine ⟨p1, p2, p3, p4, fun k hk => ?_, p6, p7, p8, p9, b1, b2, b3, b4, by omega, b6, by omega, by omega, b9, b0⟩
    rw [hVq 5 k (by decide) (by decide) (by decide) (by decide)]
    refine ⟨?_, (p5 k hk).2⟩
    by_cases e : k = r
    · rw [e, hV3r]; exact Or.inr rfl
    · rw [hVk 3 k e (by decide)]; exact (p5 k hk).1
  · obtain ⟨x1, x2, x3, x4, x5, x6, x7⟩ := M
    refine ⟨fun k hk => by rw [hV0]; exact x1 k hk, fun k i hk hi => by rw [hV0, hV0]; exact x2 k i hk hi, x3, fun k hk => by rw [hV0]; exact x4 k hk, fun k hk z => ?_, fun k hk z => ?_, x7⟩
    · rw [hV0] at z
      rw [hV2 k hk, x5 k hk z, if_neg (fun w => hr0 w.symm)]
    · rw [hV0, hV2 k hk] at z
      by_cases e : v 2 k = v 0 r
      · rw [if_pos e] at z
        rw [x5 k hk z.symm] at e
        exact hr0 e.symm
      · rw [if_neg e] at z
        exact x6 k hk z
  · intro k hk
    by_cases ek : k = r
    · subst ek
      obtain ⟨a1, a2, a3, a4, a5, a6, a7, a8, a9⟩ := gr
      have eU1 : U 1 (pl k) = 4 := by
        rcases J3 (pl k) with ⟨c1, -⟩ | ⟨-, -, c1, -⟩
        · rw [c1, hw1r]
        · rw [hw1r] at c1
          exact absurd c1 (by decide)
      refine ⟨a1, by rw [hVq 1 k (by decide) (by decide) (by decide) (by decide)]; exact a2, by rw [hUq 0 _ (by decide) (by decide) (by decide), hV0]; exact ex, ?_, ?_, ?_, ?_, fun z => ?_, Or.inl (by rw [hV]; simp)⟩
      · rw [hV2r, hU2, if_neg (fun z => hpr (by rw [← hw2r]; exact z.2.2)), hw2r]
      · rw [hUq 3 _ (by decide) (by decide) (by decide), hwq 3 _ (by decide) (by decide) (by decide), hVq 5 k (by decide) (by decide) (by decide) (by decide)]
        exact a5
      · rw [hUq 4 _ (by decide) (by decide) (by decide), hV3r, if_neg (by decide), hw, if_pos ⟨rfl, rfl⟩, hV]
        simp
      · rw [eU1, mSta_sF, hV3r]
        exact (sF_4.mpr (by decide)).symm
      · rw [eU1] at z
        exact absurd z (by decide)
    · have epl := hpl k hk ek
      obtain ⟨a1, a2, a3, a4, a5, a6, a7, a8, a9⟩ := Rw k hk
      have hw1k : w0 1 (pl k) = u 1 (pl k) := by rw [hw1, if_neg epl]
      have hw5k : w0 5 (pl k) = u 5 (pl k) := hwq 5 _ (by decide) (by decide) (by decide)
      have h1ne : ¬ u 1 (pl k) = 0 := by rw [a7]; exact mSta_ne _ _ _
      have hms : mSta V m k = sF (v 3 k) (v 6 k) (v 7 k) (v 8 k) (v 9 3) (decide (mEnd V m k < 0)) := by
        rw [mSta_sF, hVk 3 k ek (by decide), hVk 6 k ek (by decide), hVk 7 k ek (by decide), hVk 8 k ek (by decide), hVq 9 3 (by decide) (by decide) (by decide) (by decide)]
      have base : U 1 (pl k) = mSta V m k → (U 1 (pl k) = 3 → zWt U V (pl k) k) → zRow N m U V (pl k) k := fun hst hwt => by
        refine ⟨a1, by rw [hVk 1 k ek (by decide)]; exact a2, by rw [hUq 0 _ (by decide) (by decide) (by decide), hwq 0 _ (by decide) (by decide) (by decide), hV0]; exact a3, ?_, by rw [hUq 3 _ (by decide) (by decide) (by decide), hwq 3 _ (by decide) (by decide) (by decide), hVk 5 k ek (by decide)]; exact a5, ?_, hst, hwt, ?_⟩
        · rw [hU2, hV2 k hk, hw1k, hw2, a4]
          by_cases z : v 2 k = v 0 r
          · rw [if_pos z, if_pos ⟨a1, h1ne, z⟩]
          · rw [if_neg z, if_neg (fun w => z w.2.2)]
        · rw [hUq 4 _ (by decide) (by decide) (by decide), hw, if_neg (fun z => epl z.2), if_neg (fun z => absurd z.1 (by decide)), if_neg (fun z => absurd z.1 (by decide)), hVk 3 k ek (by decide), hVk 4 k ek (by decide)]
          exact a6
        · rw [hVk 6 k ek (by decide), hVk 3 k ek (by decide), hVk 7 k ek (by decide)]
          rcases a9 with z | ⟨y1, y2, j2, hj2, y3, y4⟩
          · exact Or.inl z
          · refine Or.inr ⟨y1, y2, j2, hj2, y3, ?_⟩
            have : ¬ j2 = j := fun z => by
              rw [z, e8] at y4
              have g1 := gr.1
              exact epl (nI_inj y4 (by omega) (by omega)).symm
            rw [hUq 8 _ (by decide) (by decide) (by decide), hw, if_neg (fun z => absurd z.1 (by decide)), if_neg (fun z => absurd z.1 (by decide)), if_neg (fun z => this z.2)]
            exact y4
      have hz4 : ∀ c, c < m → (u 1 (pl c) = 4 ↔ ¬ v 3 c = 0) := fun c hc => by
        rw [(Rw c hc).2.2.2.2.2.2.1, mSta_sF]
        exact sF_4
      rcases J3 (pl k) with ⟨c1, c5, cK⟩ | ⟨c1, c5, d1, d5, cK⟩
      · rw [hw1k] at c1 cK
        rw [hw5k] at c5 cK
        refine base ?_ (fun z => ?_)
        · rw [c1, hms, a7, mSta_sF]
          by_cases h7 : v 7 k = 2
          · by_cases hne : zNE v m k
            · have hne2 : (v 3 k = 0 ∧ v 6 k < 0) → zNE V m k := fun hh c hc e => by
                have e3 : u 1 (pl k) = 3 := by
                  rw [a7, mSta_sF, hh.1, h7]
                  simp [sF, hh.2, mEnd_neg hm, hne]
                have nK := fun z => cK z ⟨e3, by rw [(a8 e3).1]; exact h7⟩
                rw [hV0] at e
                by_cases ec : c = r
                · rw [ec, hV2r] at e
                  exact absurd (Or.inr ⟨k, hk, e.symm, rfl⟩) nK
                · rw [hVk 3 c ec (by decide)]
                  rw [hV2 c hc] at e
                  by_cases e2 : v 2 c = v 0 r
                  · rw [if_pos e2] at e
                    by_cases y3 : v 3 c = 0
                    · exact y3
                    · exfalso
                      refine nK (Or.inl ⟨⟨k, hk, e.symm, rfl⟩, pl c, (Rw c hc).1, ?_, ?_⟩)
                      · rw [hw1, if_neg (hpl c hc ec)]
                        exact (hz4 c hc).mpr y3
                      · rw [hw2, (Rw c hc).2.2.2.1]
                        exact e2
                  · rw [if_neg e2] at e
                    exact hne c hc e
              by_cases hh : v 3 k = 0 ∧ v 6 k < 0
              · have : decide (mEnd V m k < 0) = decide (mEnd v m k < 0) := by
                  rw [decide_eq_decide, mEnd_neg hm, mEnd_neg hm]
                  exact ⟨fun _ => hne, fun _ => hne2 hh⟩
                rw [this]
              · by_cases h3 : v 3 k = 0
                · rw [h3, sF_on (fun z => hh ⟨h3, z⟩), sF_on (fun z => hh ⟨h3, z⟩)]
                · rw [sF_4.mpr h3, sF_4.mpr h3]
            · have hne2 : ¬ zNE V m k := fun z => hne (fun c hc e => by
                by_cases ec : c = r
                · rw [ec]; exact z3
                · have hkr : ¬ v 2 c = v 0 r := fun y => ek (M.2.1 k r hk hr (e.symm.trans y))
                  have := z c hc (by rw [hV2 c hc, if_neg hkr, hV0]; exact e)
                  rwa [hVk 3 c ec (by decide)] at this)
              have : decide (mEnd V m k < 0) = decide (mEnd v m k < 0) := by
                rw [decide_eq_decide, mEnd_neg hm, mEnd_neg hm]
                exact ⟨fun y => absurd y hne2, fun y => absurd y hne⟩
              rw [this]
          · exact sF_b h7
        · rw [c1] at z
          obtain ⟨x1, x2, x3⟩ := a8 z
          have hu6 : U 6 (pl k) = u 6 (pl k) := by rw [hUq 6 _ (by decide) (by decide) (by decide), hwq 6 _ (by decide) (by decide) (by decide)]
          have hu7 : U 7 (pl k) = u 7 (pl k) := by rw [hUq 7 _ (by decide) (by decide) (by decide), hwq 7 _ (by decide) (by decide) (by decide)]
          unfold zWt
          rw [c5, hu6, hu7, hVk 7 k ek (by decide), hVk 8 k ek (by decide), hVq 9 3 (by decide) (by decide) (by decide) (by decide)]
          exact ⟨x1, x2, x3⟩
      · rw [hw1k] at d1
        rw [hw5k] at d5
        have h7 : v 7 k = 2 := by rw [← (a8 d1).1]; exact d5
        have hs : v 3 k = 0 ∧ v 6 k < 0 := sF_3 (by rw [← mSta_sF, ← a7]; exact d1)
        have hne2 : ¬ zNE V m k := fun z => by
          rcases cK with ⟨⟨k', hk', o1, o2⟩, b, hb, f1, f2⟩ | ⟨k', hk', o1, o2⟩
          · have ekk := M.2.2.1 k k' hk hk' o2
            rw [← ekk] at o1
            have hbr : ¬ b = pl r := fun y => hpr (by rw [← hw2r, ← y]; exact f2)
            rw [hw1, if_neg hbr] at f1
            obtain ⟨c, hc, ec⟩ := Cv.1 b (by omega) (by rw [f1]; decide)
            rw [← ec] at f1 f2 hbr
            have hcr : ¬ c = r := fun y => hbr (by rw [y])
            have f3 := (hz4 c hc).mp f1
            rw [hw2, (Rw c hc).2.2.2.1] at f2
            have := z c hc (by rw [hV2 c hc, if_pos f2, hV0, o1])
            rw [hVk 3 c hcr (by decide)] at this
            exact f3 this
          · have ekk := M.2.2.1 k k' hk hk' o2
            rw [← ekk] at o1
            have := z r hr (by rw [hV2r, hV0, o1])
            rw [hV3r] at this
            exact absurd this (by decide)
        refine base ?_ (fun z => by rw [c1] at z; exact absurd z (by decide))
        rw [c1, hms, hs.1, h7]
        have : ¬ mEnd V m k < 0 := fun z => hne2 ((mEnd_neg hm).mp z)
        simp [sF, hs.2, this]
  · intro a ha z
    exact Id.2 a ha (fun y => z ((J3.z a).mpr y))
  · intro a ha z
    have z0 := (J3.z a).mp z
    have har : ¬ a = pl r := fun y => by
      rw [y, hw1r] at z0
      exact absurd z0 (by decide)
    rw [hw1, if_neg har] at z0
    have hc := Cv.2.1 a ha z0
    rw [hUq 3 a (by decide) (by decide) (by decide), hUq 4 a (by decide) (by decide) (by decide), hwq 3 a (by decide) (by decide) (by decide), hw, if_neg (fun y => har y.2), if_neg (fun y => absurd y.1 (by decide)), if_neg (fun y => absurd y.1 (by decide))]
    exact hc
  · intro j' hj'
    rw [hUq 8 j' (by decide) (by decide) (by decide)]
    by_cases ej : j' = j
    · left
      rw [hw, if_neg (fun y => absurd y.1 (by decide)), if_neg (fun y => absurd y.1 (by decide)), if_pos ⟨rfl, ej⟩]
    · rw [hw, if_neg (fun y => absurd y.1 (by decide)), if_neg (fun y => absurd y.1 (by decide)), if_neg (fun y => ej y.2)]
      rcases Cv.2.2 j' hj' with z | ⟨k, hk, y1, y2⟩
      · exact Or.inl z
      · have hkr : ¬ k = r := fun y => by
          rw [y, e6] at y2
          exact ej (nI_inj y2 (by omega) (by omega)).symm
        exact Or.inr ⟨k, hk, y1, by rw [hVk 6 k hkr (by decide)]; exact y2⟩
theorem sim_exit {N n m t : Nat} {u v : St} (h : zB N n m t u v) (hn : n < 600) (x y : Int32) : (rExt N u x y).1 = (mExt v m x y).1 ∧ zN N (n + 1) (rExt N u x y).2 (mExt v m x y).2 := by
  have h' := h
  obtain ⟨lt, tk, pl, S, M, Rw, Cv⟩ := h
  have hm := S.2.1
  have hN4 : N ≤ 4 := S.2.2.2.2.2.2.2.2.2.1
  rcases zOn S M Rw Cv x with ⟨e1, e2⟩ | ⟨j, r, hj, hr, rfl, e6, e8, e1, e2, z3, z7⟩
  · have a : rExt N u x y = (-1, u) := by simp [rExt, e1]
    have b : mExt v m x y = (-1, v) := by simp [mExt, e2, nn_m1]
    rw [a, b]
    exact ⟨rfl, h'.up hn⟩
  · have g := Rw r hr
    have g1 := g.1
    have c1 := nI_clamp (show pl r < 2 ^ 31 by omega)
    have c2 := nI_clamp (show r < 2 ^ 31 by omega)
    have c3 := nI_clamp (show j < 2 ^ 31 by omega)
    have n1 := nI_m1 (show pl r < 2 ^ 31 by omega)
    have n2 := nI_pos' (show r < 2 ^ 31 by omega)
    by_cases h0 : pl r = 0
    · have hone : v 0 r = 1 := (M.2.2.2.1 r hr).mpr h0
      have hz : nI (pl r) = 0 := by rw [h0]; exact nI_0
      have a : rExt N u (nI j) y = (nI (pl r), rEmp N (up2 u 9 3 y)) := by
        unfold rExt
        rw [e1, if_neg n1, if_pos hz]
      have b : mExt v m (nI j) y = (v 1 r, up2 (up2 v 9 6 y) 9 2 0) := by
        unfold mExt
        rw [e2, if_pos n2]
        simp only [cl, c2]
        rw [if_pos hone]
      rw [a, b]
      exact ⟨g.2.1.symm, sim_exit1 (pl := pl) S hn y⟩
    · have hone : ¬ v 0 r = 1 := fun z => h0 ((M.2.2.2.1 r hr).mp z)
      have hz : ¬ nI (pl r) = 0 := fun z => by
        have z : nI (pl r) = nI 0 := z
        exact h0 (nI_inj z (by omega) (by omega))
      have a : rExt N u (nI j) y = (nI (pl r), rExt2 (rExt1 u j (pl r) y) (pl r)) := by
        unfold rExt
        rw [e1, if_neg n1, if_neg hz]
        simp only [cl, c1, c3]
      have b : mExt v m (nI j) y = (v 1 r, mExt2 (zl (mExt1 r) m 0 v) r y) := by
        unfold mExt
        rw [e2, if_pos n2]
        simp only [cl, c2]
        rw [if_neg hone]
      have e := sim_exit2 S M Rw Cv hn hr hj e6 e8 z3 y
      rw [a, b]
      dsimp only
      exact ⟨g.2.1.symm, e⟩
end
section
/-! THE CLAIM OUT OF ONE WALK OF THE LAW'S BODY. Your part is whole_start (and what it stands on); all else here is the same for every law, but numbers. -/
def R_law : String := "ProcRingLaw"
def lw_P (b : Addr) (xs : List Int32) (args : Array Value) (s : State) : Prop := args = #[.ref b] ∧ s.IntsAt b xs ∧ xs.length ≤ 1537 ∧ (Jvm.Cond.and given_1 narrow_1).before args s = true
def lw_Q (_ : Array Value) (s : State) (o : Outcome) (t : State) : Prop := o = .returned (some (.int 1)) ∧ Framed s o t [] 600000 7302250
def lw_Z (below : List Frame) (a : Array Value) (s : State) : State → Prop := fun t => ∃ o, t.status = .running ∧ Ended t below o ∧ lw_Q a s o t
/-- the law's own end, with 1 on the stack, nothing written that was there before, its room as the claim has it -/
theorem lw_ret {p : Program} {l : Launch} {e : Env} {s : State} {m : MethodId} {below : List Frame} {meth : Method} {c : Code} {b : Nat} (hx : p.tables.exec = Jvm.exec) (hb : c.code = code) (hr : meth.sig.returnType = ret) (hlocks : meth.locks = false) {pc : Nat} {H : Heap} {ls : Array Slot} (hdg : decode code pc = .ok (.ireturn, 1)) : W p l e room_1 s m #[Value.ref b] below meth c H [] 600000 7302250 (lw_Z below #[Value.ref b] s) (F0 m pc ls [.int 1]) := by
  intro T hT X
  obtain ⟨fs, hret, hrun, hended, hW, hframe⟩ := X.leave (v := some (.int 1)) (hlocks := hlocks) (fun h => by rw [hr] at h; cases h)
  have hmeth' : T.vm.method? m = some meth := X.method'
  refine ⟨T.setFrames fs, ?_, .returned (some (.int 1)), hrun, hended, rfl, ⟨_, rfl⟩, hW, hframe⟩
  jvm_step X.here [X.here.top, hx, hb, hdg, hmeth', hr, ret, narrow_b1]
  (try refine ⟨rfl, ?_⟩); (try refine ⟨rfl, ?_⟩)
  first | (intro acts; rw [hret _ acts rfl rfl rfl]) | rw [hret _ _ rfl rfl rfl]
  exact Steps.refl _
/-- what holds at the law's entry: the machine, the code, the tables' words (any of lw_tbl by 'hts w (by decide +kernel)'), the script of L ints xs at the cell b, what the Statement gives of the start (any of its parts by flat_of_before) -/
def lw_At (p : Program) (s : State) (m : MethodId) (meth : Method) (c : Code) (b L : Nat) (xs : Nat → Int32) : Prop :=
  p.tables.exec = Jvm.exec ∧ c.code = code ∧ meth.sig.returnType = ret ∧ c.maxLocals = 4 ∧ s.vm.findClass R_law = some m.cls ∧ (∀ w ∈ lw_tbl, w.before #[Value.ref b] s = true) ∧ va_X b L xs s s.heap ∧ b < s.heap.size ∧ meth.locks = false ∧ (Jvm.Cond.and given_1 narrow_1).before #[Value.ref b] s = true
end
section
theorem gwS {w : Cond} {own : String} {idx : Nat} {y : MethodName} (h1 : Cond.methodLink own idx y ∈ lw_gd) (h2 : Cond.static y ∈ lw_gd) (h4 : Cond.initialized y.cls ∈ lw_gd) (h5 : w ∈ lw_gd) : GoodIn lw_gd (va_wsS own idx y (w :: lw_gd)) := by
  have g : ∀ a ∈ lw_gd, a ∈ lw_gd ∧ ((a.onTables && a.keeps) = true ∨ ∃ ty, a = .arrayClass ty) := fun a h => ⟨h, good_of_word (List.all_eq_true.mp lw_good a h)⟩
  intro a ha
  refine g a ?_
  unfold va_wsS at ha
  rcases List.mem_append.mp ha with q | q
  · simp only [List.mem_cons, List.not_mem_nil, or_false] at q
    rcases q with rfl | rfl | rfl
    · exact h1
    · exact h2
    · exact h4
  · rcases List.mem_cons.mp q with rfl | q
    · exact h5
    · exact q
/-- the first int of the script, 0 if there is none -/
def xs0 (L : Nat) (xs : Nat → Int32) : Int32 := if L = 0 then 0 else xs 0
set_option maxHeartbeats 4000000 in
theorem l_cell (l : Launch) (D : va_G) {b L : Nat} {xs : Nat → Int32} (hL : L < 2 ^ 31) (sz : Nat) : Met l yL_cell wsL_cell { frames := 0, cells := 0, slots := 0, locals := 0 } (va_Pc [.ref b, .int 0] (fun U => U.heap.size = sz ∧ va_X b L xs U U.heap ∧ b < sz)) (fun _ st oc t => oc = .returned (some (.int (xs0 L xs))) ∧ va_F (fun q => sz ≤ q) st t) 0 0 (fun q => sz ≤ q) := by
  refine Met.ofW (cc := cL_cell) (maxL := 2) (ret := some .int) (by decide) rfl ?_
  intro p e s m args below meth c s₁ B hml hv
  obtain ⟨rfl, hsz, hX, hbl⟩ := hv
  have hx := B.exec
  have hb := B.bytes
  have hr := B.returns
  have hts := atoms_spec (ws := wsL_cell) B.pre
  have hown : s.vm.findClass RL = some m.cls := findClass_of_methodNamed B.named
  have hlocks := B.notSynchronized
  subst hsz
  have hbA : ¬ (fun q : Nat => s.heap.size ≤ q) b := Nat.not_le.mpr hbl
  have hK : va_K D [] [] s := ⟨fun c q h => by simp at h, fun k q h => by simp at h⟩
  have X : zz_X p s m [Value.ref b, .int 0].toArray c cL_cell 2 wsL_cell RL D [] [] (fun q : Nat => s.heap.size ≤ q) := ⟨⟨hx, hb, hml, hown, hts⟩, hK, fun q h => h⟩
  have hl := lv_entry [Value.ref b, .int 0] (n := 2) (Nat.le_of_ble_eq_true rfl)
  rw [lg_entry_eq]
  have ret : ∀ (lv : List (Option Value)) (x : Int32), x = xs0 L xs → zz_V p l e (headSpec wsL_cell { frames := 0, cells := 0, slots := 0, locals := 0 }).room s m [Value.ref b, .int 0].toArray below meth c 0 0 (MQ below (fun _ st oc t => oc = .returned (some (.int (xs0 L xs))) ∧ va_F (fun q => s.heap.size ≤ q) st t) [Value.ref b, .int 0].toArray s 0 0 (fun q => s.heap.size ≤ q)) 2 D [] (fun q : Nat => s.heap.size ≤ q) [] lv 13 [.int x] := by
    intro lv x ex H locs ls hP hD hS hl
    exact W.iret hx hb hr (fun t ht hW => ⟨by rw [ex], hS.F ht⟩) hS.2.2 dL_cell_13
  have go : zz_V p l e (headSpec wsL_cell { frames := 0, cells := 0, slots := 0, locals := 0 }).room s m [Value.ref b, .int 0].toArray below meth c 0 0 (MQ below (fun _ st oc t => oc = .returned (some (.int (xs0 L xs))) ∧ va_F (fun q => s.heap.size ≤ q) st t) [Value.ref b, .int 0].toArray s 0 0 (fun q => s.heap.size ≤ q)) 2 D [] (fun q : Nat => s.heap.size ≤ q) [] [some (.ref b), some (.int 0)] 0 [] := by
    refine zz_iload_n X dL_cell_0 rfl rfl ?_
    refine zz_aload_n X dL_cell_1 rfl rfl ?_
    refine zz_slen X hX hbl hbA dL_cell_2 ?_
    refine zz_icmp_ge (tgt := 12) X dL_cell_3 (by decide) (fun h1 => ?_) (fun h1 => ?_)
    · refine zz_iconst (v := 0) X dL_cell_12 (by decide) ?_
      refine ret _ _ ?_
      have h1 : nI L ≤ nI 0 := h1
      rw [nI_leI hL (by decide)] at h1
      rw [xs0, if_pos (by omega)]
    · have h0 : 0 < L := by
        rcases Nat.eq_zero_or_pos L with q | q
        · exact absurd (by rw [q]; decide) h1
        · exact q
      refine zz_aload_n X dL_cell_6 rfl rfl ?_
      refine zz_iload_n X dL_cell_7 rfl rfl ?_
      refine zz_sld (j := 0) X hX hbl hbA (by decide) h0 hL dL_cell_8 ?_
      refine zz_goto (tgt := 13) X dL_cell_9 (by decide) ?_
      exact ret _ _ (by rw [xs0, if_neg (by omega)])
  exact go s.heap [] _ (fun k q h => by simp at h) ⟨fun i j p q h => by simp at h, fun k q h => by simp at h⟩ va_S.rf (zz_L.entry (vs := [Value.ref b, .int 0]) (fun v hv => by simp only [List.mem_cons, List.not_mem_nil, or_false] at hv; rcases hv with rfl | rfl <;> rfl) rfl hl)
section LL
variable {p : Program} {l : Launch} {e : Env} {s : State} {m : MethodId} {args : Array Value} {below : List Frame} {meth : Method} {c : Code} {cells slots : Nat} {Q : State → Prop} {D : va_G} {tys : List (ClassId × FieldType)} {A : Nat → Prop} {ws : va_W} {lv : List (Option Value)} {pc : Nat} {st : List Value}
theorem ll_cell (X : zz_X p s m args c code 4 lw_gd RL D vwCl tys A) {b L : Nat} {xs : Nat → Int32} (hL : L < 2 ^ 31) (hX : va_X b L xs s s.heap) (hbl : b < s.heap.size) (hbA : ¬ A b) (hdg : decode code pc = .ok (.invokestatic 9, 3)) (hrm : (st.map fun v => v.category).sum ≤ 8) (hcs : cells ≤ room_1.cells ∧ slots ≤ room_1.slots)
    (k : zz_V p l e room_1 s m args below meth c cells slots Q 4 D vwCl A ws lv (pc + 3) (.int (xs0 L xs) :: st)) : zz_V p l e room_1 s m args below meth c cells slots Q 4 D vwCl A ws lv pc (.int 0 :: .ref b :: st) := by
  intro H locs ls hP hD hS hl T hT XX
  have hbH : H[b]? = s.heap[b]? := hS.2.1 b hbl hbA
  have hbz : b < H.size := Nat.lt_of_lt_of_le hbl hS.1
  have cw := va_cwS (R := room_1) (s := s) (args := args) (own := RL) (index := 9) (y := yL_cell) (bytes := cL_cell) (maxL := 2) (ret := some .int) (mc := 0) (ms := 0) (rm := { frames := 0, cells := 0, slots := 0, locals := 0 }) 2 X.1.2.2.2.2 (gwS lkL_9 stL_cell itL cdL_cell) rfl rfl rfl (by decide +kernel) ⟨Nat.le_of_ble_eq_true rfl, Nat.le_of_ble_eq_true rfl⟩
  obtain ⟨v, st₀, t, T', Lc, h0, X', hLc, e1, e2, ⟨hv, hz, hk⟩, stp⟩ := va_runS (p := p) (e := e) (meth := meth) (below := below) (H := H) (locs := locs) (cells := cells) (slots := slots) (g := F0 m pc ls (.int 0 :: .ref b :: st)) (As := [.ref b, .int 0]) (rest := st) X.1 (l_cell l D (b := b) (xs := xs) hL H.size) cw ⟨fun a U g mk q => by obtain ⟨q0, q1, q2, q3⟩ := q; exact ⟨q0, q1, va_X.moved (u := U) (U := U.calling g mk a) (Vm.Alike.refl U.vm) q2, q3⟩, fun U hU hW => ⟨rfl, by rw [hU], by rw [hU]; exact va_X.moved hW.alike (hX.kept hbH), hbz⟩⟩ rfl rfl hl.1 rfl (lv_room hrm) hdg hcs T hT XX
  have hv : v = some (.int (xs0 L xs)) := Outcome.returned.inj hv
  subst hv
  rw [h0] at hz hk
  rw [← e1] at hz hk
  have hkk : ∀ q : Nat, q < H.size → T'.heap[q]? = H[q]? := fun q h => hk q h (Nat.not_le.mpr h)
  have hP2 : va_P D vwCl ws T'.heap := hP.kept (fun j q hj => hkk q.1 (hP j q hj).lt)
  obtain ⟨t2, a1, b1⟩ := k T'.heap (locs ++ Lc) ls hP2 hD ⟨Nat.le_trans hS.1 hz, fun q h1 h2 => by rw [hkk q (Nat.lt_of_lt_of_le h1 hS.1)]; exact hS.2.1 q h1 h2, fun q hq => by
      rcases List.mem_append.mp hq with h | h
      · exact hS.2.2 q h
      · exact X.2.2 _ (Nat.le_trans hS.1 (hLc q h))⟩ hl T' rfl X'
  exact ⟨t2, stp t2 a1, b1⟩
variable {h h2 N : Nat} {a a2 : Nat → Nat} {ca ca2 : Nat → ClassId} {u u2 v v2 : St}
abbrev zz_W (p : Program) (l : Launch) (e : Env) (s : State) (m : MethodId) (args : Array Value) (below : List Frame) (meth : Method) (c : Code) (Q : State → Prop) (D : va_G) (A : Nat → Prop) : va_W → List (Option Value) → Nat → List Value → Prop := zz_V p l e room_1 s m args below meth c 20 400 Q 4 D vwCl A
theorem ll_ring (X : zz_X p s m args c code 4 lw_gd RL D vwCl (tyP ca ++ tyM ca2) A) {y : MethodName} {bytes : ByteArray} {maxL index n : Nat} {ret : Option FieldType} {wy : List Cond} {rm : Room} {As rest : List Value} {x : Int32} (hC : cP l D h a ca N y wy rm As u (some (.int x)) u2) (cw : CallW room_1 s args RL RX0 index y bytes maxL ret wy rm 0 0 n) (hn : As.length = n) (hst : st = As.reverse ++ .ref h :: rest) (hrm : (rest.map fun v => v.category).sum ≤ 8) (hdg : decode code pc = .ok (.invokevirtual index, 3))
    (k : zz_W p l e s m args below meth c Q D A (wM h2 a2 ca2 v ++ wP h a ca N u2) lv (pc + 3) (.int x :: rest)) : zz_W p l e s m args below meth c Q D A (wP h a ca N u ++ wM h2 a2 ca2 v) lv pc st :=
  zz_call (q0 := 0) (wr := wM h2 a2 ca2 v) (ws' := wM h2 a2 ca2 v ++ wP h a ca N u2) X hC (X.2.1.sub [0, 1, 2, 3, 4, 5, 6, 7, 8] rfl) cw rfl rfl hn hst hrm hdg ⟨by decide, by decide⟩ [0, 1, 2, 3, 4, 5, 6, 7, 8, 9] [10, 11, 12, 13, 14, 15, 16, 17, 18, 19] rfl rfl rfl (by decide) (by decide) (by decide) rfl k
theorem ll_mod (X : zz_X p s m args c code 4 lw_gd RL D vwCl (tyP ca ++ tyM ca2) A) {y : MethodName} {bytes : ByteArray} {maxL index n : Nat} {ret : Option FieldType} {wy : List Cond} {rm : Room} {As rest : List Value} {x : Int32} (hC : cM l D h2 a2 ca2 y wy rm As v (some (.int x)) v2) (cw : CallW room_1 s args RL RX1 index y bytes maxL ret wy rm 0 0 n) (hn : As.length = n) (hst : st = As.reverse ++ .ref h2 :: rest) (hrm : (rest.map fun v => v.category).sum ≤ 8) (hdg : decode code pc = .ok (.invokevirtual index, 3))
    (k : zz_W p l e s m args below meth c Q D A (wP h a ca N u ++ wM h2 a2 ca2 v2) lv (pc + 3) (.int x :: rest)) : zz_W p l e s m args below meth c Q D A (wM h2 a2 ca2 v ++ wP h a ca N u) lv pc st :=
  zz_call (q0 := 0) (wr := wP h a ca N u) (ws' := wP h a ca N u ++ wM h2 a2 ca2 v2) X hC (X.2.1.sub [9, 10, 11, 12, 13, 14, 15, 16, 17] rfl) cw rfl rfl hn hst hrm hdg ⟨by decide, by decide⟩ [0, 1, 2, 3, 4, 5, 6, 7, 8, 9] [10, 11, 12, 13, 14, 15, 16, 17, 18, 19] rfl rfl rfl (by decide) (by decide) (by decide) rfl k
end LL
theorem ll_cmp {i L : Nat} (hi : i < 2 ^ 30) (hL : L < 2 ^ 30) : (nI L - 3 < nI i) ↔ L < i + 3 := by
  rw [Int32.lt_iff_toInt_lt, show (3 : Int32) = nI 3 from rfl, pk_sub_toInt hL (by decide), nI_toInt (by omega)]
  omega
set_option maxHeartbeats 4000000 in
set_option maxRecDepth 100000 in
theorem law_loop {p : Program} {l : Launch} {e : Env} {s : State} {m' : MethodId} {below : List Frame} {meth : Method} {c : Code} {b L : Nat} {xs : Nat → Int32} {D : va_G} {h h2 N : Nat} {a a2 : Nat → Nat} {ca ca2 : Nat → ClassId} (hL : L ≤ 1537) (C0 : lw_At p s m' meth c b L xs) (X : zz_X p s m' #[Value.ref b] c code 4 lw_gd RL D vwCl (tyP ca ++ tyM ca2) (fun q : Nat => s.heap.size ≤ q)) (hN4 : N ≤ 4) :
    ∀ (k n i : Nat) (u v : St), L < i + 3 + 3 * k → i = 3 * n + 1 → i < L + 4 → zN N n u v → zz_W p l e s m' #[Value.ref b] below meth c (lw_Z below #[Value.ref b] s) D (fun q : Nat => s.heap.size ≤ q) (wP h a ca N u ++ wM h2 a2 ca2 v) [some (.ref b), some (.ref h), some (.ref h2), some (.int (nI i))] 28 [] := by
  obtain ⟨hx, hb, hr, hml, hown, hts, hX, hbl, hlocks, hgv⟩ := C0
  have hN : N < 2 ^ 31 := by omega
  have hbA : ¬ (fun q : Nat => s.heap.size ≤ q) b := Nat.not_le.mpr hbl
  have fin : ∀ (ws : va_W) (lv : List (Option Value)), zz_W p l e s m' #[Value.ref b] below meth c (lw_Z below #[Value.ref b] s) D (fun q : Nat => s.heap.size ≤ q) ws lv 450 [] := by
    intro ws lv
    refine zz_iconst (v := 1) X dL_law_450 (by decide) ?_
    intro H locs ls hP hD hS hl
    refine va_forget (fun q hq => hS.2.2 q hq) ?_
    refine W.widen (k := 600000) (n := 7302250) (by decide) (by decide) ?_
    exact lw_ret hx hb hr hlocks dL_law_451
  have head : ∀ (i : Nat) (u v : St), i < 2 ^ 30 → (¬ L < i + 3 → zz_W p l e s m' #[Value.ref b] below meth c (lw_Z below #[Value.ref b] s) D (fun q : Nat => s.heap.size ≤ q) (wP h a ca N u ++ wM h2 a2 ca2 v) [some (.ref b), some (.ref h), some (.ref h2), some (.int (nI i))] 36 []) → zz_W p l e s m' #[Value.ref b] below meth c (lw_Z below #[Value.ref b] s) D (fun q : Nat => s.heap.size ≤ q) (wP h a ca N u ++ wM h2 a2 ca2 v) [some (.ref b), some (.ref h), some (.ref h2), some (.int (nI i))] 28 [] := by
    intro i u v hi kf
    refine zz_iload_n X dL_law_28 rfl rfl ?_
    refine zz_aload_n X dL_law_29 rfl rfl ?_
    refine zz_slen X hX hbl hbA dL_law_30 ?_
    refine zz_iconst (v := 3) X dL_law_31 (by decide) ?_
    refine zz_isub X dL_law_32 ?_
    exact zz_icmp_gt (tgt := 450) X dL_law_33 (by decide) (fun _ => fin _ _) (fun q => kf (fun z => q ((ll_cmp hi (by omega)).mpr z)))
  intro k
  induction k with
  | zero =>
    intro n i u v h1 h3 h5 hR
    exact head i u v (by omega) (fun q => absurd h1 q)
  | succ k ih =>
    intro n i u v h1 h3 h5 hR
    refine head i u v (by omega) (fun h4 => ?_)
    have next : ∀ (u v : St), zN N (n + 1) u v → zz_W p l e s m' #[Value.ref b] below meth c (lw_Z below #[Value.ref b] s) D (fun q : Nat => s.heap.size ≤ q) (wP h a ca N u ++ wM h2 a2 ca2 v) [some (.ref b), some (.ref h), some (.ref h2), some (.int (nI i))] 444 [] := by
      intro u v hR
      refine zz_iinc (v := nI (i + 3)) (lv' := [some (.ref b), some (.ref h), some (.ref h2), some (.int (nI (i + 3)))]) X dL_law_444 rfl (nI_add i 3) (by decide) rfl ?_
      refine zz_goto (tgt := 28) X dL_law_447 (by decide) ?_
      exact ih (n + 1) (i + 3) u v (by omega) (by omega) (by omega) hR
    have e1 : nI i + 1 = nI (i + 1) := nI_1 i
    have e2 : nI i + 2 = nI (i + 2) := nI_add i 2
    obtain ⟨m, t, hB⟩ := hR
    have hn6 : n < 600 := by omega
    refine zz_aload_n X dL_law_36 rfl rfl ?_
    refine zz_iload_n X dL_law_37 rfl rfl ?_
    refine zz_sld (j := i) X hX hbl hbA rfl (by omega) (by omega) dL_law_38 ?_
    refine zz_bipush (v := 15) X dL_law_39 (by decide) ?_
    refine zz_iand X dL_law_41 ?_
    obtain ⟨d, hd, ed⟩ := pk_andE (xs i) (m := 15) 4 (by decide)
    refine zz_top ed ?_
    obtain ⟨x, hxx⟩ : ∃ x, x = xs (i + 1) := ⟨_, rfl⟩
    obtain ⟨y, hyy⟩ : ∃ y, y = xs (i + 2) := ⟨_, rfl⟩
    rcases (show d = 0 ∨ d = 1 ∨ d = 2 ∨ d = 3 ∨ d = 4 ∨ d = 5 ∨ d = 6 ∨ d = 7 ∨ d = 8 ∨ d = 9 ∨ d = 10 ∨ d = 11 ∨ d = 12 ∨ d = 13 ∨ d = 14 ∨ d = 15 by omega) with rfl | rfl | rfl | rfl | rfl | rfl | rfl | rfl | rfl | rfl | rfl | rfl | rfl | rfl | rfl | rfl
    · refine zz_tabIn (tgt := 112) X dL_law_42 (by decide) (by decide) rfl (by decide) ?_
      refine zz_aload_n X dL_law_112 rfl rfl ?_
      refine ll_ring (rest := []) X (c_first hN u) (cwV 0 X.1.2.2.2.2 (gwL lkL_21 imX0_first seX0_first itX0 cdX0_first) rfl rfl rfl hdX0_first ⟨Nat.le_of_ble_eq_true rfl, Nat.le_of_ble_eq_true rfl⟩) rfl rfl (Nat.le_of_ble_eq_true rfl) dL_law_113 ?_
      refine zz_aload_n X dL_law_116 rfl rfl ?_
      refine ll_mod (rest := [.int ((rFst u).1)]) X (m_first v m hB.m hB.m15 hB.th) (cwV 0 X.1.2.2.2.2 (gwL lkL_25 imX1_first seX1_first itX1 cdX1_first) rfl rfl rfl hdX1_first ⟨Nat.le_of_ble_eq_true rfl, Nat.le_of_ble_eq_true rfl⟩) rfl rfl (Nat.le_of_ble_eq_true rfl) dL_law_117 ?_
      obtain ⟨es, hs⟩ := sim_first hB hn6
      refine zz_icmp_eq (tgt := 444) X dL_law_120 (by decide) (fun _ => next _ _ hs) (fun hq => absurd es hq)
    · refine zz_tabIn (tgt := 125) X dL_law_42 (by decide) (by decide) rfl (by decide) ?_
      refine zz_aload_n X dL_law_125 rfl rfl ?_
      refine zz_aload_n X dL_law_126 rfl rfl ?_
      refine zz_iload_n X dL_law_127 rfl rfl ?_
      refine zz_iconst (v := 1) X dL_law_128 (by decide) ?_
      refine zz_iadd X dL_law_129 ?_
      refine zz_top e1 ?_
      refine zz_sld (j := i + 1) X hX hbl hbA rfl (by omega) (by omega) dL_law_130 ?_
      refine zz_top hxx.symm ?_
      refine ll_ring (rest := []) X (c_pick hN u hB.I x) (cwV 1 X.1.2.2.2.2 (gwL lkL_26 imX0_pick seX0_pick itX0 cdX0_pick) rfl rfl rfl hdX0_pick ⟨Nat.le_of_ble_eq_true rfl, Nat.le_of_ble_eq_true rfl⟩) rfl rfl (Nat.le_of_ble_eq_true rfl) dL_law_131 ?_
      refine zz_aload_n X dL_law_134 rfl rfl ?_
      refine zz_aload_n X dL_law_135 rfl rfl ?_
      refine zz_iload_n X dL_law_136 rfl rfl ?_
      refine zz_iconst (v := 1) X dL_law_137 (by decide) ?_
      refine zz_iadd X dL_law_138 ?_
      refine zz_top e1 ?_
      refine zz_sld (j := i + 1) X hX hbl hbA rfl (by omega) (by omega) dL_law_139 ?_
      refine zz_top hxx.symm ?_
      refine ll_mod (rest := [.int ((rPck N u x).1)]) X (m_pick v m hB.m hB.m15 hB.th t hB.t.1 hB.t.2 x) (cwV 1 X.1.2.2.2.2 (gwL lkL_30 imX1_pick seX1_pick itX1 cdX1_pick) rfl rfl rfl hdX1_pick ⟨Nat.le_of_ble_eq_true rfl, Nat.le_of_ble_eq_true rfl⟩) rfl rfl (Nat.le_of_ble_eq_true rfl) dL_law_140 ?_
      obtain ⟨es, hs⟩ := sim_pick hB hn6 x
      refine zz_icmp_eq (tgt := 444) X dL_law_143 (by decide) (fun _ => next _ _ hs) (fun hq => absurd es hq)
    · refine zz_tabIn (tgt := 148) X dL_law_42 (by decide) (by decide) rfl (by decide) ?_
      refine zz_aload_n X dL_law_148 rfl rfl ?_
      refine zz_aload_n X dL_law_149 rfl rfl ?_
      refine zz_iload_n X dL_law_150 rfl rfl ?_
      refine zz_iconst (v := 1) X dL_law_151 (by decide) ?_
      refine zz_iadd X dL_law_152 ?_
      refine zz_top e1 ?_
      refine zz_sld (j := i + 1) X hX hbl hbA rfl (by omega) (by omega) dL_law_153 ?_
      refine zz_top hxx.symm ?_
      refine ll_ring (rest := []) X (c_fork hN u hB.I x) (cwV 1 X.1.2.2.2.2 (gwL lkL_31 imX0_fork seX0_fork itX0 cdX0_fork) rfl rfl rfl hdX0_fork ⟨Nat.le_of_ble_eq_true rfl, Nat.le_of_ble_eq_true rfl⟩) rfl rfl (Nat.le_of_ble_eq_true rfl) dL_law_154 ?_
      refine zz_aload_n X dL_law_157 rfl rfl ?_
      refine zz_aload_n X dL_law_158 rfl rfl ?_
      refine zz_iload_n X dL_law_159 rfl rfl ?_
      refine zz_iconst (v := 1) X dL_law_160 (by decide) ?_
      refine zz_iadd X dL_law_161 ?_
      refine zz_top e1 ?_
      refine zz_sld (j := i + 1) X hX hbl hbA rfl (by omega) (by omega) dL_law_162 ?_
      refine zz_top hxx.symm ?_
      refine ll_mod (rest := [.int ((rFrk N u x).1)]) X (m_fork v m hB.m hB.m15 hB.th x) (cwV 1 X.1.2.2.2.2 (gwL lkL_34 imX1_fork seX1_fork itX1 cdX1_fork) rfl rfl rfl hdX1_fork ⟨Nat.le_of_ble_eq_true rfl, Nat.le_of_ble_eq_true rfl⟩) rfl rfl (Nat.le_of_ble_eq_true rfl) dL_law_163 ?_
      obtain ⟨es, hs⟩ := sim_fork hB hn6 x
      refine zz_icmp_eq (tgt := 444) X dL_law_166 (by decide) (fun _ => next _ _ hs) (fun hq => absurd es hq)
    · refine zz_tabIn (tgt := 171) X dL_law_42 (by decide) (by decide) rfl (by decide) ?_
      refine zz_aload_n X dL_law_171 rfl rfl ?_
      refine zz_aload_n X dL_law_172 rfl rfl ?_
      refine zz_iload_n X dL_law_173 rfl rfl ?_
      refine zz_iconst (v := 1) X dL_law_174 (by decide) ?_
      refine zz_iadd X dL_law_175 ?_
      refine zz_top e1 ?_
      refine zz_sld (j := i + 1) X hX hbl hbA rfl (by omega) (by omega) dL_law_176 ?_
      refine zz_top hxx.symm ?_
      refine zz_aload_n X dL_law_177 rfl rfl ?_
      refine zz_iload_n X dL_law_178 rfl rfl ?_
      refine zz_iconst (v := 2) X dL_law_179 (by decide) ?_
      refine zz_iadd X dL_law_180 ?_
      refine zz_top e2 ?_
      refine zz_sld (j := i + 2) X hX hbl hbA rfl (by omega) (by omega) dL_law_181 ?_
      refine zz_top hyy.symm ?_
      refine ll_ring (rest := []) X (c_exit hN u hB.I x y) (cwV 2 X.1.2.2.2.2 (gwL lkL_35 imX0_exit seX0_exit itX0 cdX0_exit) rfl rfl rfl hdX0_exit ⟨Nat.le_of_ble_eq_true rfl, Nat.le_of_ble_eq_true rfl⟩) rfl rfl (Nat.le_of_ble_eq_true rfl) dL_law_182 ?_
      refine zz_aload_n X dL_law_185 rfl rfl ?_
      refine zz_aload_n X dL_law_186 rfl rfl ?_
      refine zz_iload_n X dL_law_187 rfl rfl ?_
      refine zz_iconst (v := 1) X dL_law_188 (by decide) ?_
      refine zz_iadd X dL_law_189 ?_
      refine zz_top e1 ?_
      refine zz_sld (j := i + 1) X hX hbl hbA rfl (by omega) (by omega) dL_law_190 ?_
      refine zz_top hxx.symm ?_
      refine zz_aload_n X dL_law_191 rfl rfl ?_
      refine zz_iload_n X dL_law_192 rfl rfl ?_
      refine zz_iconst (v := 2) X dL_law_193 (by decide) ?_
      refine zz_iadd X dL_law_194 ?_
      refine zz_top e2 ?_
      refine zz_sld (j := i + 2) X hX hbl hbA rfl (by omega) (by omega) dL_law_195 ?_
      refine zz_top hyy.symm ?_
      refine ll_mod (rest := [.int ((rExt N u x y).1)]) X (m_exit v m hB.m hB.m15 hB.th x y) (cwV 2 X.1.2.2.2.2 (gwL lkL_39 imX1_exit seX1_exit itX1 cdX1_exit) rfl rfl rfl hdX1_exit ⟨Nat.le_of_ble_eq_true rfl, Nat.le_of_ble_eq_true rfl⟩) rfl rfl (Nat.le_of_ble_eq_true rfl) dL_law_196 ?_
      obtain ⟨es, hs⟩ := sim_exit hB hn6 x y
      refine zz_icmp_eq (tgt := 444) X dL_law_199 (by decide) (fun _ => next _ _ hs) (fun hq => absurd es hq)
    · refine zz_tabIn (tgt := 204) X dL_law_42 (by decide) (by decide) rfl (by decide) ?_
      refine zz_aload_n X dL_law_204 rfl rfl ?_
      refine zz_aload_n X dL_law_205 rfl rfl ?_
      refine zz_iload_n X dL_law_206 rfl rfl ?_
      refine zz_iconst (v := 1) X dL_law_207 (by decide) ?_
      refine zz_iadd X dL_law_208 ?_
      refine zz_top e1 ?_
      refine zz_sld (j := i + 1) X hX hbl hbA rfl (by omega) (by omega) dL_law_209 ?_
      refine zz_top hxx.symm ?_
      refine ll_ring (rest := []) X (c_await hN u hB.I x) (cwV 1 X.1.2.2.2.2 (gwL lkL_40 imX0_await seX0_await itX0 cdX0_await) rfl rfl rfl hdX0_await ⟨Nat.le_of_ble_eq_true rfl, Nat.le_of_ble_eq_true rfl⟩) rfl rfl (Nat.le_of_ble_eq_true rfl) dL_law_210 ?_
      refine zz_aload_n X dL_law_213 rfl rfl ?_
      refine zz_aload_n X dL_law_214 rfl rfl ?_
      refine zz_iload_n X dL_law_215 rfl rfl ?_
      refine zz_iconst (v := 1) X dL_law_216 (by decide) ?_
      refine zz_iadd X dL_law_217 ?_
      refine zz_top e1 ?_
      refine zz_sld (j := i + 1) X hX hbl hbA rfl (by omega) (by omega) dL_law_218 ?_
      refine zz_top hxx.symm ?_
      refine ll_mod (rest := [.int ((rAwt N u x).1)]) X (m_await v m hB.m hB.m15 hB.th hB.b x) (cwV 1 X.1.2.2.2.2 (gwL lkL_43 imX1_await seX1_await itX1 cdX1_await) rfl rfl rfl hdX1_await ⟨Nat.le_of_ble_eq_true rfl, Nat.le_of_ble_eq_true rfl⟩) rfl rfl (Nat.le_of_ble_eq_true rfl) dL_law_219 ?_
      obtain ⟨es, hs⟩ := sim_await hB hn6 x
      refine zz_icmp_eq (tgt := 444) X dL_law_222 (by decide) (fun _ => next _ _ hs) (fun hq => absurd es hq)
    · refine zz_tabIn (tgt := 227) X dL_law_42 (by decide) (by decide) rfl (by decide) ?_
      refine zz_aload_n X dL_law_227 rfl rfl ?_
      refine ll_ring (rest := []) X (c_status hN u) (cwV 0 X.1.2.2.2.2 (gwL lkL_44 imX0_status seX0_status itX0 cdX0_status) rfl rfl rfl hdX0_status ⟨Nat.le_of_ble_eq_true rfl, Nat.le_of_ble_eq_true rfl⟩) rfl rfl (Nat.le_of_ble_eq_true rfl) dL_law_228 ?_
      refine zz_aload_n X dL_law_231 rfl rfl ?_
      refine ll_mod (rest := [.int (u 9 3)]) X (m_status v m hB.m hB.m15 hB.th) (cwV 0 X.1.2.2.2.2 (gwL lkL_48 imX1_status seX1_status itX1 cdX1_status) rfl rfl rfl hdX1_status ⟨Nat.le_of_ble_eq_true rfl, Nat.le_of_ble_eq_true rfl⟩) rfl rfl (Nat.le_of_ble_eq_true rfl) dL_law_232 ?_
      obtain ⟨es, hs⟩ := sim_status hB hn6
      refine zz_icmp_eq (tgt := 444) X dL_law_235 (by decide) (fun _ => next _ _ hs) (fun hq => absurd es hq)
    · refine zz_tabIn (tgt := 240) X dL_law_42 (by decide) (by decide) rfl (by decide) ?_
      refine zz_aload_n X dL_law_240 rfl rfl ?_
      refine zz_aload_n X dL_law_241 rfl rfl ?_
      refine zz_iload_n X dL_law_242 rfl rfl ?_
      refine zz_iconst (v := 1) X dL_law_243 (by decide) ?_
      refine zz_iadd X dL_law_244 ?_
      refine zz_top e1 ?_
      refine zz_sld (j := i + 1) X hX hbl hbA rfl (by omega) (by omega) dL_law_245 ?_
      refine zz_top hxx.symm ?_
      refine zz_aload_n X dL_law_246 rfl rfl ?_
      refine zz_iload_n X dL_law_247 rfl rfl ?_
      refine zz_iconst (v := 2) X dL_law_248 (by decide) ?_
      refine zz_iadd X dL_law_249 ?_
      refine zz_top e2 ?_
      refine zz_sld (j := i + 2) X hX hbl hbA rfl (by omega) (by omega) dL_law_250 ?_
      refine zz_top hyy.symm ?_
      refine ll_ring (rest := []) X (c_block hN u hB.I x y) (cwV 2 X.1.2.2.2.2 (gwL lkL_49 imX0_block seX0_block itX0 cdX0_block) rfl rfl rfl hdX0_block ⟨Nat.le_of_ble_eq_true rfl, Nat.le_of_ble_eq_true rfl⟩) rfl rfl (Nat.le_of_ble_eq_true rfl) dL_law_251 ?_
      refine zz_aload_n X dL_law_254 rfl rfl ?_
      refine zz_aload_n X dL_law_255 rfl rfl ?_
      refine zz_iload_n X dL_law_256 rfl rfl ?_
      refine zz_iconst (v := 1) X dL_law_257 (by decide) ?_
      refine zz_iadd X dL_law_258 ?_
      refine zz_top e1 ?_
      refine zz_sld (j := i + 1) X hX hbl hbA rfl (by omega) (by omega) dL_law_259 ?_
      refine zz_top hxx.symm ?_
      refine zz_aload_n X dL_law_260 rfl rfl ?_
      refine zz_iload_n X dL_law_261 rfl rfl ?_
      refine zz_iconst (v := 2) X dL_law_262 (by decide) ?_
      refine zz_iadd X dL_law_263 ?_
      refine zz_top e2 ?_
      refine zz_sld (j := i + 2) X hX hbl hbA rfl (by omega) (by omega) dL_law_264 ?_
      refine zz_top hyy.symm ?_
      refine ll_mod (rest := [.int ((rBlo N u x y).1)]) X (m_block v m hB.m hB.m15 hB.th x y) (cwV 2 X.1.2.2.2.2 (gwL lkL_52 imX1_block seX1_block itX1 cdX1_block) rfl rfl rfl hdX1_block ⟨Nat.le_of_ble_eq_true rfl, Nat.le_of_ble_eq_true rfl⟩) rfl rfl (Nat.le_of_ble_eq_true rfl) dL_law_265 ?_
      obtain ⟨es, hs⟩ := sim_block hB hn6 x y
      refine zz_icmp_eq (tgt := 444) X dL_law_268 (by decide) (fun _ => next _ _ hs) (fun hq => absurd es hq)
    · refine zz_tabIn (tgt := 273) X dL_law_42 (by decide) (by decide) rfl (by decide) ?_
      refine zz_aload_n X dL_law_273 rfl rfl ?_
      refine zz_aload_n X dL_law_274 rfl rfl ?_
      refine zz_iload_n X dL_law_275 rfl rfl ?_
      refine zz_iconst (v := 1) X dL_law_276 (by decide) ?_
      refine zz_iadd X dL_law_277 ?_
      refine zz_top e1 ?_
      refine zz_sld (j := i + 1) X hX hbl hbA rfl (by omega) (by omega) dL_law_278 ?_
      refine zz_top hxx.symm ?_
      refine zz_aload_n X dL_law_279 rfl rfl ?_
      refine zz_iload_n X dL_law_280 rfl rfl ?_
      refine zz_iconst (v := 2) X dL_law_281 (by decide) ?_
      refine zz_iadd X dL_law_282 ?_
      refine zz_top e2 ?_
      refine zz_sld (j := i + 2) X hX hbl hbA rfl (by omega) (by omega) dL_law_283 ?_
      refine zz_top hyy.symm ?_
      refine ll_ring (rest := []) X (c_sleep hN u hB.I x y) (cwV 2 X.1.2.2.2.2 (gwL lkL_53 imX0_sleep seX0_sleep itX0 cdX0_sleep) rfl rfl rfl hdX0_sleep ⟨Nat.le_of_ble_eq_true rfl, Nat.le_of_ble_eq_true rfl⟩) rfl rfl (Nat.le_of_ble_eq_true rfl) dL_law_284 ?_
      refine zz_aload_n X dL_law_287 rfl rfl ?_
      refine zz_aload_n X dL_law_288 rfl rfl ?_
      refine zz_iload_n X dL_law_289 rfl rfl ?_
      refine zz_iconst (v := 1) X dL_law_290 (by decide) ?_
      refine zz_iadd X dL_law_291 ?_
      refine zz_top e1 ?_
      refine zz_sld (j := i + 1) X hX hbl hbA rfl (by omega) (by omega) dL_law_292 ?_
      refine zz_top hxx.symm ?_
      refine zz_aload_n X dL_law_293 rfl rfl ?_
      refine zz_iload_n X dL_law_294 rfl rfl ?_
      refine zz_iconst (v := 2) X dL_law_295 (by decide) ?_
      refine zz_iadd X dL_law_296 ?_
      refine zz_top e2 ?_
      refine zz_sld (j := i + 2) X hX hbl hbA rfl (by omega) (by omega) dL_law_297 ?_
      refine zz_top hyy.symm ?_
      refine ll_mod (rest := [.int ((rSlp N u x y).1)]) X (m_sleep v m hB.m hB.m15 hB.th x y) (cwV 2 X.1.2.2.2.2 (gwL lkL_56 imX1_sleep seX1_sleep itX1 cdX1_sleep) rfl rfl rfl hdX1_sleep ⟨Nat.le_of_ble_eq_true rfl, Nat.le_of_ble_eq_true rfl⟩) rfl rfl (Nat.le_of_ble_eq_true rfl) dL_law_298 ?_
      obtain ⟨es, hs⟩ := sim_sleep hB hn6 x y
      refine zz_icmp_eq (tgt := 444) X dL_law_301 (by decide) (fun _ => next _ _ hs) (fun hq => absurd es hq)
    · refine zz_tabIn (tgt := 306) X dL_law_42 (by decide) (by decide) rfl (by decide) ?_
      refine zz_aload_n X dL_law_306 rfl rfl ?_
      refine zz_aload_n X dL_law_307 rfl rfl ?_
      refine zz_iload_n X dL_law_308 rfl rfl ?_
      refine zz_iconst (v := 1) X dL_law_309 (by decide) ?_
      refine zz_iadd X dL_law_310 ?_
      refine zz_top e1 ?_
      refine zz_sld (j := i + 1) X hX hbl hbA rfl (by omega) (by omega) dL_law_311 ?_
      refine zz_top hxx.symm ?_
      refine ll_ring (rest := []) X (c_wake hN u x) (cwV 1 X.1.2.2.2.2 (gwL lkL_57 imX0_wake seX0_wake itX0 cdX0_wake) rfl rfl rfl hdX0_wake ⟨Nat.le_of_ble_eq_true rfl, Nat.le_of_ble_eq_true rfl⟩) rfl rfl (Nat.le_of_ble_eq_true rfl) dL_law_312 ?_
      refine zz_aload_n X dL_law_315 rfl rfl ?_
      refine zz_aload_n X dL_law_316 rfl rfl ?_
      refine zz_iload_n X dL_law_317 rfl rfl ?_
      refine zz_iconst (v := 1) X dL_law_318 (by decide) ?_
      refine zz_iadd X dL_law_319 ?_
      refine zz_top e1 ?_
      refine zz_sld (j := i + 1) X hX hbl hbA rfl (by omega) (by omega) dL_law_320 ?_
      refine zz_top hxx.symm ?_
      refine ll_mod (rest := [.int (nI (rWak u x).1)]) X (m_wake v m hB.m hB.m15 hB.th x) (cwV 1 X.1.2.2.2.2 (gwL lkL_60 imX1_wake seX1_wake itX1 cdX1_wake) rfl rfl rfl hdX1_wake ⟨Nat.le_of_ble_eq_true rfl, Nat.le_of_ble_eq_true rfl⟩) rfl rfl (Nat.le_of_ble_eq_true rfl) dL_law_321 ?_
      obtain ⟨es, hs⟩ := sim_wake hB hn6 x
      refine zz_icmp_eq (tgt := 444) X dL_law_324 (by decide) (fun _ => next _ _ hs) (fun hq => absurd es hq)
    · refine zz_tabIn (tgt := 329) X dL_law_42 (by decide) (by decide) rfl (by decide) ?_
      refine zz_aload_n X dL_law_329 rfl rfl ?_
      refine zz_aload_n X dL_law_330 rfl rfl ?_
      refine zz_iload_n X dL_law_331 rfl rfl ?_
      refine zz_iconst (v := 1) X dL_law_332 (by decide) ?_
      refine zz_iadd X dL_law_333 ?_
      refine zz_top e1 ?_
      refine zz_sld (j := i + 1) X hX hbl hbA rfl (by omega) (by omega) dL_law_334 ?_
      refine zz_top hxx.symm ?_
      refine ll_ring (rest := []) X (c_rest hN u hB.I x) (cwV 1 X.1.2.2.2.2 (gwL lkL_61 imX0_rest seX0_rest itX0 cdX0_rest) rfl rfl rfl hdX0_rest ⟨Nat.le_of_ble_eq_true rfl, Nat.le_of_ble_eq_true rfl⟩) rfl rfl (Nat.le_of_ble_eq_true rfl) dL_law_335 ?_
      refine zz_aload_n X dL_law_338 rfl rfl ?_
      refine zz_aload_n X dL_law_339 rfl rfl ?_
      refine zz_iload_n X dL_law_340 rfl rfl ?_
      refine zz_iconst (v := 1) X dL_law_341 (by decide) ?_
      refine zz_iadd X dL_law_342 ?_
      refine zz_top e1 ?_
      refine zz_sld (j := i + 1) X hX hbl hbA rfl (by omega) (by omega) dL_law_343 ?_
      refine zz_top hxx.symm ?_
      refine ll_mod (rest := [.int ((rRst N u x).1)]) X (m_rest v m hB.m hB.m15 hB.th x) (cwV 1 X.1.2.2.2.2 (gwL lkL_64 imX1_rest seX1_rest itX1 cdX1_rest) rfl rfl rfl hdX1_rest ⟨Nat.le_of_ble_eq_true rfl, Nat.le_of_ble_eq_true rfl⟩) rfl rfl (Nat.le_of_ble_eq_true rfl) dL_law_344 ?_
      obtain ⟨es, hs⟩ := sim_rest hB hn6 x
      refine zz_icmp_eq (tgt := 444) X dL_law_347 (by decide) (fun _ => next _ _ hs) (fun hq => absurd es hq)
    · refine zz_tabIn (tgt := 352) X dL_law_42 (by decide) (by decide) rfl (by decide) ?_
      refine zz_aload_n X dL_law_352 rfl rfl ?_
      refine ll_ring (rest := []) X (c_tick hN u hB.I) (cwV 0 X.1.2.2.2.2 (gwL lkL_65 imX0_tick seX0_tick itX0 cdX0_tick) rfl rfl rfl hdX0_tick ⟨Nat.le_of_ble_eq_true rfl, Nat.le_of_ble_eq_true rfl⟩) rfl rfl (Nat.le_of_ble_eq_true rfl) dL_law_353 ?_
      refine zz_aload_n X dL_law_356 rfl rfl ?_
      refine ll_mod (rest := [.int ((rTck N u).1)]) X (m_tick v m hB.m hB.m15 hB.th) (cwV 0 X.1.2.2.2.2 (gwL lkL_68 imX1_tick seX1_tick itX1 cdX1_tick) rfl rfl rfl hdX1_tick ⟨Nat.le_of_ble_eq_true rfl, Nat.le_of_ble_eq_true rfl⟩) rfl rfl (Nat.le_of_ble_eq_true rfl) dL_law_357 ?_
      obtain ⟨es, hs⟩ := sim_tick hB hn6
      refine zz_icmp_eq (tgt := 444) X dL_law_360 (by decide) (fun _ => next _ _ hs) (fun hq => absurd es hq)
    · refine zz_tabIn (tgt := 365) X dL_law_42 (by decide) (by decide) rfl (by decide) ?_
      refine zz_aload_n X dL_law_365 rfl rfl ?_
      refine zz_aload_n X dL_law_366 rfl rfl ?_
      refine zz_iload_n X dL_law_367 rfl rfl ?_
      refine zz_iconst (v := 1) X dL_law_368 (by decide) ?_
      refine zz_iadd X dL_law_369 ?_
      refine zz_top e1 ?_
      refine zz_sld (j := i + 1) X hX hbl hbA rfl (by omega) (by omega) dL_law_370 ?_
      refine zz_top hxx.symm ?_
      refine ll_ring (rest := []) X (c_kill hN u x) (cwV 1 X.1.2.2.2.2 (gwL lkL_69 imX0_kill seX0_kill itX0 cdX0_kill) rfl rfl rfl hdX0_kill ⟨Nat.le_of_ble_eq_true rfl, Nat.le_of_ble_eq_true rfl⟩) rfl rfl (Nat.le_of_ble_eq_true rfl) dL_law_371 ?_
      refine zz_aload_n X dL_law_374 rfl rfl ?_
      refine zz_aload_n X dL_law_375 rfl rfl ?_
      refine zz_iload_n X dL_law_376 rfl rfl ?_
      refine zz_iconst (v := 1) X dL_law_377 (by decide) ?_
      refine zz_iadd X dL_law_378 ?_
      refine zz_top e1 ?_
      refine zz_sld (j := i + 1) X hX hbl hbA rfl (by omega) (by omega) dL_law_379 ?_
      refine zz_top hxx.symm ?_
      refine ll_mod (rest := [.int ((rKil u x).1)]) X (m_kill v m hB.m hB.m15 hB.th x) (cwV 1 X.1.2.2.2.2 (gwL lkL_73 imX1_kill seX1_kill itX1 cdX1_kill) rfl rfl rfl hdX1_kill ⟨Nat.le_of_ble_eq_true rfl, Nat.le_of_ble_eq_true rfl⟩) rfl rfl (Nat.le_of_ble_eq_true rfl) dL_law_380 ?_
      obtain ⟨es, hs⟩ := sim_kill hB hn6 x
      refine zz_icmp_eq (tgt := 444) X dL_law_383 (by decide) (fun _ => next _ _ hs) (fun hq => absurd es hq)
    · refine zz_tabIn (tgt := 388) X dL_law_42 (by decide) (by decide) rfl (by decide) ?_
      refine zz_aload_n X dL_law_388 rfl rfl ?_
      refine zz_aload_n X dL_law_389 rfl rfl ?_
      refine zz_iload_n X dL_law_390 rfl rfl ?_
      refine zz_iconst (v := 1) X dL_law_391 (by decide) ?_
      refine zz_iadd X dL_law_392 ?_
      refine zz_top e1 ?_
      refine zz_sld (j := i + 1) X hX hbl hbA rfl (by omega) (by omega) dL_law_393 ?_
      refine zz_top hxx.symm ?_
      refine zz_aload_n X dL_law_394 rfl rfl ?_
      refine zz_iload_n X dL_law_395 rfl rfl ?_
      refine zz_iconst (v := 2) X dL_law_396 (by decide) ?_
      refine zz_iadd X dL_law_397 ?_
      refine zz_top e2 ?_
      refine zz_sld (j := i + 2) X hX hbl hbA rfl (by omega) (by omega) dL_law_398 ?_
      refine zz_top hyy.symm ?_
      refine ll_ring (rest := []) X (c_about hN u x y) (cwV 2 X.1.2.2.2.2 (gwL lkL_74 imX0_about seX0_about itX0 cdX0_about) rfl rfl rfl hdX0_about ⟨Nat.le_of_ble_eq_true rfl, Nat.le_of_ble_eq_true rfl⟩) rfl rfl (Nat.le_of_ble_eq_true rfl) dL_law_399 ?_
      refine zz_aload_n X dL_law_402 rfl rfl ?_
      refine zz_aload_n X dL_law_403 rfl rfl ?_
      refine zz_iload_n X dL_law_404 rfl rfl ?_
      refine zz_iconst (v := 1) X dL_law_405 (by decide) ?_
      refine zz_iadd X dL_law_406 ?_
      refine zz_top e1 ?_
      refine zz_sld (j := i + 1) X hX hbl hbA rfl (by omega) (by omega) dL_law_407 ?_
      refine zz_top hxx.symm ?_
      refine zz_aload_n X dL_law_408 rfl rfl ?_
      refine zz_iload_n X dL_law_409 rfl rfl ?_
      refine zz_iconst (v := 2) X dL_law_410 (by decide) ?_
      refine zz_iadd X dL_law_411 ?_
      refine zz_top e2 ?_
      refine zz_sld (j := i + 2) X hX hbl hbA rfl (by omega) (by omega) dL_law_412 ?_
      refine zz_top hyy.symm ?_
      refine ll_mod (rest := [.int (rAbt N u x y)]) X (m_about v m hB.m hB.m15 hB.th x y) (cwV 2 X.1.2.2.2.2 (gwL lkL_77 imX1_about seX1_about itX1 cdX1_about) rfl rfl rfl hdX1_about ⟨Nat.le_of_ble_eq_true rfl, Nat.le_of_ble_eq_true rfl⟩) rfl rfl (Nat.le_of_ble_eq_true rfl) dL_law_413 ?_
      obtain ⟨es, hs⟩ := sim_about hB hn6 x y
      refine zz_icmp_eq (tgt := 444) X dL_law_416 (by decide) (fun _ => next _ _ hs) (fun hq => absurd es hq)
    · refine zz_tabIn (tgt := 421) X dL_law_42 (by decide) (by decide) rfl (by decide) ?_
      refine zz_aload_n X dL_law_421 rfl rfl ?_
      refine zz_aload_n X dL_law_422 rfl rfl ?_
      refine zz_iload_n X dL_law_423 rfl rfl ?_
      refine zz_iconst (v := 1) X dL_law_424 (by decide) ?_
      refine zz_iadd X dL_law_425 ?_
      refine zz_top e1 ?_
      refine zz_sld (j := i + 1) X hX hbl hbA rfl (by omega) (by omega) dL_law_426 ?_
      refine zz_top hxx.symm ?_
      refine ll_ring (rest := []) X (c_count hN u x) (cwV 1 X.1.2.2.2.2 (gwL lkL_78 imX0_count seX0_count itX0 cdX0_count) rfl rfl rfl hdX0_count ⟨Nat.le_of_ble_eq_true rfl, Nat.le_of_ble_eq_true rfl⟩) rfl rfl (Nat.le_of_ble_eq_true rfl) dL_law_427 ?_
      refine zz_aload_n X dL_law_430 rfl rfl ?_
      refine zz_aload_n X dL_law_431 rfl rfl ?_
      refine zz_iload_n X dL_law_432 rfl rfl ?_
      refine zz_iconst (v := 1) X dL_law_433 (by decide) ?_
      refine zz_iadd X dL_law_434 ?_
      refine zz_top e1 ?_
      refine zz_sld (j := i + 1) X hX hbl hbA rfl (by omega) (by omega) dL_law_435 ?_
      refine zz_top hxx.symm ?_
      refine ll_mod (rest := [.int (rCnt u x)]) X (m_count v m hB.m hB.m15 hB.th x) (cwV 1 X.1.2.2.2.2 (gwL lkL_81 imX1_count seX1_count itX1 cdX1_count) rfl rfl rfl hdX1_count ⟨Nat.le_of_ble_eq_true rfl, Nat.le_of_ble_eq_true rfl⟩) rfl rfl (Nat.le_of_ble_eq_true rfl) dL_law_436 ?_
      obtain ⟨es, hs⟩ := sim_count hB hn6 x
      refine zz_icmp_eq (tgt := 444) X dL_law_439 (by decide) (fun _ => next _ _ hs) (fun hq => absurd es hq)
    · refine zz_tabOut (tgt := 444) X dL_law_42 (by decide) (by decide) ?_
      exact next _ _ (sim_status hB hn6).2
    · refine zz_tabOut (tgt := 444) X dL_law_42 (by decide) (by decide) ?_
      exact next _ _ (sim_status hB hn6).2
set_option maxHeartbeats 4000000 in
set_option maxRecDepth 100000 in
/-- THE LAW, from its entry -/
theorem whole_start {p : Program} {e : Env} {s : State} {m : MethodId} {below : List Frame} {meth : Method} {c : Code} (l : Launch) {b L : Nat} {xs : Nat → Int32} (hL : L ≤ 1537) (C0 : lw_At p s m meth c b L xs) : W p l e room_1 s m #[Value.ref b] below meth c s.heap [] 0 0 (lw_Z below #[Value.ref b] s) (entryFrame m ([Value.ref b] : List Value).toArray 4) := by
  obtain ⟨hx, hb, hr, hml, hown, hts, hX, hbl, hlocks, hgv⟩ := id C0
  have hbA : ¬ (fun q : Nat => s.heap.size ≤ q) b := Nat.not_le.mpr hbl
  obtain ⟨c0, iS0, hKn0⟩ := u_known (C := RX0) (T := TX0) (N := 13) (n := 13) hts (fun w h => gdt (inX0 w h)) (hts _ (gdt isX0))
  obtain ⟨c1, iS1, hKn1⟩ := u_known (C := RX1) (T := TX1) (N := 16) (n := 16) hts (fun w h => gdt (inX1 w h)) (hts _ (gdt isX1))
  obtain ⟨D, hKc⟩ : ∃ D : va_G, ∀ (k : Nat) (q : vw_C), vwCl[k]? = some q → u_Kn s q.1 q.2.1 q.2.2 (D.1 k) (D.2 k) := by
    refine ⟨(fun k => if k = 0 then c0 else c1, fun k => if k = 0 then iS0 else iS1), ?_⟩
    intro k q hq
    match k, hq with
    | 0, hq => cases hq; exact hKn0
    | 1, hq => cases hq; exact hKn1
    | k + 2, hq => simp [vwCl] at hq
  have hK : va_K D vwCl [] s := ⟨hKc, fun k q h => by simp at h⟩
  have X : zz_X p s m #[Value.ref b] c code 4 lw_gd RL D vwCl [] (fun q : Nat => s.heap.size ≤ q) := ⟨⟨hx, hb, hml, hown, fun w h => hts w (gdt h)⟩, hK, fun q h => h⟩
  have hl := lv_entry ([.ref b]) (n := 4) (Nat.le_of_ble_eq_true rfl)
  rw [lg_entry_eq]
  have go : zz_V p l e room_1 s m #[Value.ref b] below meth c 0 0 (lw_Z below #[Value.ref b] s) 4 D vwCl (fun q : Nat => s.heap.size ≤ q) [] [some (.ref b), none, none, none] 0 [] := by
    refine zz_new (ci := 0) (fs := [.null, .null, .null, .null, .null, .null, .null, .null, .null, .int 0, .int 0, .int 0, .int 0]) X inX0 tyX0 tyX0_ok clL_7 isX0 itX0 rfl (fun j hj => by rcases (show j = 0 ∨ j = 1 ∨ j = 2 ∨ j = 3 ∨ j = 4 ∨ j = 5 ∨ j = 6 ∨ j = 7 ∨ j = 8 ∨ j = 9 ∨ j = 10 ∨ j = 11 ∨ j = 12 by omega) with rfl | rfl | rfl | rfl | rfl | rfl | rfl | rfl | rfl | rfl | rfl | rfl | rfl <;> rfl) (by decide) (by decide) dL_law_0 (fun h => ?_)
    refine zz_dup X dL_law_3 rfl ?_
    refine zz_aload_n X dL_law_4 rfl rfl ?_
    refine zz_iconst (v := 0) X dL_law_5 (by decide) ?_
    refine ll_cell X (by omega) hX hbl hbA dL_law_6 (Nat.le_of_ble_eq_true rfl) ⟨by decide, by decide⟩ ?_
    refine zz_callI (As := [.int (xs0 L xs)]) (rest := [.ref h]) (wr := []) X (c_init (xs0 L xs)) (cwI 1 X.1.2.2.2.2 (gwI cdX0_init) rfl rfl rfl (X.1.2.2.2.2 _ itX0) (X.1.2.2.2.2 _ lkL_15) (X.1.2.2.2.2 _ imX0_init) rfl hdX0_init ⟨Nat.le_of_ble_eq_true rfl, Nat.le_of_ble_eq_true rfl⟩) rfl rfl (Nat.le_of_ble_eq_true rfl) dL_law_9 ⟨by decide, by decide⟩ [0] [] rfl rfl rfl (by decide) (by decide) (fun i hi => absurd hi (by simp)) (fun z _ X => ?_)
    obtain ⟨a, ca⟩ := z
    refine zz_ws (ws' := wP h a ca (rN (xs0 L xs)) (rU0 (rN (xs0 L xs)))) rfl ?_
    refine zz_astore_n (lv' := [some (.ref b), some (.ref h), none, none]) X dL_law_12 rfl (by decide) rfl ?_
    refine zz_new (ci := 1) (fs := [.int 0, .int 0, .int 0, .int 0, .int 0, .int 0, .int 0, .null, .null, .null, .null, .null, .null, .null, .null, .null]) X inX1 tyX1 tyX1_ok clL_18 isX1 itX1 rfl (fun j hj => by rcases (show j = 0 ∨ j = 1 ∨ j = 2 ∨ j = 3 ∨ j = 4 ∨ j = 5 ∨ j = 6 ∨ j = 7 ∨ j = 8 ∨ j = 9 ∨ j = 10 ∨ j = 11 ∨ j = 12 ∨ j = 13 ∨ j = 14 ∨ j = 15 by omega) with rfl | rfl | rfl | rfl | rfl | rfl | rfl | rfl | rfl | rfl | rfl | rfl | rfl | rfl | rfl | rfl <;> rfl) (by decide) (by decide) dL_law_13 (fun h2 => ?_)
    refine zz_dup X dL_law_16 rfl ?_
    refine zz_aload_n X dL_law_17 rfl rfl ?_
    refine zz_iconst (v := 0) X dL_law_18 (by decide) ?_
    refine ll_cell X (by omega) hX hbl hbA dL_law_19 (Nat.le_of_ble_eq_true rfl) ⟨by decide, by decide⟩ ?_
    refine zz_callI (As := [.int (xs0 L xs)]) (rest := [.ref h2]) (wr := wP h a ca (rN (xs0 L xs)) (rU0 (rN (xs0 L xs)))) X (m_init (xs0 L xs)) (cwI 1 X.1.2.2.2.2 (gwI cdX1_init) rfl rfl rfl (X.1.2.2.2.2 _ itX1) (X.1.2.2.2.2 _ lkL_20) (X.1.2.2.2.2 _ imX1_init) rfl hdX1_init ⟨Nat.le_of_ble_eq_true rfl, Nat.le_of_ble_eq_true rfl⟩) rfl rfl (Nat.le_of_ble_eq_true rfl) dL_law_22 ⟨by decide, by decide⟩ [10] [0, 1, 2, 3, 4, 5, 6, 7, 8, 9] rfl rfl rfl (by decide) (by decide) (by decide) (fun z _ X => ?_)
    obtain ⟨a2, ca2⟩ := z
    refine zz_ws (ws' := wP h a ca (rN (xs0 L xs)) (rU0 (rN (xs0 L xs))) ++ wM h2 a2 ca2 (mU0 (rN (xs0 L xs)))) rfl ?_
    refine zz_astore_n (lv' := [some (.ref b), some (.ref h), some (.ref h2), none]) X dL_law_25 rfl (by decide) rfl ?_
    refine zz_iconst (v := 1) X dL_law_26 (by decide) ?_
    refine zz_istore_n (lv' := [some (.ref b), some (.ref h), some (.ref h2), some (.int (nI 1))]) X dL_law_27 rfl (by decide) rfl ?_
    refine zz_widen (k2 := 20) (n2 := 400) (by decide) (by decide) ?_
    exact law_loop hL C0 X (rN_eq (xs0 L xs)).2.2 L 0 1 _ _ (by omega) rfl (by omega) (sim_new (rN_eq (xs0 L xs)).2.1 (rN_eq (xs0 L xs)).2.2)
  exact go s.heap [] _ (fun k q h => by simp at h) ⟨fun i j p q h => by simp at h, fun k q h => by simp at h⟩ va_S.rf (zz_L.entry (vs := [Value.ref b]) (fun v hv => by simp only [List.mem_cons, List.not_mem_nil, or_false] at hv; rcases hv with rfl; rfl) rfl hl)
end
section
set_option maxHeartbeats 4000000 in
theorem lw_walk (l : Launch) (b : Addr) (xs : List Int32) : MetFree l x (headSpec (Jvm.Cond.code x code maxLocals ret :: tables_1) room_1) (lw_P b xs) (fun _ _ _ _ _ => True) lw_Q := by
  refine MetFree.of_bodyS (code := code) (maxLocals := maxLocals) (ret := ret) (by decide) ?_ ?_
  · intro args s m h hn
    obtain ⟨meth, c, h1, h2, h3, h4, h5, h6, -, -⟩ := Cond.code_spec hn (atoms_spec (ws := Jvm.Cond.code x code maxLocals ret :: tables_1) h _ List.mem_cons_self)
    exact ⟨meth, c, h1, h2, h3, h4, h5, h6⟩
  · intro p e s m args below meth c s₁ B hml0 hP _
    obtain ⟨rfl, hx, hbd, hgv⟩ := hP
    obtain ⟨scr, harrAt, hlist, hof, hsmall⟩ := hx
    obtain ⟨hcb, hkn, -, -⟩ := State.arrayAt?_spec harrAt
    have hown : s.vm.findClass R_law = some m.cls := findClass_of_methodNamed B.named
    have hts0 : ∀ c ∈ (Jvm.Cond.code x code maxLocals ret :: tables_1), c.before #[Value.ref b] s = true := atoms_spec (ws := Jvm.Cond.code x code maxLocals ret :: tables_1) B.pre
    have hts : ∀ w ∈ lw_tbl, w.before #[Value.ref b] s = true := k2_hts_sels lw_privs (fun w hw => hts0 w (List.mem_cons_of_mem _ hw)) lw_privs_ok
    have hml : c.maxLocals = 4 := B.maxLocals_eq (hts0 _ List.mem_cons_self)
    have X₀ : Stand p l e room_1 s m #[Value.ref b] below meth c s₁ [] 0 0 := Stand.of_body B
    have hh0 : s₁.heap = s.heap := by rw [B.state]; rfl
    have hsz : scr.slots.size = xs.length := by rw [← Array.length_toList, hlist, List.length_map]
    have hval : ∀ j : Nat, j < xs.length → scr.slots[j]? = some (.int (xs.getD j 0)) := fun j hj => by
      rw [← Array.getElem?_toList, hlist]
      simp [hj]
    have hbl : b < s.heap.size := (Array.getElem?_eq_some_iff.mp hcb).1
    have hX : va_X b xs.length (fun j => xs.getD j 0) s s.heap := ⟨scr, hcb, hof, hkn, hsz, hval⟩
    have K : W p l e room_1 s m #[Value.ref b] below meth c s₁.heap [] 0 0 (lw_Z below #[Value.ref b] s) (entryFrame m ([Value.ref b] : List Value).toArray 4) := by
      rw [hh0]
      exact whole_start l hbd ⟨B.exec, B.bytes, B.returns, hml, hown, hts, hX, hbl, B.notSynchronized, hgv⟩
    obtain ⟨t, a1, o, b1, b2, b3⟩ := K s₁ rfl X₀
    exact ⟨t, o, a1, b1, b2, b3⟩
theorem lw_pre_spec {args : Array Value} {s : State} (h : (Jvm.Cond.and given_1 narrow_1).before args s = true) (hr : rest_1_c.before args s = true) : ∃ (b : Addr) (xs : List Int32), lw_P b xs args s := by
  have hs := flat_of_before _ h
  have hq := flat_of_before _ hr
  have hc : (Cond.count 1).before args s = true := hs _ (by decide +kernel)
  have harr : (Cond.arrayOf (.arg 0) .int).before args s = true := hs _ (by decide +kernel)
  have hle : (Cond.le (.length (.arg 0)) (.int 1537)).before args s = true := hs _ (by decide +kernel)
  have hlen : (Cond.isInt (.length (.arg 0))).before args s = true := hq _ (by decide +kernel)
  have hall : (Cond.all (.arg 0) (.isInt (.elem (.arg 0) (.index 0)))).before args s = true := hq _ (by decide +kernel)
  obtain ⟨b, xs, hb, hx⟩ := State.ints_of_pre rfl harr hlen hall
  have hsm : xs.length < 2 ^ 31 := hx.choose_spec.2.2.2
  have hev : (Term.length (.arg 0)).eval args s none [] s = some (.int xs.length.toInt32) := hx.length_eval hb
  have hv := Cond.le_ints hev (show (Term.int 1537).eval args s none [] s = some (.int 1537) from rfl)
  have hd : xs.length.toInt32 ≤ 1537 := by
    simpa [Cond.before, Cond.holds, hv] using hle
  have hN : xs.length ≤ 1537 := (Int32.ofNat_le_ofNat hsm (by decide)).mp (show Int32.ofNat xs.length ≤ Int32.ofNat 1537 from hd)
  exact ⟨b, xs, Cond.one_arg hc (show args[0]? = some (.ref b) from hb), hx, hN, h⟩
theorem lw_comes (l : Launch) : Comes l x (Jvm.Cond.code x code maxLocals ret :: tables_1) room_1 (fun tb e args s => Calls_1 tb e args s ∧ rest_1 tb e args s ∧ Pre_1 tb e args s)
    (fun _ _ args s o t => lw_Q args s o t) := by
  intro p e ha hc hk s m args below hf hfit hheap happ hpre
  obtain ⟨b, xs, hP⟩ := lw_pre_spec hpre.2.2 hpre.2.1
  obtain ⟨k, o, h1, h2, h3, hQ⟩ := lw_walk l b xs p e ha hc hk s m args below hf ((Spec.applies_iff_loose hf).mp happ).1 hP trivial
  exact ⟨k, o, h1, h2, h3, hQ⟩
theorem lw_frame {s t : State} {o : Outcome} {args : Array Value} (h : Framed s o t [] 600000 7302250) :
    Framed s o t (fieldLocs frame_1_writes args s ++ arrayLocs frame_1_arrays args s ++ staticLocs frame_1_statics s) 600000 7302250 := h
theorem lw_limb (L : Cond) (hL : ∀ (args : Array Value) (s t : State), L.after args s (.returned (some (.int 1))) t = true) :
    ArmFor flags0 classFile x code maxLocals ret World_1 tables_1 room_1 Calls_1 rest_1 Pre_1
      (fun tb e a s o t => postC L tb e a s o t ∧ Framed s o t (fieldLocs frame_1_writes a s ++ arrayLocs frame_1_arrays a s ++ staticLocs frame_1_statics s) 600000 7302250) := by
  intro l _ _ _ p e ha hc hk s m args below hf hfit hheap happ hpre
  obtain ⟨k, o, h1, h2, h3, rfl, hF⟩ := lw_comes l p e ha hc hk s m args below hf hfit hheap happ hpre
  exact ⟨k, _, h1, h2, h3, hL args s _, lw_frame hF⟩
theorem i_vc : Claimed_1_1 ∧ Claimed_1_2 := ⟨lw_limb limb_1_1 (fun args s t => by simp [limb_1_1, Cond.after, Cond.holds, Cond.value]), lw_limb limb_1_2 (fun args s t => Cond.after_iff.mpr (by
  first | (rw [show limb_1_2 = Cond.eq .result (.int 1) from rfl, Cond.eq_ints (x := 1) (y := 1) rfl rfl]; simp; done) | (simp [limb_1_2, Cond.value, Term.eval]; done)))⟩
end
