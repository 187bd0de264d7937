/-! THE CLAIM OUT OF ONE WALK OF THE LAW'S BODY. Your part is whole_start (and what it stands on); all else here is the same for every law, but numbers. -/
def R_law : String := "ClickTrackLaw"
def lw_P (b : Addr) (xs : List Int32) (args : Array Value) (s : State) : Prop := args = #[.ref b] ∧ s.IntsAt b xs ∧ xs.length ≤ 3072 ∧ (Jvm.Cond.and given_1 narrow_1).before args s = true
def lw_Q (_ : Array Value) (s : State) (o : Outcome) (t : State) : Prop := o = .returned (some (.int 1)) ∧ Framed s o t [] 601024 7293034
def lw_Z (below : List Frame) (a : Array Value) (s : State) : State → Prop := fun t => ∃ o, t.status = .running ∧ Ended t below o ∧ lw_Q a s o t
/-- the law's own end, with 1 on the stack, nothing written that was there before, its room as the claim has it -/
theorem lw_ret {p : Program} {l : Launch} {e : Env} {s : State} {m : MethodId} {below : List Frame} {meth : Method} {c : Code} {b : Nat} (hx : p.tables.exec = Jvm.exec) (hb : c.code = code) (hr : meth.sig.returnType = ret) (hlocks : meth.locks = false) {pc : Nat} {H : Heap} {ls : Array Slot} (hdg : decode code pc = .ok (.ireturn, 1)) : W p l e room_1 s m #[Value.ref b] below meth c H [] 601024 7293034 (lw_Z below #[Value.ref b] s) (F0 m pc ls [.int 1]) := by
  intro T hT X
  obtain ⟨fs, hret, hrun, hended, hW, hframe⟩ := X.leave (v := some (.int 1)) (hlocks := hlocks) (fun h => by rw [hr] at h; cases h)
  have hmeth' : T.vm.method? m = some meth := X.method'
  refine ⟨T.setFrames fs, ?_, .returned (some (.int 1)), hrun, hended, rfl, ⟨_, rfl⟩, hW, hframe⟩
  jvm_step X.here [X.here.top, hx, hb, hdg, hmeth', hr, ret, narrow_b1]
  (try refine ⟨rfl, ?_⟩); (try refine ⟨rfl, ?_⟩)
  first | (intro acts; rw [hret _ acts rfl rfl rfl]) | rw [hret _ _ rfl rfl rfl]
  exact Steps.refl _
/-- what holds at the law's entry: the machine, the code, the tables' words (any of lw_tbl by 'hts w (by decide +kernel)'), the script of L ints xs at the cell b, what the Statement gives of the start (any of its parts by flat_of_before) -/
def lw_At (p : Program) (s : State) (m : MethodId) (meth : Method) (c : Code) (b L : Nat) (xs : Nat → Int32) : Prop :=
  p.tables.exec = Jvm.exec ∧ c.code = code ∧ meth.sig.returnType = ret ∧ c.maxLocals = 8 ∧ s.vm.findClass R_law = some m.cls ∧ (∀ w ∈ lw_tbl, w.before #[Value.ref b] s = true) ∧ va_X b L xs s s.heap ∧ b < s.heap.size ∧ meth.locks = false ∧ (Jvm.Cond.and given_1 narrow_1).before #[Value.ref b] s = true
/-! ===== the law's loop ===== -/
theorem lw_tb {x : Int32} {J : Nat → Prop} : ∀ (ts : List Nat) (lo : Nat), (∀ t, t ∈ ts → J t) → me_tb x J lo ts
  | [], _, _ => True.intro
  | u :: ts, lo, h => ⟨fun _ => h u List.mem_cons_self, lw_tb ts (lo + 1) (fun t ht => h t (List.mem_cons_of_mem _ ht))⟩
set_option maxRecDepth 100000 in
theorem lc_default {sx : me_Sc} {q : Int32} {G : gs_T} {k km : Nat} {v : me_V} {w : me_U} {Inv : Nat → Nat → me_L → List me_S → me_V → me_U → Prop} (hc : cl_at v G) (hm : md_at v G) (hI : lw_Iv sx q k km Inv) : me_go cs_L_law lw_K lw_kx km sx cd_L_law [23] Inv 19 2510 k (lw_B sx q) [] v w := by
  unfold lw_B
  simp only [↓mo_vb, ↓mo_ve, ↓mo_gi, ↓mo_0, ↓mo_1, ↓mo_2, ↓mo_3i, ↓mo_3l, ↓mo_3r, ↓mo_3q, ↓mo_4_0, ↓mo_4_1, ↓mo_4_2, ↓mo_4_3, ↓mo_4_4, ↓mo_4_5, ↓mo_4_6, ↓mo_4_7, ↓mo_4_8, ↓mo_4_9, ↓mo_4_10, ↓mo_5_0, ↓mo_5_1, ↓mo_5_2, ↓mo_5_3, ↓mo_5_4, ↓mo_5_8, ↓mo_5_9, ↓mo_6_0, ↓mo_6_1, ↓mo_7, ↓mo_8, ↓mo_9, ↓mo_10i, ↓mo_10r, ↓mo_10q, ↓mo_11ir, ↓mo_12i, ↓mo_13, ↓mo_13m, ↓mo_14_0, ↓mo_15_0, ↓mo_14_1, ↓mo_15_1, ↓mo_14_2, ↓mo_15_2, ↓mo_14_3, ↓mo_15_3, ↓mo_14_4, ↓mo_15_4, ↓mo_14_5, ↓mo_15_5, ↓mo_16, ↓mo_17, ↓mo_18, ↓mo_19, ↓mo_20i, ↓mo_20z, ↓mo_20l, ↓mo_21, ↓mo_22, ↓mo_23, ↓mo_24, ↓mo_25, ↓mo_27, ↓mo_26, ↓mo_28, ↓mo_31, ↓mo_32, ↓mo_33, ↓mo_34, ↓mo_35, ↓mo_36, ↓mo_37, ↓mo_39, ↓mo_40, ↓mo_30_0, ↓mo_41_0, ↓mo_29_0, ↓mo_30_1, ↓mo_41_1, ↓mo_29_1, ↓mo_30_2, ↓mo_41_2, ↓mo_29_2, ↓mo_30_3, ↓mo_41_3, ↓mo_29_3, ↓mo_30_4, ↓mo_41_4, ↓mo_29_4, ↓mo_30_5, ↓mo_41_5, ↓mo_29_5, ↓me_tb, ↓me_lu, me_t2i, me_t2l, me_t2r, me_t2q, me_t13i, me_t19a, me_t19b, me_t19c, me_t19d, me_tae, me_t28e, me_t36e, ↓me_kn_d, ↓me_ky_d, me_ca_e, me_sv_d, me_in_n, me_in_c, decide_true, decide_false, me_rm_n, me_rm_c, me_lk_c, me_kdI, me_kdL, me_kdR, me_kdQ, me_ag_n, me_agI, me_agL, me_agR, me_agQ, me_w9n, me_w9I, me_w9L, me_w9R, me_w9Q, me_psN, me_psS, mn_0, mn_1, mn_00, mn_10, mn_01, mn_11, or_true, true_or, mn_c0, mn_c1, mn_l0, mn_l1, eq_self, List.contains_nil, List.contains_cons, List.elem_nil, List.elem_cons, List.contains_eq_mem, List.not_mem_nil, List.mem_cons, decide_false, decide_true, or_false, false_or, Bool.or_false, Bool.false_or, List.length_cons, List.length_nil, Nat.reduceAdd, Nat.reduceSub, Nat.reduceMul, Nat.reduceBEq, Nat.reduceEqDiff, Nat.reduceLT, Nat.reduceLeDiff, reduceCtorEq, if_true, if_false, ite_true, ite_false, true_and, and_true, Bool.and_true, Bool.true_and, Bool.and_false, Bool.false_and, Bool.not_true, Bool.not_false, Bool.or_true, Bool.true_or, cond_true, cond_false, not_false_eq_true, not_true_eq_false, true_implies, false_implies, implies_true, Nat.le_refl, Nat.add_zero, Nat.zero_add, Nat.zero_le, ↓mo_gi, ↓mo_38_2, ↓mo_38_3, ↓mo_38_4, ↓mo_38_5, al_223, vi_01, oc_0, oc_207, z0c, ↓reduceIte, lw_cmp, ↓go_L_law_2510, ↓lo_L_law_2510]
  refine hI _ _ _ _ _ ?_ hc hm (fun _ z => z)
  omega
theorem lw_cs {sx : me_Sc} {q : Int32} {G : gs_T} {k km : Nat} {v : me_V} {w : me_U} {Inv : Nat → Nat → me_L → List me_S → me_V → me_U → Prop} (hk : k + 3 ≤ km) (h6 : lw_v6 sx q) (hc : cl_at v G) (hm : md_at v G) (hI : lw_Iv sx q k km Inv) : ∀ t, t ∈ [188, 244, 257, 270, 314, 370, 438, 506, 574, 630, 710, 777, 857, 957, 1056, 1200, 1256, 1324, 1392, 1459, 1515, 1583, 1663, 1766, 1846, 1902, 1998, 2042, 2142, 2198, 2298, 2398, 2454] → me_go cs_L_law lw_K lw_kx km sx cd_L_law [23] Inv 19 t k (lw_B sx q) [] v w := by
  intro t ht
  simp only [List.mem_cons, List.not_mem_nil, or_false] at ht
  rcases ht with rfl | rfl | rfl | rfl | rfl | rfl | rfl | rfl | rfl | rfl | rfl | rfl | rfl | rfl | rfl | rfl | rfl | rfl | rfl | rfl | rfl | rfl | rfl | rfl | rfl | rfl | rfl | rfl | rfl | rfl | rfl | rfl | rfl
  · exact lc_append hk h6 hc hm hI
  · exact lc_clearText hk h6 hc hm hI
  · exact lc_errorPosition hk h6 hc hm hI
  · exact lc_load hk h6 hc hm hI
  · exact lc_about hk h6 hc hm hI
  · exact lc_bar hk h6 hc hm hI
  · exact lc_stretch hk h6 hc hm hI
  · exact lc_section hk h6 hc hm hI
  · exact lc_places hk h6 hc hm hI
  · exact lc_place hk h6 hc hm hI
  · exact lc_begins hk h6 hc hm hI
  · exact lc_find hk h6 hc hm hI
  · exact lc_at hk h6 hc hm hI
  · exact lc_nextClick hk h6 hc hm hI
  · exact lc_clicks hk h6 hc hm hI
  · exact lc_missed hk h6 hc hm hI
  · exact lc_together hk h6 hc hm hI
  · exact lc_part hk h6 hc hm hI
  · exact lc_meet hk h6 hc hm hI
  · exact lc_addBar hk h6 hc hm hI
  · exact lc_setTempo hk h6 hc hm hI
  · exact lc_setStretch hk h6 hc hm hI
  · exact lc_leaveOut hk h6 hc hm hI
  · exact lc_addSection hk h6 hc hm hI
  · exact lc_removeSection hk h6 hc hm hI
  · exact lc_skip hk h6 hc hm hI
  · exact lc_undo hk h6 hc hm hI
  · exact lc_percentage hk h6 hc hm hI
  · exact lc_longest hk h6 hc hm hI
  · exact lc_runScript hk h6 hc hm hI
  · exact lc_simulate hk h6 hc hm hI
  · exact lc_save hk h6 hc hm hI
  · exact lc_restore hk h6 hc hm hI
theorem lw_v6_of {sx : me_Sc} {i n : Nat} (hn : sx.2.1 = n) (h : 6 * i + 6 ≤ n) (h3 : n ≤ 3072) : lw_v6 sx (nI (6 * i)) := by
  unfold lw_v6
  rw [hn, nI_add, nI_add, nI_add, nI_add, nI_1]
  refine ⟨?_, ?_, ?_, ?_, ?_⟩ <;> exact vp_in_nI (by omega) (by omega)
theorem lw_lt {i n : Nat} (h : 6 * i ≤ n) (h3 : n ≤ 3072) : (nI n - nI 6 < nI (6 * i)) = (n < 6 * i + 6) := by
  by_cases h6 : 6 ≤ n
  · obtain ⟨d, rfl⟩ := Nat.exists_eq_add_of_le h6
    rw [← nI_add, show nI 6 + nI d - nI 6 = nI d by rw [Int32.add_comm, Int32.add_sub_cancel], nI_lts (by omega) (by omega)]
    exact propext (by omega)
  · obtain rfl : i = 0 := by omega
    refine propext ⟨fun _ => by omega, fun _ => ?_⟩
    rcases (show n = 0 ∨ n = 1 ∨ n = 2 ∨ n = 3 ∨ n = 4 ∨ n = 5 by omega) with rfl | rfl | rfl | rfl | rfl | rfl <;> decide
set_option maxHeartbeats 2000000 in
set_option maxRecDepth 100000 in
theorem lw_head {sx : me_Sc} {i n : Nat} {G : gs_T} {k km : Nat} {v : me_V} {w : me_U} {Inv : Nat → Nat → me_L → List me_S → me_V → me_U → Prop} (hn : sx.2.1 = n) (h3 : n ≤ 3072) (hi : 6 * i ≤ n) (hk : k + 3 ≤ km) (hc : cl_at v G) (hm : md_at v G) (hI : 6 * i + 6 ≤ n → lw_Iv sx (nI (6 * i)) k km Inv) : me_vb cs_L_law (me_go cs_L_law lw_K lw_kx km sx cd_L_law [23] Inv 19) lw_K (lw_kx (me_go cs_L_law lw_K lw_kx km sx cd_L_law [23] Inv 19)) km sx (me_bk cd_L_law 23) 23 k (lw_B sx (nI (6 * i))) [] v w := by
  have hJ : 6 * i + 6 ≤ n → ∀ t, t ∈ [188, 244, 257, 270, 314, 370, 438, 506, 574, 630, 710, 777, 857, 957, 1056, 1200, 1256, 1324, 1392, 1459, 1515, 1583, 1663, 1766, 1846, 1902, 1998, 2042, 2142, 2198, 2298, 2398, 2454] → me_go cs_L_law lw_K lw_kx km sx cd_L_law [23] Inv 19 t k (lw_B sx (nI (6 * i))) [] v w := fun z => lw_cs hk (lw_v6_of hn z h3) hc hm (hI z)
  have hD : 6 * i + 6 ≤ n → me_go cs_L_law lw_K lw_kx km sx cd_L_law [23] Inv 19 2510 k (lw_B sx (nI (6 * i))) [] v w := fun z => lc_default hc hm (hI z)
  have hE : me_go cs_L_law lw_K lw_kx km sx cd_L_law [23] Inv 19 2516 k (lw_B sx (nI (6 * i))) [] v w := by
    unfold lw_B
    simp only [↓mo_vb, ↓mo_ve, ↓mo_gi, ↓mo_0, ↓mo_1, ↓mo_2, ↓mo_3i, ↓mo_3l, ↓mo_3r, ↓mo_3q, ↓mo_4_0, ↓mo_4_1, ↓mo_4_2, ↓mo_4_3, ↓mo_4_4, ↓mo_4_5, ↓mo_4_6, ↓mo_4_7, ↓mo_4_8, ↓mo_4_9, ↓mo_4_10, ↓mo_5_0, ↓mo_5_1, ↓mo_5_2, ↓mo_5_3, ↓mo_5_4, ↓mo_5_8, ↓mo_5_9, ↓mo_6_0, ↓mo_6_1, ↓mo_7, ↓mo_8, ↓mo_9, ↓mo_10i, ↓mo_10r, ↓mo_10q, ↓mo_11ir, ↓mo_12i, ↓mo_13, ↓mo_13m, ↓mo_14_0, ↓mo_15_0, ↓mo_14_1, ↓mo_15_1, ↓mo_14_2, ↓mo_15_2, ↓mo_14_3, ↓mo_15_3, ↓mo_14_4, ↓mo_15_4, ↓mo_14_5, ↓mo_15_5, ↓mo_16, ↓mo_17, ↓mo_18, ↓mo_19, ↓mo_20i, ↓mo_20z, ↓mo_20l, ↓mo_21, ↓mo_22, ↓mo_23, ↓mo_24, ↓mo_25, ↓mo_27, ↓mo_26, ↓mo_28, ↓mo_31, ↓mo_32, ↓mo_33, ↓mo_34, ↓mo_35, ↓mo_36, ↓mo_37, ↓mo_39, ↓mo_40, ↓mo_30_0, ↓mo_41_0, ↓mo_29_0, ↓mo_30_1, ↓mo_41_1, ↓mo_29_1, ↓mo_30_2, ↓mo_41_2, ↓mo_29_2, ↓mo_30_3, ↓mo_41_3, ↓mo_29_3, ↓mo_30_4, ↓mo_41_4, ↓mo_29_4, ↓mo_30_5, ↓mo_41_5, ↓mo_29_5, ↓me_tb, ↓me_lu, me_t2i, me_t2l, me_t2r, me_t2q, me_t13i, me_t19a, me_t19b, me_t19c, me_t19d, me_tae, me_t28e, me_t36e, ↓me_kn_d, ↓me_ky_d, me_ca_e, me_sv_d, me_in_n, me_in_c, decide_true, decide_false, me_rm_n, me_rm_c, me_lk_c, me_kdI, me_kdL, me_kdR, me_kdQ, me_ag_n, me_agI, me_agL, me_agR, me_agQ, me_w9n, me_w9I, me_w9L, me_w9R, me_w9Q, me_psN, me_psS, mn_0, mn_1, mn_00, mn_10, mn_01, mn_11, or_true, true_or, mn_c0, mn_c1, mn_l0, mn_l1, eq_self, List.contains_nil, List.contains_cons, List.elem_nil, List.elem_cons, List.contains_eq_mem, List.not_mem_nil, List.mem_cons, decide_false, decide_true, or_false, false_or, Bool.or_false, Bool.false_or, List.length_cons, List.length_nil, Nat.reduceAdd, Nat.reduceSub, Nat.reduceMul, Nat.reduceBEq, Nat.reduceEqDiff, Nat.reduceLT, Nat.reduceLeDiff, reduceCtorEq, if_true, if_false, ite_true, ite_false, true_and, and_true, Bool.and_true, Bool.true_and, Bool.and_false, Bool.false_and, Bool.not_true, Bool.not_false, Bool.or_true, Bool.true_or, cond_true, cond_false, not_false_eq_true, not_true_eq_false, true_implies, false_implies, implies_true, Nat.le_refl, Nat.add_zero, Nat.zero_add, Nat.zero_le, ↓mo_gi, ↓mo_38_2, ↓mo_38_3, ↓mo_38_4, ↓mo_38_5, al_223, vi_01, oc_0, oc_207, z0c, ↓reduceIte, lw_cmp, ↓go_L_law_2516, ↓lo_L_law_2516]
    exact ⟨by omega, rfl⟩
  generalize me_go cs_L_law lw_K lw_kx km sx cd_L_law [23] Inv 19 = J at hJ hD hE ⊢
  unfold lw_B at hJ hD hE ⊢
  simp only [↓mo_vb, ↓mo_ve, ↓mo_gi, ↓mo_0, ↓mo_1, ↓mo_2, ↓mo_3i, ↓mo_3l, ↓mo_3r, ↓mo_3q, ↓mo_4_0, ↓mo_4_1, ↓mo_4_2, ↓mo_4_3, ↓mo_4_4, ↓mo_4_5, ↓mo_4_6, ↓mo_4_7, ↓mo_4_8, ↓mo_4_9, ↓mo_4_10, ↓mo_5_0, ↓mo_5_1, ↓mo_5_2, ↓mo_5_3, ↓mo_5_4, ↓mo_5_8, ↓mo_5_9, ↓mo_6_0, ↓mo_6_1, ↓mo_7, ↓mo_8, ↓mo_9, ↓mo_10i, ↓mo_10r, ↓mo_10q, ↓mo_11ir, ↓mo_12i, ↓mo_13, ↓mo_13m, ↓mo_14_0, ↓mo_15_0, ↓mo_14_1, ↓mo_15_1, ↓mo_14_2, ↓mo_15_2, ↓mo_14_3, ↓mo_15_3, ↓mo_14_4, ↓mo_15_4, ↓mo_14_5, ↓mo_15_5, ↓mo_16, ↓mo_17, ↓mo_18, ↓mo_19, ↓mo_20i, ↓mo_20z, ↓mo_20l, ↓mo_21, ↓mo_22, ↓mo_23, ↓mo_24, ↓mo_25, ↓mo_27, ↓mo_26, ↓mo_28, ↓mo_31, ↓mo_32, ↓mo_33, ↓mo_34, ↓mo_35, ↓mo_36, ↓mo_37, ↓mo_39, ↓mo_40, ↓mo_30_0, ↓mo_41_0, ↓mo_29_0, ↓mo_30_1, ↓mo_41_1, ↓mo_29_1, ↓mo_30_2, ↓mo_41_2, ↓mo_29_2, ↓mo_30_3, ↓mo_41_3, ↓mo_29_3, ↓mo_30_4, ↓mo_41_4, ↓mo_29_4, ↓mo_30_5, ↓mo_41_5, ↓mo_29_5, ↓me_lu, me_t2i, me_t2l, me_t2r, me_t2q, me_t13i, me_t19a, me_t19b, me_t19c, me_t19d, me_tae, me_t28e, me_t36e, ↓me_kn_d, ↓me_ky_d, me_ca_e, me_sv_d, me_in_n, me_in_c, decide_true, decide_false, me_rm_n, me_rm_c, me_lk_c, me_kdI, me_kdL, me_kdR, me_kdQ, me_ag_n, me_agI, me_agL, me_agR, me_agQ, me_w9n, me_w9I, me_w9L, me_w9R, me_w9Q, me_psN, me_psS, mn_0, mn_1, mn_00, mn_10, mn_01, mn_11, or_true, true_or, mn_c0, mn_c1, mn_l0, mn_l1, eq_self, List.contains_nil, List.contains_cons, List.elem_nil, List.elem_cons, List.contains_eq_mem, List.not_mem_nil, List.mem_cons, decide_false, decide_true, or_false, false_or, Bool.or_false, Bool.false_or, List.length_cons, List.length_nil, Nat.reduceAdd, Nat.reduceSub, Nat.reduceMul, Nat.reduceBEq, Nat.reduceEqDiff, Nat.reduceLT, Nat.reduceLeDiff, reduceCtorEq, if_true, if_false, ite_true, ite_false, true_and, and_true, Bool.and_true, Bool.true_and, Bool.and_false, Bool.false_and, Bool.not_true, Bool.not_false, Bool.or_true, Bool.true_or, cond_true, cond_false, not_false_eq_true, not_true_eq_false, true_implies, false_implies, implies_true, Nat.le_refl, Nat.add_zero, Nat.zero_add, Nat.zero_le, ↓mo_gi, ↓mo_38_2, ↓mo_38_3, ↓mo_38_4, ↓mo_38_5, al_223, vi_01, oc_0, oc_207, z0c, ↓reduceIte, lw_cmp, ↓lo_L_law_23, hn, lw_lt hi h3]
  refine ⟨fun _ => hE, fun z => ⟨vp_in_nI (by omega) (by omega), lw_tb _ _ (fun t ht => hJ (by omega) t ht), fun _ => hD (by omega)⟩⟩
section LLOOP
variable {p : Program} {l : Launch} {e : Env} {R : Room} {s : State} {m : MethodId} {args : Array Value} {below : List Frame} {meth : Method} {c : Code} {Q : State → Prop} {C : me_C} {c0 s0 km : Nat} {sx : me_Sc}
theorem me_at_sub {nL pc k : Nat} {L L2 : me_L} {st : List me_S} {v : me_V} {w : me_U} (hL : lw_sub L L2) (h : me_at p l e R s m args below meth c Q C nL c0 s0 pc k L st v w) : me_at p l e R s m args below meth c Q C nL c0 s0 pc k L2 st v w := by
  intro H locs ls hP hD hS hl
  refine h H locs ls hP hD hS ⟨hl.1, hl.2.1, fun q hq => ?_⟩
  obtain ⟨z, hz, rfl⟩ := List.mem_map.mp hq
  exact hl.2.2 _ (List.mem_map.mpr ⟨z, hL z hz, rfl⟩)
theorem lw_loop (F : me_Fx p s m args c C cL_law 8 RL) (En : me_En mt_nm l R s C cl_L_law cs_L_law km c0 s0 1 sx) (Ed : ∀ KX, me_Ed mt_nm p l e R s m args below meth c Q C cL_law 8 c0 s0 RL (some .boolean) cl_L_law cs_L_law lw_K KX km sx 1) {n : Nat} (hn : sx.2.1 = n) (h3 : n ≤ 3072) (hkm : 1539 ≤ km) :
    ∀ (d i k : Nat) (G : gs_T) (v : me_V) (w : me_U), n ≤ 6 * i + d → 6 * i ≤ n → k ≤ 3 * i → cl_at v G → md_at v G → me_at p l e R s m args below meth c Q C 8 c0 s0 23 k (lw_B sx (nI (6 * i))) [] v w
  | d, i, k, G, v, w, h1, h2, hk, hc, hm => by
    have hgo := me_go_ok (KR := lw_K) (kx := lw_kx) (hd := [23]) (Inv := fun pc k L st v w => me_at p l e R s m args below meth c Q C 8 c0 s0 pc k L st v w) F En ck_L_law (fun J hJ => ⟨fun pc k L E v w hx => hx.elim, Ed _⟩) (fun pc k L st v w _ h => h) 19
    refine me_vb_ok F En (Ed _) hgo (fun pc k L E v w hx => hx.elim) _ 23 k _ [] v w (me_bk_ck cd_L_law ck_L_law 23) (lw_head hn h3 h2 (by omega) hc hm (fun z k2 G2 L2 v2 w2 hk2 hc2 hm2 hL => me_at_sub hL ?_))
    match d, h1 with
    | 0, h1 => exact absurd z (by omega)
    | d + 1, h1 =>
      rw [nI_add]
      exact lw_loop F En Ed hn h3 hkm d (i + 1) k2 G2 v2 w2 (by omega) (by omega) (by omega) hc2 hm2
end LLOOP
