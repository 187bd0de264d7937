/-! ===== a State written ===== -/
def sc_set (S : sc_T) (c i x : Nat) : sc_T := fun a k => if a = c ∧ k = i then x else S a k
theorem sc_up_key {v : me_V} {b c i x : Nat} {S : sc_T} {c2 i2 : Nat} (h : v (b + c2) i2 = nI (S c2 i2)) : me_up v (b + c) i (nI x) (b + c2) i2 = nI (sc_set S c i x c2 i2) := by
  unfold me_up sc_set upd
  by_cases hc : c2 = c
  · subst hc
    rw [if_pos rfl]
    by_cases hi : i2 = i
    · rw [if_pos hi, if_pos ⟨rfl, hi⟩]
    · rw [if_neg hi, if_neg (fun z => hi z.2)]
      exact h
  · rw [if_neg (by omega), if_neg (fun z => hc z.1)]
    exact h
theorem sc_at_set {v : me_V} {b c i x : Nat} {S : sc_T} (h : sc_at v b S) (hc : 1 ≤ c) : sc_at (me_up v (b + c) i (nI x)) b (sc_set S c i x) := by
  have z : ∀ i2, sc_set S c i x 0 i2 = S 0 i2 := fun i2 => by unfold sc_set; rw [if_neg (by omega)]
  have z0 : ∀ i2, me_up v (b + c) i (nI x) b i2 = v b i2 := fun i2 => by rw [me_up_n v i (nI x) (show b ≠ b + c by omega)]
  obtain ⟨h1, h2, h3, h4, h5⟩ := h
  refine ⟨by rw [z0, z]; exact h1, by rw [z0, z]; exact h2, fun j hj => ?_, fun s hs => ?_, fun p hp => sc_up_key (h5 p hp)⟩
  · rw [z] at hj
    obtain ⟨g1, g2, g3, g4⟩ := h3 j hj
    exact ⟨sc_up_key g1, sc_up_key g2, sc_up_key g3, fun k hk => sc_up_key (g4 k hk)⟩
  · rw [z] at hs
    obtain ⟨g1, g2, g3⟩ := h4 s hs
    exact ⟨sc_up_key g1, sc_up_key g2, sc_up_key g3⟩
/-- a State reads its nine cells alone -/
theorem sc_at_fr {v v2 : me_V} {b : Nat} {S : sc_T} (h : sc_at v b S) (he : ∀ c, c < 9 → v2 (b + c) = v (b + c)) : sc_at v2 b S := by
  obtain ⟨h1, h2, h3, h4, h5⟩ := h
  have e0 := he 0 (by omega)
  rw [Nat.add_zero] at e0
  refine ⟨by rw [e0]; exact h1, by rw [e0]; exact h2, fun j hj => ?_, fun s hs => ?_, fun p hp => ?_⟩
  · rw [he 1 (by omega), he 2 (by omega), he 3 (by omega), he 4 (by omega)]
    exact h3 j hj
  · rw [he 5 (by omega), he 6 (by omega), he 7 (by omega)]
    exact h4 s hs
  · rw [he 8 (by omega)]
    exact h5 p hp
def me_wbI (p : Int32) (r : Nat) (x : Int32) : Int32 := if x = 0 then p &&& ((1 <<< (nI r &&& 31)) ^^^ (-1)) else p ||| (1 <<< (nI r &&& 31))
def sc_pb (v : me_V) (b j nb n : Nat) : me_V := fun c => if c = b + 3 then (fun i => if 9 * j ≤ i ∧ i < 9 * j + n then 1 else v (b + 3) i) else me_up (me_up (me_up (me_up v b 0 (nI (j + 1))) (b + 1) j (nI nb)) (b + 2) j 0) (b + 4) j 0 c
theorem sc_pb_0 (v : me_V) (b j nb : Nat) : me_up (me_up (me_up (me_up v b 0 (nI (j + 1))) (b + 1) j (nI nb)) (b + 2) j 0) (b + 4) j 0 = sc_pb v b j nb 0 := by
  funext c
  unfold sc_pb
  by_cases hc : c = b + 3
  · subst hc
    rw [if_pos rfl, me_up_n _ _ _ (by omega), me_up_n _ _ _ (by omega), me_up_n _ _ _ (by omega), me_up_n _ _ _ (by omega)]
    funext i
    rw [if_neg (by omega)]
  · rw [if_neg hc]
theorem sc_pb_s (v : me_V) (b j nb n : Nat) : me_up (sc_pb v b j nb n) (b + 3) (9 * j + n) 1 = sc_pb v b j nb (n + 1) := by
  funext c
  by_cases hc : c = b + 3
  · subst hc
    rw [me_up_s]
    funext i
    unfold upd sc_pb
    rw [if_pos rfl, if_pos rfl]
    by_cases hi : i = 9 * j + n
    · rw [if_pos hi, if_pos (by omega)]
    · rw [if_neg hi]
      by_cases hi2 : 9 * j ≤ i ∧ i < 9 * j + n
      · rw [if_pos hi2, if_pos (by omega)]
      · rw [if_neg hi2, if_neg (by omega)]
  · rw [me_up_n _ _ _ hc]
    unfold sc_pb
    rw [if_neg hc, if_neg hc]
def sc_bar (S : sc_T) (nb : Nat) : sc_T := fun a k => if a = 0 ∧ k = 0 then S 0 0 + 1 else if a = 1 ∧ k = S 0 0 then nb else if a = 2 ∧ k = S 0 0 then 0 else if a = 4 ∧ k = S 0 0 then 0 else if a = 3 ∧ 9 * S 0 0 ≤ k ∧ k < 9 * S 0 0 + 9 then 1 else S a k
theorem sc_at_bar {v : me_V} {b nb : Nat} {S : sc_T} (h : sc_at v b S) : sc_at (sc_pb v b (S 0 0) nb 9) b (sc_bar S nb) := by
  obtain ⟨h1, h2, h3, h4, h5⟩ := h
  have e : ∀ c i, c ≠ 3 → sc_pb v b (S 0 0) nb 9 (b + c) i = if c = 0 ∧ i = 0 then nI (S 0 0 + 1) else if c = 1 ∧ i = S 0 0 then nI nb else if c = 2 ∧ i = S 0 0 then 0 else if c = 4 ∧ i = S 0 0 then 0 else v (b + c) i := by
    intro c i hc
    unfold sc_pb
    rw [if_neg (by omega)]
    unfold me_up upd
    rcases (show c = 0 ∨ c = 1 ∨ c = 2 ∨ c = 4 ∨ (c ≠ 0 ∧ c ≠ 1 ∧ c ≠ 2 ∧ c ≠ 4) by omega) with rfl | rfl | rfl | rfl | ⟨n0, n1, n2, n4⟩ <;> simp <;> simp_all
  have e3 : ∀ i, sc_pb v b (S 0 0) nb 9 (b + 3) i = if 9 * S 0 0 ≤ i ∧ i < 9 * S 0 0 + 9 then 1 else v (b + 3) i := by
    intro i
    unfold sc_pb
    rw [if_pos rfl]
  have s0 : sc_bar S nb 0 0 = S 0 0 + 1 := by simp [sc_bar]
  have s1 : sc_bar S nb 0 1 = S 0 1 := by simp [sc_bar]
  refine ⟨by have := e 0 0 (by omega); simpa [s0] using this, by have := e 0 1 (by omega); simpa [s1, h2] using this, fun j hj => ?_, fun s hs => ?_, fun p hp => ?_⟩
  · rw [s0] at hj
    rcases Nat.lt_or_ge j (S 0 0) with hlt | hge
    · obtain ⟨g1, g2, g3, g4⟩ := h3 j hlt
      have hne : j ≠ S 0 0 := by omega
      refine ⟨by rw [e 1 j (by omega)]; simp [sc_bar, hne, g1], by rw [e 2 j (by omega)]; simp [sc_bar, hne, g2], by rw [e 4 j (by omega)]; simp [sc_bar, hne, g3], fun k hk => ?_⟩
      rw [e3, if_neg (by omega), g4 k hk]
      unfold sc_bar
      rw [if_neg (by omega), if_neg (by omega), if_neg (by omega), if_neg (by omega), if_neg (by omega)]
    · have : j = S 0 0 := by omega
      subst this
      refine ⟨by rw [e 1 _ (by omega)]; simp [sc_bar], by rw [e 2 _ (by omega)]; simp [sc_bar, mn_0], by rw [e 4 _ (by omega)]; simp [sc_bar, mn_0], fun k hk => ?_⟩
      rw [e3, if_pos (by omega)]
      unfold sc_bar
      rw [if_neg (by omega), if_neg (by omega), if_neg (by omega), if_neg (by omega), if_pos (by omega)]
      rfl
  · rw [s1] at hs
    obtain ⟨g1, g2, g3⟩ := h4 s hs
    exact ⟨by rw [e 5 s (by omega)]; simp [sc_bar, g1], by rw [e 6 s (by omega)]; simp [sc_bar, g2], by rw [e 7 s (by omega)]; simp [sc_bar, g3]⟩
  · rw [e 8 p (by omega)]; simp [sc_bar, h5 p hp]
theorem sc_wf_bar {S : sc_T} {nb : Nat} (h : sc_wf S) (hlt : S 0 0 < 24) (h1 : 1 ≤ nb) (h9 : nb ≤ 9) : sc_wf (sc_bar S nb) := by
  obtain ⟨w1, w2, w3, w4, w5, w6⟩ := h
  have s0 : sc_bar S nb 0 0 = S 0 0 + 1 := by simp [sc_bar]
  have s1 : sc_bar S nb 0 1 = S 0 1 := by simp [sc_bar]
  have s5 : ∀ s, sc_bar S nb 5 s = S 5 s := fun s => by simp [sc_bar]
  have s6 : ∀ s, sc_bar S nb 6 s = S 6 s := fun s => by simp [sc_bar]
  have s7 : ∀ s, sc_bar S nb 7 s = S 7 s := fun s => by simp [sc_bar]
  have s8 : ∀ s, sc_bar S nb 8 s = S 8 s := fun s => by simp [sc_bar]
  refine ⟨by omega, by omega, fun j hj => ?_, fun s hs => ?_, fun s hs => ?_, fun p hp => ?_⟩
  · rw [s0] at hj
    rcases Nat.lt_or_ge j (S 0 0) with hl | hg
    · have hne : j ≠ S 0 0 := by omega
      obtain ⟨g1, g2, g3, g4, g5, g6⟩ := w3 j hl
      have k1 : sc_bar S nb 1 j = S 1 j := by simp [sc_bar, hne]
      have k2 : sc_bar S nb 2 j = S 2 j := by simp [sc_bar, hne]
      have k4 : sc_bar S nb 4 j = S 4 j := by simp [sc_bar, hne]
      have k3 : ∀ k, k < 9 → sc_bar S nb 3 (9 * j + k) = S 3 (9 * j + k) := fun k hk => by
        unfold sc_bar
        rw [if_neg (by omega), if_neg (by omega), if_neg (by omega), if_neg (by omega), if_neg (by omega)]
      exact ⟨by omega, by omega, by omega, by omega, by omega, fun k hk => by rw [k3 k hk]; exact g6 k hk⟩
    · have : j = S 0 0 := by omega
      subst this
      have k1 : sc_bar S nb 1 (S 0 0) = nb := by simp [sc_bar]
      have k2 : sc_bar S nb 2 (S 0 0) = 0 := by simp [sc_bar]
      have k4 : sc_bar S nb 4 (S 0 0) = 0 := by simp [sc_bar]
      have k3 : ∀ k, k < 9 → sc_bar S nb 3 (9 * S 0 0 + k) = 1 := fun k hk => by
        unfold sc_bar
        rw [if_neg (by omega), if_neg (by omega), if_neg (by omega), if_neg (by omega), if_pos (by omega)]
      exact ⟨by omega, by omega, by omega, by omega, by omega, fun k hk => by rw [k3 k hk]; omega⟩
  · rw [s1] at hs; rw [s5, s6, s7, s0]
    have := w4 s hs
    omega
  · rw [s1] at hs; rw [s5, s6]; exact w5 s hs
  · rw [s8]; exact w6 p hp
def sp_putStretch : me_P := fun as v w K _ => ∃ (b j k : Nat) (x : Int32), as = [vR b, vI (nI j), vI (nI (k + 1)), vI x] ∧ st_ok b ∧ j < 24 ∧ k < 9 ∧ K none (me_up v (b + 3) (9 * j + k) x) w
theorem go_X3_putStretch_0 {cs : Nat → Nat × me_P} {KR : me_K} {kx : (Nat → Nat → me_L → List me_S → me_V → me_U → Prop) → Nat → Nat → me_L → Nat → me_V → me_U → Prop} {km : Nat} {sx : me_Sc} {hd : List Nat} {Inv : Nat → Nat → me_L → List me_S → me_V → me_U → Prop} {n k : Nat} {L : me_L} {st : List me_S} {v : me_V} {w : me_U} (hn : (n == 0) = false) (h : hd.contains 0 = false) : me_go cs KR kx km sx cd_X3_putStretch hd Inv n 0 k L st v w = me_vb cs (me_go cs KR kx km sx cd_X3_putStretch hd Inv (n - 1)) KR (kx (me_go cs KR kx km sx cd_X3_putStretch hd Inv (n - 1))) km sx [(2, 0, 2, [], 1, 0, 0), (19, 3, 4, [], 3, 0, 108), (2, 1, 0, [], 1, 0, 0), (0, 9, 0, [], 2, 0, 0), (4, 2, 0, [], 1, 0, 0), (2, 2, 0, [], 1, 0, 0), (4, 0, 0, [], 1, 0, 0), (0, 1, 0, [], 1, 0, 0), (4, 1, 0, [], 1, 0, 0), (2, 3, 0, [], 1, 0, 0), (22, 0, 0, [], 1, 0, 0), (31, 0, 0, [], 1, 0, 0)] 0 k L st v w := by
  rcases n with _ | n
  · cases hn
  · rw [mo_gb h]
    rfl
theorem lo_X3_putStretch_0 {cs : Nat → Nat × me_P} {J : Nat → Nat → me_L → List me_S → me_V → me_U → Prop} {KR : me_K} {KX : Nat → Nat → me_L → Nat → me_V → me_U → Prop} {km : Nat} {sx : me_Sc} {k : Nat} {L : me_L} {st : List me_S} {v : me_V} {w : me_U} : me_vb cs J KR KX km sx (me_bk cd_X3_putStretch 0) 0 k L st v w = me_vb cs J KR KX km sx [(2, 0, 2, [], 1, 0, 0), (19, 3, 4, [], 3, 0, 108), (2, 1, 0, [], 1, 0, 0), (0, 9, 0, [], 2, 0, 0), (4, 2, 0, [], 1, 0, 0), (2, 2, 0, [], 1, 0, 0), (4, 0, 0, [], 1, 0, 0), (0, 1, 0, [], 1, 0, 0), (4, 1, 0, [], 1, 0, 0), (2, 3, 0, [], 1, 0, 0), (22, 0, 0, [], 1, 0, 0), (31, 0, 0, [], 1, 0, 0)] 0 k L st v w := rfl
def cs_X3_putStretch : Nat → Nat × me_P := fun a => match a with
  | _ => (0, fun _ _ _ _ _ => False)
set_option maxHeartbeats 1000000 in
set_option maxRecDepth 100000 in
theorem vc_X3_putStretch : mv_ok cs_X3_putStretch cd_X3_putStretch [] 0 4 sp_putStretch := by
  refine mv_flat 20 ?_

  intro as v w K X h
  obtain ⟨b, j, k, x, rfl, hb, hj, hk, hK⟩ := h
  obtain ⟨hoc, f0, f1, f2, f3, f4, f5, f6, f7, f8, f9, a1, a2, a3, a4, a5, a6, a7, a8⟩ := hb

  refine ⟨Nat.le_of_ble_eq_true rfl, fun Inv => ?_⟩
  have ei : nI j * nI 9 + nI (k + 1) - 1 = nI (9 * j + k) := by
    rw [pk_mul, nI_add, ← mn_1, pk_sub (by omega)]
    congr 1
    omega
  simp only [↓mo_vb, ↓mo_ve, ↓mo_gi, ↓mo_0, ↓mo_1, ↓mo_2, ↓mo_3i, ↓mo_3l, ↓mo_3r, ↓mo_3q, ↓mo_4_0, ↓mo_4_1, ↓mo_4_2, ↓mo_4_3, ↓mo_4_4, ↓mo_4_5, ↓mo_4_6, ↓mo_4_7, ↓mo_4_8, ↓mo_4_9, ↓mo_4_10, ↓mo_5_0, ↓mo_5_1, ↓mo_5_2, ↓mo_5_3, ↓mo_5_4, ↓mo_5_8, ↓mo_5_9, ↓mo_6_0, ↓mo_6_1, ↓mo_7, ↓mo_8, ↓mo_9, ↓mo_10i, ↓mo_10r, ↓mo_10q, ↓mo_11ir, ↓mo_12i, ↓mo_13, ↓mo_13m, ↓mo_14_0, ↓mo_15_0, ↓mo_14_1, ↓mo_15_1, ↓mo_14_2, ↓mo_15_2, ↓mo_14_3, ↓mo_15_3, ↓mo_14_4, ↓mo_15_4, ↓mo_14_5, ↓mo_15_5, ↓mo_16, ↓mo_17, ↓mo_18, ↓mo_19, ↓mo_20i, ↓mo_20z, ↓mo_20l, ↓mo_21, ↓mo_22, ↓mo_23, ↓mo_24, ↓mo_25, ↓mo_27, ↓mo_26, ↓mo_28, ↓mo_31, ↓mo_32, ↓mo_33, ↓mo_34, ↓mo_35, ↓mo_36, ↓mo_37, ↓mo_39, ↓mo_40, ↓mo_30_0, ↓mo_41_0, ↓mo_29_0, ↓mo_30_1, ↓mo_41_1, ↓mo_29_1, ↓mo_30_2, ↓mo_41_2, ↓mo_29_2, ↓mo_30_3, ↓mo_41_3, ↓mo_29_3, ↓mo_30_4, ↓mo_41_4, ↓mo_29_4, ↓mo_30_5, ↓mo_41_5, ↓mo_29_5, ↓me_tb, ↓me_lu, me_t2i, me_t2l, me_t2r, me_t2q, me_t13i, me_t19a, me_t19b, me_t19c, me_t19d, me_tae, me_t28e, me_t36e, ↓me_kn_d, ↓me_ky_d, me_ca_e, me_sv_d, me_in_n, me_in_c, decide_true, decide_false, me_rm_n, me_rm_c, me_lk_c, me_kdI, me_kdL, me_kdR, me_kdQ, me_ag_n, me_agI, me_agL, me_agR, me_agQ, me_w9n, me_w9I, me_w9L, me_w9R, me_w9Q, me_psN, me_psS, mn_0, mn_1, mn_00, mn_10, mn_01, mn_11, or_true, true_or, mn_c0, mn_c1, mn_l0, mn_l1, eq_self, List.contains_nil, List.contains_cons, List.elem_nil, List.elem_cons, List.contains_eq_mem, List.not_mem_nil, List.mem_cons, decide_false, decide_true, or_false, false_or, Bool.or_false, Bool.false_or, List.length_cons, List.length_nil, Nat.reduceAdd, Nat.reduceSub, Nat.reduceMul, Nat.reduceBEq, Nat.reduceEqDiff, Nat.reduceLT, Nat.reduceLeDiff, reduceCtorEq, if_true, if_false, ite_true, ite_false, true_and, and_true, Bool.and_true, Bool.true_and, Bool.and_false, Bool.false_and, Bool.not_true, Bool.not_false, Bool.or_true, Bool.true_or, cond_true, cond_false, not_false_eq_true, not_true_eq_false, true_implies, false_implies, implies_true, Nat.le_refl, Nat.add_zero, Nat.zero_add, Nat.zero_le, ↓mo_gi, cs_X3_putStretch, ↓go_X3_putStretch_0, ↓lo_X3_putStretch_0, hoc, f0, f1, f2, f3, f4, f5, f6, f7, f8, f9, a1, a2, a3, a4, a5, a6, a7, a8, ei, nI_clamp (show 9 * j + k < 2 ^ 31 by omega)]
  exact ⟨vp_in_nI (by omega) (by omega), hK⟩
theorem ct_X3_putStretch {l : Launch} (hfl : l.stackTraces = false) : me_M l yX3_putStretch (.code yX3_putStretch cX3_putStretch 4 none) 1 60 0 sp_putStretch := me_meth (us := 0) (bl := cd_X3_putStretch) (cs := cs_X3_putStretch) (hd := []) hfl (by decide +kernel) rfl (by decide) ⟨by decide, by decide⟩ (by decide) ck_X3_putStretch (fun a ha => absurd ha List.not_mem_nil) (by decide) mv_sx vc_X3_putStretch
def sp_putLeftOut : me_P := fun as v w K _ => ∃ (b j r : Nat) (x : Int32), as = [vR b, vI (nI j), vI (nI (r + 1)), vI x] ∧ st_ok b ∧ j < 24 ∧ r < 4 ∧ K none (me_up v (b + 4) j (me_wbI (v (b + 4) j) r x)) w
theorem go_X3_putLeftOut_0 {cs : Nat → Nat × me_P} {KR : me_K} {kx : (Nat → Nat → me_L → List me_S → me_V → me_U → Prop) → Nat → Nat → me_L → Nat → me_V → me_U → Prop} {km : Nat} {sx : me_Sc} {hd : List Nat} {Inv : Nat → Nat → me_L → List me_S → me_V → me_U → Prop} {n k : Nat} {L : me_L} {st : List me_S} {v : me_V} {w : me_U} (hn : (n == 0) = false) (h : hd.contains 0 = false) : me_go cs KR kx km sx cd_X3_putLeftOut hd Inv n 0 k L st v w = me_vb cs (me_go cs KR kx km sx cd_X3_putLeftOut hd Inv (n - 1)) KR (kx (me_go cs KR kx km sx cd_X3_putLeftOut hd Inv (n - 1))) km sx [(0, 1, 0, [], 1, 0, 0), (2, 2, 0, [], 1, 0, 0), (0, 1, 0, [], 1, 0, 0), (4, 1, 0, [], 1, 0, 0), (4, 6, 0, [], 1, 0, 0), (3, 4, 0, [], 2, 0, 0), (2, 0, 2, [], 1, 0, 0), (19, 3, 5, [], 3, 0, 109), (2, 1, 0, [], 1, 0, 0), (2, 3, 0, [], 1, 0, 0), (14, 28, 0, [], 3, 0, 0), (2, 0, 2, [], 1, 0, 0), (19, 3, 5, [], 3, 0, 109), (2, 1, 0, [], 1, 0, 0), (21, 0, 0, [], 1, 0, 0), (2, 4, 0, [], 2, 0, 0), (4, 4, 0, [], 1, 0, 0), (16, 39, 0, [], 3, 0, 0)] 0 k L st v w := by
  rcases n with _ | n
  · cases hn
  · rw [mo_gb h]
    rfl
theorem lo_X3_putLeftOut_0 {cs : Nat → Nat × me_P} {J : Nat → Nat → me_L → List me_S → me_V → me_U → Prop} {KR : me_K} {KX : Nat → Nat → me_L → Nat → me_V → me_U → Prop} {km : Nat} {sx : me_Sc} {k : Nat} {L : me_L} {st : List me_S} {v : me_V} {w : me_U} : me_vb cs J KR KX km sx (me_bk cd_X3_putLeftOut 0) 0 k L st v w = me_vb cs J KR KX km sx [(0, 1, 0, [], 1, 0, 0), (2, 2, 0, [], 1, 0, 0), (0, 1, 0, [], 1, 0, 0), (4, 1, 0, [], 1, 0, 0), (4, 6, 0, [], 1, 0, 0), (3, 4, 0, [], 2, 0, 0), (2, 0, 2, [], 1, 0, 0), (19, 3, 5, [], 3, 0, 109), (2, 1, 0, [], 1, 0, 0), (2, 3, 0, [], 1, 0, 0), (14, 28, 0, [], 3, 0, 0), (2, 0, 2, [], 1, 0, 0), (19, 3, 5, [], 3, 0, 109), (2, 1, 0, [], 1, 0, 0), (21, 0, 0, [], 1, 0, 0), (2, 4, 0, [], 2, 0, 0), (4, 4, 0, [], 1, 0, 0), (16, 39, 0, [], 3, 0, 0)] 0 k L st v w := rfl
theorem go_X3_putLeftOut_28 {cs : Nat → Nat × me_P} {KR : me_K} {kx : (Nat → Nat → me_L → List me_S → me_V → me_U → Prop) → Nat → Nat → me_L → Nat → me_V → me_U → Prop} {km : Nat} {sx : me_Sc} {hd : List Nat} {Inv : Nat → Nat → me_L → List me_S → me_V → me_U → Prop} {n k : Nat} {L : me_L} {st : List me_S} {v : me_V} {w : me_U} (hn : (n == 0) = false) (h : hd.contains 28 = false) : me_go cs KR kx km sx cd_X3_putLeftOut hd Inv n 28 k L st v w = me_vb cs (me_go cs KR kx km sx cd_X3_putLeftOut hd Inv (n - 1)) KR (kx (me_go cs KR kx km sx cd_X3_putLeftOut hd Inv (n - 1))) km sx [(2, 0, 2, [], 1, 0, 0), (19, 3, 5, [], 3, 0, 109), (2, 1, 0, [], 1, 0, 0), (21, 0, 0, [], 1, 0, 0), (2, 4, 0, [], 2, 0, 0), (0, 1, 1, [], 1, 0, 0), (4, 5, 0, [], 1, 0, 0), (4, 3, 0, [], 1, 0, 0)] 28 k L st v w := by
  rcases n with _ | n
  · cases hn
  · rw [mo_gb h]
    rfl
theorem lo_X3_putLeftOut_28 {cs : Nat → Nat × me_P} {J : Nat → Nat → me_L → List me_S → me_V → me_U → Prop} {KR : me_K} {KX : Nat → Nat → me_L → Nat → me_V → me_U → Prop} {km : Nat} {sx : me_Sc} {k : Nat} {L : me_L} {st : List me_S} {v : me_V} {w : me_U} : me_vb cs J KR KX km sx (me_bk cd_X3_putLeftOut 28) 28 k L st v w = me_vb cs J KR KX km sx [(2, 0, 2, [], 1, 0, 0), (19, 3, 5, [], 3, 0, 109), (2, 1, 0, [], 1, 0, 0), (21, 0, 0, [], 1, 0, 0), (2, 4, 0, [], 2, 0, 0), (0, 1, 1, [], 1, 0, 0), (4, 5, 0, [], 1, 0, 0), (4, 3, 0, [], 1, 0, 0)] 28 k L st v w := rfl
theorem go_X3_putLeftOut_39 {cs : Nat → Nat × me_P} {KR : me_K} {kx : (Nat → Nat → me_L → List me_S → me_V → me_U → Prop) → Nat → Nat → me_L → Nat → me_V → me_U → Prop} {km : Nat} {sx : me_Sc} {hd : List Nat} {Inv : Nat → Nat → me_L → List me_S → me_V → me_U → Prop} {n k : Nat} {L : me_L} {st : List me_S} {v : me_V} {w : me_U} (hn : (n == 0) = false) (h : hd.contains 39 = false) : me_go cs KR kx km sx cd_X3_putLeftOut hd Inv n 39 k L st v w = me_vb cs (me_go cs KR kx km sx cd_X3_putLeftOut hd Inv (n - 1)) KR (kx (me_go cs KR kx km sx cd_X3_putLeftOut hd Inv (n - 1))) km sx [(22, 0, 0, [], 1, 0, 0), (31, 0, 0, [], 1, 0, 0)] 39 k L st v w := by
  rcases n with _ | n
  · cases hn
  · rw [mo_gb h]
    rfl
theorem lo_X3_putLeftOut_39 {cs : Nat → Nat × me_P} {J : Nat → Nat → me_L → List me_S → me_V → me_U → Prop} {KR : me_K} {KX : Nat → Nat → me_L → Nat → me_V → me_U → Prop} {km : Nat} {sx : me_Sc} {k : Nat} {L : me_L} {st : List me_S} {v : me_V} {w : me_U} : me_vb cs J KR KX km sx (me_bk cd_X3_putLeftOut 39) 39 k L st v w = me_vb cs J KR KX km sx [(22, 0, 0, [], 1, 0, 0), (31, 0, 0, [], 1, 0, 0)] 39 k L st v w := rfl
def cs_X3_putLeftOut : Nat → Nat × me_P := fun a => match a with
  | _ => (0, fun _ _ _ _ _ => False)
set_option maxHeartbeats 1000000 in
set_option maxRecDepth 100000 in
theorem vc_X3_putLeftOut : mv_ok cs_X3_putLeftOut cd_X3_putLeftOut [] 0 5 sp_putLeftOut := by
  refine mv_flat 20 ?_

  intro as v w K X h
  obtain ⟨b, j, r, x, rfl, hb, hj, hr, hK⟩ := h
  obtain ⟨hoc, f0, f1, f2, f3, f4, f5, f6, f7, f8, f9, a1, a2, a3, a4, a5, a6, a7, a8⟩ := hb

  refine ⟨Nat.le_of_ble_eq_true rfl, fun Inv => ?_⟩
  simp only [↓mo_vb, ↓mo_ve, ↓mo_gi, ↓mo_0, ↓mo_1, ↓mo_2, ↓mo_3i, ↓mo_3l, ↓mo_3r, ↓mo_3q, ↓mo_4_0, ↓mo_4_1, ↓mo_4_2, ↓mo_4_3, ↓mo_4_4, ↓mo_4_5, ↓mo_4_6, ↓mo_4_7, ↓mo_4_8, ↓mo_4_9, ↓mo_4_10, ↓mo_5_0, ↓mo_5_1, ↓mo_5_2, ↓mo_5_3, ↓mo_5_4, ↓mo_5_8, ↓mo_5_9, ↓mo_6_0, ↓mo_6_1, ↓mo_7, ↓mo_8, ↓mo_9, ↓mo_10i, ↓mo_10r, ↓mo_10q, ↓mo_11ir, ↓mo_12i, ↓mo_13, ↓mo_13m, ↓mo_14_0, ↓mo_15_0, ↓mo_14_1, ↓mo_15_1, ↓mo_14_2, ↓mo_15_2, ↓mo_14_3, ↓mo_15_3, ↓mo_14_4, ↓mo_15_4, ↓mo_14_5, ↓mo_15_5, ↓mo_16, ↓mo_17, ↓mo_18, ↓mo_19, ↓mo_20i, ↓mo_20z, ↓mo_20l, ↓mo_21, ↓mo_22, ↓mo_23, ↓mo_24, ↓mo_25, ↓mo_27, ↓mo_26, ↓mo_28, ↓mo_31, ↓mo_32, ↓mo_33, ↓mo_34, ↓mo_35, ↓mo_36, ↓mo_37, ↓mo_39, ↓mo_40, ↓mo_30_0, ↓mo_41_0, ↓mo_29_0, ↓mo_30_1, ↓mo_41_1, ↓mo_29_1, ↓mo_30_2, ↓mo_41_2, ↓mo_29_2, ↓mo_30_3, ↓mo_41_3, ↓mo_29_3, ↓mo_30_4, ↓mo_41_4, ↓mo_29_4, ↓mo_30_5, ↓mo_41_5, ↓mo_29_5, ↓me_tb, ↓me_lu, me_t2i, me_t2l, me_t2r, me_t2q, me_t13i, me_t19a, me_t19b, me_t19c, me_t19d, me_tae, me_t28e, me_t36e, ↓me_kn_d, ↓me_ky_d, me_ca_e, me_sv_d, me_in_n, me_in_c, decide_true, decide_false, me_rm_n, me_rm_c, me_lk_c, me_kdI, me_kdL, me_kdR, me_kdQ, me_ag_n, me_agI, me_agL, me_agR, me_agQ, me_w9n, me_w9I, me_w9L, me_w9R, me_w9Q, me_psN, me_psS, mn_0, mn_1, mn_00, mn_10, mn_01, mn_11, or_true, true_or, mn_c0, mn_c1, mn_l0, mn_l1, eq_self, List.contains_nil, List.contains_cons, List.elem_nil, List.elem_cons, List.contains_eq_mem, List.not_mem_nil, List.mem_cons, decide_false, decide_true, or_false, false_or, Bool.or_false, Bool.false_or, List.length_cons, List.length_nil, Nat.reduceAdd, Nat.reduceSub, Nat.reduceMul, Nat.reduceBEq, Nat.reduceEqDiff, Nat.reduceLT, Nat.reduceLeDiff, reduceCtorEq, if_true, if_false, ite_true, ite_false, true_and, and_true, Bool.and_true, Bool.true_and, Bool.and_false, Bool.false_and, Bool.not_true, Bool.not_false, Bool.or_true, Bool.true_or, cond_true, cond_false, not_false_eq_true, not_true_eq_false, true_implies, false_implies, implies_true, Nat.le_refl, Nat.add_zero, Nat.zero_add, Nat.zero_le, ↓mo_gi, cs_X3_putLeftOut, ↓go_X3_putLeftOut_0, ↓lo_X3_putLeftOut_0, ↓go_X3_putLeftOut_28, ↓lo_X3_putLeftOut_28, ↓go_X3_putLeftOut_39, ↓lo_X3_putLeftOut_39, hoc, f0, f1, f2, f3, f4, f5, f6, f7, f8, f9, a1, a2, a3, a4, a5, a6, a7, a8, nI_pred, nI_clamp (show j < 2 ^ 31 by omega)]
  unfold me_wbI at hK
  refine ⟨fun h => ⟨vp_in_nI (by omega) (by omega), vp_in_nI (by omega) (by omega), ?_⟩, fun h => ⟨vp_in_nI (by omega) (by omega), vp_in_nI (by omega) (by omega), ?_⟩⟩
  · rw [if_pos h] at hK; exact hK
  · rw [if_neg h] at hK; exact hK
theorem ct_X3_putLeftOut {l : Launch} (hfl : l.stackTraces = false) : me_M l yX3_putLeftOut (.code yX3_putLeftOut cX3_putLeftOut 5 none) 1 60 0 sp_putLeftOut := me_meth (us := 0) (bl := cd_X3_putLeftOut) (cs := cs_X3_putLeftOut) (hd := []) hfl (by decide +kernel) rfl (by decide) ⟨by decide, by decide⟩ (by decide) ck_X3_putLeftOut (fun a ha => absurd ha List.not_mem_nil) (by decide) mv_sx vc_X3_putLeftOut
def sp_putSkipped : me_P := fun as v w K _ => ∃ (b p j : Nat) (x : Int32), as = [vR b, vI (nI p), vI (nI j), vI x] ∧ st_ok b ∧ p < 3 ∧ j < 24 ∧ K none (me_up v (b + 8) p (me_wbI (v (b + 8) p) j x)) w
theorem go_X3_putSkipped_0 {cs : Nat → Nat × me_P} {KR : me_K} {kx : (Nat → Nat → me_L → List me_S → me_V → me_U → Prop) → Nat → Nat → me_L → Nat → me_V → me_U → Prop} {km : Nat} {sx : me_Sc} {hd : List Nat} {Inv : Nat → Nat → me_L → List me_S → me_V → me_U → Prop} {n k : Nat} {L : me_L} {st : List me_S} {v : me_V} {w : me_U} (hn : (n == 0) = false) (h : hd.contains 0 = false) : me_go cs KR kx km sx cd_X3_putSkipped hd Inv n 0 k L st v w = me_vb cs (me_go cs KR kx km sx cd_X3_putSkipped hd Inv (n - 1)) KR (kx (me_go cs KR kx km sx cd_X3_putSkipped hd Inv (n - 1))) km sx [(0, 1, 0, [], 1, 0, 0), (2, 2, 0, [], 1, 0, 0), (4, 6, 0, [], 1, 0, 0), (3, 4, 0, [], 2, 0, 0), (2, 0, 2, [], 1, 0, 0), (19, 3, 9, [], 3, 0, 120), (2, 1, 0, [], 1, 0, 0), (2, 3, 0, [], 1, 0, 0), (14, 26, 0, [], 3, 0, 0), (2, 0, 2, [], 1, 0, 0), (19, 3, 9, [], 3, 0, 120), (2, 1, 0, [], 1, 0, 0), (21, 0, 0, [], 1, 0, 0), (2, 4, 0, [], 2, 0, 0), (4, 4, 0, [], 1, 0, 0), (16, 37, 0, [], 3, 0, 0)] 0 k L st v w := by
  rcases n with _ | n
  · cases hn
  · rw [mo_gb h]
    rfl
theorem lo_X3_putSkipped_0 {cs : Nat → Nat × me_P} {J : Nat → Nat → me_L → List me_S → me_V → me_U → Prop} {KR : me_K} {KX : Nat → Nat → me_L → Nat → me_V → me_U → Prop} {km : Nat} {sx : me_Sc} {k : Nat} {L : me_L} {st : List me_S} {v : me_V} {w : me_U} : me_vb cs J KR KX km sx (me_bk cd_X3_putSkipped 0) 0 k L st v w = me_vb cs J KR KX km sx [(0, 1, 0, [], 1, 0, 0), (2, 2, 0, [], 1, 0, 0), (4, 6, 0, [], 1, 0, 0), (3, 4, 0, [], 2, 0, 0), (2, 0, 2, [], 1, 0, 0), (19, 3, 9, [], 3, 0, 120), (2, 1, 0, [], 1, 0, 0), (2, 3, 0, [], 1, 0, 0), (14, 26, 0, [], 3, 0, 0), (2, 0, 2, [], 1, 0, 0), (19, 3, 9, [], 3, 0, 120), (2, 1, 0, [], 1, 0, 0), (21, 0, 0, [], 1, 0, 0), (2, 4, 0, [], 2, 0, 0), (4, 4, 0, [], 1, 0, 0), (16, 37, 0, [], 3, 0, 0)] 0 k L st v w := rfl
theorem go_X3_putSkipped_26 {cs : Nat → Nat × me_P} {KR : me_K} {kx : (Nat → Nat → me_L → List me_S → me_V → me_U → Prop) → Nat → Nat → me_L → Nat → me_V → me_U → Prop} {km : Nat} {sx : me_Sc} {hd : List Nat} {Inv : Nat → Nat → me_L → List me_S → me_V → me_U → Prop} {n k : Nat} {L : me_L} {st : List me_S} {v : me_V} {w : me_U} (hn : (n == 0) = false) (h : hd.contains 26 = false) : me_go cs KR kx km sx cd_X3_putSkipped hd Inv n 26 k L st v w = me_vb cs (me_go cs KR kx km sx cd_X3_putSkipped hd Inv (n - 1)) KR (kx (me_go cs KR kx km sx cd_X3_putSkipped hd Inv (n - 1))) km sx [(2, 0, 2, [], 1, 0, 0), (19, 3, 9, [], 3, 0, 120), (2, 1, 0, [], 1, 0, 0), (21, 0, 0, [], 1, 0, 0), (2, 4, 0, [], 2, 0, 0), (0, 1, 1, [], 1, 0, 0), (4, 5, 0, [], 1, 0, 0), (4, 3, 0, [], 1, 0, 0)] 26 k L st v w := by
  rcases n with _ | n
  · cases hn
  · rw [mo_gb h]
    rfl
theorem lo_X3_putSkipped_26 {cs : Nat → Nat × me_P} {J : Nat → Nat → me_L → List me_S → me_V → me_U → Prop} {KR : me_K} {KX : Nat → Nat → me_L → Nat → me_V → me_U → Prop} {km : Nat} {sx : me_Sc} {k : Nat} {L : me_L} {st : List me_S} {v : me_V} {w : me_U} : me_vb cs J KR KX km sx (me_bk cd_X3_putSkipped 26) 26 k L st v w = me_vb cs J KR KX km sx [(2, 0, 2, [], 1, 0, 0), (19, 3, 9, [], 3, 0, 120), (2, 1, 0, [], 1, 0, 0), (21, 0, 0, [], 1, 0, 0), (2, 4, 0, [], 2, 0, 0), (0, 1, 1, [], 1, 0, 0), (4, 5, 0, [], 1, 0, 0), (4, 3, 0, [], 1, 0, 0)] 26 k L st v w := rfl
theorem go_X3_putSkipped_37 {cs : Nat → Nat × me_P} {KR : me_K} {kx : (Nat → Nat → me_L → List me_S → me_V → me_U → Prop) → Nat → Nat → me_L → Nat → me_V → me_U → Prop} {km : Nat} {sx : me_Sc} {hd : List Nat} {Inv : Nat → Nat → me_L → List me_S → me_V → me_U → Prop} {n k : Nat} {L : me_L} {st : List me_S} {v : me_V} {w : me_U} (hn : (n == 0) = false) (h : hd.contains 37 = false) : me_go cs KR kx km sx cd_X3_putSkipped hd Inv n 37 k L st v w = me_vb cs (me_go cs KR kx km sx cd_X3_putSkipped hd Inv (n - 1)) KR (kx (me_go cs KR kx km sx cd_X3_putSkipped hd Inv (n - 1))) km sx [(22, 0, 0, [], 1, 0, 0), (31, 0, 0, [], 1, 0, 0)] 37 k L st v w := by
  rcases n with _ | n
  · cases hn
  · rw [mo_gb h]
    rfl
theorem lo_X3_putSkipped_37 {cs : Nat → Nat × me_P} {J : Nat → Nat → me_L → List me_S → me_V → me_U → Prop} {KR : me_K} {KX : Nat → Nat → me_L → Nat → me_V → me_U → Prop} {km : Nat} {sx : me_Sc} {k : Nat} {L : me_L} {st : List me_S} {v : me_V} {w : me_U} : me_vb cs J KR KX km sx (me_bk cd_X3_putSkipped 37) 37 k L st v w = me_vb cs J KR KX km sx [(22, 0, 0, [], 1, 0, 0), (31, 0, 0, [], 1, 0, 0)] 37 k L st v w := rfl
def cs_X3_putSkipped : Nat → Nat × me_P := fun a => match a with
  | _ => (0, fun _ _ _ _ _ => False)
set_option maxHeartbeats 1000000 in
set_option maxRecDepth 100000 in
theorem vc_X3_putSkipped : mv_ok cs_X3_putSkipped cd_X3_putSkipped [] 0 5 sp_putSkipped := by
  refine mv_flat 20 ?_

  intro as v w K X h
  obtain ⟨b, p, j, x, rfl, hb, hp, hj, hK⟩ := h
  obtain ⟨hoc, f0, f1, f2, f3, f4, f5, f6, f7, f8, f9, a1, a2, a3, a4, a5, a6, a7, a8⟩ := hb

  refine ⟨Nat.le_of_ble_eq_true rfl, fun Inv => ?_⟩
  simp only [↓mo_vb, ↓mo_ve, ↓mo_gi, ↓mo_0, ↓mo_1, ↓mo_2, ↓mo_3i, ↓mo_3l, ↓mo_3r, ↓mo_3q, ↓mo_4_0, ↓mo_4_1, ↓mo_4_2, ↓mo_4_3, ↓mo_4_4, ↓mo_4_5, ↓mo_4_6, ↓mo_4_7, ↓mo_4_8, ↓mo_4_9, ↓mo_4_10, ↓mo_5_0, ↓mo_5_1, ↓mo_5_2, ↓mo_5_3, ↓mo_5_4, ↓mo_5_8, ↓mo_5_9, ↓mo_6_0, ↓mo_6_1, ↓mo_7, ↓mo_8, ↓mo_9, ↓mo_10i, ↓mo_10r, ↓mo_10q, ↓mo_11ir, ↓mo_12i, ↓mo_13, ↓mo_13m, ↓mo_14_0, ↓mo_15_0, ↓mo_14_1, ↓mo_15_1, ↓mo_14_2, ↓mo_15_2, ↓mo_14_3, ↓mo_15_3, ↓mo_14_4, ↓mo_15_4, ↓mo_14_5, ↓mo_15_5, ↓mo_16, ↓mo_17, ↓mo_18, ↓mo_19, ↓mo_20i, ↓mo_20z, ↓mo_20l, ↓mo_21, ↓mo_22, ↓mo_23, ↓mo_24, ↓mo_25, ↓mo_27, ↓mo_26, ↓mo_28, ↓mo_31, ↓mo_32, ↓mo_33, ↓mo_34, ↓mo_35, ↓mo_36, ↓mo_37, ↓mo_39, ↓mo_40, ↓mo_30_0, ↓mo_41_0, ↓mo_29_0, ↓mo_30_1, ↓mo_41_1, ↓mo_29_1, ↓mo_30_2, ↓mo_41_2, ↓mo_29_2, ↓mo_30_3, ↓mo_41_3, ↓mo_29_3, ↓mo_30_4, ↓mo_41_4, ↓mo_29_4, ↓mo_30_5, ↓mo_41_5, ↓mo_29_5, ↓me_tb, ↓me_lu, me_t2i, me_t2l, me_t2r, me_t2q, me_t13i, me_t19a, me_t19b, me_t19c, me_t19d, me_tae, me_t28e, me_t36e, ↓me_kn_d, ↓me_ky_d, me_ca_e, me_sv_d, me_in_n, me_in_c, decide_true, decide_false, me_rm_n, me_rm_c, me_lk_c, me_kdI, me_kdL, me_kdR, me_kdQ, me_ag_n, me_agI, me_agL, me_agR, me_agQ, me_w9n, me_w9I, me_w9L, me_w9R, me_w9Q, me_psN, me_psS, mn_0, mn_1, mn_00, mn_10, mn_01, mn_11, or_true, true_or, mn_c0, mn_c1, mn_l0, mn_l1, eq_self, List.contains_nil, List.contains_cons, List.elem_nil, List.elem_cons, List.contains_eq_mem, List.not_mem_nil, List.mem_cons, decide_false, decide_true, or_false, false_or, Bool.or_false, Bool.false_or, List.length_cons, List.length_nil, Nat.reduceAdd, Nat.reduceSub, Nat.reduceMul, Nat.reduceBEq, Nat.reduceEqDiff, Nat.reduceLT, Nat.reduceLeDiff, reduceCtorEq, if_true, if_false, ite_true, ite_false, true_and, and_true, Bool.and_true, Bool.true_and, Bool.and_false, Bool.false_and, Bool.not_true, Bool.not_false, Bool.or_true, Bool.true_or, cond_true, cond_false, not_false_eq_true, not_true_eq_false, true_implies, false_implies, implies_true, Nat.le_refl, Nat.add_zero, Nat.zero_add, Nat.zero_le, ↓mo_gi, cs_X3_putSkipped, ↓go_X3_putSkipped_0, ↓lo_X3_putSkipped_0, ↓go_X3_putSkipped_26, ↓lo_X3_putSkipped_26, ↓go_X3_putSkipped_37, ↓lo_X3_putSkipped_37, hoc, f0, f1, f2, f3, f4, f5, f6, f7, f8, f9, a1, a2, a3, a4, a5, a6, a7, a8, nI_clamp (show p < 2 ^ 31 by omega)]
  unfold me_wbI at hK
  refine ⟨fun h => ⟨vp_in_nI (by omega) (by omega), vp_in_nI (by omega) (by omega), ?_⟩, fun h => ⟨vp_in_nI (by omega) (by omega), vp_in_nI (by omega) (by omega), ?_⟩⟩
  · rw [if_pos h] at hK; exact hK
  · rw [if_neg h] at hK; exact hK
theorem ct_X3_putSkipped {l : Launch} (hfl : l.stackTraces = false) : me_M l yX3_putSkipped (.code yX3_putSkipped cX3_putSkipped 5 none) 1 60 0 sp_putSkipped := me_meth (us := 0) (bl := cd_X3_putSkipped) (cs := cs_X3_putSkipped) (hd := []) hfl (by decide +kernel) rfl (by decide) ⟨by decide, by decide⟩ (by decide) ck_X3_putSkipped (fun a ha => absurd ha List.not_mem_nil) (by decide) mv_sx vc_X3_putSkipped
def sp_putBar : me_P := fun as v w K _ => ∃ (b nb : Nat) (j : Nat), as = [vR b, vI (nI nb)] ∧ st_ok b ∧ v b 0 = nI j ∧ j < 24 ∧ K none (sc_pb v b j nb 9) w
theorem go_X3_putBar_0 {cs : Nat → Nat × me_P} {KR : me_K} {kx : (Nat → Nat → me_L → List me_S → me_V → me_U → Prop) → Nat → Nat → me_L → Nat → me_V → me_U → Prop} {km : Nat} {sx : me_Sc} {hd : List Nat} {Inv : Nat → Nat → me_L → List me_S → me_V → me_U → Prop} {n k : Nat} {L : me_L} {st : List me_S} {v : me_V} {w : me_U} (hn : (n == 0) = false) (h : hd.contains 0 = false) : me_go cs KR kx km sx cd_X3_putBar hd Inv n 0 k L st v w = me_vb cs (me_go cs KR kx km sx cd_X3_putBar hd Inv (n - 1)) KR (kx (me_go cs KR kx km sx cd_X3_putBar hd Inv (n - 1))) km sx [(2, 0, 2, [], 1, 0, 0), (19, 3, 0, [], 3, 0, 91), (0, 24, 0, [], 2, 0, 0), (15, 10, 2, [], 3, 0, 0), (31, 0, 0, [], 1, 0, 0)] 0 k L st v w := by
  rcases n with _ | n
  · cases hn
  · rw [mo_gb h]
    rfl
theorem lo_X3_putBar_0 {cs : Nat → Nat × me_P} {J : Nat → Nat → me_L → List me_S → me_V → me_U → Prop} {KR : me_K} {KX : Nat → Nat → me_L → Nat → me_V → me_U → Prop} {km : Nat} {sx : me_Sc} {k : Nat} {L : me_L} {st : List me_S} {v : me_V} {w : me_U} : me_vb cs J KR KX km sx (me_bk cd_X3_putBar 0) 0 k L st v w = me_vb cs J KR KX km sx [(2, 0, 2, [], 1, 0, 0), (19, 3, 0, [], 3, 0, 91), (0, 24, 0, [], 2, 0, 0), (15, 10, 2, [], 3, 0, 0), (31, 0, 0, [], 1, 0, 0)] 0 k L st v w := rfl
theorem go_X3_putBar_10 {cs : Nat → Nat × me_P} {KR : me_K} {kx : (Nat → Nat → me_L → List me_S → me_V → me_U → Prop) → Nat → Nat → me_L → Nat → me_V → me_U → Prop} {km : Nat} {sx : me_Sc} {hd : List Nat} {Inv : Nat → Nat → me_L → List me_S → me_V → me_U → Prop} {n k : Nat} {L : me_L} {st : List me_S} {v : me_V} {w : me_U} (hn : (n == 0) = false) (h : hd.contains 10 = false) : me_go cs KR kx km sx cd_X3_putBar hd Inv n 10 k L st v w = me_vb cs (me_go cs KR kx km sx cd_X3_putBar hd Inv (n - 1)) KR (kx (me_go cs KR kx km sx cd_X3_putBar hd Inv (n - 1))) km sx [(2, 0, 2, [], 1, 0, 0), (19, 3, 0, [], 3, 0, 91), (3, 2, 0, [], 1, 0, 0), (2, 0, 2, [], 1, 0, 0), (10, 0, 0, [], 1, 0, 0), (19, 3, 0, [], 3, 0, 91), (0, 1, 0, [], 1, 0, 0), (4, 0, 0, [], 1, 0, 0), (20, 3, 0, [], 3, 0, 91), (2, 0, 2, [], 1, 0, 0), (19, 3, 2, [], 3, 0, 100), (2, 2, 0, [], 1, 0, 0), (2, 1, 0, [], 1, 0, 0), (22, 0, 0, [], 1, 0, 0), (2, 0, 2, [], 1, 0, 0), (19, 3, 3, [], 3, 0, 104), (2, 2, 0, [], 1, 0, 0), (0, 0, 0, [], 1, 0, 0), (22, 0, 0, [], 1, 0, 0), (2, 0, 2, [], 1, 0, 0), (19, 3, 5, [], 3, 0, 109), (2, 2, 0, [], 1, 0, 0), (0, 0, 0, [], 1, 0, 0), (22, 0, 0, [], 1, 0, 0), (0, 1, 0, [], 1, 0, 0), (3, 3, 0, [], 1, 0, 0)] 10 k L st v w := by
  rcases n with _ | n
  · cases hn
  · rw [mo_gb h]
    rfl
theorem lo_X3_putBar_10 {cs : Nat → Nat × me_P} {J : Nat → Nat → me_L → List me_S → me_V → me_U → Prop} {KR : me_K} {KX : Nat → Nat → me_L → Nat → me_V → me_U → Prop} {km : Nat} {sx : me_Sc} {k : Nat} {L : me_L} {st : List me_S} {v : me_V} {w : me_U} : me_vb cs J KR KX km sx (me_bk cd_X3_putBar 10) 10 k L st v w = me_vb cs J KR KX km sx [(2, 0, 2, [], 1, 0, 0), (19, 3, 0, [], 3, 0, 91), (3, 2, 0, [], 1, 0, 0), (2, 0, 2, [], 1, 0, 0), (10, 0, 0, [], 1, 0, 0), (19, 3, 0, [], 3, 0, 91), (0, 1, 0, [], 1, 0, 0), (4, 0, 0, [], 1, 0, 0), (20, 3, 0, [], 3, 0, 91), (2, 0, 2, [], 1, 0, 0), (19, 3, 2, [], 3, 0, 100), (2, 2, 0, [], 1, 0, 0), (2, 1, 0, [], 1, 0, 0), (22, 0, 0, [], 1, 0, 0), (2, 0, 2, [], 1, 0, 0), (19, 3, 3, [], 3, 0, 104), (2, 2, 0, [], 1, 0, 0), (0, 0, 0, [], 1, 0, 0), (22, 0, 0, [], 1, 0, 0), (2, 0, 2, [], 1, 0, 0), (19, 3, 5, [], 3, 0, 109), (2, 2, 0, [], 1, 0, 0), (0, 0, 0, [], 1, 0, 0), (22, 0, 0, [], 1, 0, 0), (0, 1, 0, [], 1, 0, 0), (3, 3, 0, [], 1, 0, 0)] 10 k L st v w := rfl
theorem go_X3_putBar_48 {cs : Nat → Nat × me_P} {KR : me_K} {kx : (Nat → Nat → me_L → List me_S → me_V → me_U → Prop) → Nat → Nat → me_L → Nat → me_V → me_U → Prop} {km : Nat} {sx : me_Sc} {hd : List Nat} {Inv : Nat → Nat → me_L → List me_S → me_V → me_U → Prop} {n k : Nat} {L : me_L} {st : List me_S} {v : me_V} {w : me_U} (hn : (n == 0) = false) (h : hd.contains 48 = false) : me_go cs KR kx km sx cd_X3_putBar hd Inv n 48 k L st v w = me_vb cs (me_go cs KR kx km sx cd_X3_putBar hd Inv (n - 1)) KR (kx (me_go cs KR kx km sx cd_X3_putBar hd Inv (n - 1))) km sx [(2, 3, 0, [], 1, 0, 0), (0, 9, 0, [], 2, 0, 0), (15, 67, 4, [], 3, 0, 0), (2, 0, 2, [], 1, 0, 0), (2, 2, 0, [], 1, 0, 0), (2, 3, 0, [], 1, 0, 0), (0, 1, 0, [], 1, 0, 0), (29, 50, 3, [3, 346, 347], 3, 0, 345), (13, 3, 1, [], 3, 0, 0), (16, 48, 0, [], 3, 0, 0)] 48 k L st v w := by
  rcases n with _ | n
  · cases hn
  · rw [mo_gb h]
    rfl
theorem lo_X3_putBar_48 {cs : Nat → Nat × me_P} {J : Nat → Nat → me_L → List me_S → me_V → me_U → Prop} {KR : me_K} {KX : Nat → Nat → me_L → Nat → me_V → me_U → Prop} {km : Nat} {sx : me_Sc} {k : Nat} {L : me_L} {st : List me_S} {v : me_V} {w : me_U} : me_vb cs J KR KX km sx (me_bk cd_X3_putBar 48) 48 k L st v w = me_vb cs J KR KX km sx [(2, 3, 0, [], 1, 0, 0), (0, 9, 0, [], 2, 0, 0), (15, 67, 4, [], 3, 0, 0), (2, 0, 2, [], 1, 0, 0), (2, 2, 0, [], 1, 0, 0), (2, 3, 0, [], 1, 0, 0), (0, 1, 0, [], 1, 0, 0), (29, 50, 3, [3, 346, 347], 3, 0, 345), (13, 3, 1, [], 3, 0, 0), (16, 48, 0, [], 3, 0, 0)] 48 k L st v w := rfl
theorem go_X3_putBar_67 {cs : Nat → Nat × me_P} {KR : me_K} {kx : (Nat → Nat → me_L → List me_S → me_V → me_U → Prop) → Nat → Nat → me_L → Nat → me_V → me_U → Prop} {km : Nat} {sx : me_Sc} {hd : List Nat} {Inv : Nat → Nat → me_L → List me_S → me_V → me_U → Prop} {n k : Nat} {L : me_L} {st : List me_S} {v : me_V} {w : me_U} (hn : (n == 0) = false) (h : hd.contains 67 = false) : me_go cs KR kx km sx cd_X3_putBar hd Inv n 67 k L st v w = me_vb cs (me_go cs KR kx km sx cd_X3_putBar hd Inv (n - 1)) KR (kx (me_go cs KR kx km sx cd_X3_putBar hd Inv (n - 1))) km sx [(31, 0, 0, [], 1, 0, 0)] 67 k L st v w := by
  rcases n with _ | n
  · cases hn
  · rw [mo_gb h]
    rfl
theorem lo_X3_putBar_67 {cs : Nat → Nat × me_P} {J : Nat → Nat → me_L → List me_S → me_V → me_U → Prop} {KR : me_K} {KX : Nat → Nat → me_L → Nat → me_V → me_U → Prop} {km : Nat} {sx : me_Sc} {k : Nat} {L : me_L} {st : List me_S} {v : me_V} {w : me_U} : me_vb cs J KR KX km sx (me_bk cd_X3_putBar 67) 67 k L st v w = me_vb cs J KR KX km sx [(31, 0, 0, [], 1, 0, 0)] 67 k L st v w := rfl
def cs_X3_putBar : Nat → Nat × me_P := fun a => match a with
  | 50 => (0, sp_putStretch)
  | _ => (0, fun _ _ _ _ _ => False)
set_option maxHeartbeats 1000000 in
set_option maxRecDepth 100000 in
theorem vc_X3_putBar : mv_ok cs_X3_putBar cd_X3_putBar [48] 0 4 sp_putBar := by
  intro as v w K X h
  obtain ⟨b, nb, j, rfl, hb, h0, hj, hK⟩ := h
  obtain ⟨hoc, f0, f1, f2, f3, f4, f5, f6, f7, f8, f9, a1, a2, a3, a4, a5, a6, a7, a8⟩ := hb

  have hb2 : st_ok b := ⟨hoc, f0, f1, f2, f3, f4, f5, f6, f7, f8, f9, a1, a2, a3, a4, a5, a6, a7, a8⟩
  refine ⟨Nat.le_of_ble_eq_true rfl, 20, fun μ pc k L st v2 w2 => pc = 48 ∧ k = 0 ∧ st = [] ∧ w2 = w ∧ ∃ n : Nat, L = [(0, vR b), (1, vI (nI nb)), (2, vI (nI j)), (3, vI (nI (n + 1)))] ∧ n ≤ 9 ∧ v2 = sc_pb v b j nb n ∧ μ = 9 - n, ?_, ?_⟩
  · simp only [↓mo_vb, ↓mo_ve, ↓mo_gi, ↓mo_0, ↓mo_1, ↓mo_2, ↓mo_3i, ↓mo_3l, ↓mo_3r, ↓mo_3q, ↓mo_4_0, ↓mo_4_1, ↓mo_4_2, ↓mo_4_3, ↓mo_4_4, ↓mo_4_5, ↓mo_4_6, ↓mo_4_7, ↓mo_4_8, ↓mo_4_9, ↓mo_4_10, ↓mo_5_0, ↓mo_5_1, ↓mo_5_2, ↓mo_5_3, ↓mo_5_4, ↓mo_5_8, ↓mo_5_9, ↓mo_6_0, ↓mo_6_1, ↓mo_7, ↓mo_8, ↓mo_9, ↓mo_10i, ↓mo_10r, ↓mo_10q, ↓mo_11ir, ↓mo_12i, ↓mo_13, ↓mo_13m, ↓mo_14_0, ↓mo_15_0, ↓mo_14_1, ↓mo_15_1, ↓mo_14_2, ↓mo_15_2, ↓mo_14_3, ↓mo_15_3, ↓mo_14_4, ↓mo_15_4, ↓mo_14_5, ↓mo_15_5, ↓mo_16, ↓mo_17, ↓mo_18, ↓mo_19, ↓mo_20i, ↓mo_20z, ↓mo_20l, ↓mo_21, ↓mo_22, ↓mo_23, ↓mo_24, ↓mo_25, ↓mo_27, ↓mo_26, ↓mo_28, ↓mo_31, ↓mo_32, ↓mo_33, ↓mo_34, ↓mo_35, ↓mo_36, ↓mo_37, ↓mo_39, ↓mo_40, ↓mo_30_0, ↓mo_41_0, ↓mo_29_0, ↓mo_30_1, ↓mo_41_1, ↓mo_29_1, ↓mo_30_2, ↓mo_41_2, ↓mo_29_2, ↓mo_30_3, ↓mo_41_3, ↓mo_29_3, ↓mo_30_4, ↓mo_41_4, ↓mo_29_4, ↓mo_30_5, ↓mo_41_5, ↓mo_29_5, ↓me_tb, ↓me_lu, me_t2i, me_t2l, me_t2r, me_t2q, me_t13i, me_t19a, me_t19b, me_t19c, me_t19d, me_tae, me_t28e, me_t36e, ↓me_kn_d, ↓me_ky_d, me_ca_e, me_sv_d, me_in_n, me_in_c, decide_true, decide_false, me_rm_n, me_rm_c, me_lk_c, me_kdI, me_kdL, me_kdR, me_kdQ, me_ag_n, me_agI, me_agL, me_agR, me_agQ, me_w9n, me_w9I, me_w9L, me_w9R, me_w9Q, me_psN, me_psS, mn_0, mn_1, mn_00, mn_10, mn_01, mn_11, or_true, true_or, mn_c0, mn_c1, mn_l0, mn_l1, eq_self, List.contains_nil, List.contains_cons, List.elem_nil, List.elem_cons, List.contains_eq_mem, List.not_mem_nil, List.mem_cons, decide_false, decide_true, or_false, false_or, Bool.or_false, Bool.false_or, List.length_cons, List.length_nil, Nat.reduceAdd, Nat.reduceSub, Nat.reduceMul, Nat.reduceBEq, Nat.reduceEqDiff, Nat.reduceLT, Nat.reduceLeDiff, reduceCtorEq, if_true, if_false, ite_true, ite_false, true_and, and_true, Bool.and_true, Bool.true_and, Bool.and_false, Bool.false_and, Bool.not_true, Bool.not_false, Bool.or_true, Bool.true_or, cond_true, cond_false, not_false_eq_true, not_true_eq_false, true_implies, false_implies, implies_true, Nat.le_refl, Nat.add_zero, Nat.zero_add, Nat.zero_le, ↓mo_gi, cs_X3_putBar, ↓go_X3_putBar_0, ↓lo_X3_putBar_0, ↓go_X3_putBar_10, ↓lo_X3_putBar_10, ↓go_X3_putBar_48, ↓lo_X3_putBar_48, ↓go_X3_putBar_67, ↓lo_X3_putBar_67, hoc, f0, f1, f2, f3, f4, f5, f6, f7, f8, f9, a1, a2, a3, a4, a5, a6, a7, a8, h0, nI_lts (show j < 2 ^ 31 by omega) (show 24 < 2 ^ 31 by omega), nI_clamp (show j < 2 ^ 31 by omega), nI_1]
    refine ⟨fun _ => ⟨vp_in_nI (by omega) (by omega), vp_in_nI (by omega) (by omega), vp_in_nI (by omega) (by omega), 9, 0, rfl, by omega, sc_pb_0 v b j nb, rfl⟩, fun h => absurd hj h⟩
  · rintro μ pc k L st v2 w2 hpc ⟨rfl, rfl, rfl, rfl, n, rfl, hn, rfl, rfl⟩
    simp only [↓mo_vb, ↓mo_ve, ↓mo_gi, ↓mo_0, ↓mo_1, ↓mo_2, ↓mo_3i, ↓mo_3l, ↓mo_3r, ↓mo_3q, ↓mo_4_0, ↓mo_4_1, ↓mo_4_2, ↓mo_4_3, ↓mo_4_4, ↓mo_4_5, ↓mo_4_6, ↓mo_4_7, ↓mo_4_8, ↓mo_4_9, ↓mo_4_10, ↓mo_5_0, ↓mo_5_1, ↓mo_5_2, ↓mo_5_3, ↓mo_5_4, ↓mo_5_8, ↓mo_5_9, ↓mo_6_0, ↓mo_6_1, ↓mo_7, ↓mo_8, ↓mo_9, ↓mo_10i, ↓mo_10r, ↓mo_10q, ↓mo_11ir, ↓mo_12i, ↓mo_13, ↓mo_13m, ↓mo_14_0, ↓mo_15_0, ↓mo_14_1, ↓mo_15_1, ↓mo_14_2, ↓mo_15_2, ↓mo_14_3, ↓mo_15_3, ↓mo_14_4, ↓mo_15_4, ↓mo_14_5, ↓mo_15_5, ↓mo_16, ↓mo_17, ↓mo_18, ↓mo_19, ↓mo_20i, ↓mo_20z, ↓mo_20l, ↓mo_21, ↓mo_22, ↓mo_23, ↓mo_24, ↓mo_25, ↓mo_27, ↓mo_26, ↓mo_28, ↓mo_31, ↓mo_32, ↓mo_33, ↓mo_34, ↓mo_35, ↓mo_36, ↓mo_37, ↓mo_39, ↓mo_40, ↓mo_30_0, ↓mo_41_0, ↓mo_29_0, ↓mo_30_1, ↓mo_41_1, ↓mo_29_1, ↓mo_30_2, ↓mo_41_2, ↓mo_29_2, ↓mo_30_3, ↓mo_41_3, ↓mo_29_3, ↓mo_30_4, ↓mo_41_4, ↓mo_29_4, ↓mo_30_5, ↓mo_41_5, ↓mo_29_5, ↓me_tb, ↓me_lu, me_t2i, me_t2l, me_t2r, me_t2q, me_t13i, me_t19a, me_t19b, me_t19c, me_t19d, me_tae, me_t28e, me_t36e, ↓me_kn_d, ↓me_ky_d, me_ca_e, me_sv_d, me_in_n, me_in_c, decide_true, decide_false, me_rm_n, me_rm_c, me_lk_c, me_kdI, me_kdL, me_kdR, me_kdQ, me_ag_n, me_agI, me_agL, me_agR, me_agQ, me_w9n, me_w9I, me_w9L, me_w9R, me_w9Q, me_psN, me_psS, mn_0, mn_1, mn_00, mn_10, mn_01, mn_11, or_true, true_or, mn_c0, mn_c1, mn_l0, mn_l1, eq_self, List.contains_nil, List.contains_cons, List.elem_nil, List.elem_cons, List.contains_eq_mem, List.not_mem_nil, List.mem_cons, decide_false, decide_true, or_false, false_or, Bool.or_false, Bool.false_or, List.length_cons, List.length_nil, Nat.reduceAdd, Nat.reduceSub, Nat.reduceMul, Nat.reduceBEq, Nat.reduceEqDiff, Nat.reduceLT, Nat.reduceLeDiff, reduceCtorEq, if_true, if_false, ite_true, ite_false, true_and, and_true, Bool.and_true, Bool.true_and, Bool.and_false, Bool.false_and, Bool.not_true, Bool.not_false, Bool.or_true, Bool.true_or, cond_true, cond_false, not_false_eq_true, not_true_eq_false, true_implies, false_implies, implies_true, Nat.le_refl, Nat.add_zero, Nat.zero_add, Nat.zero_le, ↓mo_gi, cs_X3_putBar, ↓go_X3_putBar_0, ↓lo_X3_putBar_0, ↓go_X3_putBar_10, ↓lo_X3_putBar_10, ↓go_X3_putBar_48, ↓lo_X3_putBar_48, ↓go_X3_putBar_67, ↓lo_X3_putBar_67, hoc, f0, f1, f2, f3, f4, f5, f6, f7, f8, f9, a1, a2, a3, a4, a5, a6, a7, a8, nI_lts (show 9 < 2 ^ 31 by omega) (show n + 1 < 2 ^ 31 by omega)]
    refine ⟨fun h => ?_, fun h => ?_⟩
    · rw [show n = 9 by omega]
      exact hK
    · refine ⟨b, j, n, 1, rfl, hb2, hj, by omega, ?_⟩
      simp only [↓mo_vb, ↓mo_ve, ↓mo_gi, ↓mo_0, ↓mo_1, ↓mo_2, ↓mo_3i, ↓mo_3l, ↓mo_3r, ↓mo_3q, ↓mo_4_0, ↓mo_4_1, ↓mo_4_2, ↓mo_4_3, ↓mo_4_4, ↓mo_4_5, ↓mo_4_6, ↓mo_4_7, ↓mo_4_8, ↓mo_4_9, ↓mo_4_10, ↓mo_5_0, ↓mo_5_1, ↓mo_5_2, ↓mo_5_3, ↓mo_5_4, ↓mo_5_8, ↓mo_5_9, ↓mo_6_0, ↓mo_6_1, ↓mo_7, ↓mo_8, ↓mo_9, ↓mo_10i, ↓mo_10r, ↓mo_10q, ↓mo_11ir, ↓mo_12i, ↓mo_13, ↓mo_13m, ↓mo_14_0, ↓mo_15_0, ↓mo_14_1, ↓mo_15_1, ↓mo_14_2, ↓mo_15_2, ↓mo_14_3, ↓mo_15_3, ↓mo_14_4, ↓mo_15_4, ↓mo_14_5, ↓mo_15_5, ↓mo_16, ↓mo_17, ↓mo_18, ↓mo_19, ↓mo_20i, ↓mo_20z, ↓mo_20l, ↓mo_21, ↓mo_22, ↓mo_23, ↓mo_24, ↓mo_25, ↓mo_27, ↓mo_26, ↓mo_28, ↓mo_31, ↓mo_32, ↓mo_33, ↓mo_34, ↓mo_35, ↓mo_36, ↓mo_37, ↓mo_39, ↓mo_40, ↓mo_30_0, ↓mo_41_0, ↓mo_29_0, ↓mo_30_1, ↓mo_41_1, ↓mo_29_1, ↓mo_30_2, ↓mo_41_2, ↓mo_29_2, ↓mo_30_3, ↓mo_41_3, ↓mo_29_3, ↓mo_30_4, ↓mo_41_4, ↓mo_29_4, ↓mo_30_5, ↓mo_41_5, ↓mo_29_5, ↓me_tb, ↓me_lu, me_t2i, me_t2l, me_t2r, me_t2q, me_t13i, me_t19a, me_t19b, me_t19c, me_t19d, me_tae, me_t28e, me_t36e, ↓me_kn_d, ↓me_ky_d, me_ca_e, me_sv_d, me_in_n, me_in_c, decide_true, decide_false, me_rm_n, me_rm_c, me_lk_c, me_kdI, me_kdL, me_kdR, me_kdQ, me_ag_n, me_agI, me_agL, me_agR, me_agQ, me_w9n, me_w9I, me_w9L, me_w9R, me_w9Q, me_psN, me_psS, mn_0, mn_1, mn_00, mn_10, mn_01, mn_11, or_true, true_or, mn_c0, mn_c1, mn_l0, mn_l1, eq_self, List.contains_nil, List.contains_cons, List.elem_nil, List.elem_cons, List.contains_eq_mem, List.not_mem_nil, List.mem_cons, decide_false, decide_true, or_false, false_or, Bool.or_false, Bool.false_or, List.length_cons, List.length_nil, Nat.reduceAdd, Nat.reduceSub, Nat.reduceMul, Nat.reduceBEq, Nat.reduceEqDiff, Nat.reduceLT, Nat.reduceLeDiff, reduceCtorEq, if_true, if_false, ite_true, ite_false, true_and, and_true, Bool.and_true, Bool.true_and, Bool.and_false, Bool.false_and, Bool.not_true, Bool.not_false, Bool.or_true, Bool.true_or, cond_true, cond_false, not_false_eq_true, not_true_eq_false, true_implies, false_implies, implies_true, Nat.le_refl, Nat.add_zero, Nat.zero_add, Nat.zero_le, ↓mo_gi, cs_X3_putBar, ↓go_X3_putBar_0, ↓lo_X3_putBar_0, ↓go_X3_putBar_10, ↓lo_X3_putBar_10, ↓go_X3_putBar_48, ↓lo_X3_putBar_48, ↓go_X3_putBar_67, ↓lo_X3_putBar_67, hoc, f0, f1, f2, f3, f4, f5, f6, f7, f8, f9, a1, a2, a3, a4, a5, a6, a7, a8]
      exact ⟨9 - (n + 1), by omega, n + 1, by rw [nI_1], by omega, sc_pb_s v b j nb n, rfl⟩
theorem ct_X3_putBar {l : Launch} (hfl : l.stackTraces = false) : me_M l yX3_putBar (.code yX3_putBar cX3_putBar 4 none) 2 83 0 sp_putBar := me_meth (us := 0) (bl := cd_X3_putBar) (cs := cs_X3_putBar) (hd := [48]) hfl (by decide +kernel) rfl (by decide) ⟨by decide, by decide⟩ (by decide) ck_X3_putBar (by
    intro a ha
    simp only [List.mem_cons, List.not_mem_nil, or_false] at ha
    rcases ha with rfl
    · exact cl_X3_putStretch (ct_X3_putStretch hfl) (by decide) (by decide)) (by decide) mv_sx vc_X3_putBar
