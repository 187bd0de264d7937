/-! ===== a State's sections written, copies ===== -/
def sc_is567 (b c : Nat) : Prop := c = b + 5 ∨ c = b + 6 ∨ c = b + 7
def sc_mv (v : me_V) (b i j : Nat) : me_V := me_up (me_up (me_up v (b + 5) j (v (b + 5) i)) (b + 6) j (v (b + 6) i)) (b + 7) j (v (b + 7) i)
theorem sc_mv_in (v : me_V) (b i j c : Nat) (h : c = b + 5 ∨ c = b + 6 ∨ c = b + 7) : sc_mv v b i j c = upd (v c) j (v c i) := by
  unfold sc_mv
  rcases h with rfl | rfl | rfl
  · rw [me_up_n _ _ _ (by omega), me_up_n _ _ _ (by omega), me_up_s]
  · rw [me_up_n _ _ _ (by omega), me_up_s, me_up_n _ _ _ (by omega)]
  · rw [me_up_s, me_up_n _ _ _ (by omega), me_up_n _ _ _ (by omega)]
theorem sc_mv_out (v : me_V) (b i j c : Nat) (h : ¬ (c = b + 5 ∨ c = b + 6 ∨ c = b + 7)) : sc_mv v b i j c = v c := by
  unfold sc_mv
  rw [me_up_n _ _ _ (by omega), me_up_n _ _ _ (by omega), me_up_n _ _ _ (by omega)]
/-- sections s on, moved down by one, m of them done up to the place m -/
def sc_dl (v : me_V) (b s m : Nat) : me_V := fun c => if c = b + 5 ∨ c = b + 6 ∨ c = b + 7 then (fun i => if s ≤ i ∧ i < m then v c (i + 1) else v c i) else v c
theorem sc_dl_0 (v : me_V) (b s : Nat) : sc_dl v b s s = v := by
  funext c
  unfold sc_dl
  split
  · funext i; rw [if_neg (by omega)]
  · rfl
theorem sc_dl_s (v : me_V) (b s m : Nat) (h : s ≤ m) : sc_mv (sc_dl v b s m) b (m + 1) m = sc_dl v b s (m + 1) := by
  funext c
  by_cases hc : c = b + 5 ∨ c = b + 6 ∨ c = b + 7
  · rw [sc_mv_in _ _ _ _ _ hc]
    funext i
    unfold sc_dl upd
    rw [if_pos hc, if_pos hc]
    by_cases hi : i = m
    · rw [if_pos hi, if_neg (by omega), if_pos (by omega), hi]
    · rw [if_neg hi]
      by_cases h2 : s ≤ i ∧ i < m
      · rw [if_pos h2, if_pos (by omega)]
      · rw [if_neg h2, if_neg (by omega)]
  · rw [sc_mv_out _ _ _ _ _ hc]
    unfold sc_dl
    rw [if_neg hc, if_neg hc]
def sc_del (S : sc_T) (s : Nat) : sc_T := fun a k => if a = 0 ∧ k = 1 then S 0 1 - 1 else if (a = 5 ∨ a = 6 ∨ a = 7) ∧ s ≤ k then S a (k + 1) else S a k
/-- sections from s on moved up by one: those behind s done -/
def sc_iu (v : me_V) (b s n : Nat) : me_V := fun c => if c = b + 5 ∨ c = b + 6 ∨ c = b + 7 then (fun i => if s < i ∧ i ≤ n then v c (i - 1) else v c i) else v c
theorem sc_iu_0 (v : me_V) (b n : Nat) : sc_iu v b n n = v := by
  funext c
  unfold sc_iu
  split
  · funext i; rw [if_neg (by omega)]
  · rfl
theorem sc_iu_s (v : me_V) (b s n : Nat) (h : s < n) : sc_mv (sc_iu v b (s + 1) n) b s (s + 1) = sc_iu v b s n := by
  funext c
  by_cases hc : c = b + 5 ∨ c = b + 6 ∨ c = b + 7
  · rw [sc_mv_in _ _ _ _ _ hc]
    funext i
    unfold sc_iu upd
    rw [if_pos hc, if_pos hc]
    by_cases hi : i = s + 1
    · rw [if_pos hi, if_neg (by omega), if_pos (by omega), hi]
      rfl
    · rw [if_neg hi]
      by_cases h2 : s + 1 < i ∧ i ≤ n
      · rw [if_pos h2, if_pos (by omega)]
      · rw [if_neg h2, if_neg (by omega)]
  · rw [sc_mv_out _ _ _ _ _ hc]
    unfold sc_iu
    rw [if_neg hc, if_neg hc]
def sc_pos (S : sc_T) (f : Nat) : Nat → Nat
  | 0 => 0
  | n + 1 => if f < S 5 n then sc_pos S f n else n + 1
theorem sc_pos_le (S : sc_T) (f : Nat) : ∀ n, sc_pos S f n ≤ n
  | 0 => Nat.le_refl _
  | n + 1 => by
    have ih := sc_pos_le S f n
    unfold sc_pos
    split <;> omega
def sc_ins (S : sc_T) (s f l t : Nat) : sc_T := fun a k => if a = 0 ∧ k = 1 then S 0 1 + 1 else if a = 5 ∧ k = s then f else if a = 6 ∧ k = s then l else if a = 7 ∧ k = s then t else if (a = 5 ∨ a = 6 ∨ a = 7) ∧ s < k then S a (k - 1) else S a k
/-- the memory behind putSection, at the place s -/
def sc_iv (v : me_V) (b s n f l t : Nat) : me_V := me_up (me_up (me_up (me_up (sc_iu v b s n) (b + 5) s (nI f)) (b + 6) s (nI l)) (b + 7) s (nI t)) b 1 (nI (n + 1))
theorem sc_at_del {v : me_V} {b s : Nat} {S : sc_T} (h : sc_at v b S) (hs : s < S 0 1) : sc_at (me_up (sc_dl v b s (S 0 1 - 1)) b 1 (nI (S 0 1 - 1))) b (sc_del S s) := by
  obtain ⟨h1, h2, h3, h4, h5⟩ := h
  have e : ∀ c i, 1 ≤ c → me_up (sc_dl v b s (S 0 1 - 1)) b 1 (nI (S 0 1 - 1)) (b + c) i = if (c = 5 ∨ c = 6 ∨ c = 7) ∧ s ≤ i ∧ i < S 0 1 - 1 then v (b + c) (i + 1) else v (b + c) i := by
    intro c i hc
    rw [me_up_n _ _ _ (by omega)]
    unfold sc_dl
    by_cases h9 : c = 5 ∨ c = 6 ∨ c = 7
    · rw [if_pos (by omega)]
      by_cases h8 : s ≤ i ∧ i < S 0 1 - 1
      · rw [if_pos h8, if_pos ⟨h9, h8⟩]
      · rw [if_neg h8, if_neg (fun z => h8 z.2)]
    · rw [if_neg (by omega), if_neg (fun z => h9 z.1)]
  have s0 : sc_del S s 0 0 = S 0 0 := by simp [sc_del]
  have s1 : sc_del S s 0 1 = S 0 1 - 1 := by simp [sc_del]
  refine ⟨?_, ?_, fun j hj => ?_, fun q hq => ?_, fun p hp => ?_⟩
  · rw [me_up_s]; unfold upd; rw [if_neg (by omega), s0, ← h1]; unfold sc_dl; rw [if_neg (by omega)]
  · rw [me_up_s]; unfold upd; rw [if_pos rfl, s1]
  · rw [s0] at hj
    obtain ⟨g1, g2, g3, g4⟩ := h3 j hj
    refine ⟨by rw [e 1 j (by omega), if_neg (by omega)]; simp [sc_del, g1], by rw [e 2 j (by omega), if_neg (by omega)]; simp [sc_del, g2], by rw [e 4 j (by omega), if_neg (by omega)]; simp [sc_del, g3], fun k hk => by rw [e 3 _ (by omega), if_neg (by omega)]; simp [sc_del, g4 k hk]⟩
  · rw [s1] at hq
    by_cases h9 : s ≤ q
    · obtain ⟨g1, g2, g3⟩ := h4 (q + 1) (by omega)
      exact ⟨by rw [e 5 q (by omega), if_pos (by omega)]; simp [sc_del, g1, h9], by rw [e 6 q (by omega), if_pos (by omega)]; simp [sc_del, g2, h9], by rw [e 7 q (by omega), if_pos (by omega)]; simp [sc_del, g3, h9]⟩
    · obtain ⟨g1, g2, g3⟩ := h4 q (by omega)
      exact ⟨by rw [e 5 q (by omega), if_neg (by omega)]; simp [sc_del, g1, h9], by rw [e 6 q (by omega), if_neg (by omega)]; simp [sc_del, g2, h9], by rw [e 7 q (by omega), if_neg (by omega)]; simp [sc_del, g3, h9]⟩
  · rw [e 8 p (by omega), if_neg (by omega)]; simp [sc_del, h5 p hp]
theorem sc_at_ins {v : me_V} {b s f l t : Nat} {S : sc_T} (h : sc_at v b S) (hs : s ≤ S 0 1) : sc_at (sc_iv v b s (S 0 1) f l t) b (sc_ins S s f l t) := by
  obtain ⟨h1, h2, h3, h4, h5⟩ := h
  have e : ∀ c i, 1 ≤ c → sc_iv v b s (S 0 1) f l t (b + c) i = if c = 5 ∧ i = s then nI f else if c = 6 ∧ i = s then nI l else if c = 7 ∧ i = s then nI t else if (c = 5 ∨ c = 6 ∨ c = 7) ∧ s < i ∧ i ≤ S 0 1 then v (b + c) (i - 1) else v (b + c) i := by
    intro c i hc
    unfold sc_iv
    rw [me_up_n _ _ _ (by omega)]
    have e2 : sc_iu v b s (S 0 1) (b + c) i = if (c = 5 ∨ c = 6 ∨ c = 7) ∧ s < i ∧ i ≤ S 0 1 then v (b + c) (i - 1) else v (b + c) i := by
      unfold sc_iu
      by_cases h9 : c = 5 ∨ c = 6 ∨ c = 7
      · rw [if_pos (by omega)]
        by_cases h8 : s < i ∧ i ≤ S 0 1
        · rw [if_pos h8, if_pos ⟨h9, h8⟩]
        · rw [if_neg h8, if_neg (fun z => h8 z.2)]
      · rw [if_neg (by omega), if_neg (fun z => h9 z.1)]
    rcases (show c = 5 ∨ c = 6 ∨ c = 7 ∨ (c ≠ 5 ∧ c ≠ 6 ∧ c ≠ 7) by omega) with rfl | rfl | rfl | ⟨n5, n6, n7⟩
    · rw [me_up_n _ _ _ (by omega), me_up_n _ _ _ (by omega), me_up_s]
      unfold upd
      by_cases hi : i = s
      · simp [hi]
      · rw [if_neg hi, e2]; simp [hi]
    · rw [me_up_n _ _ _ (by omega), me_up_s]
      unfold upd
      by_cases hi : i = s
      · simp [hi]
      · rw [if_neg hi, me_up_n _ _ _ (by omega), e2]; simp [hi]
    · rw [me_up_s]
      unfold upd
      by_cases hi : i = s
      · simp [hi]
      · rw [if_neg hi, me_up_n _ _ _ (by omega), me_up_n _ _ _ (by omega), e2]; simp [hi]
    · rw [me_up_n _ _ _ (by omega), me_up_n _ _ _ (by omega), me_up_n _ _ _ (by omega), e2]
      simp [n5, n6, n7]
  have s0 : sc_ins S s f l t 0 0 = S 0 0 := by simp [sc_ins]
  have s1 : sc_ins S s f l t 0 1 = S 0 1 + 1 := by simp [sc_ins]
  refine ⟨?_, ?_, fun j hj => ?_, fun q hq => ?_, fun p hp => ?_⟩
  · unfold sc_iv
    rw [me_up_s]; unfold upd; rw [if_neg (by omega), s0, ← h1, me_up_n _ _ _ (by omega), me_up_n _ _ _ (by omega), me_up_n _ _ _ (by omega)]; unfold sc_iu; rw [if_neg (by omega)]
  · unfold sc_iv
    rw [me_up_s]; unfold upd; rw [if_pos rfl, s1]
  · rw [s0] at hj
    obtain ⟨g1, g2, g3, g4⟩ := h3 j hj
    refine ⟨by rw [e 1 j (by omega)]; simp [sc_ins, g1], by rw [e 2 j (by omega)]; simp [sc_ins, g2], by rw [e 4 j (by omega)]; simp [sc_ins, g3], fun k hk => by rw [e 3 _ (by omega)]; simp [sc_ins, g4 k hk]⟩
  · rw [s1] at hq
    rcases (show q < s ∨ q = s ∨ s < q by omega) with hl | rfl | hg
    · obtain ⟨g1, g2, g3⟩ := h4 q (by omega)
      have n1 : q ≠ s := by omega
      have n2 : ¬ s < q := by omega
      exact ⟨by rw [e 5 q (by omega)]; simp [sc_ins, n1, n2, g1], by rw [e 6 q (by omega)]; simp [sc_ins, n1, n2, g2], by rw [e 7 q (by omega)]; simp [sc_ins, n1, n2, g3]⟩
    · exact ⟨by rw [e 5 q (by omega)]; simp [sc_ins], by rw [e 6 q (by omega)]; simp [sc_ins], by rw [e 7 q (by omega)]; simp [sc_ins]⟩
    · obtain ⟨g1, g2, g3⟩ := h4 (q - 1) (by omega)
      have n1 : q ≠ s := by omega
      have n2 : q ≤ S 0 1 := by omega
      exact ⟨by rw [e 5 q (by omega)]; simp [sc_ins, n1, n2, hg, g1], by rw [e 6 q (by omega)]; simp [sc_ins, n1, n2, hg, g2], by rw [e 7 q (by omega)]; simp [sc_ins, n1, n2, hg, g3]⟩
  · rw [e 8 p (by omega)]; simp [sc_ins, h5 p hp]
theorem nI_0lt {a : Nat} (ha : a < 2 ^ 31) : (0 < nI a) = (0 < a) := by rw [← mn_0]; exact nI_lts (by omega) ha
theorem nI_le0 {a : Nat} (ha : a < 2 ^ 31) : (nI a ≤ 0) = (a = 0) := by rw [← mn_0, nI_les ha (by omega)]; simp
def sp_moveSection : me_P := fun as v w K _ => ∃ (b i j : Nat), as = [vR b, vI (nI i), vI (nI j)] ∧ st_ok b ∧ i < 4 ∧ j < 4 ∧ K none (sc_mv v b i j) w
theorem go_X3_moveSection_0 {cs : Nat → Nat × me_P} {KR : me_K} {kx : (Nat → Nat → me_L → List me_S → me_V → me_U → Prop) → Nat → Nat → me_L → Nat → me_V → me_U → Prop} {km : Nat} {sx : me_Sc} {hd : List Nat} {Inv : Nat → Nat → me_L → List me_S → me_V → me_U → Prop} {n k : Nat} {L : me_L} {st : List me_S} {v : me_V} {w : me_U} (hn : (n == 0) = false) (h : hd.contains 0 = false) : me_go cs KR kx km sx cd_X3_moveSection hd Inv n 0 k L st v w = me_vb cs (me_go cs KR kx km sx cd_X3_moveSection hd Inv (n - 1)) KR (kx (me_go cs KR kx km sx cd_X3_moveSection hd Inv (n - 1))) km sx [(2, 0, 2, [], 1, 0, 0), (19, 3, 6, [], 3, 0, 111), (2, 2, 0, [], 1, 0, 0), (2, 0, 2, [], 1, 0, 0), (19, 3, 6, [], 3, 0, 111), (2, 1, 0, [], 1, 0, 0), (21, 0, 0, [], 1, 0, 0), (22, 0, 0, [], 1, 0, 0), (2, 0, 2, [], 1, 0, 0), (19, 3, 7, [], 3, 0, 114), (2, 2, 0, [], 1, 0, 0), (2, 0, 2, [], 1, 0, 0), (19, 3, 7, [], 3, 0, 114), (2, 1, 0, [], 1, 0, 0), (21, 0, 0, [], 1, 0, 0), (22, 0, 0, [], 1, 0, 0), (2, 0, 2, [], 1, 0, 0), (19, 3, 8, [], 3, 0, 117), (2, 2, 0, [], 1, 0, 0), (2, 0, 2, [], 1, 0, 0), (19, 3, 8, [], 3, 0, 117), (2, 1, 0, [], 1, 0, 0), (21, 0, 0, [], 1, 0, 0), (22, 0, 0, [], 1, 0, 0), (31, 0, 0, [], 1, 0, 0)] 0 k L st v w := by
  rcases n with _ | n
  · cases hn
  · rw [mo_gb h]
    rfl
theorem lo_X3_moveSection_0 {cs : Nat → Nat × me_P} {J : Nat → Nat → me_L → List me_S → me_V → me_U → Prop} {KR : me_K} {KX : Nat → Nat → me_L → Nat → me_V → me_U → Prop} {km : Nat} {sx : me_Sc} {k : Nat} {L : me_L} {st : List me_S} {v : me_V} {w : me_U} : me_vb cs J KR KX km sx (me_bk cd_X3_moveSection 0) 0 k L st v w = me_vb cs J KR KX km sx [(2, 0, 2, [], 1, 0, 0), (19, 3, 6, [], 3, 0, 111), (2, 2, 0, [], 1, 0, 0), (2, 0, 2, [], 1, 0, 0), (19, 3, 6, [], 3, 0, 111), (2, 1, 0, [], 1, 0, 0), (21, 0, 0, [], 1, 0, 0), (22, 0, 0, [], 1, 0, 0), (2, 0, 2, [], 1, 0, 0), (19, 3, 7, [], 3, 0, 114), (2, 2, 0, [], 1, 0, 0), (2, 0, 2, [], 1, 0, 0), (19, 3, 7, [], 3, 0, 114), (2, 1, 0, [], 1, 0, 0), (21, 0, 0, [], 1, 0, 0), (22, 0, 0, [], 1, 0, 0), (2, 0, 2, [], 1, 0, 0), (19, 3, 8, [], 3, 0, 117), (2, 2, 0, [], 1, 0, 0), (2, 0, 2, [], 1, 0, 0), (19, 3, 8, [], 3, 0, 117), (2, 1, 0, [], 1, 0, 0), (21, 0, 0, [], 1, 0, 0), (22, 0, 0, [], 1, 0, 0), (31, 0, 0, [], 1, 0, 0)] 0 k L st v w := rfl
def cs_X3_moveSection : Nat → Nat × me_P := fun a => match a with
  | _ => (0, fun _ _ _ _ _ => False)
set_option maxHeartbeats 1000000 in
set_option maxRecDepth 100000 in
theorem vc_X3_moveSection : mv_ok cs_X3_moveSection cd_X3_moveSection [] 0 3 sp_moveSection := by
  refine mv_flat 20 ?_

  intro as v w K X h
  obtain ⟨b, i, j, rfl, hb, hi, hj, hK⟩ := h
  obtain ⟨hoc, f0, f1, f2, f3, f4, f5, f6, f7, f8, f9, a1, a2, a3, a4, a5, a6, a7, a8⟩ := hb

  refine ⟨Nat.le_of_ble_eq_true rfl, fun Inv => ?_⟩
  simp only [↓mo_vb, ↓mo_ve, ↓mo_gi, ↓mo_0, ↓mo_1, ↓mo_2, ↓mo_3i, ↓mo_3l, ↓mo_3r, ↓mo_3q, ↓mo_4_0, ↓mo_4_1, ↓mo_4_2, ↓mo_4_3, ↓mo_4_4, ↓mo_4_5, ↓mo_4_6, ↓mo_4_7, ↓mo_4_8, ↓mo_4_9, ↓mo_4_10, ↓mo_5_0, ↓mo_5_1, ↓mo_5_2, ↓mo_5_3, ↓mo_5_4, ↓mo_5_8, ↓mo_5_9, ↓mo_6_0, ↓mo_6_1, ↓mo_7, ↓mo_8, ↓mo_9, ↓mo_10i, ↓mo_10r, ↓mo_10q, ↓mo_11ir, ↓mo_12i, ↓mo_13, ↓mo_13m, ↓mo_14_0, ↓mo_15_0, ↓mo_14_1, ↓mo_15_1, ↓mo_14_2, ↓mo_15_2, ↓mo_14_3, ↓mo_15_3, ↓mo_14_4, ↓mo_15_4, ↓mo_14_5, ↓mo_15_5, ↓mo_16, ↓mo_17, ↓mo_18, ↓mo_19, ↓mo_20i, ↓mo_20z, ↓mo_20l, ↓mo_21, ↓mo_22, ↓mo_23, ↓mo_24, ↓mo_25, ↓mo_27, ↓mo_26, ↓mo_28, ↓mo_31, ↓mo_32, ↓mo_33, ↓mo_34, ↓mo_35, ↓mo_36, ↓mo_37, ↓mo_39, ↓mo_40, ↓mo_30_0, ↓mo_41_0, ↓mo_29_0, ↓mo_30_1, ↓mo_41_1, ↓mo_29_1, ↓mo_30_2, ↓mo_41_2, ↓mo_29_2, ↓mo_30_3, ↓mo_41_3, ↓mo_29_3, ↓mo_30_4, ↓mo_41_4, ↓mo_29_4, ↓mo_30_5, ↓mo_41_5, ↓mo_29_5, ↓me_tb, ↓me_lu, me_t2i, me_t2l, me_t2r, me_t2q, me_t13i, me_t19a, me_t19b, me_t19c, me_t19d, me_tae, me_t28e, me_t36e, ↓me_kn_d, ↓me_ky_d, me_ca_e, me_sv_d, me_in_n, me_in_c, decide_true, decide_false, me_rm_n, me_rm_c, me_lk_c, me_kdI, me_kdL, me_kdR, me_kdQ, me_ag_n, me_agI, me_agL, me_agR, me_agQ, me_w9n, me_w9I, me_w9L, me_w9R, me_w9Q, me_psN, me_psS, mn_0, mn_1, mn_00, mn_10, mn_01, mn_11, or_true, true_or, mn_c0, mn_c1, mn_l0, mn_l1, eq_self, List.contains_nil, List.contains_cons, List.elem_nil, List.elem_cons, List.contains_eq_mem, List.not_mem_nil, List.mem_cons, decide_false, decide_true, or_false, false_or, Bool.or_false, Bool.false_or, List.length_cons, List.length_nil, Nat.reduceAdd, Nat.reduceSub, Nat.reduceMul, Nat.reduceBEq, Nat.reduceEqDiff, Nat.reduceLT, Nat.reduceLeDiff, reduceCtorEq, if_true, if_false, ite_true, ite_false, true_and, and_true, Bool.and_true, Bool.true_and, Bool.and_false, Bool.false_and, Bool.not_true, Bool.not_false, Bool.or_true, Bool.true_or, cond_true, cond_false, not_false_eq_true, not_true_eq_false, true_implies, false_implies, implies_true, Nat.le_refl, Nat.add_zero, Nat.zero_add, Nat.zero_le, ↓mo_gi, cs_X3_moveSection, ↓go_X3_moveSection_0, ↓lo_X3_moveSection_0, hoc, f0, f1, f2, f3, f4, f5, f6, f7, f8, f9, a1, a2, a3, a4, a5, a6, a7, a8, nI_clamp (show i < 2 ^ 31 by omega), nI_clamp (show j < 2 ^ 31 by omega)]
  have hi4 : vp_in (nI i) 4 := vp_in_nI hi (by omega)
  have hj4 : vp_in (nI j) 4 := vp_in_nI hj (by omega)
  refine ⟨hi4, hj4, hi4, hj4, hi4, hj4, ?_⟩
  rw [me_up_n v j (v (b + 5) i) (show b + 6 ≠ b + 5 by omega), me_up_n (me_up v (b + 5) j (v (b + 5) i)) j (v (b + 6) i) (show b + 7 ≠ b + 6 by omega), me_up_n v j (v (b + 5) i) (show b + 7 ≠ b + 5 by omega)]
  exact hK
theorem ct_X3_moveSection {l : Launch} (hfl : l.stackTraces = false) : me_M l yX3_moveSection (.code yX3_moveSection cX3_moveSection 3 none) 1 60 0 sp_moveSection := me_meth (us := 0) (bl := cd_X3_moveSection) (cs := cs_X3_moveSection) (hd := []) hfl (by decide +kernel) rfl (by decide) ⟨by decide, by decide⟩ (by decide) ck_X3_moveSection (fun a ha => absurd ha List.not_mem_nil) (by decide) mv_sx vc_X3_moveSection
def sp_dropSection : me_P := fun as v w K _ => ∃ (b s n : Nat), as = [vR b, vI (nI s)] ∧ st_ok b ∧ v b 1 = nI n ∧ s < n ∧ n ≤ 4 ∧ K none (me_up (sc_dl v b s (n - 1)) b 1 (nI (n - 1))) w
theorem go_X3_dropSection_0 {cs : Nat → Nat × me_P} {KR : me_K} {kx : (Nat → Nat → me_L → List me_S → me_V → me_U → Prop) → Nat → Nat → me_L → Nat → me_V → me_U → Prop} {km : Nat} {sx : me_Sc} {hd : List Nat} {Inv : Nat → Nat → me_L → List me_S → me_V → me_U → Prop} {n k : Nat} {L : me_L} {st : List me_S} {v : me_V} {w : me_U} (hn : (n == 0) = false) (h : hd.contains 0 = false) : me_go cs KR kx km sx cd_X3_dropSection hd Inv n 0 k L st v w = me_vb cs (me_go cs KR kx km sx cd_X3_dropSection hd Inv (n - 1)) KR (kx (me_go cs KR kx km sx cd_X3_dropSection hd Inv (n - 1))) km sx [(2, 1, 0, [], 1, 0, 0), (0, 1, 0, [], 1, 0, 0), (4, 0, 0, [], 1, 0, 0), (3, 2, 0, [], 1, 0, 0)] 0 k L st v w := by
  rcases n with _ | n
  · cases hn
  · rw [mo_gb h]
    rfl
theorem lo_X3_dropSection_0 {cs : Nat → Nat × me_P} {J : Nat → Nat → me_L → List me_S → me_V → me_U → Prop} {KR : me_K} {KX : Nat → Nat → me_L → Nat → me_V → me_U → Prop} {km : Nat} {sx : me_Sc} {k : Nat} {L : me_L} {st : List me_S} {v : me_V} {w : me_U} : me_vb cs J KR KX km sx (me_bk cd_X3_dropSection 0) 0 k L st v w = me_vb cs J KR KX km sx [(2, 1, 0, [], 1, 0, 0), (0, 1, 0, [], 1, 0, 0), (4, 0, 0, [], 1, 0, 0), (3, 2, 0, [], 1, 0, 0)] 0 k L st v w := rfl
theorem go_X3_dropSection_4 {cs : Nat → Nat × me_P} {KR : me_K} {kx : (Nat → Nat → me_L → List me_S → me_V → me_U → Prop) → Nat → Nat → me_L → Nat → me_V → me_U → Prop} {km : Nat} {sx : me_Sc} {hd : List Nat} {Inv : Nat → Nat → me_L → List me_S → me_V → me_U → Prop} {n k : Nat} {L : me_L} {st : List me_S} {v : me_V} {w : me_U} (hn : (n == 0) = false) (h : hd.contains 4 = false) : me_go cs KR kx km sx cd_X3_dropSection hd Inv n 4 k L st v w = me_vb cs (me_go cs KR kx km sx cd_X3_dropSection hd Inv (n - 1)) KR (kx (me_go cs KR kx km sx cd_X3_dropSection hd Inv (n - 1))) km sx [(2, 2, 0, [], 1, 0, 0), (2, 0, 2, [], 1, 0, 0), (19, 3, 1, [], 3, 0, 97), (15, 26, 3, [], 3, 0, 0), (2, 0, 2, [], 1, 0, 0), (2, 2, 0, [], 1, 0, 0), (2, 2, 0, [], 1, 0, 0), (0, 1, 0, [], 1, 0, 0), (4, 1, 0, [], 1, 0, 0), (29, 55, 2, [3, 380, 9], 3, 0, 378), (13, 2, 1, [], 3, 0, 0), (16, 4, 0, [], 3, 0, 0)] 4 k L st v w := by
  rcases n with _ | n
  · cases hn
  · rw [mo_gb h]
    rfl
theorem lo_X3_dropSection_4 {cs : Nat → Nat × me_P} {J : Nat → Nat → me_L → List me_S → me_V → me_U → Prop} {KR : me_K} {KX : Nat → Nat → me_L → Nat → me_V → me_U → Prop} {km : Nat} {sx : me_Sc} {k : Nat} {L : me_L} {st : List me_S} {v : me_V} {w : me_U} : me_vb cs J KR KX km sx (me_bk cd_X3_dropSection 4) 4 k L st v w = me_vb cs J KR KX km sx [(2, 2, 0, [], 1, 0, 0), (2, 0, 2, [], 1, 0, 0), (19, 3, 1, [], 3, 0, 97), (15, 26, 3, [], 3, 0, 0), (2, 0, 2, [], 1, 0, 0), (2, 2, 0, [], 1, 0, 0), (2, 2, 0, [], 1, 0, 0), (0, 1, 0, [], 1, 0, 0), (4, 1, 0, [], 1, 0, 0), (29, 55, 2, [3, 380, 9], 3, 0, 378), (13, 2, 1, [], 3, 0, 0), (16, 4, 0, [], 3, 0, 0)] 4 k L st v w := rfl
theorem go_X3_dropSection_26 {cs : Nat → Nat × me_P} {KR : me_K} {kx : (Nat → Nat → me_L → List me_S → me_V → me_U → Prop) → Nat → Nat → me_L → Nat → me_V → me_U → Prop} {km : Nat} {sx : me_Sc} {hd : List Nat} {Inv : Nat → Nat → me_L → List me_S → me_V → me_U → Prop} {n k : Nat} {L : me_L} {st : List me_S} {v : me_V} {w : me_U} (hn : (n == 0) = false) (h : hd.contains 26 = false) : me_go cs KR kx km sx cd_X3_dropSection hd Inv n 26 k L st v w = me_vb cs (me_go cs KR kx km sx cd_X3_dropSection hd Inv (n - 1)) KR (kx (me_go cs KR kx km sx cd_X3_dropSection hd Inv (n - 1))) km sx [(2, 0, 2, [], 1, 0, 0), (10, 0, 0, [], 1, 0, 0), (19, 3, 1, [], 3, 0, 97), (0, 1, 0, [], 1, 0, 0), (4, 1, 0, [], 1, 0, 0), (20, 3, 1, [], 3, 0, 97), (31, 0, 0, [], 1, 0, 0)] 26 k L st v w := by
  rcases n with _ | n
  · cases hn
  · rw [mo_gb h]
    rfl
theorem lo_X3_dropSection_26 {cs : Nat → Nat × me_P} {J : Nat → Nat → me_L → List me_S → me_V → me_U → Prop} {KR : me_K} {KX : Nat → Nat → me_L → Nat → me_V → me_U → Prop} {km : Nat} {sx : me_Sc} {k : Nat} {L : me_L} {st : List me_S} {v : me_V} {w : me_U} : me_vb cs J KR KX km sx (me_bk cd_X3_dropSection 26) 26 k L st v w = me_vb cs J KR KX km sx [(2, 0, 2, [], 1, 0, 0), (10, 0, 0, [], 1, 0, 0), (19, 3, 1, [], 3, 0, 97), (0, 1, 0, [], 1, 0, 0), (4, 1, 0, [], 1, 0, 0), (20, 3, 1, [], 3, 0, 97), (31, 0, 0, [], 1, 0, 0)] 26 k L st v w := rfl
def cs_X3_dropSection : Nat → Nat × me_P := fun a => match a with
  | 55 => (0, sp_moveSection)
  | _ => (0, fun _ _ _ _ _ => False)
set_option maxHeartbeats 1000000 in
set_option maxRecDepth 100000 in
theorem vc_X3_dropSection : mv_ok cs_X3_dropSection cd_X3_dropSection [4] 0 3 sp_dropSection := by
  intro as v w K X h
  obtain ⟨b, s, n, rfl, hb, h1, hs, hn4, hK⟩ := h
  obtain ⟨hoc, f0, f1, f2, f3, f4, f5, f6, f7, f8, f9, a1, a2, a3, a4, a5, a6, a7, a8⟩ := hb

  have hb2 : st_ok b := ⟨hoc, f0, f1, f2, f3, f4, f5, f6, f7, f8, f9, a1, a2, a3, a4, a5, a6, a7, a8⟩
  have ev : ∀ m, sc_dl v b s m b = v b := fun m => by unfold sc_dl; rw [if_neg (by omega)]
  refine ⟨Nat.le_of_ble_eq_true rfl, 20, fun μ pc k L st v2 w2 => pc = 4 ∧ k = 0 ∧ st = [] ∧ w2 = w ∧ ∃ m : Nat, L = [(0, vR b), (1, vI (nI s)), (2, vI (nI (m + 1)))] ∧ s ≤ m ∧ m < n ∧ v2 = sc_dl v b s m ∧ μ = n - m, ?_, ?_⟩
  · simp only [↓mo_vb, ↓mo_ve, ↓mo_gi, ↓mo_0, ↓mo_1, ↓mo_2, ↓mo_3i, ↓mo_3l, ↓mo_3r, ↓mo_3q, ↓mo_4_0, ↓mo_4_1, ↓mo_4_2, ↓mo_4_3, ↓mo_4_4, ↓mo_4_5, ↓mo_4_6, ↓mo_4_7, ↓mo_4_8, ↓mo_4_9, ↓mo_4_10, ↓mo_5_0, ↓mo_5_1, ↓mo_5_2, ↓mo_5_3, ↓mo_5_4, ↓mo_5_8, ↓mo_5_9, ↓mo_6_0, ↓mo_6_1, ↓mo_7, ↓mo_8, ↓mo_9, ↓mo_10i, ↓mo_10r, ↓mo_10q, ↓mo_11ir, ↓mo_12i, ↓mo_13, ↓mo_13m, ↓mo_14_0, ↓mo_15_0, ↓mo_14_1, ↓mo_15_1, ↓mo_14_2, ↓mo_15_2, ↓mo_14_3, ↓mo_15_3, ↓mo_14_4, ↓mo_15_4, ↓mo_14_5, ↓mo_15_5, ↓mo_16, ↓mo_17, ↓mo_18, ↓mo_19, ↓mo_20i, ↓mo_20z, ↓mo_20l, ↓mo_21, ↓mo_22, ↓mo_23, ↓mo_24, ↓mo_25, ↓mo_27, ↓mo_26, ↓mo_28, ↓mo_31, ↓mo_32, ↓mo_33, ↓mo_34, ↓mo_35, ↓mo_36, ↓mo_37, ↓mo_39, ↓mo_40, ↓mo_30_0, ↓mo_41_0, ↓mo_29_0, ↓mo_30_1, ↓mo_41_1, ↓mo_29_1, ↓mo_30_2, ↓mo_41_2, ↓mo_29_2, ↓mo_30_3, ↓mo_41_3, ↓mo_29_3, ↓mo_30_4, ↓mo_41_4, ↓mo_29_4, ↓mo_30_5, ↓mo_41_5, ↓mo_29_5, ↓me_tb, ↓me_lu, me_t2i, me_t2l, me_t2r, me_t2q, me_t13i, me_t19a, me_t19b, me_t19c, me_t19d, me_tae, me_t28e, me_t36e, ↓me_kn_d, ↓me_ky_d, me_ca_e, me_sv_d, me_in_n, me_in_c, decide_true, decide_false, me_rm_n, me_rm_c, me_lk_c, me_kdI, me_kdL, me_kdR, me_kdQ, me_ag_n, me_agI, me_agL, me_agR, me_agQ, me_w9n, me_w9I, me_w9L, me_w9R, me_w9Q, me_psN, me_psS, mn_0, mn_1, mn_00, mn_10, mn_01, mn_11, or_true, true_or, mn_c0, mn_c1, mn_l0, mn_l1, eq_self, List.contains_nil, List.contains_cons, List.elem_nil, List.elem_cons, List.contains_eq_mem, List.not_mem_nil, List.mem_cons, decide_false, decide_true, or_false, false_or, Bool.or_false, Bool.false_or, List.length_cons, List.length_nil, Nat.reduceAdd, Nat.reduceSub, Nat.reduceMul, Nat.reduceBEq, Nat.reduceEqDiff, Nat.reduceLT, Nat.reduceLeDiff, reduceCtorEq, if_true, if_false, ite_true, ite_false, true_and, and_true, Bool.and_true, Bool.true_and, Bool.and_false, Bool.false_and, Bool.not_true, Bool.not_false, Bool.or_true, Bool.true_or, cond_true, cond_false, not_false_eq_true, not_true_eq_false, true_implies, false_implies, implies_true, Nat.le_refl, Nat.add_zero, Nat.zero_add, Nat.zero_le, ↓mo_gi, cs_X3_dropSection, ↓go_X3_dropSection_0, ↓lo_X3_dropSection_0, ↓go_X3_dropSection_4, ↓lo_X3_dropSection_4, ↓go_X3_dropSection_26, ↓lo_X3_dropSection_26, hoc, f0, f1, f2, f3, f4, f5, f6, f7, f8, f9, a1, a2, a3, a4, a5, a6, a7, a8]
    exact ⟨n - s, s, by rw [nI_1], by omega, by omega, (sc_dl_0 v b s).symm, rfl⟩
  · rintro μ pc k L st v2 w2 hpc ⟨rfl, rfl, rfl, rfl, m, rfl, hm, hmn, rfl, rfl⟩
    simp only [↓mo_vb, ↓mo_ve, ↓mo_gi, ↓mo_0, ↓mo_1, ↓mo_2, ↓mo_3i, ↓mo_3l, ↓mo_3r, ↓mo_3q, ↓mo_4_0, ↓mo_4_1, ↓mo_4_2, ↓mo_4_3, ↓mo_4_4, ↓mo_4_5, ↓mo_4_6, ↓mo_4_7, ↓mo_4_8, ↓mo_4_9, ↓mo_4_10, ↓mo_5_0, ↓mo_5_1, ↓mo_5_2, ↓mo_5_3, ↓mo_5_4, ↓mo_5_8, ↓mo_5_9, ↓mo_6_0, ↓mo_6_1, ↓mo_7, ↓mo_8, ↓mo_9, ↓mo_10i, ↓mo_10r, ↓mo_10q, ↓mo_11ir, ↓mo_12i, ↓mo_13, ↓mo_13m, ↓mo_14_0, ↓mo_15_0, ↓mo_14_1, ↓mo_15_1, ↓mo_14_2, ↓mo_15_2, ↓mo_14_3, ↓mo_15_3, ↓mo_14_4, ↓mo_15_4, ↓mo_14_5, ↓mo_15_5, ↓mo_16, ↓mo_17, ↓mo_18, ↓mo_19, ↓mo_20i, ↓mo_20z, ↓mo_20l, ↓mo_21, ↓mo_22, ↓mo_23, ↓mo_24, ↓mo_25, ↓mo_27, ↓mo_26, ↓mo_28, ↓mo_31, ↓mo_32, ↓mo_33, ↓mo_34, ↓mo_35, ↓mo_36, ↓mo_37, ↓mo_39, ↓mo_40, ↓mo_30_0, ↓mo_41_0, ↓mo_29_0, ↓mo_30_1, ↓mo_41_1, ↓mo_29_1, ↓mo_30_2, ↓mo_41_2, ↓mo_29_2, ↓mo_30_3, ↓mo_41_3, ↓mo_29_3, ↓mo_30_4, ↓mo_41_4, ↓mo_29_4, ↓mo_30_5, ↓mo_41_5, ↓mo_29_5, ↓me_tb, ↓me_lu, me_t2i, me_t2l, me_t2r, me_t2q, me_t13i, me_t19a, me_t19b, me_t19c, me_t19d, me_tae, me_t28e, me_t36e, ↓me_kn_d, ↓me_ky_d, me_ca_e, me_sv_d, me_in_n, me_in_c, decide_true, decide_false, me_rm_n, me_rm_c, me_lk_c, me_kdI, me_kdL, me_kdR, me_kdQ, me_ag_n, me_agI, me_agL, me_agR, me_agQ, me_w9n, me_w9I, me_w9L, me_w9R, me_w9Q, me_psN, me_psS, mn_0, mn_1, mn_00, mn_10, mn_01, mn_11, or_true, true_or, mn_c0, mn_c1, mn_l0, mn_l1, eq_self, List.contains_nil, List.contains_cons, List.elem_nil, List.elem_cons, List.contains_eq_mem, List.not_mem_nil, List.mem_cons, decide_false, decide_true, or_false, false_or, Bool.or_false, Bool.false_or, List.length_cons, List.length_nil, Nat.reduceAdd, Nat.reduceSub, Nat.reduceMul, Nat.reduceBEq, Nat.reduceEqDiff, Nat.reduceLT, Nat.reduceLeDiff, reduceCtorEq, if_true, if_false, ite_true, ite_false, true_and, and_true, Bool.and_true, Bool.true_and, Bool.and_false, Bool.false_and, Bool.not_true, Bool.not_false, Bool.or_true, Bool.true_or, cond_true, cond_false, not_false_eq_true, not_true_eq_false, true_implies, false_implies, implies_true, Nat.le_refl, Nat.add_zero, Nat.zero_add, Nat.zero_le, ↓mo_gi, cs_X3_dropSection, ↓go_X3_dropSection_0, ↓lo_X3_dropSection_0, ↓go_X3_dropSection_4, ↓lo_X3_dropSection_4, ↓go_X3_dropSection_26, ↓lo_X3_dropSection_26, hoc, f0, f1, f2, f3, f4, f5, f6, f7, f8, f9, a1, a2, a3, a4, a5, a6, a7, a8, ev, h1, nI_les (show n < 2 ^ 31 by omega) (show m + 1 < 2 ^ 31 by omega), nI_pred]
    refine ⟨fun h => ?_, fun h => ?_⟩
    · rw [show m = n - 1 by omega, show nI n - 1 = nI (n - 1) by rw [← mn_1, pk_sub (by omega)]]
      exact hK
    · refine ⟨b, m + 1, m, rfl, hb2, by omega, by omega, ?_⟩
      simp only [↓mo_vb, ↓mo_ve, ↓mo_gi, ↓mo_0, ↓mo_1, ↓mo_2, ↓mo_3i, ↓mo_3l, ↓mo_3r, ↓mo_3q, ↓mo_4_0, ↓mo_4_1, ↓mo_4_2, ↓mo_4_3, ↓mo_4_4, ↓mo_4_5, ↓mo_4_6, ↓mo_4_7, ↓mo_4_8, ↓mo_4_9, ↓mo_4_10, ↓mo_5_0, ↓mo_5_1, ↓mo_5_2, ↓mo_5_3, ↓mo_5_4, ↓mo_5_8, ↓mo_5_9, ↓mo_6_0, ↓mo_6_1, ↓mo_7, ↓mo_8, ↓mo_9, ↓mo_10i, ↓mo_10r, ↓mo_10q, ↓mo_11ir, ↓mo_12i, ↓mo_13, ↓mo_13m, ↓mo_14_0, ↓mo_15_0, ↓mo_14_1, ↓mo_15_1, ↓mo_14_2, ↓mo_15_2, ↓mo_14_3, ↓mo_15_3, ↓mo_14_4, ↓mo_15_4, ↓mo_14_5, ↓mo_15_5, ↓mo_16, ↓mo_17, ↓mo_18, ↓mo_19, ↓mo_20i, ↓mo_20z, ↓mo_20l, ↓mo_21, ↓mo_22, ↓mo_23, ↓mo_24, ↓mo_25, ↓mo_27, ↓mo_26, ↓mo_28, ↓mo_31, ↓mo_32, ↓mo_33, ↓mo_34, ↓mo_35, ↓mo_36, ↓mo_37, ↓mo_39, ↓mo_40, ↓mo_30_0, ↓mo_41_0, ↓mo_29_0, ↓mo_30_1, ↓mo_41_1, ↓mo_29_1, ↓mo_30_2, ↓mo_41_2, ↓mo_29_2, ↓mo_30_3, ↓mo_41_3, ↓mo_29_3, ↓mo_30_4, ↓mo_41_4, ↓mo_29_4, ↓mo_30_5, ↓mo_41_5, ↓mo_29_5, ↓me_tb, ↓me_lu, me_t2i, me_t2l, me_t2r, me_t2q, me_t13i, me_t19a, me_t19b, me_t19c, me_t19d, me_tae, me_t28e, me_t36e, ↓me_kn_d, ↓me_ky_d, me_ca_e, me_sv_d, me_in_n, me_in_c, decide_true, decide_false, me_rm_n, me_rm_c, me_lk_c, me_kdI, me_kdL, me_kdR, me_kdQ, me_ag_n, me_agI, me_agL, me_agR, me_agQ, me_w9n, me_w9I, me_w9L, me_w9R, me_w9Q, me_psN, me_psS, mn_0, mn_1, mn_00, mn_10, mn_01, mn_11, or_true, true_or, mn_c0, mn_c1, mn_l0, mn_l1, eq_self, List.contains_nil, List.contains_cons, List.elem_nil, List.elem_cons, List.contains_eq_mem, List.not_mem_nil, List.mem_cons, decide_false, decide_true, or_false, false_or, Bool.or_false, Bool.false_or, List.length_cons, List.length_nil, Nat.reduceAdd, Nat.reduceSub, Nat.reduceMul, Nat.reduceBEq, Nat.reduceEqDiff, Nat.reduceLT, Nat.reduceLeDiff, reduceCtorEq, if_true, if_false, ite_true, ite_false, true_and, and_true, Bool.and_true, Bool.true_and, Bool.and_false, Bool.false_and, Bool.not_true, Bool.not_false, Bool.or_true, Bool.true_or, cond_true, cond_false, not_false_eq_true, not_true_eq_false, true_implies, false_implies, implies_true, Nat.le_refl, Nat.add_zero, Nat.zero_add, Nat.zero_le, ↓mo_gi, cs_X3_dropSection, ↓go_X3_dropSection_0, ↓lo_X3_dropSection_0, ↓go_X3_dropSection_4, ↓lo_X3_dropSection_4, ↓go_X3_dropSection_26, ↓lo_X3_dropSection_26, hoc, f0, f1, f2, f3, f4, f5, f6, f7, f8, f9, a1, a2, a3, a4, a5, a6, a7, a8]
      exact ⟨n - (m + 1), by omega, m + 1, by rw [nI_1], by omega, by omega, sc_dl_s v b s m hm, rfl⟩
theorem ct_X3_dropSection {l : Launch} (hfl : l.stackTraces = false) : me_M l yX3_dropSection (.code yX3_dropSection cX3_dropSection 3 none) 2 82 0 sp_dropSection := me_meth (us := 0) (bl := cd_X3_dropSection) (cs := cs_X3_dropSection) (hd := [4]) hfl (by decide +kernel) rfl (by decide) ⟨by decide, by decide⟩ (by decide) ck_X3_dropSection (by
    intro a ha
    simp only [List.mem_cons, List.not_mem_nil, or_false] at ha
    rcases ha with rfl
    · exact cl_X3_moveSection (ct_X3_moveSection hfl) (by decide) (by decide)) (by decide) mv_sx vc_X3_dropSection
