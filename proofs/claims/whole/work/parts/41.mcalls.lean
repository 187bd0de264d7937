/-! ===== the model's calls: the ends, the text, the score ===== -/
def md_at (v : me_V) (G : gs_T) : Prop := mt_at v G.1 G.2.1 ∧ (mr_at (v 210) G.2.2.1 ∧ sc_wf G.2.2.1) ∧ mh_at v G.2.2.2.1 ∧ ∀ s, s < 2 → (G.2.2.2.2 s = none → v 214 s = 0) ∧ ∀ T, G.2.2.2.2 s = some T → v 214 s = 1 ∧ mr_at (fun k => v 213 (305 * s + k)) T ∧ sc_wf T
def mxf (v v2 : me_V) : Prop := v2 207 2 = v 207 2 ∧ v2 207 10 = v 207 10 ∧ ∀ c, (c = 208 ∨ c = 210 ∨ (212 ≤ c ∧ c ≤ 214)) → v2 c = v c
theorem md_mx {v v2 : me_V} {G : gs_T} (h : md_at v G) (hf : mxf v v2) : md_at v2 G := by
  obtain ⟨⟨t1, t2, t3⟩, ⟨m1, m2⟩, ⟨h1, h2, h3⟩, k1⟩ := h
  obtain ⟨f1, f2, f3⟩ := hf
  refine ⟨⟨by rw [f1]; exact t1, t2, fun k hk => by rw [f3 208 (by omega)]; exact t3 k hk⟩, ⟨by rw [f3 210 (by omega)]; exact m1, m2⟩, ⟨by rw [f2]; exact h1, h2, fun i hi => by rw [f3 212 (by omega)]; exact h3 i hi⟩, fun s hs => ?_⟩
  rw [f3 213 (by omega), f3 214 (by omega)]
  exact k1 s hs
theorem md_ref {v : me_V} {G : gs_T} (h : md_at v G) (x : Int32) : md_at (me_up v 207 0 x) G := md_mx h ⟨up_o (by omega), up_o (by omega), fun c hc => me_up_n _ _ _ (by omega)⟩
theorem fr_ref (v : me_V) (w : me_U) (x : Int32) : fr_at 207 16 v w (me_up v 207 0 x) w := fr_v w (fun c hc => me_up_n _ _ _ (by omega))
def mp (R : ra_T) (v : me_V) (w : me_U) (K : me_K) : Prop := ∀ k y G2 v2 w2, R k y G2 → v2 207 0 = nI k → fr_at 207 16 v w v2 w2 → md_at v2 G2 → K (some y) v2 w2
section MP
variable {A B C : Prop} {Y : me_S → gs_T → Prop} {G G2 : gs_T} {v v2 : me_V} {w w2 : me_U} {K : me_K} {y : me_S}
theorem mp2_1 (h : mp (ra_2 A Y G) v w K) (ha : ¬ A) (hG : md_at v G) : K (some y) (me_up v 207 0 1) w := h 1 y G _ _ (Or.inl ⟨ha, rfl, rfl⟩) up_s (fr_ref _ _ _) (md_ref hG _)
theorem mp2_0 (h : mp (ra_2 A Y G) v w K) (ha : A) (hY : Y y G2) (h0 : v2 207 0 = 0) (hf : fr_at 207 16 v w v2 w2) (hG : md_at v2 G2) : K (some y) v2 w2 := h 0 y G2 _ _ (Or.inr ⟨ha, rfl, hY⟩) h0 hf hG
theorem mp3_1 (h : mp (ra_3 A B Y G) v w K) (ha : ¬ A) (hG : md_at v G) : K (some y) (me_up v 207 0 1) w := h 1 y G _ _ (Or.inl ⟨ha, rfl, rfl⟩) up_s (fr_ref _ _ _) (md_ref hG _)
theorem mp3_2 (h : mp (ra_3 A B Y G) v w K) (ha : A) (hb : ¬ B) (hG : md_at v G) : K (some y) (me_up v 207 0 (nI 2)) w := h 2 y G _ _ (Or.inr (Or.inl ⟨ha, hb, rfl, rfl⟩)) up_s (fr_ref _ _ _) (md_ref hG _)
theorem mp3_0 (h : mp (ra_3 A B Y G) v w K) (ha : A) (hb : B) (hY : Y y G2) (h0 : v2 207 0 = 0) (hf : fr_at 207 16 v w v2 w2) (hG : md_at v2 G2) : K (some y) v2 w2 := h 0 y G2 _ _ (Or.inr (Or.inr ⟨ha, hb, rfl, hY⟩)) h0 hf hG
theorem mp4_1 (h : mp (ra_4 A B C Y G) v w K) (ha : ¬ A) (hG : md_at v G) : K (some y) (me_up v 207 0 1) w := h 1 y G _ _ (Or.inl ⟨ha, rfl, rfl⟩) up_s (fr_ref _ _ _) (md_ref hG _)
theorem mp4_2 (h : mp (ra_4 A B C Y G) v w K) (ha : A) (hb : ¬ B) (hG : md_at v G) : K (some y) (me_up v 207 0 (nI 2)) w := h 2 y G _ _ (Or.inr (Or.inl ⟨ha, hb, rfl, rfl⟩)) up_s (fr_ref _ _ _) (md_ref hG _)
theorem mp4_3 (h : mp (ra_4 A B C Y G) v w K) (ha : A) (hb : B) (hc : ¬ C) (hG : md_at v G) : K (some y) (me_up v 207 0 (nI 3)) w := h 3 y G _ _ (Or.inr (Or.inr (Or.inl ⟨ha, hb, hc, rfl, rfl⟩))) up_s (fr_ref _ _ _) (md_ref hG _)
theorem mp4_0 (h : mp (ra_4 A B C Y G) v w K) (ha : A) (hb : B) (hc : C) (hY : Y y G2) (h0 : v2 207 0 = 0) (hf : fr_at 207 16 v w v2 w2) (hG : md_at v2 G2) : K (some y) v2 w2 := h 0 y G2 _ _ (Or.inr (Or.inr (Or.inr ⟨ha, hb, hc, rfl, hY⟩))) h0 hf hG
end MP
theorem lay_a {v v2 : me_V} {w w2 : me_U} {G : gs_T} (hG : md_at v G) (hf : mbf (me_up v 207 0 0) w v2 w2) : v2 207 0 = 0 ∧ fr_at 207 16 v w v2 w2 ∧ md_at v2 G := by
  refine ⟨(hf.2 0 (by omega)).trans up_s, fun c hc => ?_, ?_⟩
  · have := hf.1 c (by omega)
    rw [me_up_n _ _ _ (by omega)] at this
    exact this
  · refine md_mx (md_ref hG 0) ⟨hf.2 2 (by omega), hf.2 10 (by omega), fun c hc => (hf.1 c (by omega)).1⟩
theorem p01 : ((0 : Int32) < 1) = True := eq_true (by decide)
theorem p02 : ((0 : Int32) < nI 2) = True := eq_true (by decide)
theorem p03 : ((0 : Int32) < nI 3) = True := eq_true (by decide)
theorem p00 : ((0 : Int32) < 0) = False := eq_false (by decide)
theorem inI (x : Int32) {a b : Nat} (ha : a < 2 ^ 31) (hb : b < 2 ^ 31) : (lN a ≤ x.toInt64 ∧ x.toInt64 ≤ lN b) = (nI a ≤ x ∧ x ≤ nI b) := by
  rw [← nI_l ha, ← nI_l hb]
  exact propext (and_congr (fa_wide_le _ _) (fa_wide_le _ _))
theorem inB (x : Int32) {n : Nat} (hn : n < 2 ^ 30) : (lN 0 ≤ x.toInt64 ∧ x.toInt64 ≤ (nI n - 1).toInt64) = (0 ≤ x ∧ x < nI n) := by
  rw [← nI_l (show 0 < 2 ^ 31 by omega), mn_0]
  refine propext ((and_congr (fa_wide_le _ _) (fa_wide_le _ _)).trans ?_)
  rcases n with _ | n
  · have e : nI 0 - 1 = -1 := by decide
    rw [e, mn_0]
    refine ⟨fun z => ?_, fun z => ?_⟩
    · exact absurd (Int32.le_trans z.1 z.2) (by decide)
    · exact absurd z.2 (Int32.not_lt.mpr z.1)
  · rw [nI_pred]
    refine and_congr_right (fun h0 => ?_)
    obtain ⟨j, hj, rfl⟩ := nI_of (Int32.not_lt.mpr h0)
    rw [nI_leI hj (by omega), nI_ltI hj (by omega)]
    omega
def sp_m_isBar : me_P := fun as v w K _ => match as with
  | [.inr (.inr (.inl 207)), .inl x] => mv_b (lN 0 ≤ x.toInt64 ∧ x.toInt64 ≤ (v 210 0 - 1).toInt64) K v w
  | _ => False
theorem em_isBar (x : Int32) (v : me_V) (w : me_U) (K : me_K) (X : me_X) : sp_m_isBar [vR 207, vI x] v w K X = mv_b (lN 0 ≤ x.toInt64 ∧ x.toInt64 ≤ (v 210 0 - 1).toInt64) K v w := rfl
def sp_m_isPart : me_P := fun as v w K _ => match as with
  | [.inr (.inr (.inl 207)), .inl x] => mv_b (lN 0 ≤ x.toInt64 ∧ x.toInt64 ≤ (v 210 1 - 1).toInt64) K v w
  | _ => False
theorem em_isPart (x : Int32) (v : me_V) (w : me_U) (K : me_K) (X : me_X) : sp_m_isPart [vR 207, vI x] v w K X = mv_b (lN 0 ≤ x.toInt64 ∧ x.toInt64 ≤ (v 210 1 - 1).toInt64) K v w := rfl
def sp_m_isPlayer : me_P := fun as v w K _ => match as with
  | [.inl x] => mv_b (PA x) K v w
  | _ => False
theorem em_isPlayer (x : Int32) (v : me_V) (w : me_U) (K : me_K) (X : me_X) : sp_m_isPlayer [vI x] v w K X = mv_b (PA x) K v w := rfl
def sp_m_isTempo : me_P := fun as v w K _ => match as with
  | [.inl x] => mv_b (x = 0 ∨ (nI 30 ≤ x ∧ x ≤ nI 240)) K v w
  | _ => False
theorem em_isTempo (x : Int32) (v : me_V) (w : me_U) (K : me_K) (X : me_X) : sp_m_isTempo [vI x] v w K X = mv_b (x = 0 ∨ (nI 30 ≤ x ∧ x ≤ nI 240)) K v w := rfl
theorem asr1 {as : List me_S} {P : Int32 → Prop} (h : match as with | [.inr (.inr (.inl 207)), .inl x] => P x | _ => False) : ∃ x, as = [vR 207, vI x] ∧ P x := by
  split at h
  · exact ⟨_, rfl, h⟩
  · exact h.elim
theorem as1 {as : List me_S} {P : Int32 → Prop} (h : match as with | [.inl x] => P x | _ => False) : ∃ x, as = [vI x] ∧ P x := by
  split at h
  · exact ⟨_, rfl, h⟩
  · exact h.elim
theorem pa_3 (x : Int32) : (lN 0 ≤ x.toInt64 ∧ x.toInt64 ≤ lN 2) = PA x := by
  rw [inI x (by omega) (by omega)]
  unfold PA
  refine propext (and_congr_right (fun h0 => ?_))
  obtain ⟨j, hj, rfl⟩ := nI_of (Int32.not_lt.mpr h0)
  rw [nI_leI hj (by omega), nI_ltI hj (by omega)]
  omega

theorem go_X7_isBar_0 {cs : Nat → Nat × me_P} {KR : me_K} {kx : (Nat → Nat → me_L → List me_S → me_V → me_U → Prop) → Nat → Nat → me_L → Nat → me_V → me_U → Prop} {km : Nat} {sx : me_Sc} {hd : List Nat} {Inv : Nat → Nat → me_L → List me_S → me_V → me_U → Prop} {n k : Nat} {L : me_L} {st : List me_S} {v : me_V} {w : me_U} (hn : (n == 0) = false) (h : hd.contains 0 = false) : me_go cs KR kx km sx cd_X7_isBar hd Inv n 0 k L st v w = me_vb cs (me_go cs KR kx km sx cd_X7_isBar hd Inv (n - 1)) KR (kx (me_go cs KR kx km sx cd_X7_isBar hd Inv (n - 1))) km sx [(2, 1, 0, [], 1, 0, 0), (7, 0, 0, [], 1, 0, 0), (1, 0, 0, [], 1, 0, 0), (2, 0, 2, [], 1, 0, 0), (19, 7, 7, [], 3, 0, 1050), (0, 0, 0, [], 1, 0, 0), (21, 0, 0, [], 1, 0, 0), (0, 1, 0, [], 1, 0, 0), (4, 1, 0, [], 1, 0, 0), (7, 0, 0, [], 1, 0, 0), (30, 126, 3, [1129], 3, 0, 1128), (34, 0, 0, [], 1, 0, 0)] 0 k L st v w := by
  rcases n with _ | n
  · cases hn
  · rw [mo_gb h]
    rfl
theorem lo_X7_isBar_0 {cs : Nat → Nat × me_P} {J : Nat → Nat → me_L → List me_S → me_V → me_U → Prop} {KR : me_K} {KX : Nat → Nat → me_L → Nat → me_V → me_U → Prop} {km : Nat} {sx : me_Sc} {k : Nat} {L : me_L} {st : List me_S} {v : me_V} {w : me_U} : me_vb cs J KR KX km sx (me_bk cd_X7_isBar 0) 0 k L st v w = me_vb cs J KR KX km sx [(2, 1, 0, [], 1, 0, 0), (7, 0, 0, [], 1, 0, 0), (1, 0, 0, [], 1, 0, 0), (2, 0, 2, [], 1, 0, 0), (19, 7, 7, [], 3, 0, 1050), (0, 0, 0, [], 1, 0, 0), (21, 0, 0, [], 1, 0, 0), (0, 1, 0, [], 1, 0, 0), (4, 1, 0, [], 1, 0, 0), (7, 0, 0, [], 1, 0, 0), (30, 126, 3, [1129], 3, 0, 1128), (34, 0, 0, [], 1, 0, 0)] 0 k L st v w := rfl
def cs_X7_isBar : Nat → Nat × me_P := fun a => match a with
  | 126 => (0, sp_m_in)
  | _ => (0, fun _ _ _ _ _ => False)
set_option maxHeartbeats 1000000 in
set_option maxRecDepth 100000 in
theorem vc_X7_isBar : mv_ok cs_X7_isBar cd_X7_isBar [] 0 2 sp_m_isBar := by
  refine mv_flat 20 ?_
  intro as v w K X h
  obtain ⟨x, rfl, hK⟩ := asr1 h
  obtain ⟨m_oc, m_0, m_1, m_2, m_3, m_4, m_5, m_6, m_7, m_8, m_9, m_10, m_11, m_12, l_208, l_209, l_210, l_211, l_212, l_213, l_214⟩ := mf_f
  obtain ⟨m_13, m_14, m_15, m_16, m_17, m_18, m_19, m_20, m_21, m_22, m_23, m_24, l_215, l_216, l_217, l_218, l_219, l_220, l_221, l_222⟩ := mg_f
  refine ⟨Nat.le_of_ble_eq_true rfl, fun Inv => ?_⟩
  simp only [↓mo_vb, ↓mo_ve, ↓mo_gi, ↓mo_0, ↓mo_1, ↓mo_2, ↓mo_3i, ↓mo_3l, ↓mo_3r, ↓mo_3q, ↓mo_4_0, ↓mo_4_1, ↓mo_4_2, ↓mo_4_3, ↓mo_4_4, ↓mo_4_5, ↓mo_4_6, ↓mo_4_7, ↓mo_4_8, ↓mo_4_9, ↓mo_4_10, ↓mo_5_0, ↓mo_5_1, ↓mo_5_2, ↓mo_5_3, ↓mo_5_4, ↓mo_5_8, ↓mo_5_9, ↓mo_6_0, ↓mo_6_1, ↓mo_7, ↓mo_8, ↓mo_9, ↓mo_10i, ↓mo_10r, ↓mo_10q, ↓mo_11ir, ↓mo_12i, ↓mo_13, ↓mo_13m, ↓mo_14_0, ↓mo_15_0, ↓mo_14_1, ↓mo_15_1, ↓mo_14_2, ↓mo_15_2, ↓mo_14_3, ↓mo_15_3, ↓mo_14_4, ↓mo_15_4, ↓mo_14_5, ↓mo_15_5, ↓mo_16, ↓mo_17, ↓mo_18, ↓mo_19, ↓mo_20i, ↓mo_20z, ↓mo_20l, ↓mo_21, ↓mo_22, ↓mo_23, ↓mo_24, ↓mo_25, ↓mo_27, ↓mo_26, ↓mo_28, ↓mo_31, ↓mo_32, ↓mo_33, ↓mo_34, ↓mo_35, ↓mo_36, ↓mo_37, ↓mo_39, ↓mo_40, ↓mo_30_0, ↓mo_41_0, ↓mo_29_0, ↓mo_30_1, ↓mo_41_1, ↓mo_29_1, ↓mo_30_2, ↓mo_41_2, ↓mo_29_2, ↓mo_30_3, ↓mo_41_3, ↓mo_29_3, ↓mo_30_4, ↓mo_41_4, ↓mo_29_4, ↓mo_30_5, ↓mo_41_5, ↓mo_29_5, ↓me_tb, ↓me_lu, me_t2i, me_t2l, me_t2r, me_t2q, me_t13i, me_t19a, me_t19b, me_t19c, me_t19d, me_tae, me_t28e, me_t36e, ↓me_kn_d, ↓me_ky_d, me_ca_e, me_sv_d, me_in_n, me_in_c, decide_true, decide_false, me_rm_n, me_rm_c, me_lk_c, me_kdI, me_kdL, me_kdR, me_kdQ, me_ag_n, me_agI, me_agL, me_agR, me_agQ, me_w9n, me_w9I, me_w9L, me_w9R, me_w9Q, me_psN, me_psS, mn_0, mn_1, mn_00, mn_10, mn_01, mn_11, or_true, true_or, mn_c0, mn_c1, mn_l0, mn_l1, eq_self, List.contains_nil, List.contains_cons, List.elem_nil, List.elem_cons, List.contains_eq_mem, List.not_mem_nil, List.mem_cons, decide_false, decide_true, or_false, false_or, Bool.or_false, Bool.false_or, List.length_cons, List.length_nil, Nat.reduceAdd, Nat.reduceSub, Nat.reduceMul, Nat.reduceBEq, Nat.reduceEqDiff, Nat.reduceLT, Nat.reduceLeDiff, reduceCtorEq, if_true, if_false, ite_true, ite_false, true_and, and_true, Bool.and_true, Bool.true_and, Bool.and_false, Bool.false_and, Bool.not_true, Bool.not_false, Bool.or_true, Bool.true_or, cond_true, cond_false, not_false_eq_true, not_true_eq_false, true_implies, false_implies, implies_true, Nat.le_refl, Nat.add_zero, Nat.zero_add, Nat.zero_le, ↓mo_gi, cs_X7_isBar, ↓go_X7_isBar_0, ↓lo_X7_isBar_0, m_oc, m_0, m_1, m_2, m_3, m_4, m_5, m_6, m_7, m_8, m_9, m_10, m_11, m_12, l_208, l_209, l_210, l_211, l_212, l_213, l_214, m_13, m_14, m_15, m_16, m_17, m_18, m_19, m_20, m_21, m_22, m_23, m_24, l_215, l_216, l_217, l_218, l_219, l_220, l_221, l_222, em_cell, em_in, em_has, em_refused, em_withBit, mv_b_d, z0c]
  exact ⟨vi0 (by omega) (by omega), hK⟩
theorem ct_X7_isBar {l : Launch} (hfl : l.stackTraces = false) : me_M l yX7_isBar (.code yX7_isBar cX7_isBar 2 (some .boolean)) 2 85 0 sp_m_isBar := me_meth (us := 0) (bl := cd_X7_isBar) (cs := cs_X7_isBar) (hd := []) hfl (by decide +kernel) rfl (by decide) ⟨by decide, by decide⟩ (by decide) ck_X7_isBar (by
    intro a ha
    simp only [List.mem_cons, List.not_mem_nil, or_false] at ha
    rcases ha with rfl
    · exact cl_X7_in (ct_X7_in hfl) (by decide) (by decide)) (by decide) mv_sx vc_X7_isBar

theorem go_X7_isPart_0 {cs : Nat → Nat × me_P} {KR : me_K} {kx : (Nat → Nat → me_L → List me_S → me_V → me_U → Prop) → Nat → Nat → me_L → Nat → me_V → me_U → Prop} {km : Nat} {sx : me_Sc} {hd : List Nat} {Inv : Nat → Nat → me_L → List me_S → me_V → me_U → Prop} {n k : Nat} {L : me_L} {st : List me_S} {v : me_V} {w : me_U} (hn : (n == 0) = false) (h : hd.contains 0 = false) : me_go cs KR kx km sx cd_X7_isPart hd Inv n 0 k L st v w = me_vb cs (me_go cs KR kx km sx cd_X7_isPart hd Inv (n - 1)) KR (kx (me_go cs KR kx km sx cd_X7_isPart hd Inv (n - 1))) km sx [(2, 1, 0, [], 1, 0, 0), (7, 0, 0, [], 1, 0, 0), (1, 0, 0, [], 1, 0, 0), (2, 0, 2, [], 1, 0, 0), (19, 7, 7, [], 3, 0, 1050), (0, 1, 0, [], 1, 0, 0), (21, 0, 0, [], 1, 0, 0), (0, 1, 0, [], 1, 0, 0), (4, 1, 0, [], 1, 0, 0), (7, 0, 0, [], 1, 0, 0), (30, 126, 3, [1129], 3, 0, 1128), (34, 0, 0, [], 1, 0, 0)] 0 k L st v w := by
  rcases n with _ | n
  · cases hn
  · rw [mo_gb h]
    rfl
theorem lo_X7_isPart_0 {cs : Nat → Nat × me_P} {J : Nat → Nat → me_L → List me_S → me_V → me_U → Prop} {KR : me_K} {KX : Nat → Nat → me_L → Nat → me_V → me_U → Prop} {km : Nat} {sx : me_Sc} {k : Nat} {L : me_L} {st : List me_S} {v : me_V} {w : me_U} : me_vb cs J KR KX km sx (me_bk cd_X7_isPart 0) 0 k L st v w = me_vb cs J KR KX km sx [(2, 1, 0, [], 1, 0, 0), (7, 0, 0, [], 1, 0, 0), (1, 0, 0, [], 1, 0, 0), (2, 0, 2, [], 1, 0, 0), (19, 7, 7, [], 3, 0, 1050), (0, 1, 0, [], 1, 0, 0), (21, 0, 0, [], 1, 0, 0), (0, 1, 0, [], 1, 0, 0), (4, 1, 0, [], 1, 0, 0), (7, 0, 0, [], 1, 0, 0), (30, 126, 3, [1129], 3, 0, 1128), (34, 0, 0, [], 1, 0, 0)] 0 k L st v w := rfl
def cs_X7_isPart : Nat → Nat × me_P := fun a => match a with
  | 126 => (0, sp_m_in)
  | _ => (0, fun _ _ _ _ _ => False)
set_option maxHeartbeats 1000000 in
set_option maxRecDepth 100000 in
theorem vc_X7_isPart : mv_ok cs_X7_isPart cd_X7_isPart [] 0 2 sp_m_isPart := by
  refine mv_flat 20 ?_
  intro as v w K X h
  obtain ⟨x, rfl, hK⟩ := asr1 h
  obtain ⟨m_oc, m_0, m_1, m_2, m_3, m_4, m_5, m_6, m_7, m_8, m_9, m_10, m_11, m_12, l_208, l_209, l_210, l_211, l_212, l_213, l_214⟩ := mf_f
  obtain ⟨m_13, m_14, m_15, m_16, m_17, m_18, m_19, m_20, m_21, m_22, m_23, m_24, l_215, l_216, l_217, l_218, l_219, l_220, l_221, l_222⟩ := mg_f
  refine ⟨Nat.le_of_ble_eq_true rfl, fun Inv => ?_⟩
  simp only [↓mo_vb, ↓mo_ve, ↓mo_gi, ↓mo_0, ↓mo_1, ↓mo_2, ↓mo_3i, ↓mo_3l, ↓mo_3r, ↓mo_3q, ↓mo_4_0, ↓mo_4_1, ↓mo_4_2, ↓mo_4_3, ↓mo_4_4, ↓mo_4_5, ↓mo_4_6, ↓mo_4_7, ↓mo_4_8, ↓mo_4_9, ↓mo_4_10, ↓mo_5_0, ↓mo_5_1, ↓mo_5_2, ↓mo_5_3, ↓mo_5_4, ↓mo_5_8, ↓mo_5_9, ↓mo_6_0, ↓mo_6_1, ↓mo_7, ↓mo_8, ↓mo_9, ↓mo_10i, ↓mo_10r, ↓mo_10q, ↓mo_11ir, ↓mo_12i, ↓mo_13, ↓mo_13m, ↓mo_14_0, ↓mo_15_0, ↓mo_14_1, ↓mo_15_1, ↓mo_14_2, ↓mo_15_2, ↓mo_14_3, ↓mo_15_3, ↓mo_14_4, ↓mo_15_4, ↓mo_14_5, ↓mo_15_5, ↓mo_16, ↓mo_17, ↓mo_18, ↓mo_19, ↓mo_20i, ↓mo_20z, ↓mo_20l, ↓mo_21, ↓mo_22, ↓mo_23, ↓mo_24, ↓mo_25, ↓mo_27, ↓mo_26, ↓mo_28, ↓mo_31, ↓mo_32, ↓mo_33, ↓mo_34, ↓mo_35, ↓mo_36, ↓mo_37, ↓mo_39, ↓mo_40, ↓mo_30_0, ↓mo_41_0, ↓mo_29_0, ↓mo_30_1, ↓mo_41_1, ↓mo_29_1, ↓mo_30_2, ↓mo_41_2, ↓mo_29_2, ↓mo_30_3, ↓mo_41_3, ↓mo_29_3, ↓mo_30_4, ↓mo_41_4, ↓mo_29_4, ↓mo_30_5, ↓mo_41_5, ↓mo_29_5, ↓me_tb, ↓me_lu, me_t2i, me_t2l, me_t2r, me_t2q, me_t13i, me_t19a, me_t19b, me_t19c, me_t19d, me_tae, me_t28e, me_t36e, ↓me_kn_d, ↓me_ky_d, me_ca_e, me_sv_d, me_in_n, me_in_c, decide_true, decide_false, me_rm_n, me_rm_c, me_lk_c, me_kdI, me_kdL, me_kdR, me_kdQ, me_ag_n, me_agI, me_agL, me_agR, me_agQ, me_w9n, me_w9I, me_w9L, me_w9R, me_w9Q, me_psN, me_psS, mn_0, mn_1, mn_00, mn_10, mn_01, mn_11, or_true, true_or, mn_c0, mn_c1, mn_l0, mn_l1, eq_self, List.contains_nil, List.contains_cons, List.elem_nil, List.elem_cons, List.contains_eq_mem, List.not_mem_nil, List.mem_cons, decide_false, decide_true, or_false, false_or, Bool.or_false, Bool.false_or, List.length_cons, List.length_nil, Nat.reduceAdd, Nat.reduceSub, Nat.reduceMul, Nat.reduceBEq, Nat.reduceEqDiff, Nat.reduceLT, Nat.reduceLeDiff, reduceCtorEq, if_true, if_false, ite_true, ite_false, true_and, and_true, Bool.and_true, Bool.true_and, Bool.and_false, Bool.false_and, Bool.not_true, Bool.not_false, Bool.or_true, Bool.true_or, cond_true, cond_false, not_false_eq_true, not_true_eq_false, true_implies, false_implies, implies_true, Nat.le_refl, Nat.add_zero, Nat.zero_add, Nat.zero_le, ↓mo_gi, cs_X7_isPart, ↓go_X7_isPart_0, ↓lo_X7_isPart_0, m_oc, m_0, m_1, m_2, m_3, m_4, m_5, m_6, m_7, m_8, m_9, m_10, m_11, m_12, l_208, l_209, l_210, l_211, l_212, l_213, l_214, m_13, m_14, m_15, m_16, m_17, m_18, m_19, m_20, m_21, m_22, m_23, m_24, l_215, l_216, l_217, l_218, l_219, l_220, l_221, l_222, em_cell, em_in, em_has, em_refused, em_withBit, mv_b_d, z1c]
  exact ⟨vi1 (by omega) (by omega), hK⟩
theorem ct_X7_isPart {l : Launch} (hfl : l.stackTraces = false) : me_M l yX7_isPart (.code yX7_isPart cX7_isPart 2 (some .boolean)) 2 85 0 sp_m_isPart := me_meth (us := 0) (bl := cd_X7_isPart) (cs := cs_X7_isPart) (hd := []) hfl (by decide +kernel) rfl (by decide) ⟨by decide, by decide⟩ (by decide) ck_X7_isPart (by
    intro a ha
    simp only [List.mem_cons, List.not_mem_nil, or_false] at ha
    rcases ha with rfl
    · exact cl_X7_in (ct_X7_in hfl) (by decide) (by decide)) (by decide) mv_sx vc_X7_isPart

theorem go_X7_isPlayer_0 {cs : Nat → Nat × me_P} {KR : me_K} {kx : (Nat → Nat → me_L → List me_S → me_V → me_U → Prop) → Nat → Nat → me_L → Nat → me_V → me_U → Prop} {km : Nat} {sx : me_Sc} {hd : List Nat} {Inv : Nat → Nat → me_L → List me_S → me_V → me_U → Prop} {n k : Nat} {L : me_L} {st : List me_S} {v : me_V} {w : me_U} (hn : (n == 0) = false) (h : hd.contains 0 = false) : me_go cs KR kx km sx cd_X7_isPlayer hd Inv n 0 k L st v w = me_vb cs (me_go cs KR kx km sx cd_X7_isPlayer hd Inv (n - 1)) KR (kx (me_go cs KR kx km sx cd_X7_isPlayer hd Inv (n - 1))) km sx [(2, 0, 0, [], 1, 0, 0), (7, 0, 0, [], 1, 0, 0), (1, 0, 0, [], 1, 0, 0), (1, 2, 0, [], 3, 0, 1238), (30, 126, 3, [1129], 3, 0, 1128), (34, 0, 0, [], 1, 0, 0)] 0 k L st v w := by
  rcases n with _ | n
  · cases hn
  · rw [mo_gb h]
    rfl
theorem lo_X7_isPlayer_0 {cs : Nat → Nat × me_P} {J : Nat → Nat → me_L → List me_S → me_V → me_U → Prop} {KR : me_K} {KX : Nat → Nat → me_L → Nat → me_V → me_U → Prop} {km : Nat} {sx : me_Sc} {k : Nat} {L : me_L} {st : List me_S} {v : me_V} {w : me_U} : me_vb cs J KR KX km sx (me_bk cd_X7_isPlayer 0) 0 k L st v w = me_vb cs J KR KX km sx [(2, 0, 0, [], 1, 0, 0), (7, 0, 0, [], 1, 0, 0), (1, 0, 0, [], 1, 0, 0), (1, 2, 0, [], 3, 0, 1238), (30, 126, 3, [1129], 3, 0, 1128), (34, 0, 0, [], 1, 0, 0)] 0 k L st v w := rfl
def cs_X7_isPlayer : Nat → Nat × me_P := fun a => match a with
  | 126 => (0, sp_m_in)
  | _ => (0, fun _ _ _ _ _ => False)
set_option maxHeartbeats 1000000 in
set_option maxRecDepth 100000 in
theorem vc_X7_isPlayer : mv_ok cs_X7_isPlayer cd_X7_isPlayer [] 0 1 sp_m_isPlayer := by
  refine mv_flat 20 ?_
  intro as v w K X h
  obtain ⟨x, rfl, hK⟩ := as1 h
  obtain ⟨m_oc, m_0, m_1, m_2, m_3, m_4, m_5, m_6, m_7, m_8, m_9, m_10, m_11, m_12, l_208, l_209, l_210, l_211, l_212, l_213, l_214⟩ := mf_f
  obtain ⟨m_13, m_14, m_15, m_16, m_17, m_18, m_19, m_20, m_21, m_22, m_23, m_24, l_215, l_216, l_217, l_218, l_219, l_220, l_221, l_222⟩ := mg_f
  refine ⟨Nat.le_of_ble_eq_true rfl, fun Inv => ?_⟩
  simp only [↓mo_vb, ↓mo_ve, ↓mo_gi, ↓mo_0, ↓mo_1, ↓mo_2, ↓mo_3i, ↓mo_3l, ↓mo_3r, ↓mo_3q, ↓mo_4_0, ↓mo_4_1, ↓mo_4_2, ↓mo_4_3, ↓mo_4_4, ↓mo_4_5, ↓mo_4_6, ↓mo_4_7, ↓mo_4_8, ↓mo_4_9, ↓mo_4_10, ↓mo_5_0, ↓mo_5_1, ↓mo_5_2, ↓mo_5_3, ↓mo_5_4, ↓mo_5_8, ↓mo_5_9, ↓mo_6_0, ↓mo_6_1, ↓mo_7, ↓mo_8, ↓mo_9, ↓mo_10i, ↓mo_10r, ↓mo_10q, ↓mo_11ir, ↓mo_12i, ↓mo_13, ↓mo_13m, ↓mo_14_0, ↓mo_15_0, ↓mo_14_1, ↓mo_15_1, ↓mo_14_2, ↓mo_15_2, ↓mo_14_3, ↓mo_15_3, ↓mo_14_4, ↓mo_15_4, ↓mo_14_5, ↓mo_15_5, ↓mo_16, ↓mo_17, ↓mo_18, ↓mo_19, ↓mo_20i, ↓mo_20z, ↓mo_20l, ↓mo_21, ↓mo_22, ↓mo_23, ↓mo_24, ↓mo_25, ↓mo_27, ↓mo_26, ↓mo_28, ↓mo_31, ↓mo_32, ↓mo_33, ↓mo_34, ↓mo_35, ↓mo_36, ↓mo_37, ↓mo_39, ↓mo_40, ↓mo_30_0, ↓mo_41_0, ↓mo_29_0, ↓mo_30_1, ↓mo_41_1, ↓mo_29_1, ↓mo_30_2, ↓mo_41_2, ↓mo_29_2, ↓mo_30_3, ↓mo_41_3, ↓mo_29_3, ↓mo_30_4, ↓mo_41_4, ↓mo_29_4, ↓mo_30_5, ↓mo_41_5, ↓mo_29_5, ↓me_tb, ↓me_lu, me_t2i, me_t2l, me_t2r, me_t2q, me_t13i, me_t19a, me_t19b, me_t19c, me_t19d, me_tae, me_t28e, me_t36e, ↓me_kn_d, ↓me_ky_d, me_ca_e, me_sv_d, me_in_n, me_in_c, decide_true, decide_false, me_rm_n, me_rm_c, me_lk_c, me_kdI, me_kdL, me_kdR, me_kdQ, me_ag_n, me_agI, me_agL, me_agR, me_agQ, me_w9n, me_w9I, me_w9L, me_w9R, me_w9Q, me_psN, me_psS, mn_0, mn_1, mn_00, mn_10, mn_01, mn_11, or_true, true_or, mn_c0, mn_c1, mn_l0, mn_l1, eq_self, List.contains_nil, List.contains_cons, List.elem_nil, List.elem_cons, List.contains_eq_mem, List.not_mem_nil, List.mem_cons, decide_false, decide_true, or_false, false_or, Bool.or_false, Bool.false_or, List.length_cons, List.length_nil, Nat.reduceAdd, Nat.reduceSub, Nat.reduceMul, Nat.reduceBEq, Nat.reduceEqDiff, Nat.reduceLT, Nat.reduceLeDiff, reduceCtorEq, if_true, if_false, ite_true, ite_false, true_and, and_true, Bool.and_true, Bool.true_and, Bool.and_false, Bool.false_and, Bool.not_true, Bool.not_false, Bool.or_true, Bool.true_or, cond_true, cond_false, not_false_eq_true, not_true_eq_false, true_implies, false_implies, implies_true, Nat.le_refl, Nat.add_zero, Nat.zero_add, Nat.zero_le, ↓mo_gi, cs_X7_isPlayer, ↓go_X7_isPlayer_0, ↓lo_X7_isPlayer_0, m_oc, m_0, m_1, m_2, m_3, m_4, m_5, m_6, m_7, m_8, m_9, m_10, m_11, m_12, l_208, l_209, l_210, l_211, l_212, l_213, l_214, m_13, m_14, m_15, m_16, m_17, m_18, m_19, m_20, m_21, m_22, m_23, m_24, l_215, l_216, l_217, l_218, l_219, l_220, l_221, l_222, em_cell, em_in, em_has, em_refused, em_withBit, mv_b_d, pa_3]
  exact hK
theorem ct_X7_isPlayer {l : Launch} (hfl : l.stackTraces = false) : me_M l yX7_isPlayer (.code yX7_isPlayer cX7_isPlayer 1 (some .boolean)) 2 85 0 sp_m_isPlayer := me_meth (us := 0) (bl := cd_X7_isPlayer) (cs := cs_X7_isPlayer) (hd := []) hfl (by decide +kernel) rfl (by decide) ⟨by decide, by decide⟩ (by decide) ck_X7_isPlayer (by
    intro a ha
    simp only [List.mem_cons, List.not_mem_nil, or_false] at ha
    rcases ha with rfl
    · exact cl_X7_in (ct_X7_in hfl) (by decide) (by decide)) (by decide) mv_sx vc_X7_isPlayer

theorem go_X7_isTempo_0 {cs : Nat → Nat × me_P} {KR : me_K} {kx : (Nat → Nat → me_L → List me_S → me_V → me_U → Prop) → Nat → Nat → me_L → Nat → me_V → me_U → Prop} {km : Nat} {sx : me_Sc} {hd : List Nat} {Inv : Nat → Nat → me_L → List me_S → me_V → me_U → Prop} {n k : Nat} {L : me_L} {st : List me_S} {v : me_V} {w : me_U} (hn : (n == 0) = false) (h : hd.contains 0 = false) : me_go cs KR kx km sx cd_X7_isTempo hd Inv n 0 k L st v w = me_vb cs (me_go cs KR kx km sx cd_X7_isTempo hd Inv (n - 1)) KR (kx (me_go cs KR kx km sx cd_X7_isTempo hd Inv (n - 1))) km sx [(2, 0, 0, [], 1, 0, 0), (14, 18, 0, [], 3, 0, 0), (2, 0, 0, [], 1, 0, 0), (7, 0, 0, [], 1, 0, 0), (1, 30, 0, [], 3, 0, 1332), (1, 240, 0, [], 3, 0, 1333), (30, 126, 3, [1129], 3, 0, 1128), (14, 22, 0, [], 3, 0, 0)] 0 k L st v w := by
  rcases n with _ | n
  · cases hn
  · rw [mo_gb h]
    rfl
theorem lo_X7_isTempo_0 {cs : Nat → Nat × me_P} {J : Nat → Nat → me_L → List me_S → me_V → me_U → Prop} {KR : me_K} {KX : Nat → Nat → me_L → Nat → me_V → me_U → Prop} {km : Nat} {sx : me_Sc} {k : Nat} {L : me_L} {st : List me_S} {v : me_V} {w : me_U} : me_vb cs J KR KX km sx (me_bk cd_X7_isTempo 0) 0 k L st v w = me_vb cs J KR KX km sx [(2, 0, 0, [], 1, 0, 0), (14, 18, 0, [], 3, 0, 0), (2, 0, 0, [], 1, 0, 0), (7, 0, 0, [], 1, 0, 0), (1, 30, 0, [], 3, 0, 1332), (1, 240, 0, [], 3, 0, 1333), (30, 126, 3, [1129], 3, 0, 1128), (14, 22, 0, [], 3, 0, 0)] 0 k L st v w := rfl
theorem go_X7_isTempo_18 {cs : Nat → Nat × me_P} {KR : me_K} {kx : (Nat → Nat → me_L → List me_S → me_V → me_U → Prop) → Nat → Nat → me_L → Nat → me_V → me_U → Prop} {km : Nat} {sx : me_Sc} {hd : List Nat} {Inv : Nat → Nat → me_L → List me_S → me_V → me_U → Prop} {n k : Nat} {L : me_L} {st : List me_S} {v : me_V} {w : me_U} (hn : (n == 0) = false) (h : hd.contains 18 = false) : me_go cs KR kx km sx cd_X7_isTempo hd Inv n 18 k L st v w = me_vb cs (me_go cs KR kx km sx cd_X7_isTempo hd Inv (n - 1)) KR (kx (me_go cs KR kx km sx cd_X7_isTempo hd Inv (n - 1))) km sx [(0, 1, 0, [], 1, 0, 0), (16, 23, 0, [], 3, 0, 0)] 18 k L st v w := by
  rcases n with _ | n
  · cases hn
  · rw [mo_gb h]
    rfl
theorem lo_X7_isTempo_18 {cs : Nat → Nat × me_P} {J : Nat → Nat → me_L → List me_S → me_V → me_U → Prop} {KR : me_K} {KX : Nat → Nat → me_L → Nat → me_V → me_U → Prop} {km : Nat} {sx : me_Sc} {k : Nat} {L : me_L} {st : List me_S} {v : me_V} {w : me_U} : me_vb cs J KR KX km sx (me_bk cd_X7_isTempo 18) 18 k L st v w = me_vb cs J KR KX km sx [(0, 1, 0, [], 1, 0, 0), (16, 23, 0, [], 3, 0, 0)] 18 k L st v w := rfl
theorem go_X7_isTempo_22 {cs : Nat → Nat × me_P} {KR : me_K} {kx : (Nat → Nat → me_L → List me_S → me_V → me_U → Prop) → Nat → Nat → me_L → Nat → me_V → me_U → Prop} {km : Nat} {sx : me_Sc} {hd : List Nat} {Inv : Nat → Nat → me_L → List me_S → me_V → me_U → Prop} {n k : Nat} {L : me_L} {st : List me_S} {v : me_V} {w : me_U} (hn : (n == 0) = false) (h : hd.contains 22 = false) : me_go cs KR kx km sx cd_X7_isTempo hd Inv n 22 k L st v w = me_vb cs (me_go cs KR kx km sx cd_X7_isTempo hd Inv (n - 1)) KR (kx (me_go cs KR kx km sx cd_X7_isTempo hd Inv (n - 1))) km sx [(0, 0, 0, [], 1, 0, 0)] 22 k L st v w := by
  rcases n with _ | n
  · cases hn
  · rw [mo_gb h]
    rfl
theorem lo_X7_isTempo_22 {cs : Nat → Nat × me_P} {J : Nat → Nat → me_L → List me_S → me_V → me_U → Prop} {KR : me_K} {KX : Nat → Nat → me_L → Nat → me_V → me_U → Prop} {km : Nat} {sx : me_Sc} {k : Nat} {L : me_L} {st : List me_S} {v : me_V} {w : me_U} : me_vb cs J KR KX km sx (me_bk cd_X7_isTempo 22) 22 k L st v w = me_vb cs J KR KX km sx [(0, 0, 0, [], 1, 0, 0)] 22 k L st v w := rfl
theorem go_X7_isTempo_23 {cs : Nat → Nat × me_P} {KR : me_K} {kx : (Nat → Nat → me_L → List me_S → me_V → me_U → Prop) → Nat → Nat → me_L → Nat → me_V → me_U → Prop} {km : Nat} {sx : me_Sc} {hd : List Nat} {Inv : Nat → Nat → me_L → List me_S → me_V → me_U → Prop} {n k : Nat} {L : me_L} {st : List me_S} {v : me_V} {w : me_U} (hn : (n == 0) = false) (h : hd.contains 23 = false) : me_go cs KR kx km sx cd_X7_isTempo hd Inv n 23 k L st v w = me_vb cs (me_go cs KR kx km sx cd_X7_isTempo hd Inv (n - 1)) KR (kx (me_go cs KR kx km sx cd_X7_isTempo hd Inv (n - 1))) km sx [(34, 0, 0, [], 1, 0, 0)] 23 k L st v w := by
  rcases n with _ | n
  · cases hn
  · rw [mo_gb h]
    rfl
theorem lo_X7_isTempo_23 {cs : Nat → Nat × me_P} {J : Nat → Nat → me_L → List me_S → me_V → me_U → Prop} {KR : me_K} {KX : Nat → Nat → me_L → Nat → me_V → me_U → Prop} {km : Nat} {sx : me_Sc} {k : Nat} {L : me_L} {st : List me_S} {v : me_V} {w : me_U} : me_vb cs J KR KX km sx (me_bk cd_X7_isTempo 23) 23 k L st v w = me_vb cs J KR KX km sx [(34, 0, 0, [], 1, 0, 0)] 23 k L st v w := rfl
def cs_X7_isTempo : Nat → Nat × me_P := fun a => match a with
  | 126 => (0, sp_m_in)
  | _ => (0, fun _ _ _ _ _ => False)
set_option maxHeartbeats 1000000 in
set_option maxRecDepth 100000 in
theorem vc_X7_isTempo : mv_ok cs_X7_isTempo cd_X7_isTempo [] 0 1 sp_m_isTempo := by
  refine mv_flat 20 ?_
  intro as v w K X h
  obtain ⟨x, rfl, hK⟩ := as1 h
  obtain ⟨m_oc, m_0, m_1, m_2, m_3, m_4, m_5, m_6, m_7, m_8, m_9, m_10, m_11, m_12, l_208, l_209, l_210, l_211, l_212, l_213, l_214⟩ := mf_f
  obtain ⟨m_13, m_14, m_15, m_16, m_17, m_18, m_19, m_20, m_21, m_22, m_23, m_24, l_215, l_216, l_217, l_218, l_219, l_220, l_221, l_222⟩ := mg_f
  refine ⟨Nat.le_of_ble_eq_true rfl, fun Inv => ?_⟩
  simp only [↓mo_vb, ↓mo_ve, ↓mo_gi, ↓mo_0, ↓mo_1, ↓mo_2, ↓mo_3i, ↓mo_3l, ↓mo_3r, ↓mo_3q, ↓mo_4_0, ↓mo_4_1, ↓mo_4_2, ↓mo_4_3, ↓mo_4_4, ↓mo_4_5, ↓mo_4_6, ↓mo_4_7, ↓mo_4_8, ↓mo_4_9, ↓mo_4_10, ↓mo_5_0, ↓mo_5_1, ↓mo_5_2, ↓mo_5_3, ↓mo_5_4, ↓mo_5_8, ↓mo_5_9, ↓mo_6_0, ↓mo_6_1, ↓mo_7, ↓mo_8, ↓mo_9, ↓mo_10i, ↓mo_10r, ↓mo_10q, ↓mo_11ir, ↓mo_12i, ↓mo_13, ↓mo_13m, ↓mo_14_0, ↓mo_15_0, ↓mo_14_1, ↓mo_15_1, ↓mo_14_2, ↓mo_15_2, ↓mo_14_3, ↓mo_15_3, ↓mo_14_4, ↓mo_15_4, ↓mo_14_5, ↓mo_15_5, ↓mo_16, ↓mo_17, ↓mo_18, ↓mo_19, ↓mo_20i, ↓mo_20z, ↓mo_20l, ↓mo_21, ↓mo_22, ↓mo_23, ↓mo_24, ↓mo_25, ↓mo_27, ↓mo_26, ↓mo_28, ↓mo_31, ↓mo_32, ↓mo_33, ↓mo_34, ↓mo_35, ↓mo_36, ↓mo_37, ↓mo_39, ↓mo_40, ↓mo_30_0, ↓mo_41_0, ↓mo_29_0, ↓mo_30_1, ↓mo_41_1, ↓mo_29_1, ↓mo_30_2, ↓mo_41_2, ↓mo_29_2, ↓mo_30_3, ↓mo_41_3, ↓mo_29_3, ↓mo_30_4, ↓mo_41_4, ↓mo_29_4, ↓mo_30_5, ↓mo_41_5, ↓mo_29_5, ↓me_tb, ↓me_lu, me_t2i, me_t2l, me_t2r, me_t2q, me_t13i, me_t19a, me_t19b, me_t19c, me_t19d, me_tae, me_t28e, me_t36e, ↓me_kn_d, ↓me_ky_d, me_ca_e, me_sv_d, me_in_n, me_in_c, decide_true, decide_false, me_rm_n, me_rm_c, me_lk_c, me_kdI, me_kdL, me_kdR, me_kdQ, me_ag_n, me_agI, me_agL, me_agR, me_agQ, me_w9n, me_w9I, me_w9L, me_w9R, me_w9Q, me_psN, me_psS, mn_0, mn_1, mn_00, mn_10, mn_01, mn_11, or_true, true_or, mn_c0, mn_c1, mn_l0, mn_l1, eq_self, List.contains_nil, List.contains_cons, List.elem_nil, List.elem_cons, List.contains_eq_mem, List.not_mem_nil, List.mem_cons, decide_false, decide_true, or_false, false_or, Bool.or_false, Bool.false_or, List.length_cons, List.length_nil, Nat.reduceAdd, Nat.reduceSub, Nat.reduceMul, Nat.reduceBEq, Nat.reduceEqDiff, Nat.reduceLT, Nat.reduceLeDiff, reduceCtorEq, if_true, if_false, ite_true, ite_false, true_and, and_true, Bool.and_true, Bool.true_and, Bool.and_false, Bool.false_and, Bool.not_true, Bool.not_false, Bool.or_true, Bool.true_or, cond_true, cond_false, not_false_eq_true, not_true_eq_false, true_implies, false_implies, implies_true, Nat.le_refl, Nat.add_zero, Nat.zero_add, Nat.zero_le, ↓mo_gi, cs_X7_isTempo, ↓go_X7_isTempo_0, ↓lo_X7_isTempo_0, ↓go_X7_isTempo_18, ↓lo_X7_isTempo_18, ↓go_X7_isTempo_22, ↓lo_X7_isTempo_22, ↓go_X7_isTempo_23, ↓lo_X7_isTempo_23, m_oc, m_0, m_1, m_2, m_3, m_4, m_5, m_6, m_7, m_8, m_9, m_10, m_11, m_12, l_208, l_209, l_210, l_211, l_212, l_213, l_214, m_13, m_14, m_15, m_16, m_17, m_18, m_19, m_20, m_21, m_22, m_23, m_24, l_215, l_216, l_217, l_218, l_219, l_220, l_221, l_222, em_cell, em_in, em_has, em_refused, em_withBit, mv_b_d, inI x (show 30 < 2 ^ 31 by omega) (show 240 < 2 ^ 31 by omega)]
  exact ⟨fun h => hK.1 (Or.inl h), fun h => ⟨fun h2 => hK.1 (Or.inr h2), fun h2 => hK.2 (fun z => z.elim h h2)⟩⟩
theorem ct_X7_isTempo {l : Launch} (hfl : l.stackTraces = false) : me_M l yX7_isTempo (.code yX7_isTempo cX7_isTempo 1 (some .boolean)) 2 85 0 sp_m_isTempo := me_meth (us := 0) (bl := cd_X7_isTempo) (cs := cs_X7_isTempo) (hd := []) hfl (by decide +kernel) rfl (by decide) ⟨by decide, by decide⟩ (by decide) ck_X7_isTempo (by
    intro a ha
    simp only [List.mem_cons, List.not_mem_nil, or_false] at ha
    rcases ha with rfl
    · exact cl_X7_in (ct_X7_in hfl) (by decide) (by decide)) (by decide) mv_sx vc_X7_isTempo
def sp_m_isBeat : me_P := fun as v w K _ => ∃ (r j : Nat) (x : Int32) (S : sc_T), as = [vR r, vI (nI j), vI x] ∧ ro_ok r ∧ mr_at (v r) S ∧ sc_wf S ∧ j < S 0 0 ∧ mv_b (1 ≤ x ∧ x ≤ nI (S 1 j)) K v w
theorem go_X7_isBeat_0 {cs : Nat → Nat × me_P} {KR : me_K} {kx : (Nat → Nat → me_L → List me_S → me_V → me_U → Prop) → Nat → Nat → me_L → Nat → me_V → me_U → Prop} {km : Nat} {sx : me_Sc} {hd : List Nat} {Inv : Nat → Nat → me_L → List me_S → me_V → me_U → Prop} {n k : Nat} {L : me_L} {st : List me_S} {v : me_V} {w : me_U} (hn : (n == 0) = false) (h : hd.contains 0 = false) : me_go cs KR kx km sx cd_X7_isBeat hd Inv n 0 k L st v w = me_vb cs (me_go cs KR kx km sx cd_X7_isBeat hd Inv (n - 1)) KR (kx (me_go cs KR kx km sx cd_X7_isBeat hd Inv (n - 1))) km sx [(2, 2, 0, [], 1, 0, 0), (7, 0, 0, [], 1, 0, 0), (1, 1, 0, [], 1, 0, 0), (2, 0, 2, [], 1, 0, 0), (2, 1, 0, [], 1, 0, 0), (0, 0, 0, [], 1, 0, 0), (30, 133, 2, [1168], 3, 0, 1167), (21, 0, 0, [], 1, 0, 0), (7, 0, 0, [], 1, 0, 0), (30, 126, 3, [1129], 3, 0, 1128), (34, 0, 0, [], 1, 0, 0)] 0 k L st v w := by
  rcases n with _ | n
  · cases hn
  · rw [mo_gb h]
    rfl
theorem lo_X7_isBeat_0 {cs : Nat → Nat × me_P} {J : Nat → Nat → me_L → List me_S → me_V → me_U → Prop} {KR : me_K} {KX : Nat → Nat → me_L → Nat → me_V → me_U → Prop} {km : Nat} {sx : me_Sc} {k : Nat} {L : me_L} {st : List me_S} {v : me_V} {w : me_U} : me_vb cs J KR KX km sx (me_bk cd_X7_isBeat 0) 0 k L st v w = me_vb cs J KR KX km sx [(2, 2, 0, [], 1, 0, 0), (7, 0, 0, [], 1, 0, 0), (1, 1, 0, [], 1, 0, 0), (2, 0, 2, [], 1, 0, 0), (2, 1, 0, [], 1, 0, 0), (0, 0, 0, [], 1, 0, 0), (30, 133, 2, [1168], 3, 0, 1167), (21, 0, 0, [], 1, 0, 0), (7, 0, 0, [], 1, 0, 0), (30, 126, 3, [1129], 3, 0, 1128), (34, 0, 0, [], 1, 0, 0)] 0 k L st v w := rfl
def cs_X7_isBeat : Nat → Nat × me_P := fun a => match a with
  | 126 => (0, sp_m_in)
  | 133 => (0, sp_m_cell)
  | _ => (0, fun _ _ _ _ _ => False)
set_option maxHeartbeats 1000000 in
set_option maxRecDepth 100000 in
theorem vc_X7_isBeat : mv_ok cs_X7_isBeat cd_X7_isBeat [] 0 3 sp_m_isBeat := by
  refine mv_flat 20 ?_
  intro as v w K X h
  obtain ⟨r, j, x, S, rfl, hr, hM, hwf, hj, hK⟩ := h
  obtain ⟨m_oc, m_0, m_1, m_2, m_3, m_4, m_5, m_6, m_7, m_8, m_9, m_10, m_11, m_12, l_208, l_209, l_210, l_211, l_212, l_213, l_214⟩ := mf_f
  obtain ⟨m_13, m_14, m_15, m_16, m_17, m_18, m_19, m_20, m_21, m_22, m_23, m_24, l_215, l_216, l_217, l_218, l_219, l_220, l_221, l_222⟩ := mg_f
  unfold ro_ok at hr
  have h24 := hwf.1
  have b1 := hwf.2.2.1 j hj
  have e1 := (hM.2.2.2.2 j hj).1
  have q : (lN 1 ≤ x.toInt64 ∧ x.toInt64 ≤ (nI (S 1 j)).toInt64) = (1 ≤ x ∧ x ≤ nI (S 1 j)) := by
    rw [nI_l (show S 1 j < 2 ^ 31 by omega), inI x (by omega) (by omega)]
    rfl
  refine ⟨Nat.le_of_ble_eq_true rfl, fun Inv => ?_⟩
  simp only [↓mo_vb, ↓mo_ve, ↓mo_gi, ↓mo_0, ↓mo_1, ↓mo_2, ↓mo_3i, ↓mo_3l, ↓mo_3r, ↓mo_3q, ↓mo_4_0, ↓mo_4_1, ↓mo_4_2, ↓mo_4_3, ↓mo_4_4, ↓mo_4_5, ↓mo_4_6, ↓mo_4_7, ↓mo_4_8, ↓mo_4_9, ↓mo_4_10, ↓mo_5_0, ↓mo_5_1, ↓mo_5_2, ↓mo_5_3, ↓mo_5_4, ↓mo_5_8, ↓mo_5_9, ↓mo_6_0, ↓mo_6_1, ↓mo_7, ↓mo_8, ↓mo_9, ↓mo_10i, ↓mo_10r, ↓mo_10q, ↓mo_11ir, ↓mo_12i, ↓mo_13, ↓mo_13m, ↓mo_14_0, ↓mo_15_0, ↓mo_14_1, ↓mo_15_1, ↓mo_14_2, ↓mo_15_2, ↓mo_14_3, ↓mo_15_3, ↓mo_14_4, ↓mo_15_4, ↓mo_14_5, ↓mo_15_5, ↓mo_16, ↓mo_17, ↓mo_18, ↓mo_19, ↓mo_20i, ↓mo_20z, ↓mo_20l, ↓mo_21, ↓mo_22, ↓mo_23, ↓mo_24, ↓mo_25, ↓mo_27, ↓mo_26, ↓mo_28, ↓mo_31, ↓mo_32, ↓mo_33, ↓mo_34, ↓mo_35, ↓mo_36, ↓mo_37, ↓mo_39, ↓mo_40, ↓mo_30_0, ↓mo_41_0, ↓mo_29_0, ↓mo_30_1, ↓mo_41_1, ↓mo_29_1, ↓mo_30_2, ↓mo_41_2, ↓mo_29_2, ↓mo_30_3, ↓mo_41_3, ↓mo_29_3, ↓mo_30_4, ↓mo_41_4, ↓mo_29_4, ↓mo_30_5, ↓mo_41_5, ↓mo_29_5, ↓me_tb, ↓me_lu, me_t2i, me_t2l, me_t2r, me_t2q, me_t13i, me_t19a, me_t19b, me_t19c, me_t19d, me_tae, me_t28e, me_t36e, ↓me_kn_d, ↓me_ky_d, me_ca_e, me_sv_d, me_in_n, me_in_c, decide_true, decide_false, me_rm_n, me_rm_c, me_lk_c, me_kdI, me_kdL, me_kdR, me_kdQ, me_ag_n, me_agI, me_agL, me_agR, me_agQ, me_w9n, me_w9I, me_w9L, me_w9R, me_w9Q, me_psN, me_psS, mn_0, mn_1, mn_00, mn_10, mn_01, mn_11, or_true, true_or, mn_c0, mn_c1, mn_l0, mn_l1, eq_self, List.contains_nil, List.contains_cons, List.elem_nil, List.elem_cons, List.contains_eq_mem, List.not_mem_nil, List.mem_cons, decide_false, decide_true, or_false, false_or, Bool.or_false, Bool.false_or, List.length_cons, List.length_nil, Nat.reduceAdd, Nat.reduceSub, Nat.reduceMul, Nat.reduceBEq, Nat.reduceEqDiff, Nat.reduceLT, Nat.reduceLeDiff, reduceCtorEq, if_true, if_false, ite_true, ite_false, true_and, and_true, Bool.and_true, Bool.true_and, Bool.and_false, Bool.false_and, Bool.not_true, Bool.not_false, Bool.or_true, Bool.true_or, cond_true, cond_false, not_false_eq_true, not_true_eq_false, true_implies, false_implies, implies_true, Nat.le_refl, Nat.add_zero, Nat.zero_add, Nat.zero_le, ↓mo_gi, cs_X7_isBeat, ↓go_X7_isBeat_0, ↓lo_X7_isBeat_0, m_oc, m_0, m_1, m_2, m_3, m_4, m_5, m_6, m_7, m_8, m_9, m_10, m_11, m_12, l_208, l_209, l_210, l_211, l_212, l_213, l_214, m_13, m_14, m_15, m_16, m_17, m_18, m_19, m_20, m_21, m_22, m_23, m_24, l_215, l_216, l_217, l_218, l_219, l_220, l_221, l_222, em_cell, em_in, em_has, em_refused, em_withBit, mv_b_d, hr, pk_mul, nI_add, nI_1, Int32.add_zero, Nat.add_zero, nI_clamp (show 17 + 12 * j < 2 ^ 31 by omega), e1, q]
  exact ⟨vp_in_nI (by omega) (by omega), hK⟩
theorem ct_X7_isBeat {l : Launch} (hfl : l.stackTraces = false) : me_M l yX7_isBeat (.code yX7_isBeat cX7_isBeat 3 (some .boolean)) 2 85 0 sp_m_isBeat := me_meth (us := 0) (bl := cd_X7_isBeat) (cs := cs_X7_isBeat) (hd := []) hfl (by decide +kernel) rfl (by decide) ⟨by decide, by decide⟩ (by decide) ck_X7_isBeat (by
    intro a ha
    simp only [List.mem_cons, List.not_mem_nil, or_false] at ha
    rcases ha with rfl | rfl
    · exact cl_X7_in (ct_X7_in hfl) (by decide) (by decide)
    · exact cl_X7_cell (ct_X7_cell hfl) (by decide) (by decide)) (by decide) mv_sx vc_X7_isBeat
def sp_m_append : me_P := fun as v w K _ => ∃ (G : gs_T) (x : Int32), as = [vR 207, vI x] ∧ md_at v G ∧ mp (re_append G x) v w K
theorem go_X7_append_0 {cs : Nat → Nat × me_P} {KR : me_K} {kx : (Nat → Nat → me_L → List me_S → me_V → me_U → Prop) → Nat → Nat → me_L → Nat → me_V → me_U → Prop} {km : Nat} {sx : me_Sc} {hd : List Nat} {Inv : Nat → Nat → me_L → List me_S → me_V → me_U → Prop} {n k : Nat} {L : me_L} {st : List me_S} {v : me_V} {w : me_U} (hn : (n == 0) = false) (h : hd.contains 0 = false) : me_go cs KR kx km sx cd_X7_append hd Inv n 0 k L st v w = me_vb cs (me_go cs KR kx km sx cd_X7_append hd Inv (n - 1)) KR (kx (me_go cs KR kx km sx cd_X7_append hd Inv (n - 1))) km sx [(2, 0, 2, [], 1, 0, 0), (2, 1, 0, [], 1, 0, 0), (7, 0, 0, [], 1, 0, 0), (1, 0, 0, [], 1, 0, 0), (1, 255, 0, [], 3, 0, 1127), (30, 126, 3, [1129], 3, 0, 1128), (14, 17, 1, [], 3, 0, 0), (0, 1, 0, [], 1, 0, 0), (16, 32, 0, [], 3, 0, 0)] 0 k L st v w := by
  rcases n with _ | n
  · cases hn
  · rw [mo_gb h]
    rfl
theorem lo_X7_append_0 {cs : Nat → Nat × me_P} {J : Nat → Nat → me_L → List me_S → me_V → me_U → Prop} {KR : me_K} {KX : Nat → Nat → me_L → Nat → me_V → me_U → Prop} {km : Nat} {sx : me_Sc} {k : Nat} {L : me_L} {st : List me_S} {v : me_V} {w : me_U} : me_vb cs J KR KX km sx (me_bk cd_X7_append 0) 0 k L st v w = me_vb cs J KR KX km sx [(2, 0, 2, [], 1, 0, 0), (2, 1, 0, [], 1, 0, 0), (7, 0, 0, [], 1, 0, 0), (1, 0, 0, [], 1, 0, 0), (1, 255, 0, [], 3, 0, 1127), (30, 126, 3, [1129], 3, 0, 1128), (14, 17, 1, [], 3, 0, 0), (0, 1, 0, [], 1, 0, 0), (16, 32, 0, [], 3, 0, 0)] 0 k L st v w := rfl
theorem go_X7_append_17 {cs : Nat → Nat × me_P} {KR : me_K} {kx : (Nat → Nat → me_L → List me_S → me_V → me_U → Prop) → Nat → Nat → me_L → Nat → me_V → me_U → Prop} {km : Nat} {sx : me_Sc} {hd : List Nat} {Inv : Nat → Nat → me_L → List me_S → me_V → me_U → Prop} {n k : Nat} {L : me_L} {st : List me_S} {v : me_V} {w : me_U} (hn : (n == 0) = false) (h : hd.contains 17 = false) : me_go cs KR kx km sx cd_X7_append hd Inv n 17 k L st v w = me_vb cs (me_go cs KR kx km sx cd_X7_append hd Inv (n - 1)) KR (kx (me_go cs KR kx km sx cd_X7_append hd Inv (n - 1))) km sx [(2, 0, 2, [], 1, 0, 0), (19, 7, 2, [], 3, 0, 1045), (0, 160, 0, [], 3, 0, 0), (15, 31, 1, [], 3, 0, 0), (0, 2, 0, [], 1, 0, 0), (16, 32, 0, [], 3, 0, 0)] 17 k L st v w := by
  rcases n with _ | n
  · cases hn
  · rw [mo_gb h]
    rfl
theorem lo_X7_append_17 {cs : Nat → Nat × me_P} {J : Nat → Nat → me_L → List me_S → me_V → me_U → Prop} {KR : me_K} {KX : Nat → Nat → me_L → Nat → me_V → me_U → Prop} {km : Nat} {sx : me_Sc} {k : Nat} {L : me_L} {st : List me_S} {v : me_V} {w : me_U} : me_vb cs J KR KX km sx (me_bk cd_X7_append 17) 17 k L st v w = me_vb cs J KR KX km sx [(2, 0, 2, [], 1, 0, 0), (19, 7, 2, [], 3, 0, 1045), (0, 160, 0, [], 3, 0, 0), (15, 31, 1, [], 3, 0, 0), (0, 2, 0, [], 1, 0, 0), (16, 32, 0, [], 3, 0, 0)] 17 k L st v w := rfl
theorem go_X7_append_31 {cs : Nat → Nat × me_P} {KR : me_K} {kx : (Nat → Nat → me_L → List me_S → me_V → me_U → Prop) → Nat → Nat → me_L → Nat → me_V → me_U → Prop} {km : Nat} {sx : me_Sc} {hd : List Nat} {Inv : Nat → Nat → me_L → List me_S → me_V → me_U → Prop} {n k : Nat} {L : me_L} {st : List me_S} {v : me_V} {w : me_U} (hn : (n == 0) = false) (h : hd.contains 31 = false) : me_go cs KR kx km sx cd_X7_append hd Inv n 31 k L st v w = me_vb cs (me_go cs KR kx km sx cd_X7_append hd Inv (n - 1)) KR (kx (me_go cs KR kx km sx cd_X7_append hd Inv (n - 1))) km sx [(0, 0, 0, [], 1, 0, 0)] 31 k L st v w := by
  rcases n with _ | n
  · cases hn
  · rw [mo_gb h]
    rfl
theorem lo_X7_append_31 {cs : Nat → Nat × me_P} {J : Nat → Nat → me_L → List me_S → me_V → me_U → Prop} {KR : me_K} {KX : Nat → Nat → me_L → Nat → me_V → me_U → Prop} {km : Nat} {sx : me_Sc} {k : Nat} {L : me_L} {st : List me_S} {v : me_V} {w : me_U} : me_vb cs J KR KX km sx (me_bk cd_X7_append 31) 31 k L st v w = me_vb cs J KR KX km sx [(0, 0, 0, [], 1, 0, 0)] 31 k L st v w := rfl
theorem go_X7_append_32 {cs : Nat → Nat × me_P} {KR : me_K} {kx : (Nat → Nat → me_L → List me_S → me_V → me_U → Prop) → Nat → Nat → me_L → Nat → me_V → me_U → Prop} {km : Nat} {sx : me_Sc} {hd : List Nat} {Inv : Nat → Nat → me_L → List me_S → me_V → me_U → Prop} {n k : Nat} {L : me_L} {st : List me_S} {v : me_V} {w : me_U} (hn : (n == 0) = false) (h : hd.contains 32 = false) : me_go cs KR kx km sx cd_X7_append hd Inv n 32 k L st v w = me_vb cs (me_go cs KR kx km sx cd_X7_append hd Inv (n - 1)) KR (kx (me_go cs KR kx km sx cd_X7_append hd Inv (n - 1))) km sx [(29, 125, 1, [7, 1133, 29], 3, 0, 1131), (14, 40, 0, [], 3, 0, 0), (0, 0, 0, [], 1, 0, 0), (32, 0, 0, [], 1, 0, 0)] 32 k L st v w := by
  rcases n with _ | n
  · cases hn
  · rw [mo_gb h]
    rfl
theorem lo_X7_append_32 {cs : Nat → Nat × me_P} {J : Nat → Nat → me_L → List me_S → me_V → me_U → Prop} {KR : me_K} {KX : Nat → Nat → me_L → Nat → me_V → me_U → Prop} {km : Nat} {sx : me_Sc} {k : Nat} {L : me_L} {st : List me_S} {v : me_V} {w : me_U} : me_vb cs J KR KX km sx (me_bk cd_X7_append 32) 32 k L st v w = me_vb cs J KR KX km sx [(29, 125, 1, [7, 1133, 29], 3, 0, 1131), (14, 40, 0, [], 3, 0, 0), (0, 0, 0, [], 1, 0, 0), (32, 0, 0, [], 1, 0, 0)] 32 k L st v w := rfl
theorem go_X7_append_40 {cs : Nat → Nat × me_P} {KR : me_K} {kx : (Nat → Nat → me_L → List me_S → me_V → me_U → Prop) → Nat → Nat → me_L → Nat → me_V → me_U → Prop} {km : Nat} {sx : me_Sc} {hd : List Nat} {Inv : Nat → Nat → me_L → List me_S → me_V → me_U → Prop} {n k : Nat} {L : me_L} {st : List me_S} {v : me_V} {w : me_U} (hn : (n == 0) = false) (h : hd.contains 40 = false) : me_go cs KR kx km sx cd_X7_append hd Inv n 40 k L st v w = me_vb cs (me_go cs KR kx km sx cd_X7_append hd Inv (n - 1)) KR (kx (me_go cs KR kx km sx cd_X7_append hd Inv (n - 1))) km sx [(2, 0, 2, [], 1, 0, 0), (19, 7, 1, [], 3, 0, 1044), (2, 0, 2, [], 1, 0, 0), (19, 7, 2, [], 3, 0, 1045), (2, 1, 0, [], 1, 0, 0), (22, 0, 0, [], 1, 0, 0), (2, 0, 2, [], 1, 0, 0), (10, 0, 0, [], 1, 0, 0), (19, 7, 2, [], 3, 0, 1045), (0, 1, 0, [], 1, 0, 0), (4, 0, 0, [], 1, 0, 0), (20, 7, 2, [], 3, 0, 1045), (2, 0, 2, [], 1, 0, 0), (19, 7, 2, [], 3, 0, 1045), (32, 0, 0, [], 1, 0, 0)] 40 k L st v w := by
  rcases n with _ | n
  · cases hn
  · rw [mo_gb h]
    rfl
theorem lo_X7_append_40 {cs : Nat → Nat × me_P} {J : Nat → Nat → me_L → List me_S → me_V → me_U → Prop} {KR : me_K} {KX : Nat → Nat → me_L → Nat → me_V → me_U → Prop} {km : Nat} {sx : me_Sc} {k : Nat} {L : me_L} {st : List me_S} {v : me_V} {w : me_U} : me_vb cs J KR KX km sx (me_bk cd_X7_append 40) 40 k L st v w = me_vb cs J KR KX km sx [(2, 0, 2, [], 1, 0, 0), (19, 7, 1, [], 3, 0, 1044), (2, 0, 2, [], 1, 0, 0), (19, 7, 2, [], 3, 0, 1045), (2, 1, 0, [], 1, 0, 0), (22, 0, 0, [], 1, 0, 0), (2, 0, 2, [], 1, 0, 0), (10, 0, 0, [], 1, 0, 0), (19, 7, 2, [], 3, 0, 1045), (0, 1, 0, [], 1, 0, 0), (4, 0, 0, [], 1, 0, 0), (20, 7, 2, [], 3, 0, 1045), (2, 0, 2, [], 1, 0, 0), (19, 7, 2, [], 3, 0, 1045), (32, 0, 0, [], 1, 0, 0)] 40 k L st v w := rfl
def cs_X7_append : Nat → Nat × me_P := fun a => match a with
  | 125 => (0, sp_m_refused)
  | 126 => (0, sp_m_in)
  | _ => (0, fun _ _ _ _ _ => False)
set_option maxHeartbeats 1000000 in
set_option maxRecDepth 100000 in
theorem vc_X7_append : mv_ok cs_X7_append cd_X7_append [] 0 2 sp_m_append := by
  refine mv_flat 30 ?_

  intro as v w K X h
  obtain ⟨G, x, rfl, hG, hK⟩ := h
  obtain ⟨m_oc, m_0, m_1, m_2, m_3, m_4, m_5, m_6, m_7, m_8, m_9, m_10, m_11, m_12, l_208, l_209, l_210, l_211, l_212, l_213, l_214⟩ := mf_f
  obtain ⟨m_13, m_14, m_15, m_16, m_17, m_18, m_19, m_20, m_21, m_22, m_23, m_24, l_215, l_216, l_217, l_218, l_219, l_220, l_221, l_222⟩ := mg_f
  obtain ⟨hT, ⟨hM, hwf⟩, hH, hKs⟩ := id hG
  have h24 := hwf.1
  have h04 := hwf.2.1
  have M0 : v 210 0 = nI (G.2.2.1 0 0) := hM.1
  have M1 : v 210 1 = nI (G.2.2.1 0 1) := hM.2.1
  have w0 : vp_in 0 305 := vi0 (by omega) (by omega)
  have w1 : vp_in 1 305 := vi1 (by omega) (by omega)
  have hM0 : mr_at (me_up v 207 0 0 210) G.2.2.1 := by rw [me_up_n _ _ _ (by omega)]; exact hM
  unfold re_append at hK
  refine ⟨Nat.le_of_ble_eq_true rfl, fun Inv => ?_⟩
  obtain ⟨x1, x2, x3⟩ := hT
  have x1b : me_up v 207 0 0 207 2 = nI G.1 := by rw [up_o (by omega)]; exact x1
  have q2 : (nI G.1 = nI 160) = (G.1 = 160) := nI_eqs (by omega) (by omega)
  have fin : ∀ d, d ≤ 255 → x = nI d → G.1 < 160 → K (some (vI (nI (G.1 + 1)))) (me_up (me_up (me_up v 207 0 0) 208 G.1 x) 207 2 (nI (G.1 + 1))) w := by
    rintro d hd rfl hlt
    have hx : ∀ c, c ≠ 207 → c ≠ 208 → me_up (me_up (me_up v 207 0 0) 208 G.1 (nI d)) 207 2 (nI (G.1 + 1)) c = v c := fun c h1 h2 => by rw [me_up_n _ _ _ h1, me_up_n _ _ _ h2, me_up_n _ _ _ h1]
    refine mp3_0 hK ⟨by rw [← mn_0]; exact (nI_leI (by omega) (by omega)).mpr (by omega), (nI_leI (by omega) (by omega)).mpr hd⟩ hlt ⟨rfl, rfl⟩ ?_ (fr_v _ (fun c hc => hx c (by omega) (by omega))) ?_
    · rw [up_o (by omega), me_up_n _ _ _ (by omega), up_s]
    · refine ⟨⟨up_s, hlt, fun k hk => ?_⟩, ⟨by rw [hx 210 (by omega) (by omega)]; exact hM, hwf⟩, ?_, fun s hs => by rw [hx 213 (by omega) (by omega), hx 214 (by omega) (by omega)]; exact hKs s hs⟩
      · show me_up (me_up (me_up v 207 0 0) 208 G.1 (nI d)) 207 2 (nI (G.1 + 1)) 208 k = nI (if k = G.1 then cn (nI d) else G.2.1 k) ∧ (if k = G.1 then cn (nI d) else G.2.1 k) < 256
        rw [me_up_n _ _ _ (by omega), cn_n (by omega)]
        by_cases he : k = G.1
        · rw [if_pos he, he, up_s]
          exact ⟨rfl, by omega⟩
        · rw [if_neg he, up_o he, me_up_n _ _ _ (by omega)]
          exact x3 k (by have hk2 : k < G.1 + 1 := hk; omega)
      · unfold mh_at
        rw [hx 212 (by omega) (by omega), up_o (by omega), me_up_n _ _ _ (by omega), up_o (by omega)]
        exact hH
  have x2b : ∀ d, me_up (me_up v 207 0 0) 208 G.1 d 207 2 = nI G.1 := fun d => by rw [me_up_n _ _ _ (by omega)]; exact x1b
  have x3b : ∀ d, me_up (me_up (me_up v 207 0 0) 208 G.1 d) 207 2 (nI (G.1 + 1)) 207 2 = nI (G.1 + 1) := fun d => up_s
  simp only [↓mo_vb, ↓mo_ve, ↓mo_gi, ↓mo_0, ↓mo_1, ↓mo_2, ↓mo_3i, ↓mo_3l, ↓mo_3r, ↓mo_3q, ↓mo_4_0, ↓mo_4_1, ↓mo_4_2, ↓mo_4_3, ↓mo_4_4, ↓mo_4_5, ↓mo_4_6, ↓mo_4_7, ↓mo_4_8, ↓mo_4_9, ↓mo_4_10, ↓mo_5_0, ↓mo_5_1, ↓mo_5_2, ↓mo_5_3, ↓mo_5_4, ↓mo_5_8, ↓mo_5_9, ↓mo_6_0, ↓mo_6_1, ↓mo_7, ↓mo_8, ↓mo_9, ↓mo_10i, ↓mo_10r, ↓mo_10q, ↓mo_11ir, ↓mo_12i, ↓mo_13, ↓mo_13m, ↓mo_14_0, ↓mo_15_0, ↓mo_14_1, ↓mo_15_1, ↓mo_14_2, ↓mo_15_2, ↓mo_14_3, ↓mo_15_3, ↓mo_14_4, ↓mo_15_4, ↓mo_14_5, ↓mo_15_5, ↓mo_16, ↓mo_17, ↓mo_18, ↓mo_19, ↓mo_20i, ↓mo_20z, ↓mo_20l, ↓mo_21, ↓mo_22, ↓mo_23, ↓mo_24, ↓mo_25, ↓mo_27, ↓mo_26, ↓mo_28, ↓mo_31, ↓mo_32, ↓mo_33, ↓mo_34, ↓mo_35, ↓mo_36, ↓mo_37, ↓mo_39, ↓mo_40, ↓mo_30_0, ↓mo_41_0, ↓mo_29_0, ↓mo_30_1, ↓mo_41_1, ↓mo_29_1, ↓mo_30_2, ↓mo_41_2, ↓mo_29_2, ↓mo_30_3, ↓mo_41_3, ↓mo_29_3, ↓mo_30_4, ↓mo_41_4, ↓mo_29_4, ↓mo_30_5, ↓mo_41_5, ↓mo_29_5, ↓me_tb, ↓me_lu, me_t2i, me_t2l, me_t2r, me_t2q, me_t13i, me_t19a, me_t19b, me_t19c, me_t19d, me_tae, me_t28e, me_t36e, ↓me_kn_d, ↓me_ky_d, me_ca_e, me_sv_d, me_in_n, me_in_c, decide_true, decide_false, me_rm_n, me_rm_c, me_lk_c, me_kdI, me_kdL, me_kdR, me_kdQ, me_ag_n, me_agI, me_agL, me_agR, me_agQ, me_w9n, me_w9I, me_w9L, me_w9R, me_w9Q, me_psN, me_psS, mn_0, mn_1, mn_00, mn_10, mn_01, mn_11, or_true, true_or, mn_c0, mn_c1, mn_l0, mn_l1, eq_self, List.contains_nil, List.contains_cons, List.elem_nil, List.elem_cons, List.contains_eq_mem, List.not_mem_nil, List.mem_cons, decide_false, decide_true, or_false, false_or, Bool.or_false, Bool.false_or, List.length_cons, List.length_nil, Nat.reduceAdd, Nat.reduceSub, Nat.reduceMul, Nat.reduceBEq, Nat.reduceEqDiff, Nat.reduceLT, Nat.reduceLeDiff, reduceCtorEq, if_true, if_false, ite_true, ite_false, true_and, and_true, Bool.and_true, Bool.true_and, Bool.and_false, Bool.false_and, Bool.not_true, Bool.not_false, Bool.or_true, Bool.true_or, cond_true, cond_false, not_false_eq_true, not_true_eq_false, true_implies, false_implies, implies_true, Nat.le_refl, Nat.add_zero, Nat.zero_add, Nat.zero_le, ↓mo_gi, cs_X7_append, ↓go_X7_append_0, ↓lo_X7_append_0, ↓go_X7_append_17, ↓lo_X7_append_17, ↓go_X7_append_31, ↓lo_X7_append_31, ↓go_X7_append_32, ↓lo_X7_append_32, ↓go_X7_append_40, ↓lo_X7_append_40, m_oc, m_0, m_1, m_2, m_3, m_4, m_5, m_6, m_7, m_8, m_9, m_10, m_11, m_12, l_208, l_209, l_210, l_211, l_212, l_213, l_214, m_13, m_14, m_15, m_16, m_17, m_18, m_19, m_20, m_21, m_22, m_23, m_24, l_215, l_216, l_217, l_218, l_219, l_220, l_221, l_222, em_cell, em_in, em_has, em_refused, em_withBit, mv_b_d, em_isBar, em_isPart, em_isPlayer, em_isTempo, p00, p01, p02, p03, inI x (show 0 < 2 ^ 31 by omega) (show 255 < 2 ^ 31 by omega), x1, x1b, x2b, x3b, nI_1, q2, nI_clamp (show G.1 < 2 ^ 31 by omega)]
  refine ⟨fun ha => ⟨fun h => ?_, fun h => ?_⟩, fun ha => mp3_1 hK ha hG⟩
  · obtain ⟨d, hd, hxd⟩ := bt_nI0 (by omega) ha
    exact ⟨vp_in_nI (by omega) (by omega), fin d hd hxd (by omega)⟩
  · exact mp3_2 hK ha (by omega) hG
theorem ct_X7_append {l : Launch} (hfl : l.stackTraces = false) : me_M l yX7_append (.code yX7_append cX7_append 2 (some .int)) 2 85 0 sp_m_append := me_meth (us := 0) (bl := cd_X7_append) (cs := cs_X7_append) (hd := []) hfl (by decide +kernel) rfl (by decide) ⟨by decide, by decide⟩ (by decide) ck_X7_append (by
    intro a ha
    simp only [List.mem_cons, List.not_mem_nil, or_false] at ha
    rcases ha with rfl | rfl
    · exact cl_X7_refused (ct_X7_refused hfl) (by decide) (by decide)
    · exact cl_X7_in (ct_X7_in hfl) (by decide) (by decide)) (by decide) mv_sx vc_X7_append
def sp_m_clear : me_P := fun as v w K _ => ∃ (G : gs_T) , as = [vR 207] ∧ md_at v G ∧ mp (re_clear G) v w K
theorem go_X7_clearText_0 {cs : Nat → Nat × me_P} {KR : me_K} {kx : (Nat → Nat → me_L → List me_S → me_V → me_U → Prop) → Nat → Nat → me_L → Nat → me_V → me_U → Prop} {km : Nat} {sx : me_Sc} {hd : List Nat} {Inv : Nat → Nat → me_L → List me_S → me_V → me_U → Prop} {n k : Nat} {L : me_L} {st : List me_S} {v : me_V} {w : me_U} (hn : (n == 0) = false) (h : hd.contains 0 = false) : me_go cs KR kx km sx cd_X7_clearText hd Inv n 0 k L st v w = me_vb cs (me_go cs KR kx km sx cd_X7_clearText hd Inv (n - 1)) KR (kx (me_go cs KR kx km sx cd_X7_clearText hd Inv (n - 1))) km sx [(2, 0, 2, [], 1, 0, 0), (0, 0, 0, [], 1, 0, 0), (20, 7, 0, [], 3, 0, 1043), (2, 0, 2, [], 1, 0, 0), (19, 7, 2, [], 3, 0, 1045), (3, 1, 0, [], 1, 0, 0), (2, 0, 2, [], 1, 0, 0), (0, 0, 0, [], 1, 0, 0), (20, 7, 2, [], 3, 0, 1045), (2, 1, 0, [], 1, 0, 0), (32, 0, 0, [], 1, 0, 0)] 0 k L st v w := by
  rcases n with _ | n
  · cases hn
  · rw [mo_gb h]
    rfl
theorem lo_X7_clearText_0 {cs : Nat → Nat × me_P} {J : Nat → Nat → me_L → List me_S → me_V → me_U → Prop} {KR : me_K} {KX : Nat → Nat → me_L → Nat → me_V → me_U → Prop} {km : Nat} {sx : me_Sc} {k : Nat} {L : me_L} {st : List me_S} {v : me_V} {w : me_U} : me_vb cs J KR KX km sx (me_bk cd_X7_clearText 0) 0 k L st v w = me_vb cs J KR KX km sx [(2, 0, 2, [], 1, 0, 0), (0, 0, 0, [], 1, 0, 0), (20, 7, 0, [], 3, 0, 1043), (2, 0, 2, [], 1, 0, 0), (19, 7, 2, [], 3, 0, 1045), (3, 1, 0, [], 1, 0, 0), (2, 0, 2, [], 1, 0, 0), (0, 0, 0, [], 1, 0, 0), (20, 7, 2, [], 3, 0, 1045), (2, 1, 0, [], 1, 0, 0), (32, 0, 0, [], 1, 0, 0)] 0 k L st v w := rfl
def cs_X7_clearText : Nat → Nat × me_P := fun a => match a with
  | _ => (0, fun _ _ _ _ _ => False)
set_option maxHeartbeats 1000000 in
set_option maxRecDepth 100000 in
theorem vc_X7_clearText : mv_ok cs_X7_clearText cd_X7_clearText [] 0 2 sp_m_clear := by
  refine mv_flat 30 ?_

  intro as v w K X h
  obtain ⟨G, rfl, hG, hK⟩ := h
  obtain ⟨m_oc, m_0, m_1, m_2, m_3, m_4, m_5, m_6, m_7, m_8, m_9, m_10, m_11, m_12, l_208, l_209, l_210, l_211, l_212, l_213, l_214⟩ := mf_f
  obtain ⟨m_13, m_14, m_15, m_16, m_17, m_18, m_19, m_20, m_21, m_22, m_23, m_24, l_215, l_216, l_217, l_218, l_219, l_220, l_221, l_222⟩ := mg_f
  obtain ⟨hT, ⟨hM, hwf⟩, hH, hKs⟩ := id hG
  have h24 := hwf.1
  have h04 := hwf.2.1
  have M0 : v 210 0 = nI (G.2.2.1 0 0) := hM.1
  have M1 : v 210 1 = nI (G.2.2.1 0 1) := hM.2.1
  have w0 : vp_in 0 305 := vi0 (by omega) (by omega)
  have w1 : vp_in 1 305 := vi1 (by omega) (by omega)
  have hM0 : mr_at (me_up v 207 0 0 210) G.2.2.1 := by rw [me_up_n _ _ _ (by omega)]; exact hM
  unfold re_clear at hK
  refine ⟨Nat.le_of_ble_eq_true rfl, fun Inv => ?_⟩
  have x1 : me_up v 207 0 0 207 2 = nI G.1 := by rw [up_o (by omega)]; exact hT.1
  simp only [↓mo_vb, ↓mo_ve, ↓mo_gi, ↓mo_0, ↓mo_1, ↓mo_2, ↓mo_3i, ↓mo_3l, ↓mo_3r, ↓mo_3q, ↓mo_4_0, ↓mo_4_1, ↓mo_4_2, ↓mo_4_3, ↓mo_4_4, ↓mo_4_5, ↓mo_4_6, ↓mo_4_7, ↓mo_4_8, ↓mo_4_9, ↓mo_4_10, ↓mo_5_0, ↓mo_5_1, ↓mo_5_2, ↓mo_5_3, ↓mo_5_4, ↓mo_5_8, ↓mo_5_9, ↓mo_6_0, ↓mo_6_1, ↓mo_7, ↓mo_8, ↓mo_9, ↓mo_10i, ↓mo_10r, ↓mo_10q, ↓mo_11ir, ↓mo_12i, ↓mo_13, ↓mo_13m, ↓mo_14_0, ↓mo_15_0, ↓mo_14_1, ↓mo_15_1, ↓mo_14_2, ↓mo_15_2, ↓mo_14_3, ↓mo_15_3, ↓mo_14_4, ↓mo_15_4, ↓mo_14_5, ↓mo_15_5, ↓mo_16, ↓mo_17, ↓mo_18, ↓mo_19, ↓mo_20i, ↓mo_20z, ↓mo_20l, ↓mo_21, ↓mo_22, ↓mo_23, ↓mo_24, ↓mo_25, ↓mo_27, ↓mo_26, ↓mo_28, ↓mo_31, ↓mo_32, ↓mo_33, ↓mo_34, ↓mo_35, ↓mo_36, ↓mo_37, ↓mo_39, ↓mo_40, ↓mo_30_0, ↓mo_41_0, ↓mo_29_0, ↓mo_30_1, ↓mo_41_1, ↓mo_29_1, ↓mo_30_2, ↓mo_41_2, ↓mo_29_2, ↓mo_30_3, ↓mo_41_3, ↓mo_29_3, ↓mo_30_4, ↓mo_41_4, ↓mo_29_4, ↓mo_30_5, ↓mo_41_5, ↓mo_29_5, ↓me_tb, ↓me_lu, me_t2i, me_t2l, me_t2r, me_t2q, me_t13i, me_t19a, me_t19b, me_t19c, me_t19d, me_tae, me_t28e, me_t36e, ↓me_kn_d, ↓me_ky_d, me_ca_e, me_sv_d, me_in_n, me_in_c, decide_true, decide_false, me_rm_n, me_rm_c, me_lk_c, me_kdI, me_kdL, me_kdR, me_kdQ, me_ag_n, me_agI, me_agL, me_agR, me_agQ, me_w9n, me_w9I, me_w9L, me_w9R, me_w9Q, me_psN, me_psS, mn_0, mn_1, mn_00, mn_10, mn_01, mn_11, or_true, true_or, mn_c0, mn_c1, mn_l0, mn_l1, eq_self, List.contains_nil, List.contains_cons, List.elem_nil, List.elem_cons, List.contains_eq_mem, List.not_mem_nil, List.mem_cons, decide_false, decide_true, or_false, false_or, Bool.or_false, Bool.false_or, List.length_cons, List.length_nil, Nat.reduceAdd, Nat.reduceSub, Nat.reduceMul, Nat.reduceBEq, Nat.reduceEqDiff, Nat.reduceLT, Nat.reduceLeDiff, reduceCtorEq, if_true, if_false, ite_true, ite_false, true_and, and_true, Bool.and_true, Bool.true_and, Bool.and_false, Bool.false_and, Bool.not_true, Bool.not_false, Bool.or_true, Bool.true_or, cond_true, cond_false, not_false_eq_true, not_true_eq_false, true_implies, false_implies, implies_true, Nat.le_refl, Nat.add_zero, Nat.zero_add, Nat.zero_le, ↓mo_gi, cs_X7_clearText, ↓go_X7_clearText_0, ↓lo_X7_clearText_0, m_oc, m_0, m_1, m_2, m_3, m_4, m_5, m_6, m_7, m_8, m_9, m_10, m_11, m_12, l_208, l_209, l_210, l_211, l_212, l_213, l_214, m_13, m_14, m_15, m_16, m_17, m_18, m_19, m_20, m_21, m_22, m_23, m_24, l_215, l_216, l_217, l_218, l_219, l_220, l_221, l_222, em_cell, em_in, em_has, em_refused, em_withBit, mv_b_d, em_isBar, em_isPart, em_isPlayer, em_isTempo, p00, p01, p02, p03, x1]
  have hx : ∀ c, c ≠ 207 → me_up (me_up v 207 0 0) 207 2 0 c = v c := fun c h1 => by rw [me_up_n _ _ _ h1, me_up_n _ _ _ h1]
  refine hK 0 _ _ _ _ ⟨rfl, rfl, rfl⟩ (by rw [up_o (by omega), up_s]; rfl) (fr_v _ (fun c hc => hx c (by omega))) ⟨⟨up_s, by show 0 ≤ 160; omega, fun k hk => absurd hk (Nat.not_lt_zero k)⟩, ⟨by rw [hx 210 (by omega)]; exact hM, hwf⟩, ?_, fun s hs => by rw [hx 213 (by omega), hx 214 (by omega)]; exact hKs s hs⟩
  unfold mh_at
  rw [hx 212 (by omega), up_o (by omega), up_o (by omega)]
  exact hH
theorem ct_X7_clearText {l : Launch} (hfl : l.stackTraces = false) : me_M l yX7_clearText (.code yX7_clearText cX7_clearText 2 (some .int)) 1 60 0 sp_m_clear := me_meth (us := 0) (bl := cd_X7_clearText) (cs := cs_X7_clearText) (hd := []) hfl (by decide +kernel) rfl (by decide) ⟨by decide, by decide⟩ (by decide) ck_X7_clearText (fun a ha => absurd ha List.not_mem_nil) (by decide) mv_sx vc_X7_clearText

theorem mxf_r {v v2 : me_V} (h : mrf v v2) : mxf v v2 := ⟨h.2 2 (by omega) (by omega) (by omega), h.2 10 (by omega) (by omega) (by omega), fun c hc => h.1 c (by omega) (by omega)⟩
theorem fr_r {v v2 : me_V} (w : me_U) (h : mrf v v2) : fr_at 207 16 v w v2 w := fr_v w (fun c hc => h.1 c (by omega) (by omega))
def sp_m_error : me_P := fun as v w K _ => ∃ (G : gs_T) , as = [vR 207] ∧ md_at v G ∧ mp (re_error G) v w K
theorem go_X7_errorPosition_0 {cs : Nat → Nat × me_P} {KR : me_K} {kx : (Nat → Nat → me_L → List me_S → me_V → me_U → Prop) → Nat → Nat → me_L → Nat → me_V → me_U → Prop} {km : Nat} {sx : me_Sc} {hd : List Nat} {Inv : Nat → Nat → me_L → List me_S → me_V → me_U → Prop} {n k : Nat} {L : me_L} {st : List me_S} {v : me_V} {w : me_U} (hn : (n == 0) = false) (h : hd.contains 0 = false) : me_go cs KR kx km sx cd_X7_errorPosition hd Inv n 0 k L st v w = me_vb cs (me_go cs KR kx km sx cd_X7_errorPosition hd Inv (n - 1)) KR (kx (me_go cs KR kx km sx cd_X7_errorPosition hd Inv (n - 1))) km sx [(2, 0, 2, [], 1, 0, 0), (0, 0, 0, [], 1, 0, 0), (20, 7, 0, [], 3, 0, 1043), (2, 0, 2, [], 1, 0, 0), (29, 158, 0, [7, 1145, 30], 3, 0, 1143), (32, 0, 0, [], 1, 0, 0)] 0 k L st v w := by
  rcases n with _ | n
  · cases hn
  · rw [mo_gb h]
    rfl
theorem lo_X7_errorPosition_0 {cs : Nat → Nat × me_P} {J : Nat → Nat → me_L → List me_S → me_V → me_U → Prop} {KR : me_K} {KX : Nat → Nat → me_L → Nat → me_V → me_U → Prop} {km : Nat} {sx : me_Sc} {k : Nat} {L : me_L} {st : List me_S} {v : me_V} {w : me_U} : me_vb cs J KR KX km sx (me_bk cd_X7_errorPosition 0) 0 k L st v w = me_vb cs J KR KX km sx [(2, 0, 2, [], 1, 0, 0), (0, 0, 0, [], 1, 0, 0), (20, 7, 0, [], 3, 0, 1043), (2, 0, 2, [], 1, 0, 0), (29, 158, 0, [7, 1145, 30], 3, 0, 1143), (32, 0, 0, [], 1, 0, 0)] 0 k L st v w := rfl
def cs_X7_errorPosition : Nat → Nat × me_P := fun a => match a with
  | 158 => (0, sp_m_readText)
  | _ => (0, fun _ _ _ _ _ => False)
set_option maxHeartbeats 1000000 in
set_option maxRecDepth 100000 in
theorem vc_X7_errorPosition : mv_ok cs_X7_errorPosition cd_X7_errorPosition [] 0 1 sp_m_error := by
  refine mv_flat 30 ?_

  intro as v w K X h
  obtain ⟨G, rfl, hG, hK⟩ := h
  obtain ⟨m_oc, m_0, m_1, m_2, m_3, m_4, m_5, m_6, m_7, m_8, m_9, m_10, m_11, m_12, l_208, l_209, l_210, l_211, l_212, l_213, l_214⟩ := mf_f
  obtain ⟨m_13, m_14, m_15, m_16, m_17, m_18, m_19, m_20, m_21, m_22, m_23, m_24, l_215, l_216, l_217, l_218, l_219, l_220, l_221, l_222⟩ := mg_f
  obtain ⟨hT, ⟨hM, hwf⟩, hH, hKs⟩ := id hG
  have h24 := hwf.1
  have h04 := hwf.2.1
  have M0 : v 210 0 = nI (G.2.2.1 0 0) := hM.1
  have M1 : v 210 1 = nI (G.2.2.1 0 1) := hM.2.1
  have w0 : vp_in 0 305 := vi0 (by omega) (by omega)
  have w1 : vp_in 1 305 := vi1 (by omega) (by omega)
  have hM0 : mr_at (me_up v 207 0 0 210) G.2.2.1 := by rw [me_up_n _ _ _ (by omega)]; exact hM
  unfold re_error at hK
  refine ⟨Nat.le_of_ble_eq_true rfl, fun Inv => ?_⟩
  simp only [↓mo_vb, ↓mo_ve, ↓mo_gi, ↓mo_0, ↓mo_1, ↓mo_2, ↓mo_3i, ↓mo_3l, ↓mo_3r, ↓mo_3q, ↓mo_4_0, ↓mo_4_1, ↓mo_4_2, ↓mo_4_3, ↓mo_4_4, ↓mo_4_5, ↓mo_4_6, ↓mo_4_7, ↓mo_4_8, ↓mo_4_9, ↓mo_4_10, ↓mo_5_0, ↓mo_5_1, ↓mo_5_2, ↓mo_5_3, ↓mo_5_4, ↓mo_5_8, ↓mo_5_9, ↓mo_6_0, ↓mo_6_1, ↓mo_7, ↓mo_8, ↓mo_9, ↓mo_10i, ↓mo_10r, ↓mo_10q, ↓mo_11ir, ↓mo_12i, ↓mo_13, ↓mo_13m, ↓mo_14_0, ↓mo_15_0, ↓mo_14_1, ↓mo_15_1, ↓mo_14_2, ↓mo_15_2, ↓mo_14_3, ↓mo_15_3, ↓mo_14_4, ↓mo_15_4, ↓mo_14_5, ↓mo_15_5, ↓mo_16, ↓mo_17, ↓mo_18, ↓mo_19, ↓mo_20i, ↓mo_20z, ↓mo_20l, ↓mo_21, ↓mo_22, ↓mo_23, ↓mo_24, ↓mo_25, ↓mo_27, ↓mo_26, ↓mo_28, ↓mo_31, ↓mo_32, ↓mo_33, ↓mo_34, ↓mo_35, ↓mo_36, ↓mo_37, ↓mo_39, ↓mo_40, ↓mo_30_0, ↓mo_41_0, ↓mo_29_0, ↓mo_30_1, ↓mo_41_1, ↓mo_29_1, ↓mo_30_2, ↓mo_41_2, ↓mo_29_2, ↓mo_30_3, ↓mo_41_3, ↓mo_29_3, ↓mo_30_4, ↓mo_41_4, ↓mo_29_4, ↓mo_30_5, ↓mo_41_5, ↓mo_29_5, ↓me_tb, ↓me_lu, me_t2i, me_t2l, me_t2r, me_t2q, me_t13i, me_t19a, me_t19b, me_t19c, me_t19d, me_tae, me_t28e, me_t36e, ↓me_kn_d, ↓me_ky_d, me_ca_e, me_sv_d, me_in_n, me_in_c, decide_true, decide_false, me_rm_n, me_rm_c, me_lk_c, me_kdI, me_kdL, me_kdR, me_kdQ, me_ag_n, me_agI, me_agL, me_agR, me_agQ, me_w9n, me_w9I, me_w9L, me_w9R, me_w9Q, me_psN, me_psS, mn_0, mn_1, mn_00, mn_10, mn_01, mn_11, or_true, true_or, mn_c0, mn_c1, mn_l0, mn_l1, eq_self, List.contains_nil, List.contains_cons, List.elem_nil, List.elem_cons, List.contains_eq_mem, List.not_mem_nil, List.mem_cons, decide_false, decide_true, or_false, false_or, Bool.or_false, Bool.false_or, List.length_cons, List.length_nil, Nat.reduceAdd, Nat.reduceSub, Nat.reduceMul, Nat.reduceBEq, Nat.reduceEqDiff, Nat.reduceLT, Nat.reduceLeDiff, reduceCtorEq, if_true, if_false, ite_true, ite_false, true_and, and_true, Bool.and_true, Bool.true_and, Bool.and_false, Bool.false_and, Bool.not_true, Bool.not_false, Bool.or_true, Bool.true_or, cond_true, cond_false, not_false_eq_true, not_true_eq_false, true_implies, false_implies, implies_true, Nat.le_refl, Nat.add_zero, Nat.zero_add, Nat.zero_le, ↓mo_gi, cs_X7_errorPosition, ↓go_X7_errorPosition_0, ↓lo_X7_errorPosition_0, m_oc, m_0, m_1, m_2, m_3, m_4, m_5, m_6, m_7, m_8, m_9, m_10, m_11, m_12, l_208, l_209, l_210, l_211, l_212, l_213, l_214, m_13, m_14, m_15, m_16, m_17, m_18, m_19, m_20, m_21, m_22, m_23, m_24, l_215, l_216, l_217, l_218, l_219, l_220, l_221, l_222, em_cell, em_in, em_has, em_refused, em_withBit, mv_b_d, em_isBar, em_isPart, em_isPlayer, em_isTempo, p00, p01, p02, p03]
  have hT0 : mt_at (me_up v 207 0 0) G.1 G.2.1 := (md_ref hG 0).1
  refine ⟨G.1, G.2.1, rfl, hT0, fun v2 S hf hr _ _ => ?_, fun v2 e hf hr _ => ?_⟩
  · simp only [↓mo_vb, ↓mo_ve, ↓mo_gi, ↓mo_0, ↓mo_1, ↓mo_2, ↓mo_3i, ↓mo_3l, ↓mo_3r, ↓mo_3q, ↓mo_4_0, ↓mo_4_1, ↓mo_4_2, ↓mo_4_3, ↓mo_4_4, ↓mo_4_5, ↓mo_4_6, ↓mo_4_7, ↓mo_4_8, ↓mo_4_9, ↓mo_4_10, ↓mo_5_0, ↓mo_5_1, ↓mo_5_2, ↓mo_5_3, ↓mo_5_4, ↓mo_5_8, ↓mo_5_9, ↓mo_6_0, ↓mo_6_1, ↓mo_7, ↓mo_8, ↓mo_9, ↓mo_10i, ↓mo_10r, ↓mo_10q, ↓mo_11ir, ↓mo_12i, ↓mo_13, ↓mo_13m, ↓mo_14_0, ↓mo_15_0, ↓mo_14_1, ↓mo_15_1, ↓mo_14_2, ↓mo_15_2, ↓mo_14_3, ↓mo_15_3, ↓mo_14_4, ↓mo_15_4, ↓mo_14_5, ↓mo_15_5, ↓mo_16, ↓mo_17, ↓mo_18, ↓mo_19, ↓mo_20i, ↓mo_20z, ↓mo_20l, ↓mo_21, ↓mo_22, ↓mo_23, ↓mo_24, ↓mo_25, ↓mo_27, ↓mo_26, ↓mo_28, ↓mo_31, ↓mo_32, ↓mo_33, ↓mo_34, ↓mo_35, ↓mo_36, ↓mo_37, ↓mo_39, ↓mo_40, ↓mo_30_0, ↓mo_41_0, ↓mo_29_0, ↓mo_30_1, ↓mo_41_1, ↓mo_29_1, ↓mo_30_2, ↓mo_41_2, ↓mo_29_2, ↓mo_30_3, ↓mo_41_3, ↓mo_29_3, ↓mo_30_4, ↓mo_41_4, ↓mo_29_4, ↓mo_30_5, ↓mo_41_5, ↓mo_29_5, ↓me_tb, ↓me_lu, me_t2i, me_t2l, me_t2r, me_t2q, me_t13i, me_t19a, me_t19b, me_t19c, me_t19d, me_tae, me_t28e, me_t36e, ↓me_kn_d, ↓me_ky_d, me_ca_e, me_sv_d, me_in_n, me_in_c, decide_true, decide_false, me_rm_n, me_rm_c, me_lk_c, me_kdI, me_kdL, me_kdR, me_kdQ, me_ag_n, me_agI, me_agL, me_agR, me_agQ, me_w9n, me_w9I, me_w9L, me_w9R, me_w9Q, me_psN, me_psS, mn_0, mn_1, mn_00, mn_10, mn_01, mn_11, or_true, true_or, mn_c0, mn_c1, mn_l0, mn_l1, eq_self, List.contains_nil, List.contains_cons, List.elem_nil, List.elem_cons, List.contains_eq_mem, List.not_mem_nil, List.mem_cons, decide_false, decide_true, or_false, false_or, Bool.or_false, Bool.false_or, List.length_cons, List.length_nil, Nat.reduceAdd, Nat.reduceSub, Nat.reduceMul, Nat.reduceBEq, Nat.reduceEqDiff, Nat.reduceLT, Nat.reduceLeDiff, reduceCtorEq, if_true, if_false, ite_true, ite_false, true_and, and_true, Bool.and_true, Bool.true_and, Bool.and_false, Bool.false_and, Bool.not_true, Bool.not_false, Bool.or_true, Bool.true_or, cond_true, cond_false, not_false_eq_true, not_true_eq_false, true_implies, false_implies, implies_true, Nat.le_refl, Nat.add_zero, Nat.zero_add, Nat.zero_le, ↓mo_gi, cs_X7_errorPosition, ↓go_X7_errorPosition_0, ↓lo_X7_errorPosition_0, m_oc, m_0, m_1, m_2, m_3, m_4, m_5, m_6, m_7, m_8, m_9, m_10, m_11, m_12, l_208, l_209, l_210, l_211, l_212, l_213, l_214, m_13, m_14, m_15, m_16, m_17, m_18, m_19, m_20, m_21, m_22, m_23, m_24, l_215, l_216, l_217, l_218, l_219, l_220, l_221, l_222, em_cell, em_in, em_has, em_refused, em_withBit, mv_b_d, em_isBar, em_isPart, em_isPlayer, em_isTempo, p00, p01, p02, p03]
    exact hK 0 _ _ _ _ ⟨rfl, by rw [hr]; rfl, rfl⟩ (by rw [hf.2 0 (by omega) (by omega) (by omega), up_s]; rfl) (fr_tr (fr_ref _ _ _) (fr_r _ hf)) (md_mx (md_ref hG 0) (mxf_r hf))
  · simp only [↓mo_vb, ↓mo_ve, ↓mo_gi, ↓mo_0, ↓mo_1, ↓mo_2, ↓mo_3i, ↓mo_3l, ↓mo_3r, ↓mo_3q, ↓mo_4_0, ↓mo_4_1, ↓mo_4_2, ↓mo_4_3, ↓mo_4_4, ↓mo_4_5, ↓mo_4_6, ↓mo_4_7, ↓mo_4_8, ↓mo_4_9, ↓mo_4_10, ↓mo_5_0, ↓mo_5_1, ↓mo_5_2, ↓mo_5_3, ↓mo_5_4, ↓mo_5_8, ↓mo_5_9, ↓mo_6_0, ↓mo_6_1, ↓mo_7, ↓mo_8, ↓mo_9, ↓mo_10i, ↓mo_10r, ↓mo_10q, ↓mo_11ir, ↓mo_12i, ↓mo_13, ↓mo_13m, ↓mo_14_0, ↓mo_15_0, ↓mo_14_1, ↓mo_15_1, ↓mo_14_2, ↓mo_15_2, ↓mo_14_3, ↓mo_15_3, ↓mo_14_4, ↓mo_15_4, ↓mo_14_5, ↓mo_15_5, ↓mo_16, ↓mo_17, ↓mo_18, ↓mo_19, ↓mo_20i, ↓mo_20z, ↓mo_20l, ↓mo_21, ↓mo_22, ↓mo_23, ↓mo_24, ↓mo_25, ↓mo_27, ↓mo_26, ↓mo_28, ↓mo_31, ↓mo_32, ↓mo_33, ↓mo_34, ↓mo_35, ↓mo_36, ↓mo_37, ↓mo_39, ↓mo_40, ↓mo_30_0, ↓mo_41_0, ↓mo_29_0, ↓mo_30_1, ↓mo_41_1, ↓mo_29_1, ↓mo_30_2, ↓mo_41_2, ↓mo_29_2, ↓mo_30_3, ↓mo_41_3, ↓mo_29_3, ↓mo_30_4, ↓mo_41_4, ↓mo_29_4, ↓mo_30_5, ↓mo_41_5, ↓mo_29_5, ↓me_tb, ↓me_lu, me_t2i, me_t2l, me_t2r, me_t2q, me_t13i, me_t19a, me_t19b, me_t19c, me_t19d, me_tae, me_t28e, me_t36e, ↓me_kn_d, ↓me_ky_d, me_ca_e, me_sv_d, me_in_n, me_in_c, decide_true, decide_false, me_rm_n, me_rm_c, me_lk_c, me_kdI, me_kdL, me_kdR, me_kdQ, me_ag_n, me_agI, me_agL, me_agR, me_agQ, me_w9n, me_w9I, me_w9L, me_w9R, me_w9Q, me_psN, me_psS, mn_0, mn_1, mn_00, mn_10, mn_01, mn_11, or_true, true_or, mn_c0, mn_c1, mn_l0, mn_l1, eq_self, List.contains_nil, List.contains_cons, List.elem_nil, List.elem_cons, List.contains_eq_mem, List.not_mem_nil, List.mem_cons, decide_false, decide_true, or_false, false_or, Bool.or_false, Bool.false_or, List.length_cons, List.length_nil, Nat.reduceAdd, Nat.reduceSub, Nat.reduceMul, Nat.reduceBEq, Nat.reduceEqDiff, Nat.reduceLT, Nat.reduceLeDiff, reduceCtorEq, if_true, if_false, ite_true, ite_false, true_and, and_true, Bool.and_true, Bool.true_and, Bool.and_false, Bool.false_and, Bool.not_true, Bool.not_false, Bool.or_true, Bool.true_or, cond_true, cond_false, not_false_eq_true, not_true_eq_false, true_implies, false_implies, implies_true, Nat.le_refl, Nat.add_zero, Nat.zero_add, Nat.zero_le, ↓mo_gi, cs_X7_errorPosition, ↓go_X7_errorPosition_0, ↓lo_X7_errorPosition_0, m_oc, m_0, m_1, m_2, m_3, m_4, m_5, m_6, m_7, m_8, m_9, m_10, m_11, m_12, l_208, l_209, l_210, l_211, l_212, l_213, l_214, m_13, m_14, m_15, m_16, m_17, m_18, m_19, m_20, m_21, m_22, m_23, m_24, l_215, l_216, l_217, l_218, l_219, l_220, l_221, l_222, em_cell, em_in, em_has, em_refused, em_withBit, mv_b_d, em_isBar, em_isPart, em_isPlayer, em_isTempo, p00, p01, p02, p03]
    exact hK 0 _ _ _ _ ⟨rfl, by rw [hr]; rfl, rfl⟩ (by rw [hf.2 0 (by omega) (by omega) (by omega), up_s]; rfl) (fr_tr (fr_ref _ _ _) (fr_r _ hf)) (md_mx (md_ref hG 0) (mxf_r hf))
theorem ct_X7_errorPosition {l : Launch} (hfl : l.stackTraces = false) : me_M l yX7_errorPosition (.code yX7_errorPosition cX7_errorPosition 1 (some .int)) 6 176 0 sp_m_error := me_meth (us := 0) (bl := cd_X7_errorPosition) (cs := cs_X7_errorPosition) (hd := []) hfl (by decide +kernel) rfl (by decide) ⟨by decide, by decide⟩ (by decide) ck_X7_errorPosition (by
    intro a ha
    simp only [List.mem_cons, List.not_mem_nil, or_false] at ha
    rcases ha with rfl
    · exact cl_X7_readText (ct_X7_readText hfl) (by decide) (by decide)) (by decide) mv_sx vc_X7_errorPosition
def sp_m_load : me_P := fun as v w K _ => ∃ (G : gs_T) , as = [vR 207] ∧ md_at v G ∧ mp (re_load G) v w K
theorem go_X7_load_0 {cs : Nat → Nat × me_P} {KR : me_K} {kx : (Nat → Nat → me_L → List me_S → me_V → me_U → Prop) → Nat → Nat → me_L → Nat → me_V → me_U → Prop} {km : Nat} {sx : me_Sc} {hd : List Nat} {Inv : Nat → Nat → me_L → List me_S → me_V → me_U → Prop} {n k : Nat} {L : me_L} {st : List me_S} {v : me_V} {w : me_U} (hn : (n == 0) = false) (h : hd.contains 0 = false) : me_go cs KR kx km sx cd_X7_load hd Inv n 0 k L st v w = me_vb cs (me_go cs KR kx km sx cd_X7_load hd Inv (n - 1)) KR (kx (me_go cs KR kx km sx cd_X7_load hd Inv (n - 1))) km sx [(2, 0, 2, [], 1, 0, 0), (2, 0, 2, [], 1, 0, 0), (29, 158, 0, [7, 1145, 30], 3, 0, 1143), (0, 9, 1, [], 2, 0, 0), (15, 14, 1, [], 3, 0, 0), (0, 0, 0, [], 1, 0, 0), (16, 15, 0, [], 3, 0, 0)] 0 k L st v w := by
  rcases n with _ | n
  · cases hn
  · rw [mo_gb h]
    rfl
theorem lo_X7_load_0 {cs : Nat → Nat × me_P} {J : Nat → Nat → me_L → List me_S → me_V → me_U → Prop} {KR : me_K} {KX : Nat → Nat → me_L → Nat → me_V → me_U → Prop} {km : Nat} {sx : me_Sc} {k : Nat} {L : me_L} {st : List me_S} {v : me_V} {w : me_U} : me_vb cs J KR KX km sx (me_bk cd_X7_load 0) 0 k L st v w = me_vb cs J KR KX km sx [(2, 0, 2, [], 1, 0, 0), (2, 0, 2, [], 1, 0, 0), (29, 158, 0, [7, 1145, 30], 3, 0, 1143), (0, 9, 1, [], 2, 0, 0), (15, 14, 1, [], 3, 0, 0), (0, 0, 0, [], 1, 0, 0), (16, 15, 0, [], 3, 0, 0)] 0 k L st v w := rfl
theorem go_X7_load_14 {cs : Nat → Nat × me_P} {KR : me_K} {kx : (Nat → Nat → me_L → List me_S → me_V → me_U → Prop) → Nat → Nat → me_L → Nat → me_V → me_U → Prop} {km : Nat} {sx : me_Sc} {hd : List Nat} {Inv : Nat → Nat → me_L → List me_S → me_V → me_U → Prop} {n k : Nat} {L : me_L} {st : List me_S} {v : me_V} {w : me_U} (hn : (n == 0) = false) (h : hd.contains 14 = false) : me_go cs KR kx km sx cd_X7_load hd Inv n 14 k L st v w = me_vb cs (me_go cs KR kx km sx cd_X7_load hd Inv (n - 1)) KR (kx (me_go cs KR kx km sx cd_X7_load hd Inv (n - 1))) km sx [(0, 1, 0, [], 1, 0, 0)] 14 k L st v w := by
  rcases n with _ | n
  · cases hn
  · rw [mo_gb h]
    rfl
theorem lo_X7_load_14 {cs : Nat → Nat × me_P} {J : Nat → Nat → me_L → List me_S → me_V → me_U → Prop} {KR : me_K} {KX : Nat → Nat → me_L → Nat → me_V → me_U → Prop} {km : Nat} {sx : me_Sc} {k : Nat} {L : me_L} {st : List me_S} {v : me_V} {w : me_U} : me_vb cs J KR KX km sx (me_bk cd_X7_load 14) 14 k L st v w = me_vb cs J KR KX km sx [(0, 1, 0, [], 1, 0, 0)] 14 k L st v w := rfl
theorem go_X7_load_15 {cs : Nat → Nat × me_P} {KR : me_K} {kx : (Nat → Nat → me_L → List me_S → me_V → me_U → Prop) → Nat → Nat → me_L → Nat → me_V → me_U → Prop} {km : Nat} {sx : me_Sc} {hd : List Nat} {Inv : Nat → Nat → me_L → List me_S → me_V → me_U → Prop} {n k : Nat} {L : me_L} {st : List me_S} {v : me_V} {w : me_U} (hn : (n == 0) = false) (h : hd.contains 15 = false) : me_go cs KR kx km sx cd_X7_load hd Inv n 15 k L st v w = me_vb cs (me_go cs KR kx km sx cd_X7_load hd Inv (n - 1)) KR (kx (me_go cs KR kx km sx cd_X7_load hd Inv (n - 1))) km sx [(29, 125, 1, [7, 1133, 29], 3, 0, 1131), (14, 23, 0, [], 3, 0, 0), (0, 0, 0, [], 1, 0, 0), (32, 0, 0, [], 1, 0, 0)] 15 k L st v w := by
  rcases n with _ | n
  · cases hn
  · rw [mo_gb h]
    rfl
theorem lo_X7_load_15 {cs : Nat → Nat × me_P} {J : Nat → Nat → me_L → List me_S → me_V → me_U → Prop} {KR : me_K} {KX : Nat → Nat → me_L → Nat → me_V → me_U → Prop} {km : Nat} {sx : me_Sc} {k : Nat} {L : me_L} {st : List me_S} {v : me_V} {w : me_U} : me_vb cs J KR KX km sx (me_bk cd_X7_load 15) 15 k L st v w = me_vb cs J KR KX km sx [(29, 125, 1, [7, 1133, 29], 3, 0, 1131), (14, 23, 0, [], 3, 0, 0), (0, 0, 0, [], 1, 0, 0), (32, 0, 0, [], 1, 0, 0)] 15 k L st v w := rfl
theorem go_X7_load_23 {cs : Nat → Nat × me_P} {KR : me_K} {kx : (Nat → Nat → me_L → List me_S → me_V → me_U → Prop) → Nat → Nat → me_L → Nat → me_V → me_U → Prop} {km : Nat} {sx : me_Sc} {hd : List Nat} {Inv : Nat → Nat → me_L → List me_S → me_V → me_U → Prop} {n k : Nat} {L : me_L} {st : List me_S} {v : me_V} {w : me_U} (hn : (n == 0) = false) (h : hd.contains 23 = false) : me_go cs KR kx km sx cd_X7_load hd Inv n 23 k L st v w = me_vb cs (me_go cs KR kx km sx cd_X7_load hd Inv (n - 1)) KR (kx (me_go cs KR kx km sx cd_X7_load hd Inv (n - 1))) km sx [(2, 0, 2, [], 1, 0, 0), (19, 7, 6, [], 3, 0, 1049), (0, 0, 0, [], 1, 0, 0), (2, 0, 2, [], 1, 0, 0), (19, 7, 7, [], 3, 0, 1050), (0, 0, 0, [], 1, 0, 0), (0, 305, 0, [], 3, 0, 0), (30, 129, 5, [1194], 3, 0, 1193), (2, 0, 2, [], 1, 0, 0), (0, 0, 0, [], 1, 0, 0), (20, 7, 10, [], 3, 0, 1053), (2, 0, 2, [], 1, 0, 0), (19, 7, 12, [], 3, 0, 1055), (0, 0, 0, [], 1, 0, 0), (0, 0, 0, [], 1, 0, 0), (26, 0, 0, [], 1, 0, 0), (2, 0, 2, [], 1, 0, 0), (19, 7, 12, [], 3, 0, 1055), (0, 1, 0, [], 1, 0, 0), (0, 0, 0, [], 1, 0, 0), (26, 0, 0, [], 1, 0, 0), (2, 0, 2, [], 1, 0, 0), (19, 7, 7, [], 3, 0, 1050), (0, 0, 0, [], 1, 0, 0), (21, 0, 0, [], 1, 0, 0), (32, 0, 0, [], 1, 0, 0)] 23 k L st v w := by
  rcases n with _ | n
  · cases hn
  · rw [mo_gb h]
    rfl
theorem lo_X7_load_23 {cs : Nat → Nat × me_P} {J : Nat → Nat → me_L → List me_S → me_V → me_U → Prop} {KR : me_K} {KX : Nat → Nat → me_L → Nat → me_V → me_U → Prop} {km : Nat} {sx : me_Sc} {k : Nat} {L : me_L} {st : List me_S} {v : me_V} {w : me_U} : me_vb cs J KR KX km sx (me_bk cd_X7_load 23) 23 k L st v w = me_vb cs J KR KX km sx [(2, 0, 2, [], 1, 0, 0), (19, 7, 6, [], 3, 0, 1049), (0, 0, 0, [], 1, 0, 0), (2, 0, 2, [], 1, 0, 0), (19, 7, 7, [], 3, 0, 1050), (0, 0, 0, [], 1, 0, 0), (0, 305, 0, [], 3, 0, 0), (30, 129, 5, [1194], 3, 0, 1193), (2, 0, 2, [], 1, 0, 0), (0, 0, 0, [], 1, 0, 0), (20, 7, 10, [], 3, 0, 1053), (2, 0, 2, [], 1, 0, 0), (19, 7, 12, [], 3, 0, 1055), (0, 0, 0, [], 1, 0, 0), (0, 0, 0, [], 1, 0, 0), (26, 0, 0, [], 1, 0, 0), (2, 0, 2, [], 1, 0, 0), (19, 7, 12, [], 3, 0, 1055), (0, 1, 0, [], 1, 0, 0), (0, 0, 0, [], 1, 0, 0), (26, 0, 0, [], 1, 0, 0), (2, 0, 2, [], 1, 0, 0), (19, 7, 7, [], 3, 0, 1050), (0, 0, 0, [], 1, 0, 0), (21, 0, 0, [], 1, 0, 0), (32, 0, 0, [], 1, 0, 0)] 23 k L st v w := rfl
def cs_X7_load : Nat → Nat × me_P := fun a => match a with
  | 125 => (0, sp_m_refused)
  | 129 => (0, sp_m_copy)
  | 158 => (0, sp_m_readText)
  | _ => (0, fun _ _ _ _ _ => False)
set_option maxHeartbeats 1000000 in
set_option maxRecDepth 100000 in
theorem vc_X7_load : mv_ok cs_X7_load cd_X7_load [] 0 1 sp_m_load := by
  refine mv_flat 30 ?_

  intro as v w K X h
  obtain ⟨G, rfl, hG, hK⟩ := h
  obtain ⟨m_oc, m_0, m_1, m_2, m_3, m_4, m_5, m_6, m_7, m_8, m_9, m_10, m_11, m_12, l_208, l_209, l_210, l_211, l_212, l_213, l_214⟩ := mf_f
  obtain ⟨m_13, m_14, m_15, m_16, m_17, m_18, m_19, m_20, m_21, m_22, m_23, m_24, l_215, l_216, l_217, l_218, l_219, l_220, l_221, l_222⟩ := mg_f
  obtain ⟨hT, ⟨hM, hwf⟩, hH, hKs⟩ := id hG
  have h24 := hwf.1
  have h04 := hwf.2.1
  have M0 : v 210 0 = nI (G.2.2.1 0 0) := hM.1
  have M1 : v 210 1 = nI (G.2.2.1 0 1) := hM.2.1
  have w0 : vp_in 0 305 := vi0 (by omega) (by omega)
  have w1 : vp_in 1 305 := vi1 (by omega) (by omega)
  have hM0 : mr_at (me_up v 207 0 0 210) G.2.2.1 := by rw [me_up_n _ _ _ (by omega)]; exact hM
  unfold re_load at hK
  refine ⟨Nat.le_of_ble_eq_true rfl, fun Inv => ?_⟩
  simp only [↓mo_vb, ↓mo_ve, ↓mo_gi, ↓mo_0, ↓mo_1, ↓mo_2, ↓mo_3i, ↓mo_3l, ↓mo_3r, ↓mo_3q, ↓mo_4_0, ↓mo_4_1, ↓mo_4_2, ↓mo_4_3, ↓mo_4_4, ↓mo_4_5, ↓mo_4_6, ↓mo_4_7, ↓mo_4_8, ↓mo_4_9, ↓mo_4_10, ↓mo_5_0, ↓mo_5_1, ↓mo_5_2, ↓mo_5_3, ↓mo_5_4, ↓mo_5_8, ↓mo_5_9, ↓mo_6_0, ↓mo_6_1, ↓mo_7, ↓mo_8, ↓mo_9, ↓mo_10i, ↓mo_10r, ↓mo_10q, ↓mo_11ir, ↓mo_12i, ↓mo_13, ↓mo_13m, ↓mo_14_0, ↓mo_15_0, ↓mo_14_1, ↓mo_15_1, ↓mo_14_2, ↓mo_15_2, ↓mo_14_3, ↓mo_15_3, ↓mo_14_4, ↓mo_15_4, ↓mo_14_5, ↓mo_15_5, ↓mo_16, ↓mo_17, ↓mo_18, ↓mo_19, ↓mo_20i, ↓mo_20z, ↓mo_20l, ↓mo_21, ↓mo_22, ↓mo_23, ↓mo_24, ↓mo_25, ↓mo_27, ↓mo_26, ↓mo_28, ↓mo_31, ↓mo_32, ↓mo_33, ↓mo_34, ↓mo_35, ↓mo_36, ↓mo_37, ↓mo_39, ↓mo_40, ↓mo_30_0, ↓mo_41_0, ↓mo_29_0, ↓mo_30_1, ↓mo_41_1, ↓mo_29_1, ↓mo_30_2, ↓mo_41_2, ↓mo_29_2, ↓mo_30_3, ↓mo_41_3, ↓mo_29_3, ↓mo_30_4, ↓mo_41_4, ↓mo_29_4, ↓mo_30_5, ↓mo_41_5, ↓mo_29_5, ↓me_tb, ↓me_lu, me_t2i, me_t2l, me_t2r, me_t2q, me_t13i, me_t19a, me_t19b, me_t19c, me_t19d, me_tae, me_t28e, me_t36e, ↓me_kn_d, ↓me_ky_d, me_ca_e, me_sv_d, me_in_n, me_in_c, decide_true, decide_false, me_rm_n, me_rm_c, me_lk_c, me_kdI, me_kdL, me_kdR, me_kdQ, me_ag_n, me_agI, me_agL, me_agR, me_agQ, me_w9n, me_w9I, me_w9L, me_w9R, me_w9Q, me_psN, me_psS, mn_0, mn_1, mn_00, mn_10, mn_01, mn_11, or_true, true_or, mn_c0, mn_c1, mn_l0, mn_l1, eq_self, List.contains_nil, List.contains_cons, List.elem_nil, List.elem_cons, List.contains_eq_mem, List.not_mem_nil, List.mem_cons, decide_false, decide_true, or_false, false_or, Bool.or_false, Bool.false_or, List.length_cons, List.length_nil, Nat.reduceAdd, Nat.reduceSub, Nat.reduceMul, Nat.reduceBEq, Nat.reduceEqDiff, Nat.reduceLT, Nat.reduceLeDiff, reduceCtorEq, if_true, if_false, ite_true, ite_false, true_and, and_true, Bool.and_true, Bool.true_and, Bool.and_false, Bool.false_and, Bool.not_true, Bool.not_false, Bool.or_true, Bool.true_or, cond_true, cond_false, not_false_eq_true, not_true_eq_false, true_implies, false_implies, implies_true, Nat.le_refl, Nat.add_zero, Nat.zero_add, Nat.zero_le, ↓mo_gi, cs_X7_load, ↓go_X7_load_0, ↓lo_X7_load_0, ↓go_X7_load_14, ↓lo_X7_load_14, ↓go_X7_load_15, ↓lo_X7_load_15, ↓go_X7_load_23, ↓lo_X7_load_23, m_oc, m_0, m_1, m_2, m_3, m_4, m_5, m_6, m_7, m_8, m_9, m_10, m_11, m_12, l_208, l_209, l_210, l_211, l_212, l_213, l_214, m_13, m_14, m_15, m_16, m_17, m_18, m_19, m_20, m_21, m_22, m_23, m_24, l_215, l_216, l_217, l_218, l_219, l_220, l_221, l_222, em_cell, em_in, em_has, em_refused, em_withBit, mv_b_d, em_isBar, em_isPart, em_isPlayer, em_isTempo, p00, p01, p02, p03]
  refine ⟨G.1, G.2.1, rfl, hT, fun v2 S hf hr hw hs => ?_, fun v2 e hf hr he => ?_⟩
  · simp only [↓mo_vb, ↓mo_ve, ↓mo_gi, ↓mo_0, ↓mo_1, ↓mo_2, ↓mo_3i, ↓mo_3l, ↓mo_3r, ↓mo_3q, ↓mo_4_0, ↓mo_4_1, ↓mo_4_2, ↓mo_4_3, ↓mo_4_4, ↓mo_4_5, ↓mo_4_6, ↓mo_4_7, ↓mo_4_8, ↓mo_4_9, ↓mo_4_10, ↓mo_5_0, ↓mo_5_1, ↓mo_5_2, ↓mo_5_3, ↓mo_5_4, ↓mo_5_8, ↓mo_5_9, ↓mo_6_0, ↓mo_6_1, ↓mo_7, ↓mo_8, ↓mo_9, ↓mo_10i, ↓mo_10r, ↓mo_10q, ↓mo_11ir, ↓mo_12i, ↓mo_13, ↓mo_13m, ↓mo_14_0, ↓mo_15_0, ↓mo_14_1, ↓mo_15_1, ↓mo_14_2, ↓mo_15_2, ↓mo_14_3, ↓mo_15_3, ↓mo_14_4, ↓mo_15_4, ↓mo_14_5, ↓mo_15_5, ↓mo_16, ↓mo_17, ↓mo_18, ↓mo_19, ↓mo_20i, ↓mo_20z, ↓mo_20l, ↓mo_21, ↓mo_22, ↓mo_23, ↓mo_24, ↓mo_25, ↓mo_27, ↓mo_26, ↓mo_28, ↓mo_31, ↓mo_32, ↓mo_33, ↓mo_34, ↓mo_35, ↓mo_36, ↓mo_37, ↓mo_39, ↓mo_40, ↓mo_30_0, ↓mo_41_0, ↓mo_29_0, ↓mo_30_1, ↓mo_41_1, ↓mo_29_1, ↓mo_30_2, ↓mo_41_2, ↓mo_29_2, ↓mo_30_3, ↓mo_41_3, ↓mo_29_3, ↓mo_30_4, ↓mo_41_4, ↓mo_29_4, ↓mo_30_5, ↓mo_41_5, ↓mo_29_5, ↓me_tb, ↓me_lu, me_t2i, me_t2l, me_t2r, me_t2q, me_t13i, me_t19a, me_t19b, me_t19c, me_t19d, me_tae, me_t28e, me_t36e, ↓me_kn_d, ↓me_ky_d, me_ca_e, me_sv_d, me_in_n, me_in_c, decide_true, decide_false, me_rm_n, me_rm_c, me_lk_c, me_kdI, me_kdL, me_kdR, me_kdQ, me_ag_n, me_agI, me_agL, me_agR, me_agQ, me_w9n, me_w9I, me_w9L, me_w9R, me_w9Q, me_psN, me_psS, mn_0, mn_1, mn_00, mn_10, mn_01, mn_11, or_true, true_or, mn_c0, mn_c1, mn_l0, mn_l1, eq_self, List.contains_nil, List.contains_cons, List.elem_nil, List.elem_cons, List.contains_eq_mem, List.not_mem_nil, List.mem_cons, decide_false, decide_true, or_false, false_or, Bool.or_false, Bool.false_or, List.length_cons, List.length_nil, Nat.reduceAdd, Nat.reduceSub, Nat.reduceMul, Nat.reduceBEq, Nat.reduceEqDiff, Nat.reduceLT, Nat.reduceLeDiff, reduceCtorEq, if_true, if_false, ite_true, ite_false, true_and, and_true, Bool.and_true, Bool.true_and, Bool.and_false, Bool.false_and, Bool.not_true, Bool.not_false, Bool.or_true, Bool.true_or, cond_true, cond_false, not_false_eq_true, not_true_eq_false, true_implies, false_implies, implies_true, Nat.le_refl, Nat.add_zero, Nat.zero_add, Nat.zero_le, ↓mo_gi, cs_X7_load, ↓go_X7_load_0, ↓lo_X7_load_0, ↓go_X7_load_14, ↓lo_X7_load_14, ↓go_X7_load_15, ↓lo_X7_load_15, ↓go_X7_load_23, ↓lo_X7_load_23, m_oc, m_0, m_1, m_2, m_3, m_4, m_5, m_6, m_7, m_8, m_9, m_10, m_11, m_12, l_208, l_209, l_210, l_211, l_212, l_213, l_214, m_13, m_14, m_15, m_16, m_17, m_18, m_19, m_20, m_21, m_22, m_23, m_24, l_215, l_216, l_217, l_218, l_219, l_220, l_221, l_222, em_cell, em_in, em_has, em_refused, em_withBit, mv_b_d, em_isBar, em_isPart, em_isPlayer, em_isTempo, p00, p01, p02, p03]
    have hG2 := md_mx hG (mxf_r hf)
    refine ⟨209, 0, 210, 0, 305, 305, 305, rfl, l_209, l_210, by omega, by omega, by omega, by omega, by omega, ?_⟩
    have cp : ∀ i, i < 305 → mcp (me_up v2 207 0 0) 209 0 210 0 305 210 i = v2 209 i := fun i hi => by
      have := mcp_s (me_up v2 207 0 0) 209 0 210 0 305 hi
      rw [Nat.zero_add] at this
      rw [this, me_up_n _ _ _ (by omega)]
    have hx : ∀ c, c ≠ 207 → c ≠ 210 → c ≠ 214 → me_up (me_up (me_up (mcp (me_up v2 207 0 0) 209 0 210 0 305) 207 10 0) 214 0 0) 214 1 0 c = v2 c := fun c h1 h2 h3 => by rw [me_up_n _ _ _ h3, me_up_n _ _ _ h3, me_up_n _ _ _ h1, mcp_n _ _ _ _ _ _ h2, me_up_n _ _ _ h1]
    have hx7 : ∀ j, j ≠ 0 → j ≠ 10 → me_up (me_up (me_up (mcp (me_up v2 207 0 0) 209 0 210 0 305) 207 10 0) 214 0 0) 214 1 0 207 j = v2 207 j := fun j h1 h2 => by rw [me_up_n _ _ _ (by omega), me_up_n _ _ _ (by omega), up_o h2, mcp_n _ _ _ _ _ _ (by omega), up_o h1]
    have hM2 : mr_at (me_up (me_up (me_up (mcp (me_up v2 207 0 0) 209 0 210 0 305) 207 10 0) 214 0 0) 214 1 0 210) S := by
      rw [me_up_n _ _ _ (by omega), me_up_n _ _ _ (by omega), me_up_n _ _ _ (by omega)]
      exact mr_cg hw hs cp
    have hr0 : me_up (me_up (me_up (mcp (me_up v2 207 0 0) 209 0 210 0 305) 207 10 0) 214 0 0) 214 1 0 210 0 = nI (S 0 0) := hM2.1
    simp only [↓mo_vb, ↓mo_ve, ↓mo_gi, ↓mo_0, ↓mo_1, ↓mo_2, ↓mo_3i, ↓mo_3l, ↓mo_3r, ↓mo_3q, ↓mo_4_0, ↓mo_4_1, ↓mo_4_2, ↓mo_4_3, ↓mo_4_4, ↓mo_4_5, ↓mo_4_6, ↓mo_4_7, ↓mo_4_8, ↓mo_4_9, ↓mo_4_10, ↓mo_5_0, ↓mo_5_1, ↓mo_5_2, ↓mo_5_3, ↓mo_5_4, ↓mo_5_8, ↓mo_5_9, ↓mo_6_0, ↓mo_6_1, ↓mo_7, ↓mo_8, ↓mo_9, ↓mo_10i, ↓mo_10r, ↓mo_10q, ↓mo_11ir, ↓mo_12i, ↓mo_13, ↓mo_13m, ↓mo_14_0, ↓mo_15_0, ↓mo_14_1, ↓mo_15_1, ↓mo_14_2, ↓mo_15_2, ↓mo_14_3, ↓mo_15_3, ↓mo_14_4, ↓mo_15_4, ↓mo_14_5, ↓mo_15_5, ↓mo_16, ↓mo_17, ↓mo_18, ↓mo_19, ↓mo_20i, ↓mo_20z, ↓mo_20l, ↓mo_21, ↓mo_22, ↓mo_23, ↓mo_24, ↓mo_25, ↓mo_27, ↓mo_26, ↓mo_28, ↓mo_31, ↓mo_32, ↓mo_33, ↓mo_34, ↓mo_35, ↓mo_36, ↓mo_37, ↓mo_39, ↓mo_40, ↓mo_30_0, ↓mo_41_0, ↓mo_29_0, ↓mo_30_1, ↓mo_41_1, ↓mo_29_1, ↓mo_30_2, ↓mo_41_2, ↓mo_29_2, ↓mo_30_3, ↓mo_41_3, ↓mo_29_3, ↓mo_30_4, ↓mo_41_4, ↓mo_29_4, ↓mo_30_5, ↓mo_41_5, ↓mo_29_5, ↓me_tb, ↓me_lu, me_t2i, me_t2l, me_t2r, me_t2q, me_t13i, me_t19a, me_t19b, me_t19c, me_t19d, me_tae, me_t28e, me_t36e, ↓me_kn_d, ↓me_ky_d, me_ca_e, me_sv_d, me_in_n, me_in_c, decide_true, decide_false, me_rm_n, me_rm_c, me_lk_c, me_kdI, me_kdL, me_kdR, me_kdQ, me_ag_n, me_agI, me_agL, me_agR, me_agQ, me_w9n, me_w9I, me_w9L, me_w9R, me_w9Q, me_psN, me_psS, mn_0, mn_1, mn_00, mn_10, mn_01, mn_11, or_true, true_or, mn_c0, mn_c1, mn_l0, mn_l1, eq_self, List.contains_nil, List.contains_cons, List.elem_nil, List.elem_cons, List.contains_eq_mem, List.not_mem_nil, List.mem_cons, decide_false, decide_true, or_false, false_or, Bool.or_false, Bool.false_or, List.length_cons, List.length_nil, Nat.reduceAdd, Nat.reduceSub, Nat.reduceMul, Nat.reduceBEq, Nat.reduceEqDiff, Nat.reduceLT, Nat.reduceLeDiff, reduceCtorEq, if_true, if_false, ite_true, ite_false, true_and, and_true, Bool.and_true, Bool.true_and, Bool.and_false, Bool.false_and, Bool.not_true, Bool.not_false, Bool.or_true, Bool.true_or, cond_true, cond_false, not_false_eq_true, not_true_eq_false, true_implies, false_implies, implies_true, Nat.le_refl, Nat.add_zero, Nat.zero_add, Nat.zero_le, ↓mo_gi, cs_X7_load, ↓go_X7_load_0, ↓lo_X7_load_0, ↓go_X7_load_14, ↓lo_X7_load_14, ↓go_X7_load_15, ↓lo_X7_load_15, ↓go_X7_load_23, ↓lo_X7_load_23, m_oc, m_0, m_1, m_2, m_3, m_4, m_5, m_6, m_7, m_8, m_9, m_10, m_11, m_12, l_208, l_209, l_210, l_211, l_212, l_213, l_214, m_13, m_14, m_15, m_16, m_17, m_18, m_19, m_20, m_21, m_22, m_23, m_24, l_215, l_216, l_217, l_218, l_219, l_220, l_221, l_222, em_cell, em_in, em_has, em_refused, em_withBit, mv_b_d, em_isBar, em_isPart, em_isPlayer, em_isTempo, p00, p01, p02, p03, z0c, z1c, w0, hr0]
    refine ⟨vi0 (by omega) (by omega), vi1 (by omega) (by omega), ?_⟩
    refine mp2_0 hK ⟨S, hr⟩ ⟨S, hr, rfl, rfl⟩ ?_ (fr_tr (fr_r _ hf) (fr_v _ (fun c hc => hx c (by omega) (by omega) (by omega)))) ⟨⟨?_, hG2.1.2.1, fun k hk => by rw [hx 208 (by omega) (by omega) (by omega)]; exact hG2.1.2.2 k hk⟩, ⟨hM2, hw⟩, ⟨?_, by show 0 ≤ 14; omega, fun i hi => absurd hi (Nat.not_lt_zero i)⟩, fun s hs => ⟨fun _ => ?_, fun T hT => by cases hT⟩⟩
    · rw [me_up_n _ _ _ (by omega), me_up_n _ _ _ (by omega), up_o (by omega), mcp_n _ _ _ _ _ _ (by omega), up_s]
    · rw [hx7 2 (by omega) (by omega)]; exact hG2.1.1
    · rw [me_up_n _ _ _ (by omega), me_up_n _ _ _ (by omega), up_s]; rfl
    · rcases (show s = 0 ∨ s = 1 by omega) with rfl | rfl
      · rw [up_o (by omega), up_s]
      · rw [up_s]
  · simp only [↓mo_vb, ↓mo_ve, ↓mo_gi, ↓mo_0, ↓mo_1, ↓mo_2, ↓mo_3i, ↓mo_3l, ↓mo_3r, ↓mo_3q, ↓mo_4_0, ↓mo_4_1, ↓mo_4_2, ↓mo_4_3, ↓mo_4_4, ↓mo_4_5, ↓mo_4_6, ↓mo_4_7, ↓mo_4_8, ↓mo_4_9, ↓mo_4_10, ↓mo_5_0, ↓mo_5_1, ↓mo_5_2, ↓mo_5_3, ↓mo_5_4, ↓mo_5_8, ↓mo_5_9, ↓mo_6_0, ↓mo_6_1, ↓mo_7, ↓mo_8, ↓mo_9, ↓mo_10i, ↓mo_10r, ↓mo_10q, ↓mo_11ir, ↓mo_12i, ↓mo_13, ↓mo_13m, ↓mo_14_0, ↓mo_15_0, ↓mo_14_1, ↓mo_15_1, ↓mo_14_2, ↓mo_15_2, ↓mo_14_3, ↓mo_15_3, ↓mo_14_4, ↓mo_15_4, ↓mo_14_5, ↓mo_15_5, ↓mo_16, ↓mo_17, ↓mo_18, ↓mo_19, ↓mo_20i, ↓mo_20z, ↓mo_20l, ↓mo_21, ↓mo_22, ↓mo_23, ↓mo_24, ↓mo_25, ↓mo_27, ↓mo_26, ↓mo_28, ↓mo_31, ↓mo_32, ↓mo_33, ↓mo_34, ↓mo_35, ↓mo_36, ↓mo_37, ↓mo_39, ↓mo_40, ↓mo_30_0, ↓mo_41_0, ↓mo_29_0, ↓mo_30_1, ↓mo_41_1, ↓mo_29_1, ↓mo_30_2, ↓mo_41_2, ↓mo_29_2, ↓mo_30_3, ↓mo_41_3, ↓mo_29_3, ↓mo_30_4, ↓mo_41_4, ↓mo_29_4, ↓mo_30_5, ↓mo_41_5, ↓mo_29_5, ↓me_tb, ↓me_lu, me_t2i, me_t2l, me_t2r, me_t2q, me_t13i, me_t19a, me_t19b, me_t19c, me_t19d, me_tae, me_t28e, me_t36e, ↓me_kn_d, ↓me_ky_d, me_ca_e, me_sv_d, me_in_n, me_in_c, decide_true, decide_false, me_rm_n, me_rm_c, me_lk_c, me_kdI, me_kdL, me_kdR, me_kdQ, me_ag_n, me_agI, me_agL, me_agR, me_agQ, me_w9n, me_w9I, me_w9L, me_w9R, me_w9Q, me_psN, me_psS, mn_0, mn_1, mn_00, mn_10, mn_01, mn_11, or_true, true_or, mn_c0, mn_c1, mn_l0, mn_l1, eq_self, List.contains_nil, List.contains_cons, List.elem_nil, List.elem_cons, List.contains_eq_mem, List.not_mem_nil, List.mem_cons, decide_false, decide_true, or_false, false_or, Bool.or_false, Bool.false_or, List.length_cons, List.length_nil, Nat.reduceAdd, Nat.reduceSub, Nat.reduceMul, Nat.reduceBEq, Nat.reduceEqDiff, Nat.reduceLT, Nat.reduceLeDiff, reduceCtorEq, if_true, if_false, ite_true, ite_false, true_and, and_true, Bool.and_true, Bool.true_and, Bool.and_false, Bool.false_and, Bool.not_true, Bool.not_false, Bool.or_true, Bool.true_or, cond_true, cond_false, not_false_eq_true, not_true_eq_false, true_implies, false_implies, implies_true, Nat.le_refl, Nat.add_zero, Nat.zero_add, Nat.zero_le, ↓mo_gi, cs_X7_load, ↓go_X7_load_0, ↓lo_X7_load_0, ↓go_X7_load_14, ↓lo_X7_load_14, ↓go_X7_load_15, ↓lo_X7_load_15, ↓go_X7_load_23, ↓lo_X7_load_23, m_oc, m_0, m_1, m_2, m_3, m_4, m_5, m_6, m_7, m_8, m_9, m_10, m_11, m_12, l_208, l_209, l_210, l_211, l_212, l_213, l_214, m_13, m_14, m_15, m_16, m_17, m_18, m_19, m_20, m_21, m_22, m_23, m_24, l_215, l_216, l_217, l_218, l_219, l_220, l_221, l_222, em_cell, em_in, em_has, em_refused, em_withBit, mv_b_d, em_isBar, em_isPart, em_isPlayer, em_isTempo, p00, p01, p02, p03, nI_m9 (show e < 2 ^ 31 by omega)]
    refine hK 1 _ G _ _ (Or.inl ⟨fun ⟨S, hS⟩ => ?_, rfl, rfl⟩) up_s (fr_tr (fr_r _ hf) (fr_ref _ _ _)) (md_ref (md_mx hG (mxf_r hf)) _)
    rw [hr] at hS
    cases hS
theorem ct_X7_load {l : Launch} (hfl : l.stackTraces = false) : me_M l yX7_load (.code yX7_load cX7_load 1 (some .int)) 6 176 0 sp_m_load := me_meth (us := 0) (bl := cd_X7_load) (cs := cs_X7_load) (hd := []) hfl (by decide +kernel) rfl (by decide) ⟨by decide, by decide⟩ (by decide) ck_X7_load (by
    intro a ha
    simp only [List.mem_cons, List.not_mem_nil, or_false] at ha
    rcases ha with rfl | rfl | rfl
    · exact cl_X7_refused (ct_X7_refused hfl) (by decide) (by decide)
    · exact cl_X7_copy (ct_X7_copy hfl) (by decide) (by decide)
    · exact cl_X7_readText (ct_X7_readText hfl) (by decide) (by decide)) (by decide) mv_sx vc_X7_load
