/-! ===== a score in numbers; a State of the class that holds it ===== -/
def st_ok (b : Nat) : Prop := me_oc b = some 3 ∧ me_gf b 3 0 = some (.inl 0) ∧ me_gf b 3 1 = some (.inl 0) ∧ me_gf b 3 2 = some (.inr (b + 1)) ∧ me_gf b 3 3 = some (.inr (b + 2)) ∧ me_gf b 3 4 = some (.inr (b + 3)) ∧ me_gf b 3 5 = some (.inr (b + 4)) ∧ me_gf b 3 6 = some (.inr (b + 5)) ∧ me_gf b 3 7 = some (.inr (b + 6)) ∧ me_gf b 3 8 = some (.inr (b + 7)) ∧ me_gf b 3 9 = some (.inr (b + 8)) ∧
  me_al (b + 1) = some (0, 24) ∧ me_al (b + 2) = some (0, 24) ∧ me_al (b + 3) = some (0, 216) ∧ me_al (b + 4) = some (0, 24) ∧ me_al (b + 5) = some (0, 4) ∧ me_al (b + 6) = some (0, 4) ∧ me_al (b + 7) = some (0, 4) ∧ me_al (b + 8) = some (0, 3)
theorem st_3 : st_ok 3 := by unfold st_ok; decide +kernel
theorem st_12 : st_ok 12 := by unfold st_ok; decide +kernel
theorem st_167 : st_ok 167 := by unfold st_ok; decide +kernel
theorem st_h (i : Nat) (h : i < 14) : st_ok (23 + 9 * i) := by
  match i, h with
  | 0, _ => unfold st_ok; decide +kernel
  | 1, _ => unfold st_ok; decide +kernel
  | 2, _ => unfold st_ok; decide +kernel
  | 3, _ => unfold st_ok; decide +kernel
  | 4, _ => unfold st_ok; decide +kernel
  | 5, _ => unfold st_ok; decide +kernel
  | 6, _ => unfold st_ok; decide +kernel
  | 7, _ => unfold st_ok; decide +kernel
  | 8, _ => unfold st_ok; decide +kernel
  | 9, _ => unfold st_ok; decide +kernel
  | 10, _ => unfold st_ok; decide +kernel
  | 11, _ => unfold st_ok; decide +kernel
  | 12, _ => unfold st_ok; decide +kernel
  | 13, _ => unfold st_ok; decide +kernel
theorem st_s (i : Nat) (h : i < 2) : st_ok (189 + 9 * i) := by
  match i, h with
  | 0, _ => unfold st_ok; decide +kernel
  | 1, _ => unfold st_ok; decide +kernel

abbrev sc_T : Type := Nat → Nat → Nat
/-- S 0 0: bars, S 0 1: sections; of a bar j: S 1 j beats, S 2 j mark (0: none), S 3 (9 j + k) stretches, S 4 j passes left out; of a section s: S 5 s first, S 6 s last, S 7 s times; S 8 p: what a player leaves out -/
def sc_at (v : me_V) (b : Nat) (S : sc_T) : Prop :=
  v b 0 = nI (S 0 0) ∧ v b 1 = nI (S 0 1) ∧ (∀ j, j < S 0 0 → v (b + 1) j = nI (S 1 j) ∧ v (b + 2) j = nI (S 2 j) ∧ v (b + 4) j = nI (S 4 j) ∧ ∀ k, k < 9 → v (b + 3) (9 * j + k) = nI (S 3 (9 * j + k))) ∧
  (∀ s, s < S 0 1 → v (b + 5) s = nI (S 5 s) ∧ v (b + 6) s = nI (S 6 s) ∧ v (b + 7) s = nI (S 7 s)) ∧ ∀ p, p < 3 → v (b + 8) p = nI (S 8 p)
def sc_wf (S : sc_T) : Prop :=
  S 0 0 ≤ 24 ∧ S 0 1 ≤ 4 ∧ (∀ j, j < S 0 0 → 1 ≤ S 1 j ∧ S 1 j ≤ 9 ∧ (S 2 j = 0 ∨ 30 ≤ S 2 j) ∧ S 2 j ≤ 240 ∧ S 4 j < 16 ∧ ∀ k, k < 9 → 1 ≤ S 3 (9 * j + k) ∧ S 3 (9 * j + k) ≤ 4) ∧
  (∀ s, s < S 0 1 → S 5 s ≤ S 6 s ∧ S 6 s < S 0 0 ∧ 2 ≤ S 7 s ∧ S 7 s ≤ 4) ∧ (∀ s, s + 1 < S 0 1 → S 6 s < S 5 (s + 1)) ∧ ∀ p, p < 3 → S 8 p < 16777216
def sc_tempo (S : sc_T) : Nat → Nat
  | 0 => if S 2 0 = 0 then 120 else S 2 0
  | j + 1 => if S 2 (j + 1) = 0 then sc_tempo S j else S 2 (j + 1)
/-- the section of a bar: from s on, n left; the number behind the last if there is none -/
def sc_sf (S : sc_T) (j : Nat) : Nat → Nat → Nat
  | 0, s => s
  | n + 1, s => if S 5 s ≤ j ∧ j ≤ S 6 s then s else sc_sf S j n (s + 1)
def sc_sec (S : sc_T) (j : Nat) : Nat := sc_sf S j (S 0 1) 0
def sc_secI (S : sc_T) (j : Nat) : Int32 := if sc_sec S j = S 0 1 then -(nI 9) else nI (sc_sec S j)
def sc_sum (f : Nat → Nat) : Nat → Nat
  | 0 => 0
  | n + 1 => sc_sum f n + f n
theorem sc_sum_le {f : Nat → Nat} {c : Nat} : ∀ n : Nat, (∀ k, k < n → f k ≤ c) → sc_sum f n ≤ n * c
  | 0, _ => by simp [sc_sum]
  | n + 1, h => by
    have h1 := sc_sum_le n (fun k hk => h k (by omega))
    have h2 := h n (by omega)
    simp only [sc_sum, Nat.succ_mul]
    omega
def sc_units (S : sc_T) (j : Nat) : Nat := sc_sum (fun k => S 3 (9 * j + k)) (S 1 j)
def sc_times (S : sc_T) (j : Nat) : Nat := if sc_sec S j = S 0 1 then 1 else S 7 (sc_sec S j)
def sc_marks (S : sc_T) : Nat := sc_sum (fun j => if S 2 j = 0 then 0 else 1) (S 0 0)
def sc_outs (S : sc_T) : Nat := sc_sum (fun j => if S 4 j = 0 then 0 else 1) (S 0 0)
def sc_wide (S : sc_T) : Nat := sc_sum (fun j => sc_sum (fun k => if S 3 (9 * j + k) ≤ 1 then 0 else 1) (S 1 j)) (S 0 0)
def sc_sched (S : sc_T) : Nat := sc_sum (fun j => sc_times S j) (S 0 0)
theorem sc_sf_le (S : sc_T) (j : Nat) : ∀ n s : Nat, s ≤ sc_sf S j n s ∧ sc_sf S j n s ≤ s + n
  | 0, s => by simp [sc_sf]
  | n + 1, s => by
    have ih := sc_sf_le S j n (s + 1)
    unfold sc_sf
    split <;> omega
theorem sc_sec_le (S : sc_T) (j : Nat) : sc_sec S j ≤ S 0 1 := by
  have h := sc_sf_le S j (S 0 1) 0
  unfold sc_sec
  omega
theorem sc_sf_in (S : sc_T) (j : Nat) : ∀ n s : Nat, sc_sf S j n s < s + n → S 5 (sc_sf S j n s) ≤ j ∧ j ≤ S 6 (sc_sf S j n s)
  | 0, s, h => by simp [sc_sf] at h
  | n + 1, s, h => by
    unfold sc_sf at h ⊢
    split
    · assumption
    · rename_i hn
      rw [if_neg hn] at h
      exact sc_sf_in S j n (s + 1) (by omega)
theorem sc_times_le {S : sc_T} (h : sc_wf S) (j : Nat) : 1 ≤ sc_times S j ∧ sc_times S j ≤ 4 := by
  unfold sc_times
  have h1 := sc_sec_le S j
  split
  · omega
  · have h2 := h.2.2.2.1 (sc_sec S j) (by omega)
    omega
theorem nI_lts {a b : Nat} (ha : a < 2 ^ 31) (hb : b < 2 ^ 31) : (nI a < nI b) = (a < b) := propext (nI_ltI ha hb)
theorem nI_les {a b : Nat} (ha : a < 2 ^ 31) (hb : b < 2 ^ 31) : (nI a ≤ nI b) = (a ≤ b) := propext (nI_leI ha hb)
theorem nI_eqs {a b : Nat} (ha : a < 2 ^ 31) (hb : b < 2 ^ 31) : (nI a = nI b) = (a = b) := propext (nI_eq ha hb)
theorem nI_eq0 {a : Nat} (ha : a < 2 ^ 31) : (nI a = 0) = (a = 0) := by rw [← mn_0]; exact nI_eqs ha (by omega)
theorem nI_lt0 {a : Nat} (ha : a < 2 ^ 31) : (nI a < 0) = False := by rw [← mn_0, nI_lts ha (by omega)]; simp
theorem sc_tempo_le {S : sc_T} (h : sc_wf S) : ∀ j, j < S 0 0 → 30 ≤ sc_tempo S j ∧ sc_tempo S j ≤ 240
  | 0, hj => by
    obtain ⟨h1, -, h3, -⟩ := h
    have h4 := h3 0 hj
    unfold sc_tempo
    split <;> omega
  | j + 1, hj => by
    have ih := sc_tempo_le h j (by omega)
    obtain ⟨h1, -, h3, -⟩ := h
    have h4 := h3 (j + 1) hj
    unfold sc_tempo
    split <;> omega
def sp_tempoOf : me_P := fun as v w K _ => ∃ (b j : Nat) (S : sc_T), as = [vR b, vI (nI j)] ∧ st_ok b ∧ sc_at v b S ∧ sc_wf S ∧ j < S 0 0 ∧ K (some (vI (nI (sc_tempo S j)))) v w
theorem go_X3_tempoOf_0 {cs : Nat → Nat × me_P} {KR : me_K} {kx : (Nat → Nat → me_L → List me_S → me_V → me_U → Prop) → Nat → Nat → me_L → Nat → me_V → me_U → Prop} {km : Nat} {sx : me_Sc} {hd : List Nat} {Inv : Nat → Nat → me_L → List me_S → me_V → me_U → Prop} {n k : Nat} {L : me_L} {st : List me_S} {v : me_V} {w : me_U} (hn : (n == 0) = false) (h : hd.contains 0 = false) : me_go cs KR kx km sx cd_X3_tempoOf hd Inv n 0 k L st v w = me_vb cs (me_go cs KR kx km sx cd_X3_tempoOf hd Inv (n - 1)) KR (kx (me_go cs KR kx km sx cd_X3_tempoOf hd Inv (n - 1))) km sx [(2, 1, 0, [], 1, 0, 0), (3, 2, 0, [], 1, 0, 0)] 0 k L st v w := by
  rcases n with _ | n
  · cases hn
  · rw [mo_gb h]
    rfl
theorem lo_X3_tempoOf_0 {cs : Nat → Nat × me_P} {J : Nat → Nat → me_L → List me_S → me_V → me_U → Prop} {KR : me_K} {KX : Nat → Nat → me_L → Nat → me_V → me_U → Prop} {km : Nat} {sx : me_Sc} {k : Nat} {L : me_L} {st : List me_S} {v : me_V} {w : me_U} : me_vb cs J KR KX km sx (me_bk cd_X3_tempoOf 0) 0 k L st v w = me_vb cs J KR KX km sx [(2, 1, 0, [], 1, 0, 0), (3, 2, 0, [], 1, 0, 0)] 0 k L st v w := rfl
theorem go_X3_tempoOf_2 {cs : Nat → Nat × me_P} {KR : me_K} {kx : (Nat → Nat → me_L → List me_S → me_V → me_U → Prop) → Nat → Nat → me_L → Nat → me_V → me_U → Prop} {km : Nat} {sx : me_Sc} {hd : List Nat} {Inv : Nat → Nat → me_L → List me_S → me_V → me_U → Prop} {n k : Nat} {L : me_L} {st : List me_S} {v : me_V} {w : me_U} (hn : (n == 0) = false) (h : hd.contains 2 = false) : me_go cs KR kx km sx cd_X3_tempoOf hd Inv n 2 k L st v w = me_vb cs (me_go cs KR kx km sx cd_X3_tempoOf hd Inv (n - 1)) KR (kx (me_go cs KR kx km sx cd_X3_tempoOf hd Inv (n - 1))) km sx [(2, 2, 0, [], 1, 0, 0), (14, 28, 2, [], 3, 0, 0), (2, 0, 2, [], 1, 0, 0), (19, 3, 3, [], 3, 0, 104), (2, 2, 0, [], 1, 0, 0), (21, 0, 0, [], 1, 0, 0), (14, 22, 0, [], 3, 0, 0), (2, 0, 2, [], 1, 0, 0), (19, 3, 3, [], 3, 0, 104), (2, 2, 0, [], 1, 0, 0), (21, 0, 0, [], 1, 0, 0), (32, 0, 0, [], 1, 0, 0)] 2 k L st v w := by
  rcases n with _ | n
  · cases hn
  · rw [mo_gb h]
    rfl
theorem lo_X3_tempoOf_2 {cs : Nat → Nat × me_P} {J : Nat → Nat → me_L → List me_S → me_V → me_U → Prop} {KR : me_K} {KX : Nat → Nat → me_L → Nat → me_V → me_U → Prop} {km : Nat} {sx : me_Sc} {k : Nat} {L : me_L} {st : List me_S} {v : me_V} {w : me_U} : me_vb cs J KR KX km sx (me_bk cd_X3_tempoOf 2) 2 k L st v w = me_vb cs J KR KX km sx [(2, 2, 0, [], 1, 0, 0), (14, 28, 2, [], 3, 0, 0), (2, 0, 2, [], 1, 0, 0), (19, 3, 3, [], 3, 0, 104), (2, 2, 0, [], 1, 0, 0), (21, 0, 0, [], 1, 0, 0), (14, 22, 0, [], 3, 0, 0), (2, 0, 2, [], 1, 0, 0), (19, 3, 3, [], 3, 0, 104), (2, 2, 0, [], 1, 0, 0), (21, 0, 0, [], 1, 0, 0), (32, 0, 0, [], 1, 0, 0)] 2 k L st v w := rfl
theorem go_X3_tempoOf_22 {cs : Nat → Nat × me_P} {KR : me_K} {kx : (Nat → Nat → me_L → List me_S → me_V → me_U → Prop) → Nat → Nat → me_L → Nat → me_V → me_U → Prop} {km : Nat} {sx : me_Sc} {hd : List Nat} {Inv : Nat → Nat → me_L → List me_S → me_V → me_U → Prop} {n k : Nat} {L : me_L} {st : List me_S} {v : me_V} {w : me_U} (hn : (n == 0) = false) (h : hd.contains 22 = false) : me_go cs KR kx km sx cd_X3_tempoOf hd Inv n 22 k L st v w = me_vb cs (me_go cs KR kx km sx cd_X3_tempoOf hd Inv (n - 1)) KR (kx (me_go cs KR kx km sx cd_X3_tempoOf hd Inv (n - 1))) km sx [(13, 2, 1, [1], 3, 0, 0), (16, 2, 0, [], 3, 0, 0)] 22 k L st v w := by
  rcases n with _ | n
  · cases hn
  · rw [mo_gb h]
    rfl
theorem lo_X3_tempoOf_22 {cs : Nat → Nat × me_P} {J : Nat → Nat → me_L → List me_S → me_V → me_U → Prop} {KR : me_K} {KX : Nat → Nat → me_L → Nat → me_V → me_U → Prop} {km : Nat} {sx : me_Sc} {k : Nat} {L : me_L} {st : List me_S} {v : me_V} {w : me_U} : me_vb cs J KR KX km sx (me_bk cd_X3_tempoOf 22) 22 k L st v w = me_vb cs J KR KX km sx [(13, 2, 1, [1], 3, 0, 0), (16, 2, 0, [], 3, 0, 0)] 22 k L st v w := rfl
theorem go_X3_tempoOf_28 {cs : Nat → Nat × me_P} {KR : me_K} {kx : (Nat → Nat → me_L → List me_S → me_V → me_U → Prop) → Nat → Nat → me_L → Nat → me_V → me_U → Prop} {km : Nat} {sx : me_Sc} {hd : List Nat} {Inv : Nat → Nat → me_L → List me_S → me_V → me_U → Prop} {n k : Nat} {L : me_L} {st : List me_S} {v : me_V} {w : me_U} (hn : (n == 0) = false) (h : hd.contains 28 = false) : me_go cs KR kx km sx cd_X3_tempoOf hd Inv n 28 k L st v w = me_vb cs (me_go cs KR kx km sx cd_X3_tempoOf hd Inv (n - 1)) KR (kx (me_go cs KR kx km sx cd_X3_tempoOf hd Inv (n - 1))) km sx [(0, 120, 0, [], 2, 0, 0), (32, 0, 0, [], 1, 0, 0)] 28 k L st v w := by
  rcases n with _ | n
  · cases hn
  · rw [mo_gb h]
    rfl
theorem lo_X3_tempoOf_28 {cs : Nat → Nat × me_P} {J : Nat → Nat → me_L → List me_S → me_V → me_U → Prop} {KR : me_K} {KX : Nat → Nat → me_L → Nat → me_V → me_U → Prop} {km : Nat} {sx : me_Sc} {k : Nat} {L : me_L} {st : List me_S} {v : me_V} {w : me_U} : me_vb cs J KR KX km sx (me_bk cd_X3_tempoOf 28) 28 k L st v w = me_vb cs J KR KX km sx [(0, 120, 0, [], 2, 0, 0), (32, 0, 0, [], 1, 0, 0)] 28 k L st v w := rfl
def cs_X3_tempoOf : Nat → Nat × me_P := fun a => match a with
  | _ => (0, fun _ _ _ _ _ => False)
set_option maxHeartbeats 1000000 in
set_option maxRecDepth 100000 in
theorem vc_X3_tempoOf : mv_ok cs_X3_tempoOf cd_X3_tempoOf [2] 0 3 sp_tempoOf := by
  intro as v w K X h
  obtain ⟨b, j, S, rfl, hb, hS, hwf, hj, hK⟩ := h
  obtain ⟨hoc, f0, f1, f2, f3, f4, f5, f6, f7, f8, f9, a1, a2, a3, a4, a5, a6, a7, a8⟩ := hb
  refine ⟨Nat.le_of_ble_eq_true rfl, 20, fun μ pc k L st v2 w2 => pc = 2 ∧ k = 0 ∧ st = [] ∧ v2 = v ∧ w2 = w ∧ ∃ x : Int32, L = [(0, vR b), (1, vI (nI j)), (2, vI x)] ∧ ((∃ m, m ≤ j ∧ x = nI m ∧ sc_tempo S m = sc_tempo S j ∧ μ = m + 1) ∨ (x = -1 ∧ sc_tempo S j = 120 ∧ μ = 0)), ?_, ?_⟩
  · simp only [↓mo_vb, ↓mo_ve, ↓mo_gi, ↓mo_0, ↓mo_1, ↓mo_2, ↓mo_3i, ↓mo_3l, ↓mo_3r, ↓mo_3q, ↓mo_4_0, ↓mo_4_1, ↓mo_4_2, ↓mo_4_3, ↓mo_4_4, ↓mo_4_5, ↓mo_4_6, ↓mo_4_7, ↓mo_4_8, ↓mo_4_9, ↓mo_4_10, ↓mo_5_0, ↓mo_5_1, ↓mo_5_2, ↓mo_5_3, ↓mo_5_4, ↓mo_5_8, ↓mo_5_9, ↓mo_6_0, ↓mo_6_1, ↓mo_7, ↓mo_8, ↓mo_9, ↓mo_10i, ↓mo_10r, ↓mo_10q, ↓mo_11ir, ↓mo_12i, ↓mo_13, ↓mo_13m, ↓mo_14_0, ↓mo_15_0, ↓mo_14_1, ↓mo_15_1, ↓mo_14_2, ↓mo_15_2, ↓mo_14_3, ↓mo_15_3, ↓mo_14_4, ↓mo_15_4, ↓mo_14_5, ↓mo_15_5, ↓mo_16, ↓mo_17, ↓mo_18, ↓mo_19, ↓mo_20i, ↓mo_20z, ↓mo_20l, ↓mo_21, ↓mo_22, ↓mo_23, ↓mo_24, ↓mo_25, ↓mo_27, ↓mo_26, ↓mo_28, ↓mo_31, ↓mo_32, ↓mo_33, ↓mo_34, ↓mo_35, ↓mo_36, ↓mo_37, ↓mo_39, ↓mo_40, ↓mo_30_0, ↓mo_41_0, ↓mo_29_0, ↓mo_30_1, ↓mo_41_1, ↓mo_29_1, ↓mo_30_2, ↓mo_41_2, ↓mo_29_2, ↓mo_30_3, ↓mo_41_3, ↓mo_29_3, ↓mo_30_4, ↓mo_41_4, ↓mo_29_4, ↓mo_30_5, ↓mo_41_5, ↓mo_29_5, ↓me_tb, ↓me_lu, me_t2i, me_t2l, me_t2r, me_t2q, me_t13i, me_t19a, me_t19b, me_t19c, me_t19d, me_tae, me_t28e, me_t36e, ↓me_kn_d, ↓me_ky_d, me_ca_e, me_sv_d, me_in_n, me_in_c, decide_true, decide_false, me_rm_n, me_rm_c, me_lk_c, me_kdI, me_kdL, me_kdR, me_kdQ, me_ag_n, me_agI, me_agL, me_agR, me_agQ, me_w9n, me_w9I, me_w9L, me_w9R, me_w9Q, me_psN, me_psS, mn_0, mn_1, mn_00, mn_10, mn_01, mn_11, or_true, true_or, mn_c0, mn_c1, mn_l0, mn_l1, eq_self, List.contains_nil, List.contains_cons, List.elem_nil, List.elem_cons, List.contains_eq_mem, List.not_mem_nil, List.mem_cons, decide_false, decide_true, or_false, false_or, Bool.or_false, Bool.false_or, List.length_cons, List.length_nil, Nat.reduceAdd, Nat.reduceSub, Nat.reduceMul, Nat.reduceBEq, Nat.reduceEqDiff, Nat.reduceLT, Nat.reduceLeDiff, reduceCtorEq, if_true, if_false, ite_true, ite_false, true_and, and_true, Bool.and_true, Bool.true_and, Bool.and_false, Bool.false_and, Bool.not_true, Bool.not_false, Bool.or_true, Bool.true_or, cond_true, cond_false, not_false_eq_true, not_true_eq_false, true_implies, false_implies, implies_true, Nat.le_refl, Nat.add_zero, Nat.zero_add, Nat.zero_le, ↓mo_gi, cs_X3_tempoOf, ↓go_X3_tempoOf_0, ↓lo_X3_tempoOf_0, ↓go_X3_tempoOf_2, ↓lo_X3_tempoOf_2, ↓go_X3_tempoOf_22, ↓lo_X3_tempoOf_22, ↓go_X3_tempoOf_28, ↓lo_X3_tempoOf_28, hoc, f0, f1, f2, f3, f4, f5, f6, f7, f8, f9, a1, a2, a3, a4, a5, a6, a7, a8]
    exact ⟨j + 1, _, rfl, Or.inl ⟨j, Nat.le_refl _, rfl, rfl, rfl⟩⟩
  · rintro μ pc k L st v2 w2 hpc ⟨rfl, rfl, rfl, rfl, rfl, x, rfl, hx⟩
    rcases hx with ⟨m, hm, rfl, ht, rfl⟩ | ⟨rfl, ht, rfl⟩
    · have h24 := hwf.1
      have e2 := (hS.2.2.1 m (by omega)).2.1
      have b2 := hwf.2.2.1 m (by omega)
      have hcl : (nI m).toNatClampNeg = m := nI_clamp (by omega)
      simp only [↓mo_vb, ↓mo_ve, ↓mo_gi, ↓mo_0, ↓mo_1, ↓mo_2, ↓mo_3i, ↓mo_3l, ↓mo_3r, ↓mo_3q, ↓mo_4_0, ↓mo_4_1, ↓mo_4_2, ↓mo_4_3, ↓mo_4_4, ↓mo_4_5, ↓mo_4_6, ↓mo_4_7, ↓mo_4_8, ↓mo_4_9, ↓mo_4_10, ↓mo_5_0, ↓mo_5_1, ↓mo_5_2, ↓mo_5_3, ↓mo_5_4, ↓mo_5_8, ↓mo_5_9, ↓mo_6_0, ↓mo_6_1, ↓mo_7, ↓mo_8, ↓mo_9, ↓mo_10i, ↓mo_10r, ↓mo_10q, ↓mo_11ir, ↓mo_12i, ↓mo_13, ↓mo_13m, ↓mo_14_0, ↓mo_15_0, ↓mo_14_1, ↓mo_15_1, ↓mo_14_2, ↓mo_15_2, ↓mo_14_3, ↓mo_15_3, ↓mo_14_4, ↓mo_15_4, ↓mo_14_5, ↓mo_15_5, ↓mo_16, ↓mo_17, ↓mo_18, ↓mo_19, ↓mo_20i, ↓mo_20z, ↓mo_20l, ↓mo_21, ↓mo_22, ↓mo_23, ↓mo_24, ↓mo_25, ↓mo_27, ↓mo_26, ↓mo_28, ↓mo_31, ↓mo_32, ↓mo_33, ↓mo_34, ↓mo_35, ↓mo_36, ↓mo_37, ↓mo_39, ↓mo_40, ↓mo_30_0, ↓mo_41_0, ↓mo_29_0, ↓mo_30_1, ↓mo_41_1, ↓mo_29_1, ↓mo_30_2, ↓mo_41_2, ↓mo_29_2, ↓mo_30_3, ↓mo_41_3, ↓mo_29_3, ↓mo_30_4, ↓mo_41_4, ↓mo_29_4, ↓mo_30_5, ↓mo_41_5, ↓mo_29_5, ↓me_tb, ↓me_lu, me_t2i, me_t2l, me_t2r, me_t2q, me_t13i, me_t19a, me_t19b, me_t19c, me_t19d, me_tae, me_t28e, me_t36e, ↓me_kn_d, ↓me_ky_d, me_ca_e, me_sv_d, me_in_n, me_in_c, decide_true, decide_false, me_rm_n, me_rm_c, me_lk_c, me_kdI, me_kdL, me_kdR, me_kdQ, me_ag_n, me_agI, me_agL, me_agR, me_agQ, me_w9n, me_w9I, me_w9L, me_w9R, me_w9Q, me_psN, me_psS, mn_0, mn_1, mn_00, mn_10, mn_01, mn_11, or_true, true_or, mn_c0, mn_c1, mn_l0, mn_l1, eq_self, List.contains_nil, List.contains_cons, List.elem_nil, List.elem_cons, List.contains_eq_mem, List.not_mem_nil, List.mem_cons, decide_false, decide_true, or_false, false_or, Bool.or_false, Bool.false_or, List.length_cons, List.length_nil, Nat.reduceAdd, Nat.reduceSub, Nat.reduceMul, Nat.reduceBEq, Nat.reduceEqDiff, Nat.reduceLT, Nat.reduceLeDiff, reduceCtorEq, if_true, if_false, ite_true, ite_false, true_and, and_true, Bool.and_true, Bool.true_and, Bool.and_false, Bool.false_and, Bool.not_true, Bool.not_false, Bool.or_true, Bool.true_or, cond_true, cond_false, not_false_eq_true, not_true_eq_false, true_implies, false_implies, implies_true, Nat.le_refl, Nat.add_zero, Nat.zero_add, Nat.zero_le, ↓mo_gi, cs_X3_tempoOf, ↓go_X3_tempoOf_0, ↓lo_X3_tempoOf_0, ↓go_X3_tempoOf_2, ↓lo_X3_tempoOf_2, ↓go_X3_tempoOf_22, ↓lo_X3_tempoOf_22, ↓go_X3_tempoOf_28, ↓lo_X3_tempoOf_28, hoc, f0, f1, f2, f3, f4, f5, f6, f7, f8, f9, a1, a2, a3, a4, a5, a6, a7, a8, hcl, e2, nI_lt0 (show m < 2 ^ 31 by omega), nI_eq0 (show S 2 m < 2 ^ 31 by omega)]
      refine ⟨vp_in_nI (by omega) (by omega), fun h => ?_, fun h => ⟨vp_in_nI (by omega) (by omega), ?_⟩⟩
      · rcases m with _ | m
        · exact ⟨0, by omega, _, rfl, Or.inr ⟨by decide, by rw [← ht]; simp [sc_tempo, h], rfl⟩⟩
        · exact ⟨m + 1, by omega, _, rfl, Or.inl ⟨m, by omega, pk_m1 m, by rw [← ht]; simp [sc_tempo, h], rfl⟩⟩
      · rw [show S 2 m = sc_tempo S j by rw [← ht]; cases m <;> simp [sc_tempo, h]]
        exact hK
    · simp only [↓mo_vb, ↓mo_ve, ↓mo_gi, ↓mo_0, ↓mo_1, ↓mo_2, ↓mo_3i, ↓mo_3l, ↓mo_3r, ↓mo_3q, ↓mo_4_0, ↓mo_4_1, ↓mo_4_2, ↓mo_4_3, ↓mo_4_4, ↓mo_4_5, ↓mo_4_6, ↓mo_4_7, ↓mo_4_8, ↓mo_4_9, ↓mo_4_10, ↓mo_5_0, ↓mo_5_1, ↓mo_5_2, ↓mo_5_3, ↓mo_5_4, ↓mo_5_8, ↓mo_5_9, ↓mo_6_0, ↓mo_6_1, ↓mo_7, ↓mo_8, ↓mo_9, ↓mo_10i, ↓mo_10r, ↓mo_10q, ↓mo_11ir, ↓mo_12i, ↓mo_13, ↓mo_13m, ↓mo_14_0, ↓mo_15_0, ↓mo_14_1, ↓mo_15_1, ↓mo_14_2, ↓mo_15_2, ↓mo_14_3, ↓mo_15_3, ↓mo_14_4, ↓mo_15_4, ↓mo_14_5, ↓mo_15_5, ↓mo_16, ↓mo_17, ↓mo_18, ↓mo_19, ↓mo_20i, ↓mo_20z, ↓mo_20l, ↓mo_21, ↓mo_22, ↓mo_23, ↓mo_24, ↓mo_25, ↓mo_27, ↓mo_26, ↓mo_28, ↓mo_31, ↓mo_32, ↓mo_33, ↓mo_34, ↓mo_35, ↓mo_36, ↓mo_37, ↓mo_39, ↓mo_40, ↓mo_30_0, ↓mo_41_0, ↓mo_29_0, ↓mo_30_1, ↓mo_41_1, ↓mo_29_1, ↓mo_30_2, ↓mo_41_2, ↓mo_29_2, ↓mo_30_3, ↓mo_41_3, ↓mo_29_3, ↓mo_30_4, ↓mo_41_4, ↓mo_29_4, ↓mo_30_5, ↓mo_41_5, ↓mo_29_5, ↓me_tb, ↓me_lu, me_t2i, me_t2l, me_t2r, me_t2q, me_t13i, me_t19a, me_t19b, me_t19c, me_t19d, me_tae, me_t28e, me_t36e, ↓me_kn_d, ↓me_ky_d, me_ca_e, me_sv_d, me_in_n, me_in_c, decide_true, decide_false, me_rm_n, me_rm_c, me_lk_c, me_kdI, me_kdL, me_kdR, me_kdQ, me_ag_n, me_agI, me_agL, me_agR, me_agQ, me_w9n, me_w9I, me_w9L, me_w9R, me_w9Q, me_psN, me_psS, mn_0, mn_1, mn_00, mn_10, mn_01, mn_11, or_true, true_or, mn_c0, mn_c1, mn_l0, mn_l1, eq_self, List.contains_nil, List.contains_cons, List.elem_nil, List.elem_cons, List.contains_eq_mem, List.not_mem_nil, List.mem_cons, decide_false, decide_true, or_false, false_or, Bool.or_false, Bool.false_or, List.length_cons, List.length_nil, Nat.reduceAdd, Nat.reduceSub, Nat.reduceMul, Nat.reduceBEq, Nat.reduceEqDiff, Nat.reduceLT, Nat.reduceLeDiff, reduceCtorEq, if_true, if_false, ite_true, ite_false, true_and, and_true, Bool.and_true, Bool.true_and, Bool.and_false, Bool.false_and, Bool.not_true, Bool.not_false, Bool.or_true, Bool.true_or, cond_true, cond_false, not_false_eq_true, not_true_eq_false, true_implies, false_implies, implies_true, Nat.le_refl, Nat.add_zero, Nat.zero_add, Nat.zero_le, ↓mo_gi, cs_X3_tempoOf, ↓go_X3_tempoOf_0, ↓lo_X3_tempoOf_0, ↓go_X3_tempoOf_2, ↓lo_X3_tempoOf_2, ↓go_X3_tempoOf_22, ↓lo_X3_tempoOf_22, ↓go_X3_tempoOf_28, ↓lo_X3_tempoOf_28, hoc, f0, f1, f2, f3, f4, f5, f6, f7, f8, f9, a1, a2, a3, a4, a5, a6, a7, a8]
      rw [show (120 : Nat) = sc_tempo S j from ht.symm]
      exact ⟨fun _ => hK, fun h => absurd (by decide) h⟩
theorem ct_X3_tempoOf {l : Launch} (hfl : l.stackTraces = false) : me_M l yX3_tempoOf (.code yX3_tempoOf cX3_tempoOf 3 (some .int)) 1 60 0 sp_tempoOf := me_meth (us := 0) (bl := cd_X3_tempoOf) (cs := cs_X3_tempoOf) (hd := [2]) hfl (by decide +kernel) rfl (by decide) ⟨by decide, by decide⟩ (by decide) ck_X3_tempoOf (fun a ha => absurd ha List.not_mem_nil) (by decide) mv_sx vc_X3_tempoOf
def sp_sectionOf : me_P := fun as v w K _ => ∃ (b j : Nat) (S : sc_T), as = [vR b, vI (nI j)] ∧ st_ok b ∧ sc_at v b S ∧ sc_wf S ∧ j < 24 ∧ K (some (vI (sc_secI S j))) v w
theorem go_X3_sectionOf_0 {cs : Nat → Nat × me_P} {KR : me_K} {kx : (Nat → Nat → me_L → List me_S → me_V → me_U → Prop) → Nat → Nat → me_L → Nat → me_V → me_U → Prop} {km : Nat} {sx : me_Sc} {hd : List Nat} {Inv : Nat → Nat → me_L → List me_S → me_V → me_U → Prop} {n k : Nat} {L : me_L} {st : List me_S} {v : me_V} {w : me_U} (hn : (n == 0) = false) (h : hd.contains 0 = false) : me_go cs KR kx km sx cd_X3_sectionOf hd Inv n 0 k L st v w = me_vb cs (me_go cs KR kx km sx cd_X3_sectionOf hd Inv (n - 1)) KR (kx (me_go cs KR kx km sx cd_X3_sectionOf hd Inv (n - 1))) km sx [(0, 0, 0, [], 1, 0, 0), (3, 2, 0, [], 1, 0, 0)] 0 k L st v w := by
  rcases n with _ | n
  · cases hn
  · rw [mo_gb h]
    rfl
theorem lo_X3_sectionOf_0 {cs : Nat → Nat × me_P} {J : Nat → Nat → me_L → List me_S → me_V → me_U → Prop} {KR : me_K} {KX : Nat → Nat → me_L → Nat → me_V → me_U → Prop} {km : Nat} {sx : me_Sc} {k : Nat} {L : me_L} {st : List me_S} {v : me_V} {w : me_U} : me_vb cs J KR KX km sx (me_bk cd_X3_sectionOf 0) 0 k L st v w = me_vb cs J KR KX km sx [(0, 0, 0, [], 1, 0, 0), (3, 2, 0, [], 1, 0, 0)] 0 k L st v w := rfl
theorem go_X3_sectionOf_2 {cs : Nat → Nat × me_P} {KR : me_K} {kx : (Nat → Nat → me_L → List me_S → me_V → me_U → Prop) → Nat → Nat → me_L → Nat → me_V → me_U → Prop} {km : Nat} {sx : me_Sc} {hd : List Nat} {Inv : Nat → Nat → me_L → List me_S → me_V → me_U → Prop} {n k : Nat} {L : me_L} {st : List me_S} {v : me_V} {w : me_U} (hn : (n == 0) = false) (h : hd.contains 2 = false) : me_go cs KR kx km sx cd_X3_sectionOf hd Inv n 2 k L st v w = me_vb cs (me_go cs KR kx km sx cd_X3_sectionOf hd Inv (n - 1)) KR (kx (me_go cs KR kx km sx cd_X3_sectionOf hd Inv (n - 1))) km sx [(2, 2, 0, [], 1, 0, 0), (2, 0, 2, [], 1, 0, 0), (19, 3, 1, [], 3, 0, 97), (15, 38, 3, [], 3, 0, 0), (2, 1, 0, [], 1, 0, 0), (2, 0, 2, [], 1, 0, 0), (19, 3, 6, [], 3, 0, 111), (2, 2, 0, [], 1, 0, 0), (21, 0, 0, [], 1, 0, 0), (15, 32, 2, [], 3, 0, 0), (2, 1, 0, [], 1, 0, 0), (2, 0, 2, [], 1, 0, 0), (19, 3, 7, [], 3, 0, 114), (2, 2, 0, [], 1, 0, 0), (21, 0, 0, [], 1, 0, 0), (15, 32, 4, [], 3, 0, 0), (2, 2, 0, [], 1, 0, 0), (32, 0, 0, [], 1, 0, 0)] 2 k L st v w := by
  rcases n with _ | n
  · cases hn
  · rw [mo_gb h]
    rfl
theorem lo_X3_sectionOf_2 {cs : Nat → Nat × me_P} {J : Nat → Nat → me_L → List me_S → me_V → me_U → Prop} {KR : me_K} {KX : Nat → Nat → me_L → Nat → me_V → me_U → Prop} {km : Nat} {sx : me_Sc} {k : Nat} {L : me_L} {st : List me_S} {v : me_V} {w : me_U} : me_vb cs J KR KX km sx (me_bk cd_X3_sectionOf 2) 2 k L st v w = me_vb cs J KR KX km sx [(2, 2, 0, [], 1, 0, 0), (2, 0, 2, [], 1, 0, 0), (19, 3, 1, [], 3, 0, 97), (15, 38, 3, [], 3, 0, 0), (2, 1, 0, [], 1, 0, 0), (2, 0, 2, [], 1, 0, 0), (19, 3, 6, [], 3, 0, 111), (2, 2, 0, [], 1, 0, 0), (21, 0, 0, [], 1, 0, 0), (15, 32, 2, [], 3, 0, 0), (2, 1, 0, [], 1, 0, 0), (2, 0, 2, [], 1, 0, 0), (19, 3, 7, [], 3, 0, 114), (2, 2, 0, [], 1, 0, 0), (21, 0, 0, [], 1, 0, 0), (15, 32, 4, [], 3, 0, 0), (2, 2, 0, [], 1, 0, 0), (32, 0, 0, [], 1, 0, 0)] 2 k L st v w := rfl
theorem go_X3_sectionOf_32 {cs : Nat → Nat × me_P} {KR : me_K} {kx : (Nat → Nat → me_L → List me_S → me_V → me_U → Prop) → Nat → Nat → me_L → Nat → me_V → me_U → Prop} {km : Nat} {sx : me_Sc} {hd : List Nat} {Inv : Nat → Nat → me_L → List me_S → me_V → me_U → Prop} {n k : Nat} {L : me_L} {st : List me_S} {v : me_V} {w : me_U} (hn : (n == 0) = false) (h : hd.contains 32 = false) : me_go cs KR kx km sx cd_X3_sectionOf hd Inv n 32 k L st v w = me_vb cs (me_go cs KR kx km sx cd_X3_sectionOf hd Inv (n - 1)) KR (kx (me_go cs KR kx km sx cd_X3_sectionOf hd Inv (n - 1))) km sx [(13, 2, 1, [], 3, 0, 0), (16, 2, 0, [], 3, 0, 0)] 32 k L st v w := by
  rcases n with _ | n
  · cases hn
  · rw [mo_gb h]
    rfl
theorem lo_X3_sectionOf_32 {cs : Nat → Nat × me_P} {J : Nat → Nat → me_L → List me_S → me_V → me_U → Prop} {KR : me_K} {KX : Nat → Nat → me_L → Nat → me_V → me_U → Prop} {km : Nat} {sx : me_Sc} {k : Nat} {L : me_L} {st : List me_S} {v : me_V} {w : me_U} : me_vb cs J KR KX km sx (me_bk cd_X3_sectionOf 32) 32 k L st v w = me_vb cs J KR KX km sx [(13, 2, 1, [], 3, 0, 0), (16, 2, 0, [], 3, 0, 0)] 32 k L st v w := rfl
theorem go_X3_sectionOf_38 {cs : Nat → Nat × me_P} {KR : me_K} {kx : (Nat → Nat → me_L → List me_S → me_V → me_U → Prop) → Nat → Nat → me_L → Nat → me_V → me_U → Prop} {km : Nat} {sx : me_Sc} {hd : List Nat} {Inv : Nat → Nat → me_L → List me_S → me_V → me_U → Prop} {n k : Nat} {L : me_L} {st : List me_S} {v : me_V} {w : me_U} (hn : (n == 0) = false) (h : hd.contains 38 = false) : me_go cs KR kx km sx cd_X3_sectionOf hd Inv n 38 k L st v w = me_vb cs (me_go cs KR kx km sx cd_X3_sectionOf hd Inv (n - 1)) KR (kx (me_go cs KR kx km sx cd_X3_sectionOf hd Inv (n - 1))) km sx [(0, 9, 1, [], 2, 0, 0), (32, 0, 0, [], 1, 0, 0)] 38 k L st v w := by
  rcases n with _ | n
  · cases hn
  · rw [mo_gb h]
    rfl
theorem lo_X3_sectionOf_38 {cs : Nat → Nat × me_P} {J : Nat → Nat → me_L → List me_S → me_V → me_U → Prop} {KR : me_K} {KX : Nat → Nat → me_L → Nat → me_V → me_U → Prop} {km : Nat} {sx : me_Sc} {k : Nat} {L : me_L} {st : List me_S} {v : me_V} {w : me_U} : me_vb cs J KR KX km sx (me_bk cd_X3_sectionOf 38) 38 k L st v w = me_vb cs J KR KX km sx [(0, 9, 1, [], 2, 0, 0), (32, 0, 0, [], 1, 0, 0)] 38 k L st v w := rfl
def cs_X3_sectionOf : Nat → Nat × me_P := fun a => match a with
  | _ => (0, fun _ _ _ _ _ => False)
set_option maxHeartbeats 1000000 in
set_option maxRecDepth 100000 in
theorem vc_X3_sectionOf : mv_ok cs_X3_sectionOf cd_X3_sectionOf [2] 0 3 sp_sectionOf := by
  intro as v w K X h
  obtain ⟨b, j, S, rfl, hb, hS, hwf, hj, hK⟩ := h
  obtain ⟨hoc, f0, f1, f2, f3, f4, f5, f6, f7, f8, f9, a1, a2, a3, a4, a5, a6, a7, a8⟩ := hb

  refine ⟨Nat.le_of_ble_eq_true rfl, 20, fun μ pc k L st v2 w2 => pc = 2 ∧ k = 0 ∧ st = [] ∧ v2 = v ∧ w2 = w ∧ ∃ s : Nat, L = [(0, vR b), (1, vI (nI j)), (2, vI (nI s))] ∧ s ≤ S 0 1 ∧ sc_sf S j (S 0 1 - s) s = sc_sec S j ∧ μ = S 0 1 - s, ?_, ?_⟩
  · simp only [↓mo_vb, ↓mo_ve, ↓mo_gi, ↓mo_0, ↓mo_1, ↓mo_2, ↓mo_3i, ↓mo_3l, ↓mo_3r, ↓mo_3q, ↓mo_4_0, ↓mo_4_1, ↓mo_4_2, ↓mo_4_3, ↓mo_4_4, ↓mo_4_5, ↓mo_4_6, ↓mo_4_7, ↓mo_4_8, ↓mo_4_9, ↓mo_4_10, ↓mo_5_0, ↓mo_5_1, ↓mo_5_2, ↓mo_5_3, ↓mo_5_4, ↓mo_5_8, ↓mo_5_9, ↓mo_6_0, ↓mo_6_1, ↓mo_7, ↓mo_8, ↓mo_9, ↓mo_10i, ↓mo_10r, ↓mo_10q, ↓mo_11ir, ↓mo_12i, ↓mo_13, ↓mo_13m, ↓mo_14_0, ↓mo_15_0, ↓mo_14_1, ↓mo_15_1, ↓mo_14_2, ↓mo_15_2, ↓mo_14_3, ↓mo_15_3, ↓mo_14_4, ↓mo_15_4, ↓mo_14_5, ↓mo_15_5, ↓mo_16, ↓mo_17, ↓mo_18, ↓mo_19, ↓mo_20i, ↓mo_20z, ↓mo_20l, ↓mo_21, ↓mo_22, ↓mo_23, ↓mo_24, ↓mo_25, ↓mo_27, ↓mo_26, ↓mo_28, ↓mo_31, ↓mo_32, ↓mo_33, ↓mo_34, ↓mo_35, ↓mo_36, ↓mo_37, ↓mo_39, ↓mo_40, ↓mo_30_0, ↓mo_41_0, ↓mo_29_0, ↓mo_30_1, ↓mo_41_1, ↓mo_29_1, ↓mo_30_2, ↓mo_41_2, ↓mo_29_2, ↓mo_30_3, ↓mo_41_3, ↓mo_29_3, ↓mo_30_4, ↓mo_41_4, ↓mo_29_4, ↓mo_30_5, ↓mo_41_5, ↓mo_29_5, ↓me_tb, ↓me_lu, me_t2i, me_t2l, me_t2r, me_t2q, me_t13i, me_t19a, me_t19b, me_t19c, me_t19d, me_tae, me_t28e, me_t36e, ↓me_kn_d, ↓me_ky_d, me_ca_e, me_sv_d, me_in_n, me_in_c, decide_true, decide_false, me_rm_n, me_rm_c, me_lk_c, me_kdI, me_kdL, me_kdR, me_kdQ, me_ag_n, me_agI, me_agL, me_agR, me_agQ, me_w9n, me_w9I, me_w9L, me_w9R, me_w9Q, me_psN, me_psS, mn_0, mn_1, mn_00, mn_10, mn_01, mn_11, or_true, true_or, mn_c0, mn_c1, mn_l0, mn_l1, eq_self, List.contains_nil, List.contains_cons, List.elem_nil, List.elem_cons, List.contains_eq_mem, List.not_mem_nil, List.mem_cons, decide_false, decide_true, or_false, false_or, Bool.or_false, Bool.false_or, List.length_cons, List.length_nil, Nat.reduceAdd, Nat.reduceSub, Nat.reduceMul, Nat.reduceBEq, Nat.reduceEqDiff, Nat.reduceLT, Nat.reduceLeDiff, reduceCtorEq, if_true, if_false, ite_true, ite_false, true_and, and_true, Bool.and_true, Bool.true_and, Bool.and_false, Bool.false_and, Bool.not_true, Bool.not_false, Bool.or_true, Bool.true_or, cond_true, cond_false, not_false_eq_true, not_true_eq_false, true_implies, false_implies, implies_true, Nat.le_refl, Nat.add_zero, Nat.zero_add, Nat.zero_le, ↓mo_gi, cs_X3_sectionOf, ↓go_X3_sectionOf_0, ↓lo_X3_sectionOf_0, ↓go_X3_sectionOf_2, ↓lo_X3_sectionOf_2, ↓go_X3_sectionOf_32, ↓lo_X3_sectionOf_32, ↓go_X3_sectionOf_38, ↓lo_X3_sectionOf_38, hoc, f0, f1, f2, f3, f4, f5, f6, f7, f8, f9, a1, a2, a3, a4, a5, a6, a7, a8]
    exact ⟨_, 0, rfl, by omega, rfl, rfl⟩
  · rintro μ pc k L st v2 w2 hpc ⟨rfl, rfl, rfl, rfl, rfl, s, rfl, hs, hsf, rfl⟩
    have h4 := hwf.2.1
    rcases Nat.lt_or_ge s (S 0 1) with hlt | hge
    · have e5 := hS.2.2.2.1 s hlt
      have b5 := hwf.2.2.2.1 s hlt
      have h24 := hwf.1
      rw [show S 0 1 - s = (S 0 1 - (s + 1)) + 1 by omega, sc_sf] at hsf
      have hnx : ∀ (_ : ¬ (S 5 s ≤ j ∧ j ≤ S 6 s)), ∃ μ2, μ2 < S 0 1 - s ∧ ∃ s2, [(0, vR b), (1, vI (nI j)), (2, vI (nI s + 1))] = [(0, vR b), (1, vI (nI j)), (2, vI (nI s2))] ∧ s2 ≤ S 0 1 ∧ sc_sf S j (S 0 1 - s2) s2 = sc_sec S j ∧ μ2 = S 0 1 - s2 := fun hn => by
        rw [if_neg hn] at hsf
        exact ⟨S 0 1 - (s + 1), by omega, s + 1, by rw [nI_1], by omega, hsf, rfl⟩
      simp only [↓mo_vb, ↓mo_ve, ↓mo_gi, ↓mo_0, ↓mo_1, ↓mo_2, ↓mo_3i, ↓mo_3l, ↓mo_3r, ↓mo_3q, ↓mo_4_0, ↓mo_4_1, ↓mo_4_2, ↓mo_4_3, ↓mo_4_4, ↓mo_4_5, ↓mo_4_6, ↓mo_4_7, ↓mo_4_8, ↓mo_4_9, ↓mo_4_10, ↓mo_5_0, ↓mo_5_1, ↓mo_5_2, ↓mo_5_3, ↓mo_5_4, ↓mo_5_8, ↓mo_5_9, ↓mo_6_0, ↓mo_6_1, ↓mo_7, ↓mo_8, ↓mo_9, ↓mo_10i, ↓mo_10r, ↓mo_10q, ↓mo_11ir, ↓mo_12i, ↓mo_13, ↓mo_13m, ↓mo_14_0, ↓mo_15_0, ↓mo_14_1, ↓mo_15_1, ↓mo_14_2, ↓mo_15_2, ↓mo_14_3, ↓mo_15_3, ↓mo_14_4, ↓mo_15_4, ↓mo_14_5, ↓mo_15_5, ↓mo_16, ↓mo_17, ↓mo_18, ↓mo_19, ↓mo_20i, ↓mo_20z, ↓mo_20l, ↓mo_21, ↓mo_22, ↓mo_23, ↓mo_24, ↓mo_25, ↓mo_27, ↓mo_26, ↓mo_28, ↓mo_31, ↓mo_32, ↓mo_33, ↓mo_34, ↓mo_35, ↓mo_36, ↓mo_37, ↓mo_39, ↓mo_40, ↓mo_30_0, ↓mo_41_0, ↓mo_29_0, ↓mo_30_1, ↓mo_41_1, ↓mo_29_1, ↓mo_30_2, ↓mo_41_2, ↓mo_29_2, ↓mo_30_3, ↓mo_41_3, ↓mo_29_3, ↓mo_30_4, ↓mo_41_4, ↓mo_29_4, ↓mo_30_5, ↓mo_41_5, ↓mo_29_5, ↓me_tb, ↓me_lu, me_t2i, me_t2l, me_t2r, me_t2q, me_t13i, me_t19a, me_t19b, me_t19c, me_t19d, me_tae, me_t28e, me_t36e, ↓me_kn_d, ↓me_ky_d, me_ca_e, me_sv_d, me_in_n, me_in_c, decide_true, decide_false, me_rm_n, me_rm_c, me_lk_c, me_kdI, me_kdL, me_kdR, me_kdQ, me_ag_n, me_agI, me_agL, me_agR, me_agQ, me_w9n, me_w9I, me_w9L, me_w9R, me_w9Q, me_psN, me_psS, mn_0, mn_1, mn_00, mn_10, mn_01, mn_11, or_true, true_or, mn_c0, mn_c1, mn_l0, mn_l1, eq_self, List.contains_nil, List.contains_cons, List.elem_nil, List.elem_cons, List.contains_eq_mem, List.not_mem_nil, List.mem_cons, decide_false, decide_true, or_false, false_or, Bool.or_false, Bool.false_or, List.length_cons, List.length_nil, Nat.reduceAdd, Nat.reduceSub, Nat.reduceMul, Nat.reduceBEq, Nat.reduceEqDiff, Nat.reduceLT, Nat.reduceLeDiff, reduceCtorEq, if_true, if_false, ite_true, ite_false, true_and, and_true, Bool.and_true, Bool.true_and, Bool.and_false, Bool.false_and, Bool.not_true, Bool.not_false, Bool.or_true, Bool.true_or, cond_true, cond_false, not_false_eq_true, not_true_eq_false, true_implies, false_implies, implies_true, Nat.le_refl, Nat.add_zero, Nat.zero_add, Nat.zero_le, ↓mo_gi, cs_X3_sectionOf, ↓go_X3_sectionOf_0, ↓lo_X3_sectionOf_0, ↓go_X3_sectionOf_2, ↓lo_X3_sectionOf_2, ↓go_X3_sectionOf_32, ↓lo_X3_sectionOf_32, ↓go_X3_sectionOf_38, ↓lo_X3_sectionOf_38, hoc, f0, f1, f2, f3, f4, f5, f6, f7, f8, f9, a1, a2, a3, a4, a5, a6, a7, a8, nI_clamp (show s < 2 ^ 31 by omega), hS.2.1, e5.1, e5.2.1, nI_les (show S 0 1 < 2 ^ 31 by omega) (show s < 2 ^ 31 by omega), nI_lts (show j < 2 ^ 31 by omega) (show S 5 s < 2 ^ 31 by omega), nI_lts (show S 6 s < 2 ^ 31 by omega) (show j < 2 ^ 31 by omega)]
      refine ⟨fun h => absurd h (by omega), fun _ => ⟨vp_in_nI (by omega) (by omega), fun h => hnx (by omega), fun h => ⟨vp_in_nI (by omega) (by omega), fun h2 => hnx (by omega), fun h2 => ?_⟩⟩⟩
      rw [if_pos (by omega)] at hsf
      rw [show nI s = sc_secI S j by unfold sc_secI; rw [if_neg (by omega), hsf]]
      exact hK
    · have : s = S 0 1 := by omega
      subst this
      simp only [↓mo_vb, ↓mo_ve, ↓mo_gi, ↓mo_0, ↓mo_1, ↓mo_2, ↓mo_3i, ↓mo_3l, ↓mo_3r, ↓mo_3q, ↓mo_4_0, ↓mo_4_1, ↓mo_4_2, ↓mo_4_3, ↓mo_4_4, ↓mo_4_5, ↓mo_4_6, ↓mo_4_7, ↓mo_4_8, ↓mo_4_9, ↓mo_4_10, ↓mo_5_0, ↓mo_5_1, ↓mo_5_2, ↓mo_5_3, ↓mo_5_4, ↓mo_5_8, ↓mo_5_9, ↓mo_6_0, ↓mo_6_1, ↓mo_7, ↓mo_8, ↓mo_9, ↓mo_10i, ↓mo_10r, ↓mo_10q, ↓mo_11ir, ↓mo_12i, ↓mo_13, ↓mo_13m, ↓mo_14_0, ↓mo_15_0, ↓mo_14_1, ↓mo_15_1, ↓mo_14_2, ↓mo_15_2, ↓mo_14_3, ↓mo_15_3, ↓mo_14_4, ↓mo_15_4, ↓mo_14_5, ↓mo_15_5, ↓mo_16, ↓mo_17, ↓mo_18, ↓mo_19, ↓mo_20i, ↓mo_20z, ↓mo_20l, ↓mo_21, ↓mo_22, ↓mo_23, ↓mo_24, ↓mo_25, ↓mo_27, ↓mo_26, ↓mo_28, ↓mo_31, ↓mo_32, ↓mo_33, ↓mo_34, ↓mo_35, ↓mo_36, ↓mo_37, ↓mo_39, ↓mo_40, ↓mo_30_0, ↓mo_41_0, ↓mo_29_0, ↓mo_30_1, ↓mo_41_1, ↓mo_29_1, ↓mo_30_2, ↓mo_41_2, ↓mo_29_2, ↓mo_30_3, ↓mo_41_3, ↓mo_29_3, ↓mo_30_4, ↓mo_41_4, ↓mo_29_4, ↓mo_30_5, ↓mo_41_5, ↓mo_29_5, ↓me_tb, ↓me_lu, me_t2i, me_t2l, me_t2r, me_t2q, me_t13i, me_t19a, me_t19b, me_t19c, me_t19d, me_tae, me_t28e, me_t36e, ↓me_kn_d, ↓me_ky_d, me_ca_e, me_sv_d, me_in_n, me_in_c, decide_true, decide_false, me_rm_n, me_rm_c, me_lk_c, me_kdI, me_kdL, me_kdR, me_kdQ, me_ag_n, me_agI, me_agL, me_agR, me_agQ, me_w9n, me_w9I, me_w9L, me_w9R, me_w9Q, me_psN, me_psS, mn_0, mn_1, mn_00, mn_10, mn_01, mn_11, or_true, true_or, mn_c0, mn_c1, mn_l0, mn_l1, eq_self, List.contains_nil, List.contains_cons, List.elem_nil, List.elem_cons, List.contains_eq_mem, List.not_mem_nil, List.mem_cons, decide_false, decide_true, or_false, false_or, Bool.or_false, Bool.false_or, List.length_cons, List.length_nil, Nat.reduceAdd, Nat.reduceSub, Nat.reduceMul, Nat.reduceBEq, Nat.reduceEqDiff, Nat.reduceLT, Nat.reduceLeDiff, reduceCtorEq, if_true, if_false, ite_true, ite_false, true_and, and_true, Bool.and_true, Bool.true_and, Bool.and_false, Bool.false_and, Bool.not_true, Bool.not_false, Bool.or_true, Bool.true_or, cond_true, cond_false, not_false_eq_true, not_true_eq_false, true_implies, false_implies, implies_true, Nat.le_refl, Nat.add_zero, Nat.zero_add, Nat.zero_le, ↓mo_gi, cs_X3_sectionOf, ↓go_X3_sectionOf_0, ↓lo_X3_sectionOf_0, ↓go_X3_sectionOf_2, ↓lo_X3_sectionOf_2, ↓go_X3_sectionOf_32, ↓lo_X3_sectionOf_32, ↓go_X3_sectionOf_38, ↓lo_X3_sectionOf_38, hoc, f0, f1, f2, f3, f4, f5, f6, f7, f8, f9, a1, a2, a3, a4, a5, a6, a7, a8, hS.2.1, nI_les (show S 0 1 < 2 ^ 31 by omega) (show S 0 1 < 2 ^ 31 by omega)]
      rw [Nat.sub_self, sc_sf] at hsf
      rw [show -(nI 9) = sc_secI S j by unfold sc_secI; rw [if_pos hsf.symm]]
      exact hK
theorem ct_X3_sectionOf {l : Launch} (hfl : l.stackTraces = false) : me_M l yX3_sectionOf (.code yX3_sectionOf cX3_sectionOf 3 (some .int)) 1 60 0 sp_sectionOf := me_meth (us := 0) (bl := cd_X3_sectionOf) (cs := cs_X3_sectionOf) (hd := [2]) hfl (by decide +kernel) rfl (by decide) ⟨by decide, by decide⟩ (by decide) ck_X3_sectionOf (fun a ha => absurd ha List.not_mem_nil) (by decide) mv_sx vc_X3_sectionOf
def sp_stretchOf : me_P := fun as v w K _ => ∃ (b j k : Nat) (S : sc_T), as = [vR b, vI (nI j), vI (nI (k + 1))] ∧ st_ok b ∧ sc_at v b S ∧ sc_wf S ∧ j < S 0 0 ∧ k < 9 ∧ K (some (vI (nI (S 3 (9 * j + k))))) v w
theorem go_X3_stretchOf_0 {cs : Nat → Nat × me_P} {KR : me_K} {kx : (Nat → Nat → me_L → List me_S → me_V → me_U → Prop) → Nat → Nat → me_L → Nat → me_V → me_U → Prop} {km : Nat} {sx : me_Sc} {hd : List Nat} {Inv : Nat → Nat → me_L → List me_S → me_V → me_U → Prop} {n k : Nat} {L : me_L} {st : List me_S} {v : me_V} {w : me_U} (hn : (n == 0) = false) (h : hd.contains 0 = false) : me_go cs KR kx km sx cd_X3_stretchOf hd Inv n 0 k L st v w = me_vb cs (me_go cs KR kx km sx cd_X3_stretchOf hd Inv (n - 1)) KR (kx (me_go cs KR kx km sx cd_X3_stretchOf hd Inv (n - 1))) km sx [(2, 0, 2, [], 1, 0, 0), (19, 3, 4, [], 3, 0, 108), (2, 1, 0, [], 1, 0, 0), (0, 9, 0, [], 2, 0, 0), (4, 2, 0, [], 1, 0, 0), (2, 2, 0, [], 1, 0, 0), (4, 0, 0, [], 1, 0, 0), (0, 1, 0, [], 1, 0, 0), (4, 1, 0, [], 1, 0, 0), (21, 0, 0, [], 1, 0, 0), (32, 0, 0, [], 1, 0, 0)] 0 k L st v w := by
  rcases n with _ | n
  · cases hn
  · rw [mo_gb h]
    rfl
theorem lo_X3_stretchOf_0 {cs : Nat → Nat × me_P} {J : Nat → Nat → me_L → List me_S → me_V → me_U → Prop} {KR : me_K} {KX : Nat → Nat → me_L → Nat → me_V → me_U → Prop} {km : Nat} {sx : me_Sc} {k : Nat} {L : me_L} {st : List me_S} {v : me_V} {w : me_U} : me_vb cs J KR KX km sx (me_bk cd_X3_stretchOf 0) 0 k L st v w = me_vb cs J KR KX km sx [(2, 0, 2, [], 1, 0, 0), (19, 3, 4, [], 3, 0, 108), (2, 1, 0, [], 1, 0, 0), (0, 9, 0, [], 2, 0, 0), (4, 2, 0, [], 1, 0, 0), (2, 2, 0, [], 1, 0, 0), (4, 0, 0, [], 1, 0, 0), (0, 1, 0, [], 1, 0, 0), (4, 1, 0, [], 1, 0, 0), (21, 0, 0, [], 1, 0, 0), (32, 0, 0, [], 1, 0, 0)] 0 k L st v w := rfl
def cs_X3_stretchOf : Nat → Nat × me_P := fun a => match a with
  | _ => (0, fun _ _ _ _ _ => False)
set_option maxHeartbeats 1000000 in
set_option maxRecDepth 100000 in
theorem vc_X3_stretchOf : mv_ok cs_X3_stretchOf cd_X3_stretchOf [] 0 3 sp_stretchOf := by
  refine mv_flat 20 ?_

  intro as v w K X h
  obtain ⟨b, j, k, S, rfl, hb, hS, hwf, hj, hk, hK⟩ := h
  obtain ⟨hoc, f0, f1, f2, f3, f4, f5, f6, f7, f8, f9, a1, a2, a3, a4, a5, a6, a7, a8⟩ := hb

  refine ⟨Nat.le_of_ble_eq_true rfl, fun Inv => ?_⟩
  have h24 := hwf.1
  have e := (hS.2.2.1 j hj).2.2.2 k hk
  have ei : nI j * nI 9 + nI (k + 1) - 1 = nI (9 * j + k) := by
    rw [pk_mul, nI_add, ← mn_1, pk_sub (by omega)]
    congr 1
    omega
  simp only [↓mo_vb, ↓mo_ve, ↓mo_gi, ↓mo_0, ↓mo_1, ↓mo_2, ↓mo_3i, ↓mo_3l, ↓mo_3r, ↓mo_3q, ↓mo_4_0, ↓mo_4_1, ↓mo_4_2, ↓mo_4_3, ↓mo_4_4, ↓mo_4_5, ↓mo_4_6, ↓mo_4_7, ↓mo_4_8, ↓mo_4_9, ↓mo_4_10, ↓mo_5_0, ↓mo_5_1, ↓mo_5_2, ↓mo_5_3, ↓mo_5_4, ↓mo_5_8, ↓mo_5_9, ↓mo_6_0, ↓mo_6_1, ↓mo_7, ↓mo_8, ↓mo_9, ↓mo_10i, ↓mo_10r, ↓mo_10q, ↓mo_11ir, ↓mo_12i, ↓mo_13, ↓mo_13m, ↓mo_14_0, ↓mo_15_0, ↓mo_14_1, ↓mo_15_1, ↓mo_14_2, ↓mo_15_2, ↓mo_14_3, ↓mo_15_3, ↓mo_14_4, ↓mo_15_4, ↓mo_14_5, ↓mo_15_5, ↓mo_16, ↓mo_17, ↓mo_18, ↓mo_19, ↓mo_20i, ↓mo_20z, ↓mo_20l, ↓mo_21, ↓mo_22, ↓mo_23, ↓mo_24, ↓mo_25, ↓mo_27, ↓mo_26, ↓mo_28, ↓mo_31, ↓mo_32, ↓mo_33, ↓mo_34, ↓mo_35, ↓mo_36, ↓mo_37, ↓mo_39, ↓mo_40, ↓mo_30_0, ↓mo_41_0, ↓mo_29_0, ↓mo_30_1, ↓mo_41_1, ↓mo_29_1, ↓mo_30_2, ↓mo_41_2, ↓mo_29_2, ↓mo_30_3, ↓mo_41_3, ↓mo_29_3, ↓mo_30_4, ↓mo_41_4, ↓mo_29_4, ↓mo_30_5, ↓mo_41_5, ↓mo_29_5, ↓me_tb, ↓me_lu, me_t2i, me_t2l, me_t2r, me_t2q, me_t13i, me_t19a, me_t19b, me_t19c, me_t19d, me_tae, me_t28e, me_t36e, ↓me_kn_d, ↓me_ky_d, me_ca_e, me_sv_d, me_in_n, me_in_c, decide_true, decide_false, me_rm_n, me_rm_c, me_lk_c, me_kdI, me_kdL, me_kdR, me_kdQ, me_ag_n, me_agI, me_agL, me_agR, me_agQ, me_w9n, me_w9I, me_w9L, me_w9R, me_w9Q, me_psN, me_psS, mn_0, mn_1, mn_00, mn_10, mn_01, mn_11, or_true, true_or, mn_c0, mn_c1, mn_l0, mn_l1, eq_self, List.contains_nil, List.contains_cons, List.elem_nil, List.elem_cons, List.contains_eq_mem, List.not_mem_nil, List.mem_cons, decide_false, decide_true, or_false, false_or, Bool.or_false, Bool.false_or, List.length_cons, List.length_nil, Nat.reduceAdd, Nat.reduceSub, Nat.reduceMul, Nat.reduceBEq, Nat.reduceEqDiff, Nat.reduceLT, Nat.reduceLeDiff, reduceCtorEq, if_true, if_false, ite_true, ite_false, true_and, and_true, Bool.and_true, Bool.true_and, Bool.and_false, Bool.false_and, Bool.not_true, Bool.not_false, Bool.or_true, Bool.true_or, cond_true, cond_false, not_false_eq_true, not_true_eq_false, true_implies, false_implies, implies_true, Nat.le_refl, Nat.add_zero, Nat.zero_add, Nat.zero_le, ↓mo_gi, cs_X3_stretchOf, ↓go_X3_stretchOf_0, ↓lo_X3_stretchOf_0, hoc, f0, f1, f2, f3, f4, f5, f6, f7, f8, f9, a1, a2, a3, a4, a5, a6, a7, a8, ei, nI_clamp (show 9 * j + k < 2 ^ 31 by omega), e]
  exact ⟨vp_in_nI (by omega) (by omega), hK⟩
theorem ct_X3_stretchOf {l : Launch} (hfl : l.stackTraces = false) : me_M l yX3_stretchOf (.code yX3_stretchOf cX3_stretchOf 3 (some .int)) 1 60 0 sp_stretchOf := me_meth (us := 0) (bl := cd_X3_stretchOf) (cs := cs_X3_stretchOf) (hd := []) hfl (by decide +kernel) rfl (by decide) ⟨by decide, by decide⟩ (by decide) ck_X3_stretchOf (fun a ha => absurd ha List.not_mem_nil) (by decide) mv_sx vc_X3_stretchOf
def sp_unitsOf : me_P := fun as v w K _ => ∃ (b j : Nat) (S : sc_T), as = [vR b, vI (nI j)] ∧ st_ok b ∧ sc_at v b S ∧ sc_wf S ∧ j < S 0 0 ∧ K (some (vI (nI (sc_units S j)))) v w
theorem go_X3_unitsOf_0 {cs : Nat → Nat × me_P} {KR : me_K} {kx : (Nat → Nat → me_L → List me_S → me_V → me_U → Prop) → Nat → Nat → me_L → Nat → me_V → me_U → Prop} {km : Nat} {sx : me_Sc} {hd : List Nat} {Inv : Nat → Nat → me_L → List me_S → me_V → me_U → Prop} {n k : Nat} {L : me_L} {st : List me_S} {v : me_V} {w : me_U} (hn : (n == 0) = false) (h : hd.contains 0 = false) : me_go cs KR kx km sx cd_X3_unitsOf hd Inv n 0 k L st v w = me_vb cs (me_go cs KR kx km sx cd_X3_unitsOf hd Inv (n - 1)) KR (kx (me_go cs KR kx km sx cd_X3_unitsOf hd Inv (n - 1))) km sx [(0, 0, 0, [], 1, 0, 0), (3, 2, 0, [], 1, 0, 0), (0, 1, 0, [], 1, 0, 0), (3, 3, 0, [], 1, 0, 0)] 0 k L st v w := by
  rcases n with _ | n
  · cases hn
  · rw [mo_gb h]
    rfl
theorem lo_X3_unitsOf_0 {cs : Nat → Nat × me_P} {J : Nat → Nat → me_L → List me_S → me_V → me_U → Prop} {KR : me_K} {KX : Nat → Nat → me_L → Nat → me_V → me_U → Prop} {km : Nat} {sx : me_Sc} {k : Nat} {L : me_L} {st : List me_S} {v : me_V} {w : me_U} : me_vb cs J KR KX km sx (me_bk cd_X3_unitsOf 0) 0 k L st v w = me_vb cs J KR KX km sx [(0, 0, 0, [], 1, 0, 0), (3, 2, 0, [], 1, 0, 0), (0, 1, 0, [], 1, 0, 0), (3, 3, 0, [], 1, 0, 0)] 0 k L st v w := rfl
theorem go_X3_unitsOf_4 {cs : Nat → Nat × me_P} {KR : me_K} {kx : (Nat → Nat → me_L → List me_S → me_V → me_U → Prop) → Nat → Nat → me_L → Nat → me_V → me_U → Prop} {km : Nat} {sx : me_Sc} {hd : List Nat} {Inv : Nat → Nat → me_L → List me_S → me_V → me_U → Prop} {n k : Nat} {L : me_L} {st : List me_S} {v : me_V} {w : me_U} (hn : (n == 0) = false) (h : hd.contains 4 = false) : me_go cs KR kx km sx cd_X3_unitsOf hd Inv n 4 k L st v w = me_vb cs (me_go cs KR kx km sx cd_X3_unitsOf hd Inv (n - 1)) KR (kx (me_go cs KR kx km sx cd_X3_unitsOf hd Inv (n - 1))) km sx [(2, 3, 0, [], 1, 0, 0), (2, 0, 2, [], 1, 0, 0), (19, 3, 2, [], 3, 0, 100), (2, 1, 0, [], 1, 0, 0), (21, 0, 0, [], 1, 0, 0), (15, 29, 4, [], 3, 0, 0), (2, 2, 0, [], 1, 0, 0), (2, 0, 2, [], 1, 0, 0), (2, 1, 0, [], 1, 0, 0), (2, 3, 0, [], 1, 0, 0), (29, 38, 2, [3, 520, 521], 3, 0, 519), (4, 0, 0, [], 1, 0, 0), (3, 2, 0, [], 1, 0, 0), (13, 3, 1, [], 3, 0, 0), (16, 4, 0, [], 3, 0, 0)] 4 k L st v w := by
  rcases n with _ | n
  · cases hn
  · rw [mo_gb h]
    rfl
theorem lo_X3_unitsOf_4 {cs : Nat → Nat × me_P} {J : Nat → Nat → me_L → List me_S → me_V → me_U → Prop} {KR : me_K} {KX : Nat → Nat → me_L → Nat → me_V → me_U → Prop} {km : Nat} {sx : me_Sc} {k : Nat} {L : me_L} {st : List me_S} {v : me_V} {w : me_U} : me_vb cs J KR KX km sx (me_bk cd_X3_unitsOf 4) 4 k L st v w = me_vb cs J KR KX km sx [(2, 3, 0, [], 1, 0, 0), (2, 0, 2, [], 1, 0, 0), (19, 3, 2, [], 3, 0, 100), (2, 1, 0, [], 1, 0, 0), (21, 0, 0, [], 1, 0, 0), (15, 29, 4, [], 3, 0, 0), (2, 2, 0, [], 1, 0, 0), (2, 0, 2, [], 1, 0, 0), (2, 1, 0, [], 1, 0, 0), (2, 3, 0, [], 1, 0, 0), (29, 38, 2, [3, 520, 521], 3, 0, 519), (4, 0, 0, [], 1, 0, 0), (3, 2, 0, [], 1, 0, 0), (13, 3, 1, [], 3, 0, 0), (16, 4, 0, [], 3, 0, 0)] 4 k L st v w := rfl
theorem go_X3_unitsOf_29 {cs : Nat → Nat × me_P} {KR : me_K} {kx : (Nat → Nat → me_L → List me_S → me_V → me_U → Prop) → Nat → Nat → me_L → Nat → me_V → me_U → Prop} {km : Nat} {sx : me_Sc} {hd : List Nat} {Inv : Nat → Nat → me_L → List me_S → me_V → me_U → Prop} {n k : Nat} {L : me_L} {st : List me_S} {v : me_V} {w : me_U} (hn : (n == 0) = false) (h : hd.contains 29 = false) : me_go cs KR kx km sx cd_X3_unitsOf hd Inv n 29 k L st v w = me_vb cs (me_go cs KR kx km sx cd_X3_unitsOf hd Inv (n - 1)) KR (kx (me_go cs KR kx km sx cd_X3_unitsOf hd Inv (n - 1))) km sx [(2, 2, 0, [], 1, 0, 0), (32, 0, 0, [], 1, 0, 0)] 29 k L st v w := by
  rcases n with _ | n
  · cases hn
  · rw [mo_gb h]
    rfl
theorem lo_X3_unitsOf_29 {cs : Nat → Nat × me_P} {J : Nat → Nat → me_L → List me_S → me_V → me_U → Prop} {KR : me_K} {KX : Nat → Nat → me_L → Nat → me_V → me_U → Prop} {km : Nat} {sx : me_Sc} {k : Nat} {L : me_L} {st : List me_S} {v : me_V} {w : me_U} : me_vb cs J KR KX km sx (me_bk cd_X3_unitsOf 29) 29 k L st v w = me_vb cs J KR KX km sx [(2, 2, 0, [], 1, 0, 0), (32, 0, 0, [], 1, 0, 0)] 29 k L st v w := rfl
def cs_X3_unitsOf : Nat → Nat × me_P := fun a => match a with
  | 38 => (0, sp_stretchOf)
  | _ => (0, fun _ _ _ _ _ => False)
set_option maxHeartbeats 1000000 in
set_option maxRecDepth 100000 in
theorem vc_X3_unitsOf : mv_ok cs_X3_unitsOf cd_X3_unitsOf [4] 0 4 sp_unitsOf := by
  intro as v w K X h
  obtain ⟨b, j, S, rfl, hb, hS, hwf, hj, hK⟩ := h
  obtain ⟨hoc, f0, f1, f2, f3, f4, f5, f6, f7, f8, f9, a1, a2, a3, a4, a5, a6, a7, a8⟩ := hb

  have hb2 : st_ok b := ⟨hoc, f0, f1, f2, f3, f4, f5, f6, f7, f8, f9, a1, a2, a3, a4, a5, a6, a7, a8⟩
  have h24 := hwf.1
  have e1 := (hS.2.2.1 j hj).1
  have b1 := hwf.2.2.1 j hj
  refine ⟨Nat.le_of_ble_eq_true rfl, 20, fun μ pc k L st v2 w2 => pc = 4 ∧ k = 0 ∧ st = [] ∧ v2 = v ∧ w2 = w ∧ ∃ n : Nat, L = [(0, vR b), (1, vI (nI j)), (2, vI (nI (sc_sum (fun k => S 3 (9 * j + k)) n))), (3, vI (nI (n + 1)))] ∧ n ≤ S 1 j ∧ μ = S 1 j - n, ?_, ?_⟩
  · simp only [↓mo_vb, ↓mo_ve, ↓mo_gi, ↓mo_0, ↓mo_1, ↓mo_2, ↓mo_3i, ↓mo_3l, ↓mo_3r, ↓mo_3q, ↓mo_4_0, ↓mo_4_1, ↓mo_4_2, ↓mo_4_3, ↓mo_4_4, ↓mo_4_5, ↓mo_4_6, ↓mo_4_7, ↓mo_4_8, ↓mo_4_9, ↓mo_4_10, ↓mo_5_0, ↓mo_5_1, ↓mo_5_2, ↓mo_5_3, ↓mo_5_4, ↓mo_5_8, ↓mo_5_9, ↓mo_6_0, ↓mo_6_1, ↓mo_7, ↓mo_8, ↓mo_9, ↓mo_10i, ↓mo_10r, ↓mo_10q, ↓mo_11ir, ↓mo_12i, ↓mo_13, ↓mo_13m, ↓mo_14_0, ↓mo_15_0, ↓mo_14_1, ↓mo_15_1, ↓mo_14_2, ↓mo_15_2, ↓mo_14_3, ↓mo_15_3, ↓mo_14_4, ↓mo_15_4, ↓mo_14_5, ↓mo_15_5, ↓mo_16, ↓mo_17, ↓mo_18, ↓mo_19, ↓mo_20i, ↓mo_20z, ↓mo_20l, ↓mo_21, ↓mo_22, ↓mo_23, ↓mo_24, ↓mo_25, ↓mo_27, ↓mo_26, ↓mo_28, ↓mo_31, ↓mo_32, ↓mo_33, ↓mo_34, ↓mo_35, ↓mo_36, ↓mo_37, ↓mo_39, ↓mo_40, ↓mo_30_0, ↓mo_41_0, ↓mo_29_0, ↓mo_30_1, ↓mo_41_1, ↓mo_29_1, ↓mo_30_2, ↓mo_41_2, ↓mo_29_2, ↓mo_30_3, ↓mo_41_3, ↓mo_29_3, ↓mo_30_4, ↓mo_41_4, ↓mo_29_4, ↓mo_30_5, ↓mo_41_5, ↓mo_29_5, ↓me_tb, ↓me_lu, me_t2i, me_t2l, me_t2r, me_t2q, me_t13i, me_t19a, me_t19b, me_t19c, me_t19d, me_tae, me_t28e, me_t36e, ↓me_kn_d, ↓me_ky_d, me_ca_e, me_sv_d, me_in_n, me_in_c, decide_true, decide_false, me_rm_n, me_rm_c, me_lk_c, me_kdI, me_kdL, me_kdR, me_kdQ, me_ag_n, me_agI, me_agL, me_agR, me_agQ, me_w9n, me_w9I, me_w9L, me_w9R, me_w9Q, me_psN, me_psS, mn_0, mn_1, mn_00, mn_10, mn_01, mn_11, or_true, true_or, mn_c0, mn_c1, mn_l0, mn_l1, eq_self, List.contains_nil, List.contains_cons, List.elem_nil, List.elem_cons, List.contains_eq_mem, List.not_mem_nil, List.mem_cons, decide_false, decide_true, or_false, false_or, Bool.or_false, Bool.false_or, List.length_cons, List.length_nil, Nat.reduceAdd, Nat.reduceSub, Nat.reduceMul, Nat.reduceBEq, Nat.reduceEqDiff, Nat.reduceLT, Nat.reduceLeDiff, reduceCtorEq, if_true, if_false, ite_true, ite_false, true_and, and_true, Bool.and_true, Bool.true_and, Bool.and_false, Bool.false_and, Bool.not_true, Bool.not_false, Bool.or_true, Bool.true_or, cond_true, cond_false, not_false_eq_true, not_true_eq_false, true_implies, false_implies, implies_true, Nat.le_refl, Nat.add_zero, Nat.zero_add, Nat.zero_le, ↓mo_gi, cs_X3_unitsOf, ↓go_X3_unitsOf_0, ↓lo_X3_unitsOf_0, ↓go_X3_unitsOf_4, ↓lo_X3_unitsOf_4, ↓go_X3_unitsOf_29, ↓lo_X3_unitsOf_29, hoc, f0, f1, f2, f3, f4, f5, f6, f7, f8, f9, a1, a2, a3, a4, a5, a6, a7, a8]
    exact ⟨_, 0, rfl, by omega, rfl⟩
  · rintro μ pc k L st v2 w2 hpc ⟨rfl, rfl, rfl, rfl, rfl, n, rfl, hn, rfl⟩
    simp only [↓mo_vb, ↓mo_ve, ↓mo_gi, ↓mo_0, ↓mo_1, ↓mo_2, ↓mo_3i, ↓mo_3l, ↓mo_3r, ↓mo_3q, ↓mo_4_0, ↓mo_4_1, ↓mo_4_2, ↓mo_4_3, ↓mo_4_4, ↓mo_4_5, ↓mo_4_6, ↓mo_4_7, ↓mo_4_8, ↓mo_4_9, ↓mo_4_10, ↓mo_5_0, ↓mo_5_1, ↓mo_5_2, ↓mo_5_3, ↓mo_5_4, ↓mo_5_8, ↓mo_5_9, ↓mo_6_0, ↓mo_6_1, ↓mo_7, ↓mo_8, ↓mo_9, ↓mo_10i, ↓mo_10r, ↓mo_10q, ↓mo_11ir, ↓mo_12i, ↓mo_13, ↓mo_13m, ↓mo_14_0, ↓mo_15_0, ↓mo_14_1, ↓mo_15_1, ↓mo_14_2, ↓mo_15_2, ↓mo_14_3, ↓mo_15_3, ↓mo_14_4, ↓mo_15_4, ↓mo_14_5, ↓mo_15_5, ↓mo_16, ↓mo_17, ↓mo_18, ↓mo_19, ↓mo_20i, ↓mo_20z, ↓mo_20l, ↓mo_21, ↓mo_22, ↓mo_23, ↓mo_24, ↓mo_25, ↓mo_27, ↓mo_26, ↓mo_28, ↓mo_31, ↓mo_32, ↓mo_33, ↓mo_34, ↓mo_35, ↓mo_36, ↓mo_37, ↓mo_39, ↓mo_40, ↓mo_30_0, ↓mo_41_0, ↓mo_29_0, ↓mo_30_1, ↓mo_41_1, ↓mo_29_1, ↓mo_30_2, ↓mo_41_2, ↓mo_29_2, ↓mo_30_3, ↓mo_41_3, ↓mo_29_3, ↓mo_30_4, ↓mo_41_4, ↓mo_29_4, ↓mo_30_5, ↓mo_41_5, ↓mo_29_5, ↓me_tb, ↓me_lu, me_t2i, me_t2l, me_t2r, me_t2q, me_t13i, me_t19a, me_t19b, me_t19c, me_t19d, me_tae, me_t28e, me_t36e, ↓me_kn_d, ↓me_ky_d, me_ca_e, me_sv_d, me_in_n, me_in_c, decide_true, decide_false, me_rm_n, me_rm_c, me_lk_c, me_kdI, me_kdL, me_kdR, me_kdQ, me_ag_n, me_agI, me_agL, me_agR, me_agQ, me_w9n, me_w9I, me_w9L, me_w9R, me_w9Q, me_psN, me_psS, mn_0, mn_1, mn_00, mn_10, mn_01, mn_11, or_true, true_or, mn_c0, mn_c1, mn_l0, mn_l1, eq_self, List.contains_nil, List.contains_cons, List.elem_nil, List.elem_cons, List.contains_eq_mem, List.not_mem_nil, List.mem_cons, decide_false, decide_true, or_false, false_or, Bool.or_false, Bool.false_or, List.length_cons, List.length_nil, Nat.reduceAdd, Nat.reduceSub, Nat.reduceMul, Nat.reduceBEq, Nat.reduceEqDiff, Nat.reduceLT, Nat.reduceLeDiff, reduceCtorEq, if_true, if_false, ite_true, ite_false, true_and, and_true, Bool.and_true, Bool.true_and, Bool.and_false, Bool.false_and, Bool.not_true, Bool.not_false, Bool.or_true, Bool.true_or, cond_true, cond_false, not_false_eq_true, not_true_eq_false, true_implies, false_implies, implies_true, Nat.le_refl, Nat.add_zero, Nat.zero_add, Nat.zero_le, ↓mo_gi, cs_X3_unitsOf, ↓go_X3_unitsOf_0, ↓lo_X3_unitsOf_0, ↓go_X3_unitsOf_4, ↓lo_X3_unitsOf_4, ↓go_X3_unitsOf_29, ↓lo_X3_unitsOf_29, hoc, f0, f1, f2, f3, f4, f5, f6, f7, f8, f9, a1, a2, a3, a4, a5, a6, a7, a8, nI_clamp (show j < 2 ^ 31 by omega), e1, nI_lts (show S 1 j < 2 ^ 31 by omega) (show n + 1 < 2 ^ 31 by omega)]
    refine ⟨vp_in_nI (by omega) (by omega), fun h => ?_, fun h => ?_⟩
    · rw [show sc_sum (fun k => S 3 (9 * j + k)) n = sc_units S j by unfold sc_units; congr 1; omega]
      exact hK
    · refine ⟨b, j, n, S, rfl, hb2, hS, hwf, hj, by omega, ?_⟩
      simp only [↓mo_vb, ↓mo_ve, ↓mo_gi, ↓mo_0, ↓mo_1, ↓mo_2, ↓mo_3i, ↓mo_3l, ↓mo_3r, ↓mo_3q, ↓mo_4_0, ↓mo_4_1, ↓mo_4_2, ↓mo_4_3, ↓mo_4_4, ↓mo_4_5, ↓mo_4_6, ↓mo_4_7, ↓mo_4_8, ↓mo_4_9, ↓mo_4_10, ↓mo_5_0, ↓mo_5_1, ↓mo_5_2, ↓mo_5_3, ↓mo_5_4, ↓mo_5_8, ↓mo_5_9, ↓mo_6_0, ↓mo_6_1, ↓mo_7, ↓mo_8, ↓mo_9, ↓mo_10i, ↓mo_10r, ↓mo_10q, ↓mo_11ir, ↓mo_12i, ↓mo_13, ↓mo_13m, ↓mo_14_0, ↓mo_15_0, ↓mo_14_1, ↓mo_15_1, ↓mo_14_2, ↓mo_15_2, ↓mo_14_3, ↓mo_15_3, ↓mo_14_4, ↓mo_15_4, ↓mo_14_5, ↓mo_15_5, ↓mo_16, ↓mo_17, ↓mo_18, ↓mo_19, ↓mo_20i, ↓mo_20z, ↓mo_20l, ↓mo_21, ↓mo_22, ↓mo_23, ↓mo_24, ↓mo_25, ↓mo_27, ↓mo_26, ↓mo_28, ↓mo_31, ↓mo_32, ↓mo_33, ↓mo_34, ↓mo_35, ↓mo_36, ↓mo_37, ↓mo_39, ↓mo_40, ↓mo_30_0, ↓mo_41_0, ↓mo_29_0, ↓mo_30_1, ↓mo_41_1, ↓mo_29_1, ↓mo_30_2, ↓mo_41_2, ↓mo_29_2, ↓mo_30_3, ↓mo_41_3, ↓mo_29_3, ↓mo_30_4, ↓mo_41_4, ↓mo_29_4, ↓mo_30_5, ↓mo_41_5, ↓mo_29_5, ↓me_tb, ↓me_lu, me_t2i, me_t2l, me_t2r, me_t2q, me_t13i, me_t19a, me_t19b, me_t19c, me_t19d, me_tae, me_t28e, me_t36e, ↓me_kn_d, ↓me_ky_d, me_ca_e, me_sv_d, me_in_n, me_in_c, decide_true, decide_false, me_rm_n, me_rm_c, me_lk_c, me_kdI, me_kdL, me_kdR, me_kdQ, me_ag_n, me_agI, me_agL, me_agR, me_agQ, me_w9n, me_w9I, me_w9L, me_w9R, me_w9Q, me_psN, me_psS, mn_0, mn_1, mn_00, mn_10, mn_01, mn_11, or_true, true_or, mn_c0, mn_c1, mn_l0, mn_l1, eq_self, List.contains_nil, List.contains_cons, List.elem_nil, List.elem_cons, List.contains_eq_mem, List.not_mem_nil, List.mem_cons, decide_false, decide_true, or_false, false_or, Bool.or_false, Bool.false_or, List.length_cons, List.length_nil, Nat.reduceAdd, Nat.reduceSub, Nat.reduceMul, Nat.reduceBEq, Nat.reduceEqDiff, Nat.reduceLT, Nat.reduceLeDiff, reduceCtorEq, if_true, if_false, ite_true, ite_false, true_and, and_true, Bool.and_true, Bool.true_and, Bool.and_false, Bool.false_and, Bool.not_true, Bool.not_false, Bool.or_true, Bool.true_or, cond_true, cond_false, not_false_eq_true, not_true_eq_false, true_implies, false_implies, implies_true, Nat.le_refl, Nat.add_zero, Nat.zero_add, Nat.zero_le, ↓mo_gi, cs_X3_unitsOf, ↓go_X3_unitsOf_0, ↓lo_X3_unitsOf_0, ↓go_X3_unitsOf_4, ↓lo_X3_unitsOf_4, ↓go_X3_unitsOf_29, ↓lo_X3_unitsOf_29, hoc, f0, f1, f2, f3, f4, f5, f6, f7, f8, f9, a1, a2, a3, a4, a5, a6, a7, a8]
      exact ⟨S 1 j - (n + 1), by omega, n + 1, by rw [nI_add, nI_1]; rfl, by omega, rfl⟩
theorem ct_X3_unitsOf {l : Launch} (hfl : l.stackTraces = false) : me_M l yX3_unitsOf (.code yX3_unitsOf cX3_unitsOf 4 (some .int)) 2 82 0 sp_unitsOf := me_meth (us := 0) (bl := cd_X3_unitsOf) (cs := cs_X3_unitsOf) (hd := [4]) hfl (by decide +kernel) rfl (by decide) ⟨by decide, by decide⟩ (by decide) ck_X3_unitsOf (by
    intro a ha
    simp only [List.mem_cons, List.not_mem_nil, or_false] at ha
    rcases ha with rfl
    · exact cl_X3_stretchOf (ct_X3_stretchOf hfl) (by decide) (by decide)) (by decide) mv_sx vc_X3_unitsOf
