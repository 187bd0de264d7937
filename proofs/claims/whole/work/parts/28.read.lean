/-! ===== scores stay sound; the text read ===== -/
theorem sc_set_o (S : sc_T) {c i x a k : Nat} (h : a ≠ c) : sc_set S c i x a k = S a k := by unfold sc_set; rw [if_neg (fun z => h z.1)]
theorem sc_set_c (S : sc_T) (c i x k : Nat) : sc_set S c i x c k = S c k ∨ sc_set S c i x c k = x := by
  unfold sc_set
  split
  · exact Or.inr rfl
  · exact Or.inl rfl
theorem sc_wf_set {S : sc_T} {c i x : Nat} (h : sc_wf S) (hc : c = 2 ∨ c = 3 ∨ c = 4 ∨ c = 8) (h2 : c = 2 → (x = 0 ∨ 30 ≤ x) ∧ x ≤ 240) (h3 : c = 3 → 1 ≤ x ∧ x ≤ 4) (h4 : c = 4 → x < 16) (h8 : c = 8 → x < 16777216) : sc_wf (sc_set S c i x) := by
  obtain ⟨w1, w2, w3, w4, w5, w6⟩ := h
  have z0 : ∀ k, sc_set S c i x 0 k = S 0 k := fun k => sc_set_o S (by omega)
  have z1 : ∀ k, sc_set S c i x 1 k = S 1 k := fun k => sc_set_o S (by omega)
  have z5 : ∀ k, sc_set S c i x 5 k = S 5 k := fun k => sc_set_o S (by omega)
  have z6 : ∀ k, sc_set S c i x 6 k = S 6 k := fun k => sc_set_o S (by omega)
  have z7 : ∀ k, sc_set S c i x 7 k = S 7 k := fun k => sc_set_o S (by omega)
  have key : ∀ a k, sc_set S c i x a k = S a k ∨ (a = c ∧ sc_set S c i x a k = x) := fun a k => by
    by_cases ha : a = c
    · subst ha
      exact (sc_set_c S a i x k).imp id (fun z => ⟨rfl, z⟩)
    · exact Or.inl (sc_set_o S ha)
  unfold sc_wf
  rw [z0, z0]
  refine ⟨w1, w2, fun j hj => ?_, fun s hs => by rw [z5, z6, z7]; exact w4 s hs, fun s hs => by rw [z5, z6]; exact w5 s hs, fun p hp => ?_⟩
  · obtain ⟨g1, g2, g3, g4, g5, g6⟩ := w3 j hj
    rw [z1]
    refine ⟨g1, g2, ?_, ?_, ?_, fun k hk => ?_⟩
    · rcases key 2 j with e | ⟨e, e2⟩
      · rw [e]; exact g3
      · rw [e2]; exact (h2 e.symm).1
    · rcases key 2 j with e | ⟨e, e2⟩
      · rw [e]; exact g4
      · rw [e2]; exact (h2 e.symm).2
    · rcases key 4 j with e | ⟨e, e2⟩
      · rw [e]; exact g5
      · rw [e2]; exact h4 e.symm
    · rcases key 3 (9 * j + k) with e | ⟨e, e2⟩
      · rw [e]; exact g6 k hk
      · rw [e2]; exact h3 e.symm
  · rcases key 8 p with e | ⟨e, e2⟩
    · rw [e]; exact w6 p hp
    · rw [e2]; exact h8 e.symm
theorem sc_pos_lo {S : sc_T} (h : sc_wf S) (f : Nat) : ∀ n k, n ≤ S 0 1 → k < sc_pos S f n → S 5 k ≤ f
  | 0, k, _, hk => by simp [sc_pos] at hk
  | n + 1, k, hn, hk => by
    unfold sc_pos at hk
    split at hk
    · exact sc_pos_lo h f n k (by omega) hk
    · rcases Nat.eq_or_lt_of_le (Nat.le_of_lt_succ hk) with rfl | h2
      · omega
      · have h3 := sc_mono h k n h2 (by omega)
        have h4 := h.2.2.2.1 k (by omega)
        omega
theorem sc_pos_hi {S : sc_T} (f : Nat) : ∀ n k, sc_pos S f n ≤ k → k < n → f < S 5 k
  | 0, k, _, hk => by omega
  | n + 1, k, hp, hk => by
    unfold sc_pos at hp
    split at hp
    · rcases Nat.eq_or_lt_of_le (Nat.le_of_lt_succ hk) with rfl | h2
      · assumption
      · exact sc_pos_hi f n k hp h2
    · omega
theorem sc_wf_ins {S : sc_T} {f l t : Nat} (h : sc_wf S) (h4 : S 0 1 < 4) (hfl : f ≤ l) (hl : l < S 0 0) (ht : 2 ≤ t ∧ t ≤ 4) (hd : ∀ s, s < S 0 1 → S 6 s < f ∨ l < S 5 s) : sc_wf (sc_ins S (sc_pos S f (S 0 1)) f l t) := by
  have hlo := sc_pos_lo h f (S 0 1)
  have hhi := sc_pos_hi (S := S) f (S 0 1)
  have hple := sc_pos_le S f (S 0 1)
  generalize sc_pos S f (S 0 1) = s at hlo hhi hple
  obtain ⟨w1, w2, w3, w4, w5, w6⟩ := h
  have s0 : sc_ins S s f l t 0 0 = S 0 0 := by simp [sc_ins]
  have s1 : sc_ins S s f l t 0 1 = S 0 1 + 1 := by simp [sc_ins]
  have a1 : ∀ j, sc_ins S s f l t 1 j = S 1 j := fun j => by simp [sc_ins]
  have a2 : ∀ j, sc_ins S s f l t 2 j = S 2 j := fun j => by simp [sc_ins]
  have a3 : ∀ j, sc_ins S s f l t 3 j = S 3 j := fun j => by simp [sc_ins]
  have a4 : ∀ j, sc_ins S s f l t 4 j = S 4 j := fun j => by simp [sc_ins]
  have a8 : ∀ j, sc_ins S s f l t 8 j = S 8 j := fun j => by simp [sc_ins]
  have a5 : ∀ k, sc_ins S s f l t 5 k = if k = s then f else if s < k then S 5 (k - 1) else S 5 k := fun k => by simp [sc_ins]
  have a6 : ∀ k, sc_ins S s f l t 6 k = if k = s then l else if s < k then S 6 (k - 1) else S 6 k := fun k => by simp [sc_ins]
  have a7 : ∀ k, sc_ins S s f l t 7 k = if k = s then t else if s < k then S 7 (k - 1) else S 7 k := fun k => by simp [sc_ins]
  unfold sc_wf
  rw [s0, s1]
  refine ⟨w1, by omega, fun j hj => by rw [a1, a2, a4]; exact ⟨(w3 j hj).1, (w3 j hj).2.1, (w3 j hj).2.2.1, (w3 j hj).2.2.2.1, (w3 j hj).2.2.2.2.1, fun k hk => by rw [a3]; exact (w3 j hj).2.2.2.2.2 k hk⟩, fun k hk => ?_, fun k hk => ?_, fun p hp => by rw [a8]; exact w6 p hp⟩
  · rw [a5, a6, a7]
    by_cases h1 : k = s
    · rw [if_pos h1, if_pos h1, if_pos h1]
      omega
    · rw [if_neg h1, if_neg h1, if_neg h1]
      by_cases h2 : s < k
      · rw [if_pos h2, if_pos h2, if_pos h2]
        exact w4 (k - 1) (by omega)
      · rw [if_neg h2, if_neg h2, if_neg h2]
        exact w4 k (by omega)
  · rw [a5, a6]
    rcases (show k + 1 < s ∨ k + 1 = s ∨ k = s ∨ s < k by omega) with h1 | h1 | h1 | h1
    · rw [if_neg (by omega), if_neg (by omega), if_neg (by omega), if_neg (by omega)]
      exact w5 k (by omega)
    · rw [if_neg (by omega), if_neg (by omega), if_pos h1]
      have := hlo k (Nat.le_refl _) (by omega)
      have := hd k (by omega)
      have := w4 k (by omega)
      omega
    · rw [if_pos h1, if_neg (by omega), if_pos (by omega), h1]
      have := hhi s (by omega) (by omega)
      have := hd s (by omega)
      have := w4 s (by omega)
      show l < S 5 (s + 1 - 1)
      rw [Nat.add_sub_cancel]
      omega
    · rw [if_neg (by omega), if_pos h1, if_neg (by omega), if_pos (by omega)]
      have h5 := w5 (k - 1) (by omega)
      rw [show k - 1 + 1 = k by omega] at h5
      rw [show k + 1 - 1 = k by omega]
      exact h5
theorem sc_wf_del {S : sc_T} {s : Nat} (h : sc_wf S) (hs : s < S 0 1) : sc_wf (sc_del S s) := by
  have hm := sc_mono h
  obtain ⟨w1, w2, w3, w4, w5, w6⟩ := h
  have s0 : sc_del S s 0 0 = S 0 0 := by simp [sc_del]
  have s1 : sc_del S s 0 1 = S 0 1 - 1 := by simp [sc_del]
  have a1 : ∀ j, sc_del S s 1 j = S 1 j := fun j => by simp [sc_del]
  have a2 : ∀ j, sc_del S s 2 j = S 2 j := fun j => by simp [sc_del]
  have a3 : ∀ j, sc_del S s 3 j = S 3 j := fun j => by simp [sc_del]
  have a4 : ∀ j, sc_del S s 4 j = S 4 j := fun j => by simp [sc_del]
  have a8 : ∀ j, sc_del S s 8 j = S 8 j := fun j => by simp [sc_del]
  have a5 : ∀ k, sc_del S s 5 k = if s ≤ k then S 5 (k + 1) else S 5 k := fun k => by simp [sc_del]
  have a6 : ∀ k, sc_del S s 6 k = if s ≤ k then S 6 (k + 1) else S 6 k := fun k => by simp [sc_del]
  have a7 : ∀ k, sc_del S s 7 k = if s ≤ k then S 7 (k + 1) else S 7 k := fun k => by simp [sc_del]
  unfold sc_wf
  rw [s0, s1]
  refine ⟨w1, by omega, fun j hj => by rw [a1, a2, a4]; exact ⟨(w3 j hj).1, (w3 j hj).2.1, (w3 j hj).2.2.1, (w3 j hj).2.2.2.1, (w3 j hj).2.2.2.2.1, fun k hk => by rw [a3]; exact (w3 j hj).2.2.2.2.2 k hk⟩, fun k hk => ?_, fun k hk => ?_, fun p hp => by rw [a8]; exact w6 p hp⟩
  · rw [a5, a6, a7]
    by_cases h1 : s ≤ k
    · rw [if_pos h1, if_pos h1, if_pos h1]
      exact w4 (k + 1) (by omega)
    · rw [if_neg h1, if_neg h1, if_neg h1]
      exact w4 k (by omega)
  · rw [a5, a6]
    by_cases h1 : s ≤ k
    · rw [if_pos h1, if_pos (by omega)]
      exact w5 (k + 1) (by omega)
    · rw [if_neg h1]
      by_cases h2 : s ≤ k + 1
      · rw [if_pos h2]
        exact hm k (k + 2) (by omega) (by omega)
      · rw [if_neg h2]
        exact w5 k (by omega)
theorem rs_ok_set {n pos p : Nat} {S : sc_T} {op c i x : Nat} (h : rs_ok n pos S op) (hp : p ≤ n) (hc : c = 2 ∨ c = 3 ∨ c = 4 ∨ c = 8) (h2 : c = 2 → (x = 0 ∨ 30 ≤ x) ∧ x ≤ 240) (h3 : c = 3 → 1 ≤ x ∧ x ≤ 4) (h4 : c = 4 → x < 16) (h8 : c = 8 → x < 16777216) : rs_ok n p (sc_set S c i x) op := by
  obtain ⟨g1, g2, g3, g4⟩ := h
  refine ⟨sc_wf_set g1 hc h2 h3 h4 h8, hp, by rw [sc_set_o S (by omega)]; exact g3, fun ho => ?_⟩
  rw [sc_set_o S (by omega)]
  exact ⟨(g4 ho).1, fun s hs => by rw [sc_set_o S (by omega)]; exact (g4 ho).2 s hs⟩
theorem rd_part_ok {n pos p op op2 : Nat} {t : Nat → Nat} {S S2 : sc_T} (h : rs_ok n pos S op) (hn : pos < n) (hr : rd_part n t pos S op = .inl (p, S2, op2)) : rs_ok n p S2 op2 ∧ pos < p := by
  unfold rd_part at hr
  have h0 := h
  obtain ⟨g1, g2, g3, g4⟩ := h
  split at hr
  · unfold rd_bar at hr
    split at hr
    · rename_i hlt
      split at hr
      · rename_i d hd
        have := rd_dg_s hd
        simp only [Sum.inl.injEq, Prod.mk.injEq] at hr
        obtain ⟨rfl, rfl, rfl⟩ := hr
        have s0 : sc_bar S d 0 0 = S 0 0 + 1 := by simp [sc_bar]
        have s1 : sc_bar S d 0 1 = S 0 1 := by simp [sc_bar]
        refine ⟨⟨sc_wf_bar g1 hlt (by omega) (by omega), by omega, by omega, fun ho => ?_⟩, by omega⟩
        rw [s1]
        exact ⟨(g4 ho).1, fun s hs => by rw [show sc_bar S d 6 s = S 6 s by simp [sc_bar]]; exact (g4 ho).2 s hs⟩
      · cases hr
    · cases hr
  · split at hr
    · unfold rd_tempo at hr
      split at hr
      · cases hr
      · split at hr
        · cases hr
        · rename_i a ha
          split at hr
          · cases hr
          · rename_i b hb
            split at hr
            · cases hr
            · rename_i c hc
              have h1 := rd_dg_s ha
              have h2 := rd_dg_s hb
              have h3 := rd_dg_s hc
              simp only [Sum.inl.injEq, Prod.mk.injEq] at hr
              obtain ⟨rfl, rfl, rfl⟩ := hr
              refine ⟨rs_ok_set h0 (by omega) (by omega) (fun _ => ?_) (by omega) (by omega) (by omega), by omega⟩
              split at h2 <;> split at h2 <;> split at h3 <;> omega
    · split at hr
      · unfold rd_stretch at hr
        split at hr
        · cases hr
        · split at hr
          · cases hr
          · rename_i a ha
            split at hr
            · cases hr
            · rename_i b hb
              have h1 := rd_dg_s ha
              have h2 := rd_dg_s hb
              simp only [Sum.inl.injEq, Prod.mk.injEq] at hr
              obtain ⟨rfl, rfl, rfl⟩ := hr
              exact ⟨rs_ok_set h0 (by omega) (by omega) (by omega) (fun _ => by omega) (by omega) (by omega), by omega⟩
      · split at hr
        · unfold rd_pass at hr
          split at hr
          · cases hr
          · rename_i h00
            split at hr
            · cases hr
            · rename_i a ha
              have h1 := rd_dg_s ha
              simp only [Sum.inl.injEq, Prod.mk.injEq] at hr
              obtain ⟨rfl, rfl, rfl⟩ := hr
              have b1 := (g1.2.2.1 (S 0 0 - 1) (by omega)).2.2.2.2.1
              refine ⟨rs_ok_set h0 (by omega) (by omega) (by omega) (by omega) (fun _ => ?_) (by omega), by omega⟩
              exact sc_wb_lt (k := 4) 1 b1 (by omega) (by omega)
        · split at hr
          · unfold rd_open at hr
            split at hr
            · rename_i hc
              simp only [Sum.inl.injEq, Prod.mk.injEq] at hr
              obtain ⟨rfl, rfl, rfl⟩ := hr
              refine ⟨⟨g1, by omega, Nat.le_refl _, fun _ => ⟨hc.2.1, fun s hs => ?_⟩⟩, by omega⟩
              have := g1.2.2.2.1 s hs
              omega
            · cases hr
          · split at hr
            · unfold rd_close at hr
              split at hr
              · rename_i hc
                split at hr
                · cases hr
                · rename_i a ha
                  have h1 := rd_dg_s ha
                  simp only [Sum.inl.injEq, Prod.mk.injEq] at hr
                  obtain ⟨rfl, rfl, rfl⟩ := hr
                  have g5 := g4 hc.1
                  refine ⟨⟨sc_wf_ins g1 g5.1 (by omega) (by omega) (by omega) (fun s hs => Or.inl (by have := g5.2 s hs; omega)), by omega, by omega, fun z => absurd rfl z⟩, by omega⟩
              · cases hr
            · cases hr
theorem rd_part_er {n pos e op : Nat} {t : Nat → Nat} {S : sc_T} (hr : rd_part n t pos S op = .inr e) : e ≤ pos + 3 := by
  unfold rd_part rd_bar rd_tempo rd_stretch rd_pass rd_open rd_close at hr
  repeat' split at hr
  all_goals first
    | (cases hr; done)
    | (simp only [Sum.inr.injEq] at hr; omega)
theorem rd_go_s (n : Nat) (t : Nat → Nat) (f pos : Nat) (S : sc_T) (op : Nat) : rd_go n t (f + 1) pos S op = if pos < n then (match rd_part n t pos S op with
    | .inl (p2, S2, op2) => rd_go n t f p2 S2 op2
    | .inr e => .inr e) else if op = 0 then .inl S else .inr pos := rfl
theorem rs_ok_0 (n : Nat) (hn : 0 < n) : rs_ok n 1 rd_S0 0 := by
  refine ⟨⟨by show 0 ≤ 24; omega, by show 0 ≤ 4; omega, fun j hj => absurd hj (Nat.not_lt_zero j), fun s hs => absurd hs (Nat.not_lt_zero s), fun s hs => absurd hs (Nat.not_lt_zero _), fun p _ => by show 0 < 16777216; omega⟩, by omega, by omega, fun z => absurd rfl z⟩
def sp_readPart : me_P := fun as v w K _ => ∃ (n pos op : Nat) (t : Nat → Nat) (S : sc_T), as = [vR 1] ∧ tx_at v n t ∧ rs_at v pos S op ∧ rs_ok n pos S op ∧ pos < n ∧ rd_post 0 (rd_part n t pos S op) v w K
theorem go_X4_readPart_0 {cs : Nat → Nat × me_P} {KR : me_K} {kx : (Nat → Nat → me_L → List me_S → me_V → me_U → Prop) → Nat → Nat → me_L → Nat → me_V → me_U → Prop} {km : Nat} {sx : me_Sc} {hd : List Nat} {Inv : Nat → Nat → me_L → List me_S → me_V → me_U → Prop} {n k : Nat} {L : me_L} {st : List me_S} {v : me_V} {w : me_U} (hn : (n == 0) = false) (h : hd.contains 0 = false) : me_go cs KR kx km sx cd_X4_readPart hd Inv n 0 k L st v w = me_vb cs (me_go cs KR kx km sx cd_X4_readPart hd Inv (n - 1)) KR (kx (me_go cs KR kx km sx cd_X4_readPart hd Inv (n - 1))) km sx [(2, 0, 2, [], 1, 0, 0), (29, 59, 0, [4, 327, 0], 3, 0, 325), (18, 0, 0, [40, 165, 41, 170, 98, 64, 102, 101, 115, 133, 116, 69, 175], 60, 0, 0)] 0 k L st v w := by
  rcases n with _ | n
  · cases hn
  · rw [mo_gb h]
    rfl
theorem lo_X4_readPart_0 {cs : Nat → Nat × me_P} {J : Nat → Nat → me_L → List me_S → me_V → me_U → Prop} {KR : me_K} {KX : Nat → Nat → me_L → Nat → me_V → me_U → Prop} {km : Nat} {sx : me_Sc} {k : Nat} {L : me_L} {st : List me_S} {v : me_V} {w : me_U} : me_vb cs J KR KX km sx (me_bk cd_X4_readPart 0) 0 k L st v w = me_vb cs J KR KX km sx [(2, 0, 2, [], 1, 0, 0), (29, 59, 0, [4, 327, 0], 3, 0, 325), (18, 0, 0, [40, 165, 41, 170, 98, 64, 102, 101, 115, 133, 116, 69, 175], 60, 0, 0)] 0 k L st v w := rfl
theorem go_X4_readPart_64 {cs : Nat → Nat × me_P} {KR : me_K} {kx : (Nat → Nat → me_L → List me_S → me_V → me_U → Prop) → Nat → Nat → me_L → Nat → me_V → me_U → Prop} {km : Nat} {sx : me_Sc} {hd : List Nat} {Inv : Nat → Nat → me_L → List me_S → me_V → me_U → Prop} {n k : Nat} {L : me_L} {st : List me_S} {v : me_V} {w : me_U} (hn : (n == 0) = false) (h : hd.contains 64 = false) : me_go cs KR kx km sx cd_X4_readPart hd Inv n 64 k L st v w = me_vb cs (me_go cs KR kx km sx cd_X4_readPart hd Inv (n - 1)) KR (kx (me_go cs KR kx km sx cd_X4_readPart hd Inv (n - 1))) km sx [(2, 0, 2, [], 1, 0, 0), (29, 62, 0, [4, 335, 2], 3, 0, 333), (34, 0, 0, [], 1, 0, 0)] 64 k L st v w := by
  rcases n with _ | n
  · cases hn
  · rw [mo_gb h]
    rfl
theorem lo_X4_readPart_64 {cs : Nat → Nat × me_P} {J : Nat → Nat → me_L → List me_S → me_V → me_U → Prop} {KR : me_K} {KX : Nat → Nat → me_L → Nat → me_V → me_U → Prop} {km : Nat} {sx : me_Sc} {k : Nat} {L : me_L} {st : List me_S} {v : me_V} {w : me_U} : me_vb cs J KR KX km sx (me_bk cd_X4_readPart 64) 64 k L st v w = me_vb cs J KR KX km sx [(2, 0, 2, [], 1, 0, 0), (29, 62, 0, [4, 335, 2], 3, 0, 333), (34, 0, 0, [], 1, 0, 0)] 64 k L st v w := rfl
theorem go_X4_readPart_69 {cs : Nat → Nat × me_P} {KR : me_K} {kx : (Nat → Nat → me_L → List me_S → me_V → me_U → Prop) → Nat → Nat → me_L → Nat → me_V → me_U → Prop} {km : Nat} {sx : me_Sc} {hd : List Nat} {Inv : Nat → Nat → me_L → List me_S → me_V → me_U → Prop} {n k : Nat} {L : me_L} {st : List me_S} {v : me_V} {w : me_U} (hn : (n == 0) = false) (h : hd.contains 69 = false) : me_go cs KR kx km sx cd_X4_readPart hd Inv n 69 k L st v w = me_vb cs (me_go cs KR kx km sx cd_X4_readPart hd Inv (n - 1)) KR (kx (me_go cs KR kx km sx cd_X4_readPart hd Inv (n - 1))) km sx [(2, 0, 2, [], 1, 0, 0), (19, 4, 5, [], 3, 0, 150), (19, 3, 0, [], 3, 0, 96), (14, 99, 5, [], 3, 0, 0), (2, 0, 2, [], 1, 0, 0), (2, 0, 2, [], 1, 0, 0), (19, 4, 5, [], 3, 0, 150), (19, 3, 0, [], 3, 0, 96), (0, 1, 0, [], 1, 0, 0), (4, 1, 0, [], 1, 0, 0), (29, 63, 1, [4, 351, 4], 3, 0, 349), (14, 99, 0, [], 3, 0, 0), (0, 1, 0, [], 1, 0, 0), (16, 100, 0, [], 3, 0, 0)] 69 k L st v w := by
  rcases n with _ | n
  · cases hn
  · rw [mo_gb h]
    rfl
theorem lo_X4_readPart_69 {cs : Nat → Nat × me_P} {J : Nat → Nat → me_L → List me_S → me_V → me_U → Prop} {KR : me_K} {KX : Nat → Nat → me_L → Nat → me_V → me_U → Prop} {km : Nat} {sx : me_Sc} {k : Nat} {L : me_L} {st : List me_S} {v : me_V} {w : me_U} : me_vb cs J KR KX km sx (me_bk cd_X4_readPart 69) 69 k L st v w = me_vb cs J KR KX km sx [(2, 0, 2, [], 1, 0, 0), (19, 4, 5, [], 3, 0, 150), (19, 3, 0, [], 3, 0, 96), (14, 99, 5, [], 3, 0, 0), (2, 0, 2, [], 1, 0, 0), (2, 0, 2, [], 1, 0, 0), (19, 4, 5, [], 3, 0, 150), (19, 3, 0, [], 3, 0, 96), (0, 1, 0, [], 1, 0, 0), (4, 1, 0, [], 1, 0, 0), (29, 63, 1, [4, 351, 4], 3, 0, 349), (14, 99, 0, [], 3, 0, 0), (0, 1, 0, [], 1, 0, 0), (16, 100, 0, [], 3, 0, 0)] 69 k L st v w := rfl
theorem go_X4_readPart_99 {cs : Nat → Nat × me_P} {KR : me_K} {kx : (Nat → Nat → me_L → List me_S → me_V → me_U → Prop) → Nat → Nat → me_L → Nat → me_V → me_U → Prop} {km : Nat} {sx : me_Sc} {hd : List Nat} {Inv : Nat → Nat → me_L → List me_S → me_V → me_U → Prop} {n k : Nat} {L : me_L} {st : List me_S} {v : me_V} {w : me_U} (hn : (n == 0) = false) (h : hd.contains 99 = false) : me_go cs KR kx km sx cd_X4_readPart hd Inv n 99 k L st v w = me_vb cs (me_go cs KR kx km sx cd_X4_readPart hd Inv (n - 1)) KR (kx (me_go cs KR kx km sx cd_X4_readPart hd Inv (n - 1))) km sx [(0, 0, 0, [], 1, 0, 0)] 99 k L st v w := by
  rcases n with _ | n
  · cases hn
  · rw [mo_gb h]
    rfl
theorem lo_X4_readPart_99 {cs : Nat → Nat × me_P} {J : Nat → Nat → me_L → List me_S → me_V → me_U → Prop} {KR : me_K} {KX : Nat → Nat → me_L → Nat → me_V → me_U → Prop} {km : Nat} {sx : me_Sc} {k : Nat} {L : me_L} {st : List me_S} {v : me_V} {w : me_U} : me_vb cs J KR KX km sx (me_bk cd_X4_readPart 99) 99 k L st v w = me_vb cs J KR KX km sx [(0, 0, 0, [], 1, 0, 0)] 99 k L st v w := rfl
theorem go_X4_readPart_100 {cs : Nat → Nat × me_P} {KR : me_K} {kx : (Nat → Nat → me_L → List me_S → me_V → me_U → Prop) → Nat → Nat → me_L → Nat → me_V → me_U → Prop} {km : Nat} {sx : me_Sc} {hd : List Nat} {Inv : Nat → Nat → me_L → List me_S → me_V → me_U → Prop} {n k : Nat} {L : me_L} {st : List me_S} {v : me_V} {w : me_U} (hn : (n == 0) = false) (h : hd.contains 100 = false) : me_go cs KR kx km sx cd_X4_readPart hd Inv n 100 k L st v w = me_vb cs (me_go cs KR kx km sx cd_X4_readPart hd Inv (n - 1)) KR (kx (me_go cs KR kx km sx cd_X4_readPart hd Inv (n - 1))) km sx [(34, 0, 0, [], 1, 0, 0)] 100 k L st v w := by
  rcases n with _ | n
  · cases hn
  · rw [mo_gb h]
    rfl
theorem lo_X4_readPart_100 {cs : Nat → Nat × me_P} {J : Nat → Nat → me_L → List me_S → me_V → me_U → Prop} {KR : me_K} {KX : Nat → Nat → me_L → Nat → me_V → me_U → Prop} {km : Nat} {sx : me_Sc} {k : Nat} {L : me_L} {st : List me_S} {v : me_V} {w : me_U} : me_vb cs J KR KX km sx (me_bk cd_X4_readPart 100) 100 k L st v w = me_vb cs J KR KX km sx [(34, 0, 0, [], 1, 0, 0)] 100 k L st v w := rfl
theorem go_X4_readPart_101 {cs : Nat → Nat × me_P} {KR : me_K} {kx : (Nat → Nat → me_L → List me_S → me_V → me_U → Prop) → Nat → Nat → me_L → Nat → me_V → me_U → Prop} {km : Nat} {sx : me_Sc} {hd : List Nat} {Inv : Nat → Nat → me_L → List me_S → me_V → me_U → Prop} {n k : Nat} {L : me_L} {st : List me_S} {v : me_V} {w : me_U} (hn : (n == 0) = false) (h : hd.contains 101 = false) : me_go cs KR kx km sx cd_X4_readPart hd Inv n 101 k L st v w = me_vb cs (me_go cs KR kx km sx cd_X4_readPart hd Inv (n - 1)) KR (kx (me_go cs KR kx km sx cd_X4_readPart hd Inv (n - 1))) km sx [(2, 0, 2, [], 1, 0, 0), (19, 4, 5, [], 3, 0, 150), (19, 3, 0, [], 3, 0, 96), (14, 131, 5, [], 3, 0, 0), (2, 0, 2, [], 1, 0, 0), (2, 0, 2, [], 1, 0, 0), (19, 4, 5, [], 3, 0, 150), (19, 3, 0, [], 3, 0, 96), (0, 1, 0, [], 1, 0, 0), (4, 1, 0, [], 1, 0, 0), (29, 64, 1, [4, 355, 5], 3, 0, 353), (14, 131, 0, [], 3, 0, 0), (0, 1, 0, [], 1, 0, 0), (16, 132, 0, [], 3, 0, 0)] 101 k L st v w := by
  rcases n with _ | n
  · cases hn
  · rw [mo_gb h]
    rfl
theorem lo_X4_readPart_101 {cs : Nat → Nat × me_P} {J : Nat → Nat → me_L → List me_S → me_V → me_U → Prop} {KR : me_K} {KX : Nat → Nat → me_L → Nat → me_V → me_U → Prop} {km : Nat} {sx : me_Sc} {k : Nat} {L : me_L} {st : List me_S} {v : me_V} {w : me_U} : me_vb cs J KR KX km sx (me_bk cd_X4_readPart 101) 101 k L st v w = me_vb cs J KR KX km sx [(2, 0, 2, [], 1, 0, 0), (19, 4, 5, [], 3, 0, 150), (19, 3, 0, [], 3, 0, 96), (14, 131, 5, [], 3, 0, 0), (2, 0, 2, [], 1, 0, 0), (2, 0, 2, [], 1, 0, 0), (19, 4, 5, [], 3, 0, 150), (19, 3, 0, [], 3, 0, 96), (0, 1, 0, [], 1, 0, 0), (4, 1, 0, [], 1, 0, 0), (29, 64, 1, [4, 355, 5], 3, 0, 353), (14, 131, 0, [], 3, 0, 0), (0, 1, 0, [], 1, 0, 0), (16, 132, 0, [], 3, 0, 0)] 101 k L st v w := rfl
theorem go_X4_readPart_131 {cs : Nat → Nat × me_P} {KR : me_K} {kx : (Nat → Nat → me_L → List me_S → me_V → me_U → Prop) → Nat → Nat → me_L → Nat → me_V → me_U → Prop} {km : Nat} {sx : me_Sc} {hd : List Nat} {Inv : Nat → Nat → me_L → List me_S → me_V → me_U → Prop} {n k : Nat} {L : me_L} {st : List me_S} {v : me_V} {w : me_U} (hn : (n == 0) = false) (h : hd.contains 131 = false) : me_go cs KR kx km sx cd_X4_readPart hd Inv n 131 k L st v w = me_vb cs (me_go cs KR kx km sx cd_X4_readPart hd Inv (n - 1)) KR (kx (me_go cs KR kx km sx cd_X4_readPart hd Inv (n - 1))) km sx [(0, 0, 0, [], 1, 0, 0)] 131 k L st v w := by
  rcases n with _ | n
  · cases hn
  · rw [mo_gb h]
    rfl
theorem lo_X4_readPart_131 {cs : Nat → Nat × me_P} {J : Nat → Nat → me_L → List me_S → me_V → me_U → Prop} {KR : me_K} {KX : Nat → Nat → me_L → Nat → me_V → me_U → Prop} {km : Nat} {sx : me_Sc} {k : Nat} {L : me_L} {st : List me_S} {v : me_V} {w : me_U} : me_vb cs J KR KX km sx (me_bk cd_X4_readPart 131) 131 k L st v w = me_vb cs J KR KX km sx [(0, 0, 0, [], 1, 0, 0)] 131 k L st v w := rfl
theorem go_X4_readPart_132 {cs : Nat → Nat × me_P} {KR : me_K} {kx : (Nat → Nat → me_L → List me_S → me_V → me_U → Prop) → Nat → Nat → me_L → Nat → me_V → me_U → Prop} {km : Nat} {sx : me_Sc} {hd : List Nat} {Inv : Nat → Nat → me_L → List me_S → me_V → me_U → Prop} {n k : Nat} {L : me_L} {st : List me_S} {v : me_V} {w : me_U} (hn : (n == 0) = false) (h : hd.contains 132 = false) : me_go cs KR kx km sx cd_X4_readPart hd Inv n 132 k L st v w = me_vb cs (me_go cs KR kx km sx cd_X4_readPart hd Inv (n - 1)) KR (kx (me_go cs KR kx km sx cd_X4_readPart hd Inv (n - 1))) km sx [(34, 0, 0, [], 1, 0, 0)] 132 k L st v w := by
  rcases n with _ | n
  · cases hn
  · rw [mo_gb h]
    rfl
theorem lo_X4_readPart_132 {cs : Nat → Nat × me_P} {J : Nat → Nat → me_L → List me_S → me_V → me_U → Prop} {KR : me_K} {KX : Nat → Nat → me_L → Nat → me_V → me_U → Prop} {km : Nat} {sx : me_Sc} {k : Nat} {L : me_L} {st : List me_S} {v : me_V} {w : me_U} : me_vb cs J KR KX km sx (me_bk cd_X4_readPart 132) 132 k L st v w = me_vb cs J KR KX km sx [(34, 0, 0, [], 1, 0, 0)] 132 k L st v w := rfl
theorem go_X4_readPart_133 {cs : Nat → Nat × me_P} {KR : me_K} {kx : (Nat → Nat → me_L → List me_S → me_V → me_U → Prop) → Nat → Nat → me_L → Nat → me_V → me_U → Prop} {km : Nat} {sx : me_Sc} {hd : List Nat} {Inv : Nat → Nat → me_L → List me_S → me_V → me_U → Prop} {n k : Nat} {L : me_L} {st : List me_S} {v : me_V} {w : me_U} (hn : (n == 0) = false) (h : hd.contains 133 = false) : me_go cs KR kx km sx cd_X4_readPart hd Inv n 133 k L st v w = me_vb cs (me_go cs KR kx km sx cd_X4_readPart hd Inv (n - 1)) KR (kx (me_go cs KR kx km sx cd_X4_readPart hd Inv (n - 1))) km sx [(2, 0, 2, [], 1, 0, 0), (19, 4, 5, [], 3, 0, 150), (19, 3, 0, [], 3, 0, 96), (14, 163, 5, [], 3, 0, 0), (2, 0, 2, [], 1, 0, 0), (2, 0, 2, [], 1, 0, 0), (19, 4, 5, [], 3, 0, 150), (19, 3, 0, [], 3, 0, 96), (0, 1, 0, [], 1, 0, 0), (4, 1, 0, [], 1, 0, 0), (29, 65, 1, [4, 360, 6], 3, 0, 358), (14, 163, 0, [], 3, 0, 0), (0, 1, 0, [], 1, 0, 0), (16, 164, 0, [], 3, 0, 0)] 133 k L st v w := by
  rcases n with _ | n
  · cases hn
  · rw [mo_gb h]
    rfl
theorem lo_X4_readPart_133 {cs : Nat → Nat × me_P} {J : Nat → Nat → me_L → List me_S → me_V → me_U → Prop} {KR : me_K} {KX : Nat → Nat → me_L → Nat → me_V → me_U → Prop} {km : Nat} {sx : me_Sc} {k : Nat} {L : me_L} {st : List me_S} {v : me_V} {w : me_U} : me_vb cs J KR KX km sx (me_bk cd_X4_readPart 133) 133 k L st v w = me_vb cs J KR KX km sx [(2, 0, 2, [], 1, 0, 0), (19, 4, 5, [], 3, 0, 150), (19, 3, 0, [], 3, 0, 96), (14, 163, 5, [], 3, 0, 0), (2, 0, 2, [], 1, 0, 0), (2, 0, 2, [], 1, 0, 0), (19, 4, 5, [], 3, 0, 150), (19, 3, 0, [], 3, 0, 96), (0, 1, 0, [], 1, 0, 0), (4, 1, 0, [], 1, 0, 0), (29, 65, 1, [4, 360, 6], 3, 0, 358), (14, 163, 0, [], 3, 0, 0), (0, 1, 0, [], 1, 0, 0), (16, 164, 0, [], 3, 0, 0)] 133 k L st v w := rfl
theorem go_X4_readPart_163 {cs : Nat → Nat × me_P} {KR : me_K} {kx : (Nat → Nat → me_L → List me_S → me_V → me_U → Prop) → Nat → Nat → me_L → Nat → me_V → me_U → Prop} {km : Nat} {sx : me_Sc} {hd : List Nat} {Inv : Nat → Nat → me_L → List me_S → me_V → me_U → Prop} {n k : Nat} {L : me_L} {st : List me_S} {v : me_V} {w : me_U} (hn : (n == 0) = false) (h : hd.contains 163 = false) : me_go cs KR kx km sx cd_X4_readPart hd Inv n 163 k L st v w = me_vb cs (me_go cs KR kx km sx cd_X4_readPart hd Inv (n - 1)) KR (kx (me_go cs KR kx km sx cd_X4_readPart hd Inv (n - 1))) km sx [(0, 0, 0, [], 1, 0, 0)] 163 k L st v w := by
  rcases n with _ | n
  · cases hn
  · rw [mo_gb h]
    rfl
theorem lo_X4_readPart_163 {cs : Nat → Nat × me_P} {J : Nat → Nat → me_L → List me_S → me_V → me_U → Prop} {KR : me_K} {KX : Nat → Nat → me_L → Nat → me_V → me_U → Prop} {km : Nat} {sx : me_Sc} {k : Nat} {L : me_L} {st : List me_S} {v : me_V} {w : me_U} : me_vb cs J KR KX km sx (me_bk cd_X4_readPart 163) 163 k L st v w = me_vb cs J KR KX km sx [(0, 0, 0, [], 1, 0, 0)] 163 k L st v w := rfl
theorem go_X4_readPart_164 {cs : Nat → Nat × me_P} {KR : me_K} {kx : (Nat → Nat → me_L → List me_S → me_V → me_U → Prop) → Nat → Nat → me_L → Nat → me_V → me_U → Prop} {km : Nat} {sx : me_Sc} {hd : List Nat} {Inv : Nat → Nat → me_L → List me_S → me_V → me_U → Prop} {n k : Nat} {L : me_L} {st : List me_S} {v : me_V} {w : me_U} (hn : (n == 0) = false) (h : hd.contains 164 = false) : me_go cs KR kx km sx cd_X4_readPart hd Inv n 164 k L st v w = me_vb cs (me_go cs KR kx km sx cd_X4_readPart hd Inv (n - 1)) KR (kx (me_go cs KR kx km sx cd_X4_readPart hd Inv (n - 1))) km sx [(34, 0, 0, [], 1, 0, 0)] 164 k L st v w := by
  rcases n with _ | n
  · cases hn
  · rw [mo_gb h]
    rfl
theorem lo_X4_readPart_164 {cs : Nat → Nat × me_P} {J : Nat → Nat → me_L → List me_S → me_V → me_U → Prop} {KR : me_K} {KX : Nat → Nat → me_L → Nat → me_V → me_U → Prop} {km : Nat} {sx : me_Sc} {k : Nat} {L : me_L} {st : List me_S} {v : me_V} {w : me_U} : me_vb cs J KR KX km sx (me_bk cd_X4_readPart 164) 164 k L st v w = me_vb cs J KR KX km sx [(34, 0, 0, [], 1, 0, 0)] 164 k L st v w := rfl
theorem go_X4_readPart_165 {cs : Nat → Nat × me_P} {KR : me_K} {kx : (Nat → Nat → me_L → List me_S → me_V → me_U → Prop) → Nat → Nat → me_L → Nat → me_V → me_U → Prop} {km : Nat} {sx : me_Sc} {hd : List Nat} {Inv : Nat → Nat → me_L → List me_S → me_V → me_U → Prop} {n k : Nat} {L : me_L} {st : List me_S} {v : me_V} {w : me_U} (hn : (n == 0) = false) (h : hd.contains 165 = false) : me_go cs KR kx km sx cd_X4_readPart hd Inv n 165 k L st v w = me_vb cs (me_go cs KR kx km sx cd_X4_readPart hd Inv (n - 1)) KR (kx (me_go cs KR kx km sx cd_X4_readPart hd Inv (n - 1))) km sx [(2, 0, 2, [], 1, 0, 0), (29, 66, 0, [4, 368, 7], 3, 0, 366), (34, 0, 0, [], 1, 0, 0)] 165 k L st v w := by
  rcases n with _ | n
  · cases hn
  · rw [mo_gb h]
    rfl
theorem lo_X4_readPart_165 {cs : Nat → Nat × me_P} {J : Nat → Nat → me_L → List me_S → me_V → me_U → Prop} {KR : me_K} {KX : Nat → Nat → me_L → Nat → me_V → me_U → Prop} {km : Nat} {sx : me_Sc} {k : Nat} {L : me_L} {st : List me_S} {v : me_V} {w : me_U} : me_vb cs J KR KX km sx (me_bk cd_X4_readPart 165) 165 k L st v w = me_vb cs J KR KX km sx [(2, 0, 2, [], 1, 0, 0), (29, 66, 0, [4, 368, 7], 3, 0, 366), (34, 0, 0, [], 1, 0, 0)] 165 k L st v w := rfl
theorem go_X4_readPart_170 {cs : Nat → Nat × me_P} {KR : me_K} {kx : (Nat → Nat → me_L → List me_S → me_V → me_U → Prop) → Nat → Nat → me_L → Nat → me_V → me_U → Prop} {km : Nat} {sx : me_Sc} {hd : List Nat} {Inv : Nat → Nat → me_L → List me_S → me_V → me_U → Prop} {n k : Nat} {L : me_L} {st : List me_S} {v : me_V} {w : me_U} (hn : (n == 0) = false) (h : hd.contains 170 = false) : me_go cs KR kx km sx cd_X4_readPart hd Inv n 170 k L st v w = me_vb cs (me_go cs KR kx km sx cd_X4_readPart hd Inv (n - 1)) KR (kx (me_go cs KR kx km sx cd_X4_readPart hd Inv (n - 1))) km sx [(2, 0, 2, [], 1, 0, 0), (29, 67, 0, [4, 372, 8], 3, 0, 370), (34, 0, 0, [], 1, 0, 0)] 170 k L st v w := by
  rcases n with _ | n
  · cases hn
  · rw [mo_gb h]
    rfl
theorem lo_X4_readPart_170 {cs : Nat → Nat × me_P} {J : Nat → Nat → me_L → List me_S → me_V → me_U → Prop} {KR : me_K} {KX : Nat → Nat → me_L → Nat → me_V → me_U → Prop} {km : Nat} {sx : me_Sc} {k : Nat} {L : me_L} {st : List me_S} {v : me_V} {w : me_U} : me_vb cs J KR KX km sx (me_bk cd_X4_readPart 170) 170 k L st v w = me_vb cs J KR KX km sx [(2, 0, 2, [], 1, 0, 0), (29, 67, 0, [4, 372, 8], 3, 0, 370), (34, 0, 0, [], 1, 0, 0)] 170 k L st v w := rfl
theorem go_X4_readPart_175 {cs : Nat → Nat × me_P} {KR : me_K} {kx : (Nat → Nat → me_L → List me_S → me_V → me_U → Prop) → Nat → Nat → me_L → Nat → me_V → me_U → Prop} {km : Nat} {sx : me_Sc} {hd : List Nat} {Inv : Nat → Nat → me_L → List me_S → me_V → me_U → Prop} {n k : Nat} {L : me_L} {st : List me_S} {v : me_V} {w : me_U} (hn : (n == 0) = false) (h : hd.contains 175 = false) : me_go cs KR kx km sx cd_X4_readPart hd Inv n 175 k L st v w = me_vb cs (me_go cs KR kx km sx cd_X4_readPart hd Inv (n - 1)) KR (kx (me_go cs KR kx km sx cd_X4_readPart hd Inv (n - 1))) km sx [(0, 0, 0, [], 1, 0, 0), (34, 0, 0, [], 1, 0, 0)] 175 k L st v w := by
  rcases n with _ | n
  · cases hn
  · rw [mo_gb h]
    rfl
theorem lo_X4_readPart_175 {cs : Nat → Nat × me_P} {J : Nat → Nat → me_L → List me_S → me_V → me_U → Prop} {KR : me_K} {KX : Nat → Nat → me_L → Nat → me_V → me_U → Prop} {km : Nat} {sx : me_Sc} {k : Nat} {L : me_L} {st : List me_S} {v : me_V} {w : me_U} : me_vb cs J KR KX km sx (me_bk cd_X4_readPart 175) 175 k L st v w = me_vb cs J KR KX km sx [(0, 0, 0, [], 1, 0, 0), (34, 0, 0, [], 1, 0, 0)] 175 k L st v w := rfl
def cs_X4_readPart : Nat → Nat × me_P := fun a => match a with
  | 59 => (0, sp_sign)
  | 62 => (0, sp_readBar)
  | 63 => (0, sp_readTempo)
  | 64 => (0, sp_readStretch)
  | 65 => (0, sp_readPass)
  | 66 => (0, sp_readOpening)
  | 67 => (0, sp_readClosing)
  | _ => (0, fun _ _ _ _ _ => False)
set_option maxHeartbeats 1000000 in
set_option maxRecDepth 100000 in
theorem vc_X4_readPart : mv_ok cs_X4_readPart cd_X4_readPart [] 0 1 sp_readPart := by
  refine mv_flat 20 ?_
  intro as v w K X h
  obtain ⟨n, pos, op, t, S, rfl, hT, hR, hok, hn, hK⟩ := h
  obtain ⟨toc, g0, g1, g2, g3, g4, g5, gal⟩ := te_f
  obtain ⟨sto, k0, k1, k2, k3, k4, k5, m4, m5, m6, m7⟩ := ts_f
  have hn160 := hT.2.1
  have h24 := hok.1.1
  have r1 := hR.1
  have b0 := hR.2.2.2.1
  have ht := (hT.2.2 pos hn).2
  have ex : (if pos < n then nI (t pos) else -(nI 9)) = nI (t pos) := if_pos hn
  refine ⟨Nat.le_of_ble_eq_true rfl, fun Inv => ?_⟩
  simp only [↓mo_vb, ↓mo_ve, ↓mo_gi, ↓mo_0, ↓mo_1, ↓mo_2, ↓mo_3i, ↓mo_3l, ↓mo_3r, ↓mo_3q, ↓mo_4_0, ↓mo_4_1, ↓mo_4_2, ↓mo_4_3, ↓mo_4_4, ↓mo_4_5, ↓mo_4_6, ↓mo_4_7, ↓mo_4_8, ↓mo_4_9, ↓mo_4_10, ↓mo_5_0, ↓mo_5_1, ↓mo_5_2, ↓mo_5_3, ↓mo_5_4, ↓mo_5_8, ↓mo_5_9, ↓mo_6_0, ↓mo_6_1, ↓mo_7, ↓mo_8, ↓mo_9, ↓mo_10i, ↓mo_10r, ↓mo_10q, ↓mo_11ir, ↓mo_12i, ↓mo_13, ↓mo_13m, ↓mo_14_0, ↓mo_15_0, ↓mo_14_1, ↓mo_15_1, ↓mo_14_2, ↓mo_15_2, ↓mo_14_3, ↓mo_15_3, ↓mo_14_4, ↓mo_15_4, ↓mo_14_5, ↓mo_15_5, ↓mo_16, ↓mo_17, ↓mo_18, ↓mo_19, ↓mo_20i, ↓mo_20z, ↓mo_20l, ↓mo_21, ↓mo_22, ↓mo_23, ↓mo_24, ↓mo_25, ↓mo_27, ↓mo_26, ↓mo_28, ↓mo_31, ↓mo_32, ↓mo_33, ↓mo_34, ↓mo_35, ↓mo_36, ↓mo_37, ↓mo_39, ↓mo_40, ↓mo_30_0, ↓mo_41_0, ↓mo_29_0, ↓mo_30_1, ↓mo_41_1, ↓mo_29_1, ↓mo_30_2, ↓mo_41_2, ↓mo_29_2, ↓mo_30_3, ↓mo_41_3, ↓mo_29_3, ↓mo_30_4, ↓mo_41_4, ↓mo_29_4, ↓mo_30_5, ↓mo_41_5, ↓mo_29_5, ↓me_tb, ↓me_lu, me_t2i, me_t2l, me_t2r, me_t2q, me_t13i, me_t19a, me_t19b, me_t19c, me_t19d, me_tae, me_t28e, me_t36e, ↓me_kn_d, ↓me_ky_d, me_ca_e, me_sv_d, me_in_n, me_in_c, decide_true, decide_false, me_rm_n, me_rm_c, me_lk_c, me_kdI, me_kdL, me_kdR, me_kdQ, me_ag_n, me_agI, me_agL, me_agR, me_agQ, me_w9n, me_w9I, me_w9L, me_w9R, me_w9Q, me_psN, me_psS, mn_0, mn_1, mn_00, mn_10, mn_01, mn_11, or_true, true_or, mn_c0, mn_c1, mn_l0, mn_l1, eq_self, List.contains_nil, List.contains_cons, List.elem_nil, List.elem_cons, List.contains_eq_mem, List.not_mem_nil, List.mem_cons, decide_false, decide_true, or_false, false_or, Bool.or_false, Bool.false_or, List.length_cons, List.length_nil, Nat.reduceAdd, Nat.reduceSub, Nat.reduceMul, Nat.reduceBEq, Nat.reduceEqDiff, Nat.reduceLT, Nat.reduceLeDiff, reduceCtorEq, if_true, if_false, ite_true, ite_false, true_and, and_true, Bool.and_true, Bool.true_and, Bool.and_false, Bool.false_and, Bool.not_true, Bool.not_false, Bool.or_true, Bool.true_or, cond_true, cond_false, not_false_eq_true, not_true_eq_false, true_implies, false_implies, implies_true, Nat.le_refl, Nat.add_zero, Nat.zero_add, Nat.zero_le, ↓mo_gi, cs_X4_readPart, ↓go_X4_readPart_0, ↓lo_X4_readPart_0, ↓go_X4_readPart_64, ↓lo_X4_readPart_64, ↓go_X4_readPart_69, ↓lo_X4_readPart_69, ↓go_X4_readPart_99, ↓lo_X4_readPart_99, ↓go_X4_readPart_100, ↓lo_X4_readPart_100, ↓go_X4_readPart_101, ↓lo_X4_readPart_101, ↓go_X4_readPart_131, ↓lo_X4_readPart_131, ↓go_X4_readPart_132, ↓lo_X4_readPart_132, ↓go_X4_readPart_133, ↓lo_X4_readPart_133, ↓go_X4_readPart_163, ↓lo_X4_readPart_163, ↓go_X4_readPart_164, ↓lo_X4_readPart_164, ↓go_X4_readPart_165, ↓lo_X4_readPart_165, ↓go_X4_readPart_170, ↓lo_X4_readPart_170, ↓go_X4_readPart_175, ↓lo_X4_readPart_175, toc, g0, g1, g2, g3, g4, g5, gal, k0, k1, k2, k3, k4, k5, m4, m5, m6, m7, sto]
  refine ⟨n, pos, t, rfl, hT, r1, by omega, ?_⟩
  simp only [↓mo_vb, ↓mo_ve, ↓mo_gi, ↓mo_0, ↓mo_1, ↓mo_2, ↓mo_3i, ↓mo_3l, ↓mo_3r, ↓mo_3q, ↓mo_4_0, ↓mo_4_1, ↓mo_4_2, ↓mo_4_3, ↓mo_4_4, ↓mo_4_5, ↓mo_4_6, ↓mo_4_7, ↓mo_4_8, ↓mo_4_9, ↓mo_4_10, ↓mo_5_0, ↓mo_5_1, ↓mo_5_2, ↓mo_5_3, ↓mo_5_4, ↓mo_5_8, ↓mo_5_9, ↓mo_6_0, ↓mo_6_1, ↓mo_7, ↓mo_8, ↓mo_9, ↓mo_10i, ↓mo_10r, ↓mo_10q, ↓mo_11ir, ↓mo_12i, ↓mo_13, ↓mo_13m, ↓mo_14_0, ↓mo_15_0, ↓mo_14_1, ↓mo_15_1, ↓mo_14_2, ↓mo_15_2, ↓mo_14_3, ↓mo_15_3, ↓mo_14_4, ↓mo_15_4, ↓mo_14_5, ↓mo_15_5, ↓mo_16, ↓mo_17, ↓mo_18, ↓mo_19, ↓mo_20i, ↓mo_20z, ↓mo_20l, ↓mo_21, ↓mo_22, ↓mo_23, ↓mo_24, ↓mo_25, ↓mo_27, ↓mo_26, ↓mo_28, ↓mo_31, ↓mo_32, ↓mo_33, ↓mo_34, ↓mo_35, ↓mo_36, ↓mo_37, ↓mo_39, ↓mo_40, ↓mo_30_0, ↓mo_41_0, ↓mo_29_0, ↓mo_30_1, ↓mo_41_1, ↓mo_29_1, ↓mo_30_2, ↓mo_41_2, ↓mo_29_2, ↓mo_30_3, ↓mo_41_3, ↓mo_29_3, ↓mo_30_4, ↓mo_41_4, ↓mo_29_4, ↓mo_30_5, ↓mo_41_5, ↓mo_29_5, ↓me_tb, ↓me_lu, me_t2i, me_t2l, me_t2r, me_t2q, me_t13i, me_t19a, me_t19b, me_t19c, me_t19d, me_tae, me_t28e, me_t36e, ↓me_kn_d, ↓me_ky_d, me_ca_e, me_sv_d, me_in_n, me_in_c, decide_true, decide_false, me_rm_n, me_rm_c, me_lk_c, me_kdI, me_kdL, me_kdR, me_kdQ, me_ag_n, me_agI, me_agL, me_agR, me_agQ, me_w9n, me_w9I, me_w9L, me_w9R, me_w9Q, me_psN, me_psS, mn_0, mn_1, mn_00, mn_10, mn_01, mn_11, or_true, true_or, mn_c0, mn_c1, mn_l0, mn_l1, eq_self, List.contains_nil, List.contains_cons, List.elem_nil, List.elem_cons, List.contains_eq_mem, List.not_mem_nil, List.mem_cons, decide_false, decide_true, or_false, false_or, Bool.or_false, Bool.false_or, List.length_cons, List.length_nil, Nat.reduceAdd, Nat.reduceSub, Nat.reduceMul, Nat.reduceBEq, Nat.reduceEqDiff, Nat.reduceLT, Nat.reduceLeDiff, reduceCtorEq, if_true, if_false, ite_true, ite_false, true_and, and_true, Bool.and_true, Bool.true_and, Bool.and_false, Bool.false_and, Bool.not_true, Bool.not_false, Bool.or_true, Bool.true_or, cond_true, cond_false, not_false_eq_true, not_true_eq_false, true_implies, false_implies, implies_true, Nat.le_refl, Nat.add_zero, Nat.zero_add, Nat.zero_le, ↓mo_gi, cs_X4_readPart, ↓go_X4_readPart_0, ↓lo_X4_readPart_0, ↓go_X4_readPart_64, ↓lo_X4_readPart_64, ↓go_X4_readPart_69, ↓lo_X4_readPart_69, ↓go_X4_readPart_99, ↓lo_X4_readPart_99, ↓go_X4_readPart_100, ↓lo_X4_readPart_100, ↓go_X4_readPart_101, ↓lo_X4_readPart_101, ↓go_X4_readPart_131, ↓lo_X4_readPart_131, ↓go_X4_readPart_132, ↓lo_X4_readPart_132, ↓go_X4_readPart_133, ↓lo_X4_readPart_133, ↓go_X4_readPart_163, ↓lo_X4_readPart_163, ↓go_X4_readPart_164, ↓lo_X4_readPart_164, ↓go_X4_readPart_165, ↓lo_X4_readPart_165, ↓go_X4_readPart_170, ↓lo_X4_readPart_170, ↓go_X4_readPart_175, ↓lo_X4_readPart_175, toc, g0, g1, g2, g3, g4, g5, gal, k0, k1, k2, k3, k4, k5, m4, m5, m6, m7, sto, ex, r1, b0, nI_eqs (show t pos < 2 ^ 31 by omega) (show 40 < 2 ^ 31 by omega), nI_eqs (show t pos < 2 ^ 31 by omega) (show 41 < 2 ^ 31 by omega), nI_eqs (show t pos < 2 ^ 31 by omega) (show 98 < 2 ^ 31 by omega), nI_eqs (show t pos < 2 ^ 31 by omega) (show 102 < 2 ^ 31 by omega), nI_eqs (show t pos < 2 ^ 31 by omega) (show 115 < 2 ^ 31 by omega), nI_eqs (show t pos < 2 ^ 31 by omega) (show 116 < 2 ^ 31 by omega), nI_le0 (show S 0 0 < 2 ^ 31 by omega)]
  refine ⟨fun h => by
      unfold rd_part at hK
      rw [if_neg (by omega), if_neg (by omega), if_neg (by omega), if_neg (by omega), if_pos h] at hK
      exact ⟨n, pos, op, t, S, rfl, hT, hR, hok, hn, ⟨fun p S2 op2 v2 hr hf hR2 => by
        simp only [↓mo_vb, ↓mo_ve, ↓mo_gi, ↓mo_0, ↓mo_1, ↓mo_2, ↓mo_3i, ↓mo_3l, ↓mo_3r, ↓mo_3q, ↓mo_4_0, ↓mo_4_1, ↓mo_4_2, ↓mo_4_3, ↓mo_4_4, ↓mo_4_5, ↓mo_4_6, ↓mo_4_7, ↓mo_4_8, ↓mo_4_9, ↓mo_4_10, ↓mo_5_0, ↓mo_5_1, ↓mo_5_2, ↓mo_5_3, ↓mo_5_4, ↓mo_5_8, ↓mo_5_9, ↓mo_6_0, ↓mo_6_1, ↓mo_7, ↓mo_8, ↓mo_9, ↓mo_10i, ↓mo_10r, ↓mo_10q, ↓mo_11ir, ↓mo_12i, ↓mo_13, ↓mo_13m, ↓mo_14_0, ↓mo_15_0, ↓mo_14_1, ↓mo_15_1, ↓mo_14_2, ↓mo_15_2, ↓mo_14_3, ↓mo_15_3, ↓mo_14_4, ↓mo_15_4, ↓mo_14_5, ↓mo_15_5, ↓mo_16, ↓mo_17, ↓mo_18, ↓mo_19, ↓mo_20i, ↓mo_20z, ↓mo_20l, ↓mo_21, ↓mo_22, ↓mo_23, ↓mo_24, ↓mo_25, ↓mo_27, ↓mo_26, ↓mo_28, ↓mo_31, ↓mo_32, ↓mo_33, ↓mo_34, ↓mo_35, ↓mo_36, ↓mo_37, ↓mo_39, ↓mo_40, ↓mo_30_0, ↓mo_41_0, ↓mo_29_0, ↓mo_30_1, ↓mo_41_1, ↓mo_29_1, ↓mo_30_2, ↓mo_41_2, ↓mo_29_2, ↓mo_30_3, ↓mo_41_3, ↓mo_29_3, ↓mo_30_4, ↓mo_41_4, ↓mo_29_4, ↓mo_30_5, ↓mo_41_5, ↓mo_29_5, ↓me_tb, ↓me_lu, me_t2i, me_t2l, me_t2r, me_t2q, me_t13i, me_t19a, me_t19b, me_t19c, me_t19d, me_tae, me_t28e, me_t36e, ↓me_kn_d, ↓me_ky_d, me_ca_e, me_sv_d, me_in_n, me_in_c, decide_true, decide_false, me_rm_n, me_rm_c, me_lk_c, me_kdI, me_kdL, me_kdR, me_kdQ, me_ag_n, me_agI, me_agL, me_agR, me_agQ, me_w9n, me_w9I, me_w9L, me_w9R, me_w9Q, me_psN, me_psS, mn_0, mn_1, mn_00, mn_10, mn_01, mn_11, or_true, true_or, mn_c0, mn_c1, mn_l0, mn_l1, eq_self, List.contains_nil, List.contains_cons, List.elem_nil, List.elem_cons, List.contains_eq_mem, List.not_mem_nil, List.mem_cons, decide_false, decide_true, or_false, false_or, Bool.or_false, Bool.false_or, List.length_cons, List.length_nil, Nat.reduceAdd, Nat.reduceSub, Nat.reduceMul, Nat.reduceBEq, Nat.reduceEqDiff, Nat.reduceLT, Nat.reduceLeDiff, reduceCtorEq, if_true, if_false, ite_true, ite_false, true_and, and_true, Bool.and_true, Bool.true_and, Bool.and_false, Bool.false_and, Bool.not_true, Bool.not_false, Bool.or_true, Bool.true_or, cond_true, cond_false, not_false_eq_true, not_true_eq_false, true_implies, false_implies, implies_true, Nat.le_refl, Nat.add_zero, Nat.zero_add, Nat.zero_le, ↓mo_gi, cs_X4_readPart, ↓go_X4_readPart_0, ↓lo_X4_readPart_0, ↓go_X4_readPart_64, ↓lo_X4_readPart_64, ↓go_X4_readPart_69, ↓lo_X4_readPart_69, ↓go_X4_readPart_99, ↓lo_X4_readPart_99, ↓go_X4_readPart_100, ↓lo_X4_readPart_100, ↓go_X4_readPart_101, ↓lo_X4_readPart_101, ↓go_X4_readPart_131, ↓lo_X4_readPart_131, ↓go_X4_readPart_132, ↓lo_X4_readPart_132, ↓go_X4_readPart_133, ↓lo_X4_readPart_133, ↓go_X4_readPart_163, ↓lo_X4_readPart_163, ↓go_X4_readPart_164, ↓lo_X4_readPart_164, ↓go_X4_readPart_165, ↓lo_X4_readPart_165, ↓go_X4_readPart_170, ↓lo_X4_readPart_170, ↓go_X4_readPart_175, ↓lo_X4_readPart_175]
        exact hK.1 p S2 op2 v2 hr hf hR2, fun e v2 hr hf hp => by
        simp only [↓mo_vb, ↓mo_ve, ↓mo_gi, ↓mo_0, ↓mo_1, ↓mo_2, ↓mo_3i, ↓mo_3l, ↓mo_3r, ↓mo_3q, ↓mo_4_0, ↓mo_4_1, ↓mo_4_2, ↓mo_4_3, ↓mo_4_4, ↓mo_4_5, ↓mo_4_6, ↓mo_4_7, ↓mo_4_8, ↓mo_4_9, ↓mo_4_10, ↓mo_5_0, ↓mo_5_1, ↓mo_5_2, ↓mo_5_3, ↓mo_5_4, ↓mo_5_8, ↓mo_5_9, ↓mo_6_0, ↓mo_6_1, ↓mo_7, ↓mo_8, ↓mo_9, ↓mo_10i, ↓mo_10r, ↓mo_10q, ↓mo_11ir, ↓mo_12i, ↓mo_13, ↓mo_13m, ↓mo_14_0, ↓mo_15_0, ↓mo_14_1, ↓mo_15_1, ↓mo_14_2, ↓mo_15_2, ↓mo_14_3, ↓mo_15_3, ↓mo_14_4, ↓mo_15_4, ↓mo_14_5, ↓mo_15_5, ↓mo_16, ↓mo_17, ↓mo_18, ↓mo_19, ↓mo_20i, ↓mo_20z, ↓mo_20l, ↓mo_21, ↓mo_22, ↓mo_23, ↓mo_24, ↓mo_25, ↓mo_27, ↓mo_26, ↓mo_28, ↓mo_31, ↓mo_32, ↓mo_33, ↓mo_34, ↓mo_35, ↓mo_36, ↓mo_37, ↓mo_39, ↓mo_40, ↓mo_30_0, ↓mo_41_0, ↓mo_29_0, ↓mo_30_1, ↓mo_41_1, ↓mo_29_1, ↓mo_30_2, ↓mo_41_2, ↓mo_29_2, ↓mo_30_3, ↓mo_41_3, ↓mo_29_3, ↓mo_30_4, ↓mo_41_4, ↓mo_29_4, ↓mo_30_5, ↓mo_41_5, ↓mo_29_5, ↓me_tb, ↓me_lu, me_t2i, me_t2l, me_t2r, me_t2q, me_t13i, me_t19a, me_t19b, me_t19c, me_t19d, me_tae, me_t28e, me_t36e, ↓me_kn_d, ↓me_ky_d, me_ca_e, me_sv_d, me_in_n, me_in_c, decide_true, decide_false, me_rm_n, me_rm_c, me_lk_c, me_kdI, me_kdL, me_kdR, me_kdQ, me_ag_n, me_agI, me_agL, me_agR, me_agQ, me_w9n, me_w9I, me_w9L, me_w9R, me_w9Q, me_psN, me_psS, mn_0, mn_1, mn_00, mn_10, mn_01, mn_11, or_true, true_or, mn_c0, mn_c1, mn_l0, mn_l1, eq_self, List.contains_nil, List.contains_cons, List.elem_nil, List.elem_cons, List.contains_eq_mem, List.not_mem_nil, List.mem_cons, decide_false, decide_true, or_false, false_or, Bool.or_false, Bool.false_or, List.length_cons, List.length_nil, Nat.reduceAdd, Nat.reduceSub, Nat.reduceMul, Nat.reduceBEq, Nat.reduceEqDiff, Nat.reduceLT, Nat.reduceLeDiff, reduceCtorEq, if_true, if_false, ite_true, ite_false, true_and, and_true, Bool.and_true, Bool.true_and, Bool.and_false, Bool.false_and, Bool.not_true, Bool.not_false, Bool.or_true, Bool.true_or, cond_true, cond_false, not_false_eq_true, not_true_eq_false, true_implies, false_implies, implies_true, Nat.le_refl, Nat.add_zero, Nat.zero_add, Nat.zero_le, ↓mo_gi, cs_X4_readPart, ↓go_X4_readPart_0, ↓lo_X4_readPart_0, ↓go_X4_readPart_64, ↓lo_X4_readPart_64, ↓go_X4_readPart_69, ↓lo_X4_readPart_69, ↓go_X4_readPart_99, ↓lo_X4_readPart_99, ↓go_X4_readPart_100, ↓lo_X4_readPart_100, ↓go_X4_readPart_101, ↓lo_X4_readPart_101, ↓go_X4_readPart_131, ↓lo_X4_readPart_131, ↓go_X4_readPart_132, ↓lo_X4_readPart_132, ↓go_X4_readPart_133, ↓lo_X4_readPart_133, ↓go_X4_readPart_163, ↓lo_X4_readPart_163, ↓go_X4_readPart_164, ↓lo_X4_readPart_164, ↓go_X4_readPart_165, ↓lo_X4_readPart_165, ↓go_X4_readPart_170, ↓lo_X4_readPart_170, ↓go_X4_readPart_175, ↓lo_X4_readPart_175]
        exact hK.2 e v2 hr hf hp⟩⟩,
    fun n1 => ⟨fun h => by
      unfold rd_part at hK
      rw [if_neg (by omega), if_neg (by omega), if_neg (by omega), if_neg (by omega), if_neg (by omega), if_pos h] at hK
      exact ⟨n, pos, op, t, S, rfl, hT, hR, hok, hn, ⟨fun p S2 op2 v2 hr hf hR2 => by
        simp only [↓mo_vb, ↓mo_ve, ↓mo_gi, ↓mo_0, ↓mo_1, ↓mo_2, ↓mo_3i, ↓mo_3l, ↓mo_3r, ↓mo_3q, ↓mo_4_0, ↓mo_4_1, ↓mo_4_2, ↓mo_4_3, ↓mo_4_4, ↓mo_4_5, ↓mo_4_6, ↓mo_4_7, ↓mo_4_8, ↓mo_4_9, ↓mo_4_10, ↓mo_5_0, ↓mo_5_1, ↓mo_5_2, ↓mo_5_3, ↓mo_5_4, ↓mo_5_8, ↓mo_5_9, ↓mo_6_0, ↓mo_6_1, ↓mo_7, ↓mo_8, ↓mo_9, ↓mo_10i, ↓mo_10r, ↓mo_10q, ↓mo_11ir, ↓mo_12i, ↓mo_13, ↓mo_13m, ↓mo_14_0, ↓mo_15_0, ↓mo_14_1, ↓mo_15_1, ↓mo_14_2, ↓mo_15_2, ↓mo_14_3, ↓mo_15_3, ↓mo_14_4, ↓mo_15_4, ↓mo_14_5, ↓mo_15_5, ↓mo_16, ↓mo_17, ↓mo_18, ↓mo_19, ↓mo_20i, ↓mo_20z, ↓mo_20l, ↓mo_21, ↓mo_22, ↓mo_23, ↓mo_24, ↓mo_25, ↓mo_27, ↓mo_26, ↓mo_28, ↓mo_31, ↓mo_32, ↓mo_33, ↓mo_34, ↓mo_35, ↓mo_36, ↓mo_37, ↓mo_39, ↓mo_40, ↓mo_30_0, ↓mo_41_0, ↓mo_29_0, ↓mo_30_1, ↓mo_41_1, ↓mo_29_1, ↓mo_30_2, ↓mo_41_2, ↓mo_29_2, ↓mo_30_3, ↓mo_41_3, ↓mo_29_3, ↓mo_30_4, ↓mo_41_4, ↓mo_29_4, ↓mo_30_5, ↓mo_41_5, ↓mo_29_5, ↓me_tb, ↓me_lu, me_t2i, me_t2l, me_t2r, me_t2q, me_t13i, me_t19a, me_t19b, me_t19c, me_t19d, me_tae, me_t28e, me_t36e, ↓me_kn_d, ↓me_ky_d, me_ca_e, me_sv_d, me_in_n, me_in_c, decide_true, decide_false, me_rm_n, me_rm_c, me_lk_c, me_kdI, me_kdL, me_kdR, me_kdQ, me_ag_n, me_agI, me_agL, me_agR, me_agQ, me_w9n, me_w9I, me_w9L, me_w9R, me_w9Q, me_psN, me_psS, mn_0, mn_1, mn_00, mn_10, mn_01, mn_11, or_true, true_or, mn_c0, mn_c1, mn_l0, mn_l1, eq_self, List.contains_nil, List.contains_cons, List.elem_nil, List.elem_cons, List.contains_eq_mem, List.not_mem_nil, List.mem_cons, decide_false, decide_true, or_false, false_or, Bool.or_false, Bool.false_or, List.length_cons, List.length_nil, Nat.reduceAdd, Nat.reduceSub, Nat.reduceMul, Nat.reduceBEq, Nat.reduceEqDiff, Nat.reduceLT, Nat.reduceLeDiff, reduceCtorEq, if_true, if_false, ite_true, ite_false, true_and, and_true, Bool.and_true, Bool.true_and, Bool.and_false, Bool.false_and, Bool.not_true, Bool.not_false, Bool.or_true, Bool.true_or, cond_true, cond_false, not_false_eq_true, not_true_eq_false, true_implies, false_implies, implies_true, Nat.le_refl, Nat.add_zero, Nat.zero_add, Nat.zero_le, ↓mo_gi, cs_X4_readPart, ↓go_X4_readPart_0, ↓lo_X4_readPart_0, ↓go_X4_readPart_64, ↓lo_X4_readPart_64, ↓go_X4_readPart_69, ↓lo_X4_readPart_69, ↓go_X4_readPart_99, ↓lo_X4_readPart_99, ↓go_X4_readPart_100, ↓lo_X4_readPart_100, ↓go_X4_readPart_101, ↓lo_X4_readPart_101, ↓go_X4_readPart_131, ↓lo_X4_readPart_131, ↓go_X4_readPart_132, ↓lo_X4_readPart_132, ↓go_X4_readPart_133, ↓lo_X4_readPart_133, ↓go_X4_readPart_163, ↓lo_X4_readPart_163, ↓go_X4_readPart_164, ↓lo_X4_readPart_164, ↓go_X4_readPart_165, ↓lo_X4_readPart_165, ↓go_X4_readPart_170, ↓lo_X4_readPart_170, ↓go_X4_readPart_175, ↓lo_X4_readPart_175]
        exact hK.1 p S2 op2 v2 hr hf hR2, fun e v2 hr hf hp => by
        simp only [↓mo_vb, ↓mo_ve, ↓mo_gi, ↓mo_0, ↓mo_1, ↓mo_2, ↓mo_3i, ↓mo_3l, ↓mo_3r, ↓mo_3q, ↓mo_4_0, ↓mo_4_1, ↓mo_4_2, ↓mo_4_3, ↓mo_4_4, ↓mo_4_5, ↓mo_4_6, ↓mo_4_7, ↓mo_4_8, ↓mo_4_9, ↓mo_4_10, ↓mo_5_0, ↓mo_5_1, ↓mo_5_2, ↓mo_5_3, ↓mo_5_4, ↓mo_5_8, ↓mo_5_9, ↓mo_6_0, ↓mo_6_1, ↓mo_7, ↓mo_8, ↓mo_9, ↓mo_10i, ↓mo_10r, ↓mo_10q, ↓mo_11ir, ↓mo_12i, ↓mo_13, ↓mo_13m, ↓mo_14_0, ↓mo_15_0, ↓mo_14_1, ↓mo_15_1, ↓mo_14_2, ↓mo_15_2, ↓mo_14_3, ↓mo_15_3, ↓mo_14_4, ↓mo_15_4, ↓mo_14_5, ↓mo_15_5, ↓mo_16, ↓mo_17, ↓mo_18, ↓mo_19, ↓mo_20i, ↓mo_20z, ↓mo_20l, ↓mo_21, ↓mo_22, ↓mo_23, ↓mo_24, ↓mo_25, ↓mo_27, ↓mo_26, ↓mo_28, ↓mo_31, ↓mo_32, ↓mo_33, ↓mo_34, ↓mo_35, ↓mo_36, ↓mo_37, ↓mo_39, ↓mo_40, ↓mo_30_0, ↓mo_41_0, ↓mo_29_0, ↓mo_30_1, ↓mo_41_1, ↓mo_29_1, ↓mo_30_2, ↓mo_41_2, ↓mo_29_2, ↓mo_30_3, ↓mo_41_3, ↓mo_29_3, ↓mo_30_4, ↓mo_41_4, ↓mo_29_4, ↓mo_30_5, ↓mo_41_5, ↓mo_29_5, ↓me_tb, ↓me_lu, me_t2i, me_t2l, me_t2r, me_t2q, me_t13i, me_t19a, me_t19b, me_t19c, me_t19d, me_tae, me_t28e, me_t36e, ↓me_kn_d, ↓me_ky_d, me_ca_e, me_sv_d, me_in_n, me_in_c, decide_true, decide_false, me_rm_n, me_rm_c, me_lk_c, me_kdI, me_kdL, me_kdR, me_kdQ, me_ag_n, me_agI, me_agL, me_agR, me_agQ, me_w9n, me_w9I, me_w9L, me_w9R, me_w9Q, me_psN, me_psS, mn_0, mn_1, mn_00, mn_10, mn_01, mn_11, or_true, true_or, mn_c0, mn_c1, mn_l0, mn_l1, eq_self, List.contains_nil, List.contains_cons, List.elem_nil, List.elem_cons, List.contains_eq_mem, List.not_mem_nil, List.mem_cons, decide_false, decide_true, or_false, false_or, Bool.or_false, Bool.false_or, List.length_cons, List.length_nil, Nat.reduceAdd, Nat.reduceSub, Nat.reduceMul, Nat.reduceBEq, Nat.reduceEqDiff, Nat.reduceLT, Nat.reduceLeDiff, reduceCtorEq, if_true, if_false, ite_true, ite_false, true_and, and_true, Bool.and_true, Bool.true_and, Bool.and_false, Bool.false_and, Bool.not_true, Bool.not_false, Bool.or_true, Bool.true_or, cond_true, cond_false, not_false_eq_true, not_true_eq_false, true_implies, false_implies, implies_true, Nat.le_refl, Nat.add_zero, Nat.zero_add, Nat.zero_le, ↓mo_gi, cs_X4_readPart, ↓go_X4_readPart_0, ↓lo_X4_readPart_0, ↓go_X4_readPart_64, ↓lo_X4_readPart_64, ↓go_X4_readPart_69, ↓lo_X4_readPart_69, ↓go_X4_readPart_99, ↓lo_X4_readPart_99, ↓go_X4_readPart_100, ↓lo_X4_readPart_100, ↓go_X4_readPart_101, ↓lo_X4_readPart_101, ↓go_X4_readPart_131, ↓lo_X4_readPart_131, ↓go_X4_readPart_132, ↓lo_X4_readPart_132, ↓go_X4_readPart_133, ↓lo_X4_readPart_133, ↓go_X4_readPart_163, ↓lo_X4_readPart_163, ↓go_X4_readPart_164, ↓lo_X4_readPart_164, ↓go_X4_readPart_165, ↓lo_X4_readPart_165, ↓go_X4_readPart_170, ↓lo_X4_readPart_170, ↓go_X4_readPart_175, ↓lo_X4_readPart_175]
        exact hK.2 e v2 hr hf hp⟩⟩,
    fun n2 => ⟨fun h => by
      unfold rd_part at hK
      rw [if_pos h] at hK
      exact ⟨n, pos, op, t, S, rfl, hT, hR, hok, hn, ⟨fun p S2 op2 v2 hr hf hR2 => by
        simp only [↓mo_vb, ↓mo_ve, ↓mo_gi, ↓mo_0, ↓mo_1, ↓mo_2, ↓mo_3i, ↓mo_3l, ↓mo_3r, ↓mo_3q, ↓mo_4_0, ↓mo_4_1, ↓mo_4_2, ↓mo_4_3, ↓mo_4_4, ↓mo_4_5, ↓mo_4_6, ↓mo_4_7, ↓mo_4_8, ↓mo_4_9, ↓mo_4_10, ↓mo_5_0, ↓mo_5_1, ↓mo_5_2, ↓mo_5_3, ↓mo_5_4, ↓mo_5_8, ↓mo_5_9, ↓mo_6_0, ↓mo_6_1, ↓mo_7, ↓mo_8, ↓mo_9, ↓mo_10i, ↓mo_10r, ↓mo_10q, ↓mo_11ir, ↓mo_12i, ↓mo_13, ↓mo_13m, ↓mo_14_0, ↓mo_15_0, ↓mo_14_1, ↓mo_15_1, ↓mo_14_2, ↓mo_15_2, ↓mo_14_3, ↓mo_15_3, ↓mo_14_4, ↓mo_15_4, ↓mo_14_5, ↓mo_15_5, ↓mo_16, ↓mo_17, ↓mo_18, ↓mo_19, ↓mo_20i, ↓mo_20z, ↓mo_20l, ↓mo_21, ↓mo_22, ↓mo_23, ↓mo_24, ↓mo_25, ↓mo_27, ↓mo_26, ↓mo_28, ↓mo_31, ↓mo_32, ↓mo_33, ↓mo_34, ↓mo_35, ↓mo_36, ↓mo_37, ↓mo_39, ↓mo_40, ↓mo_30_0, ↓mo_41_0, ↓mo_29_0, ↓mo_30_1, ↓mo_41_1, ↓mo_29_1, ↓mo_30_2, ↓mo_41_2, ↓mo_29_2, ↓mo_30_3, ↓mo_41_3, ↓mo_29_3, ↓mo_30_4, ↓mo_41_4, ↓mo_29_4, ↓mo_30_5, ↓mo_41_5, ↓mo_29_5, ↓me_tb, ↓me_lu, me_t2i, me_t2l, me_t2r, me_t2q, me_t13i, me_t19a, me_t19b, me_t19c, me_t19d, me_tae, me_t28e, me_t36e, ↓me_kn_d, ↓me_ky_d, me_ca_e, me_sv_d, me_in_n, me_in_c, decide_true, decide_false, me_rm_n, me_rm_c, me_lk_c, me_kdI, me_kdL, me_kdR, me_kdQ, me_ag_n, me_agI, me_agL, me_agR, me_agQ, me_w9n, me_w9I, me_w9L, me_w9R, me_w9Q, me_psN, me_psS, mn_0, mn_1, mn_00, mn_10, mn_01, mn_11, or_true, true_or, mn_c0, mn_c1, mn_l0, mn_l1, eq_self, List.contains_nil, List.contains_cons, List.elem_nil, List.elem_cons, List.contains_eq_mem, List.not_mem_nil, List.mem_cons, decide_false, decide_true, or_false, false_or, Bool.or_false, Bool.false_or, List.length_cons, List.length_nil, Nat.reduceAdd, Nat.reduceSub, Nat.reduceMul, Nat.reduceBEq, Nat.reduceEqDiff, Nat.reduceLT, Nat.reduceLeDiff, reduceCtorEq, if_true, if_false, ite_true, ite_false, true_and, and_true, Bool.and_true, Bool.true_and, Bool.and_false, Bool.false_and, Bool.not_true, Bool.not_false, Bool.or_true, Bool.true_or, cond_true, cond_false, not_false_eq_true, not_true_eq_false, true_implies, false_implies, implies_true, Nat.le_refl, Nat.add_zero, Nat.zero_add, Nat.zero_le, ↓mo_gi, cs_X4_readPart, ↓go_X4_readPart_0, ↓lo_X4_readPart_0, ↓go_X4_readPart_64, ↓lo_X4_readPart_64, ↓go_X4_readPart_69, ↓lo_X4_readPart_69, ↓go_X4_readPart_99, ↓lo_X4_readPart_99, ↓go_X4_readPart_100, ↓lo_X4_readPart_100, ↓go_X4_readPart_101, ↓lo_X4_readPart_101, ↓go_X4_readPart_131, ↓lo_X4_readPart_131, ↓go_X4_readPart_132, ↓lo_X4_readPart_132, ↓go_X4_readPart_133, ↓lo_X4_readPart_133, ↓go_X4_readPart_163, ↓lo_X4_readPart_163, ↓go_X4_readPart_164, ↓lo_X4_readPart_164, ↓go_X4_readPart_165, ↓lo_X4_readPart_165, ↓go_X4_readPart_170, ↓lo_X4_readPart_170, ↓go_X4_readPart_175, ↓lo_X4_readPart_175]
        exact hK.1 p S2 op2 v2 hr hf hR2, fun e v2 hr hf hp => by
        simp only [↓mo_vb, ↓mo_ve, ↓mo_gi, ↓mo_0, ↓mo_1, ↓mo_2, ↓mo_3i, ↓mo_3l, ↓mo_3r, ↓mo_3q, ↓mo_4_0, ↓mo_4_1, ↓mo_4_2, ↓mo_4_3, ↓mo_4_4, ↓mo_4_5, ↓mo_4_6, ↓mo_4_7, ↓mo_4_8, ↓mo_4_9, ↓mo_4_10, ↓mo_5_0, ↓mo_5_1, ↓mo_5_2, ↓mo_5_3, ↓mo_5_4, ↓mo_5_8, ↓mo_5_9, ↓mo_6_0, ↓mo_6_1, ↓mo_7, ↓mo_8, ↓mo_9, ↓mo_10i, ↓mo_10r, ↓mo_10q, ↓mo_11ir, ↓mo_12i, ↓mo_13, ↓mo_13m, ↓mo_14_0, ↓mo_15_0, ↓mo_14_1, ↓mo_15_1, ↓mo_14_2, ↓mo_15_2, ↓mo_14_3, ↓mo_15_3, ↓mo_14_4, ↓mo_15_4, ↓mo_14_5, ↓mo_15_5, ↓mo_16, ↓mo_17, ↓mo_18, ↓mo_19, ↓mo_20i, ↓mo_20z, ↓mo_20l, ↓mo_21, ↓mo_22, ↓mo_23, ↓mo_24, ↓mo_25, ↓mo_27, ↓mo_26, ↓mo_28, ↓mo_31, ↓mo_32, ↓mo_33, ↓mo_34, ↓mo_35, ↓mo_36, ↓mo_37, ↓mo_39, ↓mo_40, ↓mo_30_0, ↓mo_41_0, ↓mo_29_0, ↓mo_30_1, ↓mo_41_1, ↓mo_29_1, ↓mo_30_2, ↓mo_41_2, ↓mo_29_2, ↓mo_30_3, ↓mo_41_3, ↓mo_29_3, ↓mo_30_4, ↓mo_41_4, ↓mo_29_4, ↓mo_30_5, ↓mo_41_5, ↓mo_29_5, ↓me_tb, ↓me_lu, me_t2i, me_t2l, me_t2r, me_t2q, me_t13i, me_t19a, me_t19b, me_t19c, me_t19d, me_tae, me_t28e, me_t36e, ↓me_kn_d, ↓me_ky_d, me_ca_e, me_sv_d, me_in_n, me_in_c, decide_true, decide_false, me_rm_n, me_rm_c, me_lk_c, me_kdI, me_kdL, me_kdR, me_kdQ, me_ag_n, me_agI, me_agL, me_agR, me_agQ, me_w9n, me_w9I, me_w9L, me_w9R, me_w9Q, me_psN, me_psS, mn_0, mn_1, mn_00, mn_10, mn_01, mn_11, or_true, true_or, mn_c0, mn_c1, mn_l0, mn_l1, eq_self, List.contains_nil, List.contains_cons, List.elem_nil, List.elem_cons, List.contains_eq_mem, List.not_mem_nil, List.mem_cons, decide_false, decide_true, or_false, false_or, Bool.or_false, Bool.false_or, List.length_cons, List.length_nil, Nat.reduceAdd, Nat.reduceSub, Nat.reduceMul, Nat.reduceBEq, Nat.reduceEqDiff, Nat.reduceLT, Nat.reduceLeDiff, reduceCtorEq, if_true, if_false, ite_true, ite_false, true_and, and_true, Bool.and_true, Bool.true_and, Bool.and_false, Bool.false_and, Bool.not_true, Bool.not_false, Bool.or_true, Bool.true_or, cond_true, cond_false, not_false_eq_true, not_true_eq_false, true_implies, false_implies, implies_true, Nat.le_refl, Nat.add_zero, Nat.zero_add, Nat.zero_le, ↓mo_gi, cs_X4_readPart, ↓go_X4_readPart_0, ↓lo_X4_readPart_0, ↓go_X4_readPart_64, ↓lo_X4_readPart_64, ↓go_X4_readPart_69, ↓lo_X4_readPart_69, ↓go_X4_readPart_99, ↓lo_X4_readPart_99, ↓go_X4_readPart_100, ↓lo_X4_readPart_100, ↓go_X4_readPart_101, ↓lo_X4_readPart_101, ↓go_X4_readPart_131, ↓lo_X4_readPart_131, ↓go_X4_readPart_132, ↓lo_X4_readPart_132, ↓go_X4_readPart_133, ↓lo_X4_readPart_133, ↓go_X4_readPart_163, ↓lo_X4_readPart_163, ↓go_X4_readPart_164, ↓lo_X4_readPart_164, ↓go_X4_readPart_165, ↓lo_X4_readPart_165, ↓go_X4_readPart_170, ↓lo_X4_readPart_170, ↓go_X4_readPart_175, ↓lo_X4_readPart_175]
        exact hK.2 e v2 hr hf hp⟩⟩,
    fun n3 => ⟨fun h => by
      unfold rd_part at hK
      rw [if_neg (by omega), if_neg (by omega), if_pos h] at hK
      refine ⟨fun h0 => ?_, fun h0 => ⟨n, pos, op, t, S, by rw [← mn_1, pk_sub (by omega)], hT, hR, hok, hn, h0, ⟨fun p S2 op2 v2 hr hf hR2 => by
        simp only [↓mo_vb, ↓mo_ve, ↓mo_gi, ↓mo_0, ↓mo_1, ↓mo_2, ↓mo_3i, ↓mo_3l, ↓mo_3r, ↓mo_3q, ↓mo_4_0, ↓mo_4_1, ↓mo_4_2, ↓mo_4_3, ↓mo_4_4, ↓mo_4_5, ↓mo_4_6, ↓mo_4_7, ↓mo_4_8, ↓mo_4_9, ↓mo_4_10, ↓mo_5_0, ↓mo_5_1, ↓mo_5_2, ↓mo_5_3, ↓mo_5_4, ↓mo_5_8, ↓mo_5_9, ↓mo_6_0, ↓mo_6_1, ↓mo_7, ↓mo_8, ↓mo_9, ↓mo_10i, ↓mo_10r, ↓mo_10q, ↓mo_11ir, ↓mo_12i, ↓mo_13, ↓mo_13m, ↓mo_14_0, ↓mo_15_0, ↓mo_14_1, ↓mo_15_1, ↓mo_14_2, ↓mo_15_2, ↓mo_14_3, ↓mo_15_3, ↓mo_14_4, ↓mo_15_4, ↓mo_14_5, ↓mo_15_5, ↓mo_16, ↓mo_17, ↓mo_18, ↓mo_19, ↓mo_20i, ↓mo_20z, ↓mo_20l, ↓mo_21, ↓mo_22, ↓mo_23, ↓mo_24, ↓mo_25, ↓mo_27, ↓mo_26, ↓mo_28, ↓mo_31, ↓mo_32, ↓mo_33, ↓mo_34, ↓mo_35, ↓mo_36, ↓mo_37, ↓mo_39, ↓mo_40, ↓mo_30_0, ↓mo_41_0, ↓mo_29_0, ↓mo_30_1, ↓mo_41_1, ↓mo_29_1, ↓mo_30_2, ↓mo_41_2, ↓mo_29_2, ↓mo_30_3, ↓mo_41_3, ↓mo_29_3, ↓mo_30_4, ↓mo_41_4, ↓mo_29_4, ↓mo_30_5, ↓mo_41_5, ↓mo_29_5, ↓me_tb, ↓me_lu, me_t2i, me_t2l, me_t2r, me_t2q, me_t13i, me_t19a, me_t19b, me_t19c, me_t19d, me_tae, me_t28e, me_t36e, ↓me_kn_d, ↓me_ky_d, me_ca_e, me_sv_d, me_in_n, me_in_c, decide_true, decide_false, me_rm_n, me_rm_c, me_lk_c, me_kdI, me_kdL, me_kdR, me_kdQ, me_ag_n, me_agI, me_agL, me_agR, me_agQ, me_w9n, me_w9I, me_w9L, me_w9R, me_w9Q, me_psN, me_psS, mn_0, mn_1, mn_00, mn_10, mn_01, mn_11, or_true, true_or, mn_c0, mn_c1, mn_l0, mn_l1, eq_self, List.contains_nil, List.contains_cons, List.elem_nil, List.elem_cons, List.contains_eq_mem, List.not_mem_nil, List.mem_cons, decide_false, decide_true, or_false, false_or, Bool.or_false, Bool.false_or, List.length_cons, List.length_nil, Nat.reduceAdd, Nat.reduceSub, Nat.reduceMul, Nat.reduceBEq, Nat.reduceEqDiff, Nat.reduceLT, Nat.reduceLeDiff, reduceCtorEq, if_true, if_false, ite_true, ite_false, true_and, and_true, Bool.and_true, Bool.true_and, Bool.and_false, Bool.false_and, Bool.not_true, Bool.not_false, Bool.or_true, Bool.true_or, cond_true, cond_false, not_false_eq_true, not_true_eq_false, true_implies, false_implies, implies_true, Nat.le_refl, Nat.add_zero, Nat.zero_add, Nat.zero_le, ↓mo_gi, cs_X4_readPart, ↓go_X4_readPart_0, ↓lo_X4_readPart_0, ↓go_X4_readPart_64, ↓lo_X4_readPart_64, ↓go_X4_readPart_69, ↓lo_X4_readPart_69, ↓go_X4_readPart_99, ↓lo_X4_readPart_99, ↓go_X4_readPart_100, ↓lo_X4_readPart_100, ↓go_X4_readPart_101, ↓lo_X4_readPart_101, ↓go_X4_readPart_131, ↓lo_X4_readPart_131, ↓go_X4_readPart_132, ↓lo_X4_readPart_132, ↓go_X4_readPart_133, ↓lo_X4_readPart_133, ↓go_X4_readPart_163, ↓lo_X4_readPart_163, ↓go_X4_readPart_164, ↓lo_X4_readPart_164, ↓go_X4_readPart_165, ↓lo_X4_readPart_165, ↓go_X4_readPart_170, ↓lo_X4_readPart_170, ↓go_X4_readPart_175, ↓lo_X4_readPart_175]
        exact hK.1 p S2 op2 v2 hr hf hR2, fun e v2 hr hf hp => by
        simp only [↓mo_vb, ↓mo_ve, ↓mo_gi, ↓mo_0, ↓mo_1, ↓mo_2, ↓mo_3i, ↓mo_3l, ↓mo_3r, ↓mo_3q, ↓mo_4_0, ↓mo_4_1, ↓mo_4_2, ↓mo_4_3, ↓mo_4_4, ↓mo_4_5, ↓mo_4_6, ↓mo_4_7, ↓mo_4_8, ↓mo_4_9, ↓mo_4_10, ↓mo_5_0, ↓mo_5_1, ↓mo_5_2, ↓mo_5_3, ↓mo_5_4, ↓mo_5_8, ↓mo_5_9, ↓mo_6_0, ↓mo_6_1, ↓mo_7, ↓mo_8, ↓mo_9, ↓mo_10i, ↓mo_10r, ↓mo_10q, ↓mo_11ir, ↓mo_12i, ↓mo_13, ↓mo_13m, ↓mo_14_0, ↓mo_15_0, ↓mo_14_1, ↓mo_15_1, ↓mo_14_2, ↓mo_15_2, ↓mo_14_3, ↓mo_15_3, ↓mo_14_4, ↓mo_15_4, ↓mo_14_5, ↓mo_15_5, ↓mo_16, ↓mo_17, ↓mo_18, ↓mo_19, ↓mo_20i, ↓mo_20z, ↓mo_20l, ↓mo_21, ↓mo_22, ↓mo_23, ↓mo_24, ↓mo_25, ↓mo_27, ↓mo_26, ↓mo_28, ↓mo_31, ↓mo_32, ↓mo_33, ↓mo_34, ↓mo_35, ↓mo_36, ↓mo_37, ↓mo_39, ↓mo_40, ↓mo_30_0, ↓mo_41_0, ↓mo_29_0, ↓mo_30_1, ↓mo_41_1, ↓mo_29_1, ↓mo_30_2, ↓mo_41_2, ↓mo_29_2, ↓mo_30_3, ↓mo_41_3, ↓mo_29_3, ↓mo_30_4, ↓mo_41_4, ↓mo_29_4, ↓mo_30_5, ↓mo_41_5, ↓mo_29_5, ↓me_tb, ↓me_lu, me_t2i, me_t2l, me_t2r, me_t2q, me_t13i, me_t19a, me_t19b, me_t19c, me_t19d, me_tae, me_t28e, me_t36e, ↓me_kn_d, ↓me_ky_d, me_ca_e, me_sv_d, me_in_n, me_in_c, decide_true, decide_false, me_rm_n, me_rm_c, me_lk_c, me_kdI, me_kdL, me_kdR, me_kdQ, me_ag_n, me_agI, me_agL, me_agR, me_agQ, me_w9n, me_w9I, me_w9L, me_w9R, me_w9Q, me_psN, me_psS, mn_0, mn_1, mn_00, mn_10, mn_01, mn_11, or_true, true_or, mn_c0, mn_c1, mn_l0, mn_l1, eq_self, List.contains_nil, List.contains_cons, List.elem_nil, List.elem_cons, List.contains_eq_mem, List.not_mem_nil, List.mem_cons, decide_false, decide_true, or_false, false_or, Bool.or_false, Bool.false_or, List.length_cons, List.length_nil, Nat.reduceAdd, Nat.reduceSub, Nat.reduceMul, Nat.reduceBEq, Nat.reduceEqDiff, Nat.reduceLT, Nat.reduceLeDiff, reduceCtorEq, if_true, if_false, ite_true, ite_false, true_and, and_true, Bool.and_true, Bool.true_and, Bool.and_false, Bool.false_and, Bool.not_true, Bool.not_false, Bool.or_true, Bool.true_or, cond_true, cond_false, not_false_eq_true, not_true_eq_false, true_implies, false_implies, implies_true, Nat.le_refl, Nat.add_zero, Nat.zero_add, Nat.zero_le, ↓mo_gi, cs_X4_readPart, ↓go_X4_readPart_0, ↓lo_X4_readPart_0, ↓go_X4_readPart_64, ↓lo_X4_readPart_64, ↓go_X4_readPart_69, ↓lo_X4_readPart_69, ↓go_X4_readPart_99, ↓lo_X4_readPart_99, ↓go_X4_readPart_100, ↓lo_X4_readPart_100, ↓go_X4_readPart_101, ↓lo_X4_readPart_101, ↓go_X4_readPart_131, ↓lo_X4_readPart_131, ↓go_X4_readPart_132, ↓lo_X4_readPart_132, ↓go_X4_readPart_133, ↓lo_X4_readPart_133, ↓go_X4_readPart_163, ↓lo_X4_readPart_163, ↓go_X4_readPart_164, ↓lo_X4_readPart_164, ↓go_X4_readPart_165, ↓lo_X4_readPart_165, ↓go_X4_readPart_170, ↓lo_X4_readPart_170, ↓go_X4_readPart_175, ↓lo_X4_readPart_175]
        exact hK.2 e v2 hr hf hp⟩⟩⟩
      unfold rd_stretch at hK
      rw [if_pos h0] at hK
      exact hK.2 pos v rfl (tf_rf v) r1,
    fun n4 => ⟨fun h => by
      unfold rd_part at hK
      rw [if_neg (by omega), if_neg (by omega), if_neg (by omega), if_pos h] at hK
      refine ⟨fun h0 => ?_, fun h0 => ⟨n, pos, op, t, S, by rw [← mn_1, pk_sub (by omega)], hT, hR, hok, hn, h0, ⟨fun p S2 op2 v2 hr hf hR2 => by
        simp only [↓mo_vb, ↓mo_ve, ↓mo_gi, ↓mo_0, ↓mo_1, ↓mo_2, ↓mo_3i, ↓mo_3l, ↓mo_3r, ↓mo_3q, ↓mo_4_0, ↓mo_4_1, ↓mo_4_2, ↓mo_4_3, ↓mo_4_4, ↓mo_4_5, ↓mo_4_6, ↓mo_4_7, ↓mo_4_8, ↓mo_4_9, ↓mo_4_10, ↓mo_5_0, ↓mo_5_1, ↓mo_5_2, ↓mo_5_3, ↓mo_5_4, ↓mo_5_8, ↓mo_5_9, ↓mo_6_0, ↓mo_6_1, ↓mo_7, ↓mo_8, ↓mo_9, ↓mo_10i, ↓mo_10r, ↓mo_10q, ↓mo_11ir, ↓mo_12i, ↓mo_13, ↓mo_13m, ↓mo_14_0, ↓mo_15_0, ↓mo_14_1, ↓mo_15_1, ↓mo_14_2, ↓mo_15_2, ↓mo_14_3, ↓mo_15_3, ↓mo_14_4, ↓mo_15_4, ↓mo_14_5, ↓mo_15_5, ↓mo_16, ↓mo_17, ↓mo_18, ↓mo_19, ↓mo_20i, ↓mo_20z, ↓mo_20l, ↓mo_21, ↓mo_22, ↓mo_23, ↓mo_24, ↓mo_25, ↓mo_27, ↓mo_26, ↓mo_28, ↓mo_31, ↓mo_32, ↓mo_33, ↓mo_34, ↓mo_35, ↓mo_36, ↓mo_37, ↓mo_39, ↓mo_40, ↓mo_30_0, ↓mo_41_0, ↓mo_29_0, ↓mo_30_1, ↓mo_41_1, ↓mo_29_1, ↓mo_30_2, ↓mo_41_2, ↓mo_29_2, ↓mo_30_3, ↓mo_41_3, ↓mo_29_3, ↓mo_30_4, ↓mo_41_4, ↓mo_29_4, ↓mo_30_5, ↓mo_41_5, ↓mo_29_5, ↓me_tb, ↓me_lu, me_t2i, me_t2l, me_t2r, me_t2q, me_t13i, me_t19a, me_t19b, me_t19c, me_t19d, me_tae, me_t28e, me_t36e, ↓me_kn_d, ↓me_ky_d, me_ca_e, me_sv_d, me_in_n, me_in_c, decide_true, decide_false, me_rm_n, me_rm_c, me_lk_c, me_kdI, me_kdL, me_kdR, me_kdQ, me_ag_n, me_agI, me_agL, me_agR, me_agQ, me_w9n, me_w9I, me_w9L, me_w9R, me_w9Q, me_psN, me_psS, mn_0, mn_1, mn_00, mn_10, mn_01, mn_11, or_true, true_or, mn_c0, mn_c1, mn_l0, mn_l1, eq_self, List.contains_nil, List.contains_cons, List.elem_nil, List.elem_cons, List.contains_eq_mem, List.not_mem_nil, List.mem_cons, decide_false, decide_true, or_false, false_or, Bool.or_false, Bool.false_or, List.length_cons, List.length_nil, Nat.reduceAdd, Nat.reduceSub, Nat.reduceMul, Nat.reduceBEq, Nat.reduceEqDiff, Nat.reduceLT, Nat.reduceLeDiff, reduceCtorEq, if_true, if_false, ite_true, ite_false, true_and, and_true, Bool.and_true, Bool.true_and, Bool.and_false, Bool.false_and, Bool.not_true, Bool.not_false, Bool.or_true, Bool.true_or, cond_true, cond_false, not_false_eq_true, not_true_eq_false, true_implies, false_implies, implies_true, Nat.le_refl, Nat.add_zero, Nat.zero_add, Nat.zero_le, ↓mo_gi, cs_X4_readPart, ↓go_X4_readPart_0, ↓lo_X4_readPart_0, ↓go_X4_readPart_64, ↓lo_X4_readPart_64, ↓go_X4_readPart_69, ↓lo_X4_readPart_69, ↓go_X4_readPart_99, ↓lo_X4_readPart_99, ↓go_X4_readPart_100, ↓lo_X4_readPart_100, ↓go_X4_readPart_101, ↓lo_X4_readPart_101, ↓go_X4_readPart_131, ↓lo_X4_readPart_131, ↓go_X4_readPart_132, ↓lo_X4_readPart_132, ↓go_X4_readPart_133, ↓lo_X4_readPart_133, ↓go_X4_readPart_163, ↓lo_X4_readPart_163, ↓go_X4_readPart_164, ↓lo_X4_readPart_164, ↓go_X4_readPart_165, ↓lo_X4_readPart_165, ↓go_X4_readPart_170, ↓lo_X4_readPart_170, ↓go_X4_readPart_175, ↓lo_X4_readPart_175]
        exact hK.1 p S2 op2 v2 hr hf hR2, fun e v2 hr hf hp => by
        simp only [↓mo_vb, ↓mo_ve, ↓mo_gi, ↓mo_0, ↓mo_1, ↓mo_2, ↓mo_3i, ↓mo_3l, ↓mo_3r, ↓mo_3q, ↓mo_4_0, ↓mo_4_1, ↓mo_4_2, ↓mo_4_3, ↓mo_4_4, ↓mo_4_5, ↓mo_4_6, ↓mo_4_7, ↓mo_4_8, ↓mo_4_9, ↓mo_4_10, ↓mo_5_0, ↓mo_5_1, ↓mo_5_2, ↓mo_5_3, ↓mo_5_4, ↓mo_5_8, ↓mo_5_9, ↓mo_6_0, ↓mo_6_1, ↓mo_7, ↓mo_8, ↓mo_9, ↓mo_10i, ↓mo_10r, ↓mo_10q, ↓mo_11ir, ↓mo_12i, ↓mo_13, ↓mo_13m, ↓mo_14_0, ↓mo_15_0, ↓mo_14_1, ↓mo_15_1, ↓mo_14_2, ↓mo_15_2, ↓mo_14_3, ↓mo_15_3, ↓mo_14_4, ↓mo_15_4, ↓mo_14_5, ↓mo_15_5, ↓mo_16, ↓mo_17, ↓mo_18, ↓mo_19, ↓mo_20i, ↓mo_20z, ↓mo_20l, ↓mo_21, ↓mo_22, ↓mo_23, ↓mo_24, ↓mo_25, ↓mo_27, ↓mo_26, ↓mo_28, ↓mo_31, ↓mo_32, ↓mo_33, ↓mo_34, ↓mo_35, ↓mo_36, ↓mo_37, ↓mo_39, ↓mo_40, ↓mo_30_0, ↓mo_41_0, ↓mo_29_0, ↓mo_30_1, ↓mo_41_1, ↓mo_29_1, ↓mo_30_2, ↓mo_41_2, ↓mo_29_2, ↓mo_30_3, ↓mo_41_3, ↓mo_29_3, ↓mo_30_4, ↓mo_41_4, ↓mo_29_4, ↓mo_30_5, ↓mo_41_5, ↓mo_29_5, ↓me_tb, ↓me_lu, me_t2i, me_t2l, me_t2r, me_t2q, me_t13i, me_t19a, me_t19b, me_t19c, me_t19d, me_tae, me_t28e, me_t36e, ↓me_kn_d, ↓me_ky_d, me_ca_e, me_sv_d, me_in_n, me_in_c, decide_true, decide_false, me_rm_n, me_rm_c, me_lk_c, me_kdI, me_kdL, me_kdR, me_kdQ, me_ag_n, me_agI, me_agL, me_agR, me_agQ, me_w9n, me_w9I, me_w9L, me_w9R, me_w9Q, me_psN, me_psS, mn_0, mn_1, mn_00, mn_10, mn_01, mn_11, or_true, true_or, mn_c0, mn_c1, mn_l0, mn_l1, eq_self, List.contains_nil, List.contains_cons, List.elem_nil, List.elem_cons, List.contains_eq_mem, List.not_mem_nil, List.mem_cons, decide_false, decide_true, or_false, false_or, Bool.or_false, Bool.false_or, List.length_cons, List.length_nil, Nat.reduceAdd, Nat.reduceSub, Nat.reduceMul, Nat.reduceBEq, Nat.reduceEqDiff, Nat.reduceLT, Nat.reduceLeDiff, reduceCtorEq, if_true, if_false, ite_true, ite_false, true_and, and_true, Bool.and_true, Bool.true_and, Bool.and_false, Bool.false_and, Bool.not_true, Bool.not_false, Bool.or_true, Bool.true_or, cond_true, cond_false, not_false_eq_true, not_true_eq_false, true_implies, false_implies, implies_true, Nat.le_refl, Nat.add_zero, Nat.zero_add, Nat.zero_le, ↓mo_gi, cs_X4_readPart, ↓go_X4_readPart_0, ↓lo_X4_readPart_0, ↓go_X4_readPart_64, ↓lo_X4_readPart_64, ↓go_X4_readPart_69, ↓lo_X4_readPart_69, ↓go_X4_readPart_99, ↓lo_X4_readPart_99, ↓go_X4_readPart_100, ↓lo_X4_readPart_100, ↓go_X4_readPart_101, ↓lo_X4_readPart_101, ↓go_X4_readPart_131, ↓lo_X4_readPart_131, ↓go_X4_readPart_132, ↓lo_X4_readPart_132, ↓go_X4_readPart_133, ↓lo_X4_readPart_133, ↓go_X4_readPart_163, ↓lo_X4_readPart_163, ↓go_X4_readPart_164, ↓lo_X4_readPart_164, ↓go_X4_readPart_165, ↓lo_X4_readPart_165, ↓go_X4_readPart_170, ↓lo_X4_readPart_170, ↓go_X4_readPart_175, ↓lo_X4_readPart_175]
        exact hK.2 e v2 hr hf hp⟩⟩⟩
      unfold rd_pass at hK
      rw [if_pos h0] at hK
      exact hK.2 pos v rfl (tf_rf v) r1,
    fun n5 => ⟨fun h => by
      unfold rd_part at hK
      rw [if_neg (by omega), if_pos h] at hK
      refine ⟨fun h0 => ?_, fun h0 => ⟨n, pos, op, t, S, by rw [← mn_1, pk_sub (by omega)], hT, hR, hok, hn, h0, ⟨fun p S2 op2 v2 hr hf hR2 => by
        simp only [↓mo_vb, ↓mo_ve, ↓mo_gi, ↓mo_0, ↓mo_1, ↓mo_2, ↓mo_3i, ↓mo_3l, ↓mo_3r, ↓mo_3q, ↓mo_4_0, ↓mo_4_1, ↓mo_4_2, ↓mo_4_3, ↓mo_4_4, ↓mo_4_5, ↓mo_4_6, ↓mo_4_7, ↓mo_4_8, ↓mo_4_9, ↓mo_4_10, ↓mo_5_0, ↓mo_5_1, ↓mo_5_2, ↓mo_5_3, ↓mo_5_4, ↓mo_5_8, ↓mo_5_9, ↓mo_6_0, ↓mo_6_1, ↓mo_7, ↓mo_8, ↓mo_9, ↓mo_10i, ↓mo_10r, ↓mo_10q, ↓mo_11ir, ↓mo_12i, ↓mo_13, ↓mo_13m, ↓mo_14_0, ↓mo_15_0, ↓mo_14_1, ↓mo_15_1, ↓mo_14_2, ↓mo_15_2, ↓mo_14_3, ↓mo_15_3, ↓mo_14_4, ↓mo_15_4, ↓mo_14_5, ↓mo_15_5, ↓mo_16, ↓mo_17, ↓mo_18, ↓mo_19, ↓mo_20i, ↓mo_20z, ↓mo_20l, ↓mo_21, ↓mo_22, ↓mo_23, ↓mo_24, ↓mo_25, ↓mo_27, ↓mo_26, ↓mo_28, ↓mo_31, ↓mo_32, ↓mo_33, ↓mo_34, ↓mo_35, ↓mo_36, ↓mo_37, ↓mo_39, ↓mo_40, ↓mo_30_0, ↓mo_41_0, ↓mo_29_0, ↓mo_30_1, ↓mo_41_1, ↓mo_29_1, ↓mo_30_2, ↓mo_41_2, ↓mo_29_2, ↓mo_30_3, ↓mo_41_3, ↓mo_29_3, ↓mo_30_4, ↓mo_41_4, ↓mo_29_4, ↓mo_30_5, ↓mo_41_5, ↓mo_29_5, ↓me_tb, ↓me_lu, me_t2i, me_t2l, me_t2r, me_t2q, me_t13i, me_t19a, me_t19b, me_t19c, me_t19d, me_tae, me_t28e, me_t36e, ↓me_kn_d, ↓me_ky_d, me_ca_e, me_sv_d, me_in_n, me_in_c, decide_true, decide_false, me_rm_n, me_rm_c, me_lk_c, me_kdI, me_kdL, me_kdR, me_kdQ, me_ag_n, me_agI, me_agL, me_agR, me_agQ, me_w9n, me_w9I, me_w9L, me_w9R, me_w9Q, me_psN, me_psS, mn_0, mn_1, mn_00, mn_10, mn_01, mn_11, or_true, true_or, mn_c0, mn_c1, mn_l0, mn_l1, eq_self, List.contains_nil, List.contains_cons, List.elem_nil, List.elem_cons, List.contains_eq_mem, List.not_mem_nil, List.mem_cons, decide_false, decide_true, or_false, false_or, Bool.or_false, Bool.false_or, List.length_cons, List.length_nil, Nat.reduceAdd, Nat.reduceSub, Nat.reduceMul, Nat.reduceBEq, Nat.reduceEqDiff, Nat.reduceLT, Nat.reduceLeDiff, reduceCtorEq, if_true, if_false, ite_true, ite_false, true_and, and_true, Bool.and_true, Bool.true_and, Bool.and_false, Bool.false_and, Bool.not_true, Bool.not_false, Bool.or_true, Bool.true_or, cond_true, cond_false, not_false_eq_true, not_true_eq_false, true_implies, false_implies, implies_true, Nat.le_refl, Nat.add_zero, Nat.zero_add, Nat.zero_le, ↓mo_gi, cs_X4_readPart, ↓go_X4_readPart_0, ↓lo_X4_readPart_0, ↓go_X4_readPart_64, ↓lo_X4_readPart_64, ↓go_X4_readPart_69, ↓lo_X4_readPart_69, ↓go_X4_readPart_99, ↓lo_X4_readPart_99, ↓go_X4_readPart_100, ↓lo_X4_readPart_100, ↓go_X4_readPart_101, ↓lo_X4_readPart_101, ↓go_X4_readPart_131, ↓lo_X4_readPart_131, ↓go_X4_readPart_132, ↓lo_X4_readPart_132, ↓go_X4_readPart_133, ↓lo_X4_readPart_133, ↓go_X4_readPart_163, ↓lo_X4_readPart_163, ↓go_X4_readPart_164, ↓lo_X4_readPart_164, ↓go_X4_readPart_165, ↓lo_X4_readPart_165, ↓go_X4_readPart_170, ↓lo_X4_readPart_170, ↓go_X4_readPart_175, ↓lo_X4_readPart_175]
        exact hK.1 p S2 op2 v2 hr hf hR2, fun e v2 hr hf hp => by
        simp only [↓mo_vb, ↓mo_ve, ↓mo_gi, ↓mo_0, ↓mo_1, ↓mo_2, ↓mo_3i, ↓mo_3l, ↓mo_3r, ↓mo_3q, ↓mo_4_0, ↓mo_4_1, ↓mo_4_2, ↓mo_4_3, ↓mo_4_4, ↓mo_4_5, ↓mo_4_6, ↓mo_4_7, ↓mo_4_8, ↓mo_4_9, ↓mo_4_10, ↓mo_5_0, ↓mo_5_1, ↓mo_5_2, ↓mo_5_3, ↓mo_5_4, ↓mo_5_8, ↓mo_5_9, ↓mo_6_0, ↓mo_6_1, ↓mo_7, ↓mo_8, ↓mo_9, ↓mo_10i, ↓mo_10r, ↓mo_10q, ↓mo_11ir, ↓mo_12i, ↓mo_13, ↓mo_13m, ↓mo_14_0, ↓mo_15_0, ↓mo_14_1, ↓mo_15_1, ↓mo_14_2, ↓mo_15_2, ↓mo_14_3, ↓mo_15_3, ↓mo_14_4, ↓mo_15_4, ↓mo_14_5, ↓mo_15_5, ↓mo_16, ↓mo_17, ↓mo_18, ↓mo_19, ↓mo_20i, ↓mo_20z, ↓mo_20l, ↓mo_21, ↓mo_22, ↓mo_23, ↓mo_24, ↓mo_25, ↓mo_27, ↓mo_26, ↓mo_28, ↓mo_31, ↓mo_32, ↓mo_33, ↓mo_34, ↓mo_35, ↓mo_36, ↓mo_37, ↓mo_39, ↓mo_40, ↓mo_30_0, ↓mo_41_0, ↓mo_29_0, ↓mo_30_1, ↓mo_41_1, ↓mo_29_1, ↓mo_30_2, ↓mo_41_2, ↓mo_29_2, ↓mo_30_3, ↓mo_41_3, ↓mo_29_3, ↓mo_30_4, ↓mo_41_4, ↓mo_29_4, ↓mo_30_5, ↓mo_41_5, ↓mo_29_5, ↓me_tb, ↓me_lu, me_t2i, me_t2l, me_t2r, me_t2q, me_t13i, me_t19a, me_t19b, me_t19c, me_t19d, me_tae, me_t28e, me_t36e, ↓me_kn_d, ↓me_ky_d, me_ca_e, me_sv_d, me_in_n, me_in_c, decide_true, decide_false, me_rm_n, me_rm_c, me_lk_c, me_kdI, me_kdL, me_kdR, me_kdQ, me_ag_n, me_agI, me_agL, me_agR, me_agQ, me_w9n, me_w9I, me_w9L, me_w9R, me_w9Q, me_psN, me_psS, mn_0, mn_1, mn_00, mn_10, mn_01, mn_11, or_true, true_or, mn_c0, mn_c1, mn_l0, mn_l1, eq_self, List.contains_nil, List.contains_cons, List.elem_nil, List.elem_cons, List.contains_eq_mem, List.not_mem_nil, List.mem_cons, decide_false, decide_true, or_false, false_or, Bool.or_false, Bool.false_or, List.length_cons, List.length_nil, Nat.reduceAdd, Nat.reduceSub, Nat.reduceMul, Nat.reduceBEq, Nat.reduceEqDiff, Nat.reduceLT, Nat.reduceLeDiff, reduceCtorEq, if_true, if_false, ite_true, ite_false, true_and, and_true, Bool.and_true, Bool.true_and, Bool.and_false, Bool.false_and, Bool.not_true, Bool.not_false, Bool.or_true, Bool.true_or, cond_true, cond_false, not_false_eq_true, not_true_eq_false, true_implies, false_implies, implies_true, Nat.le_refl, Nat.add_zero, Nat.zero_add, Nat.zero_le, ↓mo_gi, cs_X4_readPart, ↓go_X4_readPart_0, ↓lo_X4_readPart_0, ↓go_X4_readPart_64, ↓lo_X4_readPart_64, ↓go_X4_readPart_69, ↓lo_X4_readPart_69, ↓go_X4_readPart_99, ↓lo_X4_readPart_99, ↓go_X4_readPart_100, ↓lo_X4_readPart_100, ↓go_X4_readPart_101, ↓lo_X4_readPart_101, ↓go_X4_readPart_131, ↓lo_X4_readPart_131, ↓go_X4_readPart_132, ↓lo_X4_readPart_132, ↓go_X4_readPart_133, ↓lo_X4_readPart_133, ↓go_X4_readPart_163, ↓lo_X4_readPart_163, ↓go_X4_readPart_164, ↓lo_X4_readPart_164, ↓go_X4_readPart_165, ↓lo_X4_readPart_165, ↓go_X4_readPart_170, ↓lo_X4_readPart_170, ↓go_X4_readPart_175, ↓lo_X4_readPart_175]
        exact hK.2 e v2 hr hf hp⟩⟩⟩
      unfold rd_tempo at hK
      rw [if_pos h0] at hK
      exact hK.2 pos v rfl (tf_rf v) r1,
    fun n6 => by
      unfold rd_part at hK
      rw [if_neg n3, if_neg n6, if_neg n4, if_neg n5, if_neg n1, if_neg n2] at hK
      exact hK.2 pos v rfl (tf_rf v) r1⟩⟩⟩⟩⟩⟩
theorem ct_X4_readPart {l : Launch} (hfl : l.stackTraces = false) : me_M l yX4_readPart (.code yX4_readPart cX4_readPart 1 (some .boolean)) 4 127 0 sp_readPart := me_meth (us := 0) (bl := cd_X4_readPart) (cs := cs_X4_readPart) (hd := []) hfl (by decide +kernel) rfl (by decide) ⟨by decide, by decide⟩ (by decide) ck_X4_readPart (by
    intro a ha
    simp only [List.mem_cons, List.not_mem_nil, or_false] at ha
    rcases ha with rfl | rfl | rfl | rfl | rfl | rfl | rfl
    · exact cl_X4_sign (ct_X4_sign hfl) (by decide) (by decide)
    · exact cl_X4_readBar (ct_X4_readBar hfl) (by decide) (by decide)
    · exact cl_X4_readTempo (ct_X4_readTempo hfl) (by decide) (by decide)
    · exact cl_X4_readStretch (ct_X4_readStretch hfl) (by decide) (by decide)
    · exact cl_X4_readPass (ct_X4_readPass hfl) (by decide) (by decide)
    · exact cl_X4_readOpening (ct_X4_readOpening hfl) (by decide) (by decide)
    · exact cl_X4_readClosing (ct_X4_readClosing hfl) (by decide) (by decide)) (by decide) mv_sx vc_X4_readPart
def sp_read : me_P := fun as v w K _ => ∃ (n : Nat) (t : Nat → Nat), as = [vR 1] ∧ tx_at v n t ∧ (∀ v2 S, tf v v2 → rd_all n t = .inl S → sc_wf S → sc_at v2 3 S → K (some (vI (-(nI 9)))) v2 w) ∧ ∀ v2 e, tf v v2 → rd_all n t = .inr e → e ≤ 200 → K (some (vI (nI e))) v2 w
theorem go_X4_read_0 {cs : Nat → Nat × me_P} {KR : me_K} {kx : (Nat → Nat → me_L → List me_S → me_V → me_U → Prop) → Nat → Nat → me_L → Nat → me_V → me_U → Prop} {km : Nat} {sx : me_Sc} {hd : List Nat} {Inv : Nat → Nat → me_L → List me_S → me_V → me_U → Prop} {n k : Nat} {L : me_L} {st : List me_S} {v : me_V} {w : me_U} (hn : (n == 0) = false) (h : hd.contains 0 = false) : me_go cs KR kx km sx cd_X4_read hd Inv n 0 k L st v w = me_vb cs (me_go cs KR kx km sx cd_X4_read hd Inv (n - 1)) KR (kx (me_go cs KR kx km sx cd_X4_read hd Inv (n - 1))) km sx [(2, 0, 2, [], 1, 0, 0), (19, 4, 5, [], 3, 0, 150), (29, 32, 0, [3, 319, 320], 3, 0, 318), (2, 0, 2, [], 1, 0, 0), (0, 0, 0, [], 1, 0, 0), (20, 4, 2, [], 3, 0, 146), (2, 0, 2, [], 1, 0, 0), (0, 0, 0, [], 1, 0, 0), (20, 4, 1, [], 3, 0, 145), (2, 0, 2, [], 1, 0, 0), (29, 59, 0, [4, 327, 0], 3, 0, 325), (0, 67, 0, [], 2, 0, 0), (15, 31, 0, [], 3, 0, 0), (2, 0, 2, [], 1, 0, 0), (19, 4, 1, [], 3, 0, 145), (32, 0, 0, [], 1, 0, 0)] 0 k L st v w := by
  rcases n with _ | n
  · cases hn
  · rw [mo_gb h]
    rfl
theorem lo_X4_read_0 {cs : Nat → Nat × me_P} {J : Nat → Nat → me_L → List me_S → me_V → me_U → Prop} {KR : me_K} {KX : Nat → Nat → me_L → Nat → me_V → me_U → Prop} {km : Nat} {sx : me_Sc} {k : Nat} {L : me_L} {st : List me_S} {v : me_V} {w : me_U} : me_vb cs J KR KX km sx (me_bk cd_X4_read 0) 0 k L st v w = me_vb cs J KR KX km sx [(2, 0, 2, [], 1, 0, 0), (19, 4, 5, [], 3, 0, 150), (29, 32, 0, [3, 319, 320], 3, 0, 318), (2, 0, 2, [], 1, 0, 0), (0, 0, 0, [], 1, 0, 0), (20, 4, 2, [], 3, 0, 146), (2, 0, 2, [], 1, 0, 0), (0, 0, 0, [], 1, 0, 0), (20, 4, 1, [], 3, 0, 145), (2, 0, 2, [], 1, 0, 0), (29, 59, 0, [4, 327, 0], 3, 0, 325), (0, 67, 0, [], 2, 0, 0), (15, 31, 0, [], 3, 0, 0), (2, 0, 2, [], 1, 0, 0), (19, 4, 1, [], 3, 0, 145), (32, 0, 0, [], 1, 0, 0)] 0 k L st v w := rfl
theorem go_X4_read_31 {cs : Nat → Nat × me_P} {KR : me_K} {kx : (Nat → Nat → me_L → List me_S → me_V → me_U → Prop) → Nat → Nat → me_L → Nat → me_V → me_U → Prop} {km : Nat} {sx : me_Sc} {hd : List Nat} {Inv : Nat → Nat → me_L → List me_S → me_V → me_U → Prop} {n k : Nat} {L : me_L} {st : List me_S} {v : me_V} {w : me_U} (hn : (n == 0) = false) (h : hd.contains 31 = false) : me_go cs KR kx km sx cd_X4_read hd Inv n 31 k L st v w = me_vb cs (me_go cs KR kx km sx cd_X4_read hd Inv (n - 1)) KR (kx (me_go cs KR kx km sx cd_X4_read hd Inv (n - 1))) km sx [(2, 0, 2, [], 1, 0, 0), (10, 0, 0, [], 1, 0, 0), (19, 4, 1, [], 3, 0, 145), (0, 1, 0, [], 1, 0, 0), (4, 0, 0, [], 1, 0, 0), (20, 4, 1, [], 3, 0, 145), (0, 0, 0, [], 1, 0, 0), (3, 1, 0, [], 1, 0, 0)] 31 k L st v w := by
  rcases n with _ | n
  · cases hn
  · rw [mo_gb h]
    rfl
theorem lo_X4_read_31 {cs : Nat → Nat × me_P} {J : Nat → Nat → me_L → List me_S → me_V → me_U → Prop} {KR : me_K} {KX : Nat → Nat → me_L → Nat → me_V → me_U → Prop} {km : Nat} {sx : me_Sc} {k : Nat} {L : me_L} {st : List me_S} {v : me_V} {w : me_U} : me_vb cs J KR KX km sx (me_bk cd_X4_read 31) 31 k L st v w = me_vb cs J KR KX km sx [(2, 0, 2, [], 1, 0, 0), (10, 0, 0, [], 1, 0, 0), (19, 4, 1, [], 3, 0, 145), (0, 1, 0, [], 1, 0, 0), (4, 0, 0, [], 1, 0, 0), (20, 4, 1, [], 3, 0, 145), (0, 0, 0, [], 1, 0, 0), (3, 1, 0, [], 1, 0, 0)] 31 k L st v w := rfl
theorem go_X4_read_43 {cs : Nat → Nat × me_P} {KR : me_K} {kx : (Nat → Nat → me_L → List me_S → me_V → me_U → Prop) → Nat → Nat → me_L → Nat → me_V → me_U → Prop} {km : Nat} {sx : me_Sc} {hd : List Nat} {Inv : Nat → Nat → me_L → List me_S → me_V → me_U → Prop} {n k : Nat} {L : me_L} {st : List me_S} {v : me_V} {w : me_U} (hn : (n == 0) = false) (h : hd.contains 43 = false) : me_go cs KR kx km sx cd_X4_read hd Inv n 43 k L st v w = me_vb cs (me_go cs KR kx km sx cd_X4_read hd Inv (n - 1)) KR (kx (me_go cs KR kx km sx cd_X4_read hd Inv (n - 1))) km sx [(2, 1, 0, [], 1, 0, 0), (0, 160, 0, [], 3, 0, 0), (15, 79, 3, [], 3, 0, 0), (2, 0, 2, [], 1, 0, 0), (19, 4, 1, [], 3, 0, 145), (2, 0, 2, [], 1, 0, 0), (19, 4, 4, [], 3, 0, 148), (15, 79, 3, [], 3, 0, 0), (2, 0, 2, [], 1, 0, 0), (29, 60, 0, [4, 331, 1], 3, 0, 329), (14, 73, 1, [], 3, 0, 0), (2, 0, 2, [], 1, 0, 0), (19, 4, 1, [], 3, 0, 145), (32, 0, 0, [], 1, 0, 0)] 43 k L st v w := by
  rcases n with _ | n
  · cases hn
  · rw [mo_gb h]
    rfl
theorem lo_X4_read_43 {cs : Nat → Nat × me_P} {J : Nat → Nat → me_L → List me_S → me_V → me_U → Prop} {KR : me_K} {KX : Nat → Nat → me_L → Nat → me_V → me_U → Prop} {km : Nat} {sx : me_Sc} {k : Nat} {L : me_L} {st : List me_S} {v : me_V} {w : me_U} : me_vb cs J KR KX km sx (me_bk cd_X4_read 43) 43 k L st v w = me_vb cs J KR KX km sx [(2, 1, 0, [], 1, 0, 0), (0, 160, 0, [], 3, 0, 0), (15, 79, 3, [], 3, 0, 0), (2, 0, 2, [], 1, 0, 0), (19, 4, 1, [], 3, 0, 145), (2, 0, 2, [], 1, 0, 0), (19, 4, 4, [], 3, 0, 148), (15, 79, 3, [], 3, 0, 0), (2, 0, 2, [], 1, 0, 0), (29, 60, 0, [4, 331, 1], 3, 0, 329), (14, 73, 1, [], 3, 0, 0), (2, 0, 2, [], 1, 0, 0), (19, 4, 1, [], 3, 0, 145), (32, 0, 0, [], 1, 0, 0)] 43 k L st v w := rfl
theorem go_X4_read_73 {cs : Nat → Nat × me_P} {KR : me_K} {kx : (Nat → Nat → me_L → List me_S → me_V → me_U → Prop) → Nat → Nat → me_L → Nat → me_V → me_U → Prop} {km : Nat} {sx : me_Sc} {hd : List Nat} {Inv : Nat → Nat → me_L → List me_S → me_V → me_U → Prop} {n k : Nat} {L : me_L} {st : List me_S} {v : me_V} {w : me_U} (hn : (n == 0) = false) (h : hd.contains 73 = false) : me_go cs KR kx km sx cd_X4_read hd Inv n 73 k L st v w = me_vb cs (me_go cs KR kx km sx cd_X4_read hd Inv (n - 1)) KR (kx (me_go cs KR kx km sx cd_X4_read hd Inv (n - 1))) km sx [(13, 1, 1, [], 3, 0, 0), (16, 43, 0, [], 3, 0, 0)] 73 k L st v w := by
  rcases n with _ | n
  · cases hn
  · rw [mo_gb h]
    rfl
theorem lo_X4_read_73 {cs : Nat → Nat × me_P} {J : Nat → Nat → me_L → List me_S → me_V → me_U → Prop} {KR : me_K} {KX : Nat → Nat → me_L → Nat → me_V → me_U → Prop} {km : Nat} {sx : me_Sc} {k : Nat} {L : me_L} {st : List me_S} {v : me_V} {w : me_U} : me_vb cs J KR KX km sx (me_bk cd_X4_read 73) 73 k L st v w = me_vb cs J KR KX km sx [(13, 1, 1, [], 3, 0, 0), (16, 43, 0, [], 3, 0, 0)] 73 k L st v w := rfl
theorem go_X4_read_79 {cs : Nat → Nat × me_P} {KR : me_K} {kx : (Nat → Nat → me_L → List me_S → me_V → me_U → Prop) → Nat → Nat → me_L → Nat → me_V → me_U → Prop} {km : Nat} {sx : me_Sc} {hd : List Nat} {Inv : Nat → Nat → me_L → List me_S → me_V → me_U → Prop} {n k : Nat} {L : me_L} {st : List me_S} {v : me_V} {w : me_U} (hn : (n == 0) = false) (h : hd.contains 79 = false) : me_go cs KR kx km sx cd_X4_read hd Inv n 79 k L st v w = me_vb cs (me_go cs KR kx km sx cd_X4_read hd Inv (n - 1)) KR (kx (me_go cs KR kx km sx cd_X4_read hd Inv (n - 1))) km sx [(2, 0, 2, [], 1, 0, 0), (19, 4, 2, [], 3, 0, 146), (14, 93, 0, [], 3, 0, 0), (2, 0, 2, [], 1, 0, 0), (19, 4, 1, [], 3, 0, 145), (16, 95, 0, [], 3, 0, 0)] 79 k L st v w := by
  rcases n with _ | n
  · cases hn
  · rw [mo_gb h]
    rfl
theorem lo_X4_read_79 {cs : Nat → Nat × me_P} {J : Nat → Nat → me_L → List me_S → me_V → me_U → Prop} {KR : me_K} {KX : Nat → Nat → me_L → Nat → me_V → me_U → Prop} {km : Nat} {sx : me_Sc} {k : Nat} {L : me_L} {st : List me_S} {v : me_V} {w : me_U} : me_vb cs J KR KX km sx (me_bk cd_X4_read 79) 79 k L st v w = me_vb cs J KR KX km sx [(2, 0, 2, [], 1, 0, 0), (19, 4, 2, [], 3, 0, 146), (14, 93, 0, [], 3, 0, 0), (2, 0, 2, [], 1, 0, 0), (19, 4, 1, [], 3, 0, 145), (16, 95, 0, [], 3, 0, 0)] 79 k L st v w := rfl
theorem go_X4_read_93 {cs : Nat → Nat × me_P} {KR : me_K} {kx : (Nat → Nat → me_L → List me_S → me_V → me_U → Prop) → Nat → Nat → me_L → Nat → me_V → me_U → Prop} {km : Nat} {sx : me_Sc} {hd : List Nat} {Inv : Nat → Nat → me_L → List me_S → me_V → me_U → Prop} {n k : Nat} {L : me_L} {st : List me_S} {v : me_V} {w : me_U} (hn : (n == 0) = false) (h : hd.contains 93 = false) : me_go cs KR kx km sx cd_X4_read hd Inv n 93 k L st v w = me_vb cs (me_go cs KR kx km sx cd_X4_read hd Inv (n - 1)) KR (kx (me_go cs KR kx km sx cd_X4_read hd Inv (n - 1))) km sx [(0, 9, 1, [], 2, 0, 0)] 93 k L st v w := by
  rcases n with _ | n
  · cases hn
  · rw [mo_gb h]
    rfl
theorem lo_X4_read_93 {cs : Nat → Nat × me_P} {J : Nat → Nat → me_L → List me_S → me_V → me_U → Prop} {KR : me_K} {KX : Nat → Nat → me_L → Nat → me_V → me_U → Prop} {km : Nat} {sx : me_Sc} {k : Nat} {L : me_L} {st : List me_S} {v : me_V} {w : me_U} : me_vb cs J KR KX km sx (me_bk cd_X4_read 93) 93 k L st v w = me_vb cs J KR KX km sx [(0, 9, 1, [], 2, 0, 0)] 93 k L st v w := rfl
theorem go_X4_read_95 {cs : Nat → Nat × me_P} {KR : me_K} {kx : (Nat → Nat → me_L → List me_S → me_V → me_U → Prop) → Nat → Nat → me_L → Nat → me_V → me_U → Prop} {km : Nat} {sx : me_Sc} {hd : List Nat} {Inv : Nat → Nat → me_L → List me_S → me_V → me_U → Prop} {n k : Nat} {L : me_L} {st : List me_S} {v : me_V} {w : me_U} (hn : (n == 0) = false) (h : hd.contains 95 = false) : me_go cs KR kx km sx cd_X4_read hd Inv n 95 k L st v w = me_vb cs (me_go cs KR kx km sx cd_X4_read hd Inv (n - 1)) KR (kx (me_go cs KR kx km sx cd_X4_read hd Inv (n - 1))) km sx [(32, 0, 0, [], 1, 0, 0)] 95 k L st v w := by
  rcases n with _ | n
  · cases hn
  · rw [mo_gb h]
    rfl
theorem lo_X4_read_95 {cs : Nat → Nat × me_P} {J : Nat → Nat → me_L → List me_S → me_V → me_U → Prop} {KR : me_K} {KX : Nat → Nat → me_L → Nat → me_V → me_U → Prop} {km : Nat} {sx : me_Sc} {k : Nat} {L : me_L} {st : List me_S} {v : me_V} {w : me_U} : me_vb cs J KR KX km sx (me_bk cd_X4_read 95) 95 k L st v w = me_vb cs J KR KX km sx [(32, 0, 0, [], 1, 0, 0)] 95 k L st v w := rfl
def cs_X4_read : Nat → Nat × me_P := fun a => match a with
  | 32 => (0, sp_empty)
  | 59 => (0, sp_sign)
  | 60 => (0, sp_readPart)
  | _ => (0, fun _ _ _ _ _ => False)
set_option maxHeartbeats 1000000 in
set_option maxRecDepth 100000 in
theorem vc_X4_read : mv_ok cs_X4_read cd_X4_read [43] 0 2 sp_read := by
  intro as v w K X h
  obtain ⟨n, t, rfl, hT, hK1, hK2⟩ := h
  obtain ⟨toc, g0, g1, g2, g3, g4, g5, gal⟩ := te_f
  obtain ⟨sto, k0, k1, k2, k3, k4, k5, m4, m5, m6, m7⟩ := ts_f
  have hn160 := hT.2.1
  refine ⟨Nat.le_of_ble_eq_true rfl, 20, fun μ pc k L st v2 w2 => pc = 43 ∧ k = 0 ∧ st = [] ∧ w2 = w ∧ ∃ (m pos op : Nat) (S : sc_T), L = [(0, vR 1), (1, vI (nI m))] ∧ m < pos ∧ tf v v2 ∧ rs_at v2 pos S op ∧ rs_ok n pos S op ∧ rd_go n t (160 - m) pos S op = rd_all n t ∧ μ = 200 - m, ?_, ?_⟩
  · simp only [↓mo_vb, ↓mo_ve, ↓mo_gi, ↓mo_0, ↓mo_1, ↓mo_2, ↓mo_3i, ↓mo_3l, ↓mo_3r, ↓mo_3q, ↓mo_4_0, ↓mo_4_1, ↓mo_4_2, ↓mo_4_3, ↓mo_4_4, ↓mo_4_5, ↓mo_4_6, ↓mo_4_7, ↓mo_4_8, ↓mo_4_9, ↓mo_4_10, ↓mo_5_0, ↓mo_5_1, ↓mo_5_2, ↓mo_5_3, ↓mo_5_4, ↓mo_5_8, ↓mo_5_9, ↓mo_6_0, ↓mo_6_1, ↓mo_7, ↓mo_8, ↓mo_9, ↓mo_10i, ↓mo_10r, ↓mo_10q, ↓mo_11ir, ↓mo_12i, ↓mo_13, ↓mo_13m, ↓mo_14_0, ↓mo_15_0, ↓mo_14_1, ↓mo_15_1, ↓mo_14_2, ↓mo_15_2, ↓mo_14_3, ↓mo_15_3, ↓mo_14_4, ↓mo_15_4, ↓mo_14_5, ↓mo_15_5, ↓mo_16, ↓mo_17, ↓mo_18, ↓mo_19, ↓mo_20i, ↓mo_20z, ↓mo_20l, ↓mo_21, ↓mo_22, ↓mo_23, ↓mo_24, ↓mo_25, ↓mo_27, ↓mo_26, ↓mo_28, ↓mo_31, ↓mo_32, ↓mo_33, ↓mo_34, ↓mo_35, ↓mo_36, ↓mo_37, ↓mo_39, ↓mo_40, ↓mo_30_0, ↓mo_41_0, ↓mo_29_0, ↓mo_30_1, ↓mo_41_1, ↓mo_29_1, ↓mo_30_2, ↓mo_41_2, ↓mo_29_2, ↓mo_30_3, ↓mo_41_3, ↓mo_29_3, ↓mo_30_4, ↓mo_41_4, ↓mo_29_4, ↓mo_30_5, ↓mo_41_5, ↓mo_29_5, ↓me_tb, ↓me_lu, me_t2i, me_t2l, me_t2r, me_t2q, me_t13i, me_t19a, me_t19b, me_t19c, me_t19d, me_tae, me_t28e, me_t36e, ↓me_kn_d, ↓me_ky_d, me_ca_e, me_sv_d, me_in_n, me_in_c, decide_true, decide_false, me_rm_n, me_rm_c, me_lk_c, me_kdI, me_kdL, me_kdR, me_kdQ, me_ag_n, me_agI, me_agL, me_agR, me_agQ, me_w9n, me_w9I, me_w9L, me_w9R, me_w9Q, me_psN, me_psS, mn_0, mn_1, mn_00, mn_10, mn_01, mn_11, or_true, true_or, mn_c0, mn_c1, mn_l0, mn_l1, eq_self, List.contains_nil, List.contains_cons, List.elem_nil, List.elem_cons, List.contains_eq_mem, List.not_mem_nil, List.mem_cons, decide_false, decide_true, or_false, false_or, Bool.or_false, Bool.false_or, List.length_cons, List.length_nil, Nat.reduceAdd, Nat.reduceSub, Nat.reduceMul, Nat.reduceBEq, Nat.reduceEqDiff, Nat.reduceLT, Nat.reduceLeDiff, reduceCtorEq, if_true, if_false, ite_true, ite_false, true_and, and_true, Bool.and_true, Bool.true_and, Bool.and_false, Bool.false_and, Bool.not_true, Bool.not_false, Bool.or_true, Bool.true_or, cond_true, cond_false, not_false_eq_true, not_true_eq_false, true_implies, false_implies, implies_true, Nat.le_refl, Nat.add_zero, Nat.zero_add, Nat.zero_le, ↓mo_gi, cs_X4_read, ↓go_X4_read_0, ↓lo_X4_read_0, ↓go_X4_read_31, ↓lo_X4_read_31, ↓go_X4_read_43, ↓lo_X4_read_43, ↓go_X4_read_73, ↓lo_X4_read_73, ↓go_X4_read_79, ↓lo_X4_read_79, ↓go_X4_read_93, ↓lo_X4_read_93, ↓go_X4_read_95, ↓lo_X4_read_95, toc, g0, g1, g2, g3, g4, g5, gal, k0, k1, k2, k3, k4, k5, m4, m5, m6, m7, sto]
    refine ⟨3, rfl, st_3, fun v2 hf h0 h1 h8 => ?_⟩
    simp only [↓mo_vb, ↓mo_ve, ↓mo_gi, ↓mo_0, ↓mo_1, ↓mo_2, ↓mo_3i, ↓mo_3l, ↓mo_3r, ↓mo_3q, ↓mo_4_0, ↓mo_4_1, ↓mo_4_2, ↓mo_4_3, ↓mo_4_4, ↓mo_4_5, ↓mo_4_6, ↓mo_4_7, ↓mo_4_8, ↓mo_4_9, ↓mo_4_10, ↓mo_5_0, ↓mo_5_1, ↓mo_5_2, ↓mo_5_3, ↓mo_5_4, ↓mo_5_8, ↓mo_5_9, ↓mo_6_0, ↓mo_6_1, ↓mo_7, ↓mo_8, ↓mo_9, ↓mo_10i, ↓mo_10r, ↓mo_10q, ↓mo_11ir, ↓mo_12i, ↓mo_13, ↓mo_13m, ↓mo_14_0, ↓mo_15_0, ↓mo_14_1, ↓mo_15_1, ↓mo_14_2, ↓mo_15_2, ↓mo_14_3, ↓mo_15_3, ↓mo_14_4, ↓mo_15_4, ↓mo_14_5, ↓mo_15_5, ↓mo_16, ↓mo_17, ↓mo_18, ↓mo_19, ↓mo_20i, ↓mo_20z, ↓mo_20l, ↓mo_21, ↓mo_22, ↓mo_23, ↓mo_24, ↓mo_25, ↓mo_27, ↓mo_26, ↓mo_28, ↓mo_31, ↓mo_32, ↓mo_33, ↓mo_34, ↓mo_35, ↓mo_36, ↓mo_37, ↓mo_39, ↓mo_40, ↓mo_30_0, ↓mo_41_0, ↓mo_29_0, ↓mo_30_1, ↓mo_41_1, ↓mo_29_1, ↓mo_30_2, ↓mo_41_2, ↓mo_29_2, ↓mo_30_3, ↓mo_41_3, ↓mo_29_3, ↓mo_30_4, ↓mo_41_4, ↓mo_29_4, ↓mo_30_5, ↓mo_41_5, ↓mo_29_5, ↓me_tb, ↓me_lu, me_t2i, me_t2l, me_t2r, me_t2q, me_t13i, me_t19a, me_t19b, me_t19c, me_t19d, me_tae, me_t28e, me_t36e, ↓me_kn_d, ↓me_ky_d, me_ca_e, me_sv_d, me_in_n, me_in_c, decide_true, decide_false, me_rm_n, me_rm_c, me_lk_c, me_kdI, me_kdL, me_kdR, me_kdQ, me_ag_n, me_agI, me_agL, me_agR, me_agQ, me_w9n, me_w9I, me_w9L, me_w9R, me_w9Q, me_psN, me_psS, mn_0, mn_1, mn_00, mn_10, mn_01, mn_11, or_true, true_or, mn_c0, mn_c1, mn_l0, mn_l1, eq_self, List.contains_nil, List.contains_cons, List.elem_nil, List.elem_cons, List.contains_eq_mem, List.not_mem_nil, List.mem_cons, decide_false, decide_true, or_false, false_or, Bool.or_false, Bool.false_or, List.length_cons, List.length_nil, Nat.reduceAdd, Nat.reduceSub, Nat.reduceMul, Nat.reduceBEq, Nat.reduceEqDiff, Nat.reduceLT, Nat.reduceLeDiff, reduceCtorEq, if_true, if_false, ite_true, ite_false, true_and, and_true, Bool.and_true, Bool.true_and, Bool.and_false, Bool.false_and, Bool.not_true, Bool.not_false, Bool.or_true, Bool.true_or, cond_true, cond_false, not_false_eq_true, not_true_eq_false, true_implies, false_implies, implies_true, Nat.le_refl, Nat.add_zero, Nat.zero_add, Nat.zero_le, ↓mo_gi, cs_X4_read, ↓go_X4_read_0, ↓lo_X4_read_0, ↓go_X4_read_31, ↓lo_X4_read_31, ↓go_X4_read_43, ↓lo_X4_read_43, ↓go_X4_read_73, ↓lo_X4_read_73, ↓go_X4_read_79, ↓lo_X4_read_79, ↓go_X4_read_93, ↓lo_X4_read_93, ↓go_X4_read_95, ↓lo_X4_read_95, toc, g0, g1, g2, g3, g4, g5, gal, k0, k1, k2, k3, k4, k5, m4, m5, m6, m7, sto]
    have hf2 : tf v (me_up (me_up v2 1 2 0) 1 1 0) := by
      refine ⟨fun c hc => ?_, ?_, ?_⟩
      · rw [me_up_n _ _ _ (by omega), me_up_n _ _ _ (by omega)]; exact hf c (by omega)
      · rw [me_up_n _ _ _ (by omega), me_up_n _ _ _ (by omega)]; exact hf 2 (by omega)
      · rw [me_up_s, pk_un (by omega), me_up_s, pk_un (by omega)]; rw [hf 1 (by omega)]
    have hT2 := tx_tf hT hf2
    have p0 : me_up (me_up v2 1 2 0) 1 1 0 1 1 = nI 0 := by rw [me_up_s, pk_us]; rfl
    have q0 : me_up (me_up v2 1 2 0) 1 1 0 1 2 = 0 := by rw [me_up_s, pk_un (by omega), me_up_s, pk_us]
    refine ⟨n, 0, t, rfl, hT2, p0, by omega, ?_⟩
    simp only [↓mo_vb, ↓mo_ve, ↓mo_gi, ↓mo_0, ↓mo_1, ↓mo_2, ↓mo_3i, ↓mo_3l, ↓mo_3r, ↓mo_3q, ↓mo_4_0, ↓mo_4_1, ↓mo_4_2, ↓mo_4_3, ↓mo_4_4, ↓mo_4_5, ↓mo_4_6, ↓mo_4_7, ↓mo_4_8, ↓mo_4_9, ↓mo_4_10, ↓mo_5_0, ↓mo_5_1, ↓mo_5_2, ↓mo_5_3, ↓mo_5_4, ↓mo_5_8, ↓mo_5_9, ↓mo_6_0, ↓mo_6_1, ↓mo_7, ↓mo_8, ↓mo_9, ↓mo_10i, ↓mo_10r, ↓mo_10q, ↓mo_11ir, ↓mo_12i, ↓mo_13, ↓mo_13m, ↓mo_14_0, ↓mo_15_0, ↓mo_14_1, ↓mo_15_1, ↓mo_14_2, ↓mo_15_2, ↓mo_14_3, ↓mo_15_3, ↓mo_14_4, ↓mo_15_4, ↓mo_14_5, ↓mo_15_5, ↓mo_16, ↓mo_17, ↓mo_18, ↓mo_19, ↓mo_20i, ↓mo_20z, ↓mo_20l, ↓mo_21, ↓mo_22, ↓mo_23, ↓mo_24, ↓mo_25, ↓mo_27, ↓mo_26, ↓mo_28, ↓mo_31, ↓mo_32, ↓mo_33, ↓mo_34, ↓mo_35, ↓mo_36, ↓mo_37, ↓mo_39, ↓mo_40, ↓mo_30_0, ↓mo_41_0, ↓mo_29_0, ↓mo_30_1, ↓mo_41_1, ↓mo_29_1, ↓mo_30_2, ↓mo_41_2, ↓mo_29_2, ↓mo_30_3, ↓mo_41_3, ↓mo_29_3, ↓mo_30_4, ↓mo_41_4, ↓mo_29_4, ↓mo_30_5, ↓mo_41_5, ↓mo_29_5, ↓me_tb, ↓me_lu, me_t2i, me_t2l, me_t2r, me_t2q, me_t13i, me_t19a, me_t19b, me_t19c, me_t19d, me_tae, me_t28e, me_t36e, ↓me_kn_d, ↓me_ky_d, me_ca_e, me_sv_d, me_in_n, me_in_c, decide_true, decide_false, me_rm_n, me_rm_c, me_lk_c, me_kdI, me_kdL, me_kdR, me_kdQ, me_ag_n, me_agI, me_agL, me_agR, me_agQ, me_w9n, me_w9I, me_w9L, me_w9R, me_w9Q, me_psN, me_psS, mn_0, mn_1, mn_00, mn_10, mn_01, mn_11, or_true, true_or, mn_c0, mn_c1, mn_l0, mn_l1, eq_self, List.contains_nil, List.contains_cons, List.elem_nil, List.elem_cons, List.contains_eq_mem, List.not_mem_nil, List.mem_cons, decide_false, decide_true, or_false, false_or, Bool.or_false, Bool.false_or, List.length_cons, List.length_nil, Nat.reduceAdd, Nat.reduceSub, Nat.reduceMul, Nat.reduceBEq, Nat.reduceEqDiff, Nat.reduceLT, Nat.reduceLeDiff, reduceCtorEq, if_true, if_false, ite_true, ite_false, true_and, and_true, Bool.and_true, Bool.true_and, Bool.and_false, Bool.false_and, Bool.not_true, Bool.not_false, Bool.or_true, Bool.true_or, cond_true, cond_false, not_false_eq_true, not_true_eq_false, true_implies, false_implies, implies_true, Nat.le_refl, Nat.add_zero, Nat.zero_add, Nat.zero_le, ↓mo_gi, cs_X4_read, ↓go_X4_read_0, ↓lo_X4_read_0, ↓go_X4_read_31, ↓lo_X4_read_31, ↓go_X4_read_43, ↓lo_X4_read_43, ↓go_X4_read_73, ↓lo_X4_read_73, ↓go_X4_read_79, ↓lo_X4_read_79, ↓go_X4_read_93, ↓lo_X4_read_93, ↓go_X4_read_95, ↓lo_X4_read_95, toc, g0, g1, g2, g3, g4, g5, gal, k0, k1, k2, k3, k4, k5, m4, m5, m6, m7, sto, p0]
    have hx : ((if 0 < n then nI (t 0) else -(nI 9)) = nI 67) = (0 < n ∧ t 0 = 67) := by
      by_cases hn : 0 < n
      · have := (hT.2.2 0 hn).2
        rw [if_pos hn, nI_eqs (by omega) (by omega)]
        simp [hn]
      · rw [if_neg hn]
        refine propext ⟨fun z => ?_, fun z => absurd z.1 hn⟩
        exact absurd z (by decide)
    simp only [hx]
    refine ⟨fun hc => ?_, fun hc => ?_⟩
    · refine ⟨200, 0, 1, 0, rd_S0, rfl, by omega, tf_tr hf2 (tf_pos _ _), ?_, rs_ok_0 n hc.1, ?_, rfl⟩
      · refine ⟨by rw [me_up_s, pk_us]; rfl, fun _ => by rw [me_up_s, pk_un (by omega)]; exact q0, fun z => absurd rfl z, ?_⟩
        refine sc_at_fr (v := v2) ⟨h0, h1, fun j hj => absurd hj (Nat.not_lt_zero j), fun s hs => absurd hs (Nat.not_lt_zero s), fun p hp => h8 p hp⟩ (fun c hc => ?_)
        rw [me_up_n _ _ _ (by omega), me_up_n _ _ _ (by omega), me_up_n _ _ _ (by omega)]
      · unfold rd_all
        rw [if_pos hc]
    · refine hK2 _ 0 hf2 ?_ (by omega)
      unfold rd_all
      rw [if_neg hc]
  · rintro μ pc k L st v2 w2 hpc ⟨rfl, rfl, rfl, rfl, m, pos, op, S, rfl, hm, hf, hR, hok, hgo, rfl⟩
    have hT2 := tx_tf hT hf
    have hpn := hok.2.1
    have r1 := hR.1
    have t4 := hT2.1
    rw [show 160 - m = (159 - m) + 1 by omega, rd_go_s] at hgo
    simp only [↓mo_vb, ↓mo_ve, ↓mo_gi, ↓mo_0, ↓mo_1, ↓mo_2, ↓mo_3i, ↓mo_3l, ↓mo_3r, ↓mo_3q, ↓mo_4_0, ↓mo_4_1, ↓mo_4_2, ↓mo_4_3, ↓mo_4_4, ↓mo_4_5, ↓mo_4_6, ↓mo_4_7, ↓mo_4_8, ↓mo_4_9, ↓mo_4_10, ↓mo_5_0, ↓mo_5_1, ↓mo_5_2, ↓mo_5_3, ↓mo_5_4, ↓mo_5_8, ↓mo_5_9, ↓mo_6_0, ↓mo_6_1, ↓mo_7, ↓mo_8, ↓mo_9, ↓mo_10i, ↓mo_10r, ↓mo_10q, ↓mo_11ir, ↓mo_12i, ↓mo_13, ↓mo_13m, ↓mo_14_0, ↓mo_15_0, ↓mo_14_1, ↓mo_15_1, ↓mo_14_2, ↓mo_15_2, ↓mo_14_3, ↓mo_15_3, ↓mo_14_4, ↓mo_15_4, ↓mo_14_5, ↓mo_15_5, ↓mo_16, ↓mo_17, ↓mo_18, ↓mo_19, ↓mo_20i, ↓mo_20z, ↓mo_20l, ↓mo_21, ↓mo_22, ↓mo_23, ↓mo_24, ↓mo_25, ↓mo_27, ↓mo_26, ↓mo_28, ↓mo_31, ↓mo_32, ↓mo_33, ↓mo_34, ↓mo_35, ↓mo_36, ↓mo_37, ↓mo_39, ↓mo_40, ↓mo_30_0, ↓mo_41_0, ↓mo_29_0, ↓mo_30_1, ↓mo_41_1, ↓mo_29_1, ↓mo_30_2, ↓mo_41_2, ↓mo_29_2, ↓mo_30_3, ↓mo_41_3, ↓mo_29_3, ↓mo_30_4, ↓mo_41_4, ↓mo_29_4, ↓mo_30_5, ↓mo_41_5, ↓mo_29_5, ↓me_tb, ↓me_lu, me_t2i, me_t2l, me_t2r, me_t2q, me_t13i, me_t19a, me_t19b, me_t19c, me_t19d, me_tae, me_t28e, me_t36e, ↓me_kn_d, ↓me_ky_d, me_ca_e, me_sv_d, me_in_n, me_in_c, decide_true, decide_false, me_rm_n, me_rm_c, me_lk_c, me_kdI, me_kdL, me_kdR, me_kdQ, me_ag_n, me_agI, me_agL, me_agR, me_agQ, me_w9n, me_w9I, me_w9L, me_w9R, me_w9Q, me_psN, me_psS, mn_0, mn_1, mn_00, mn_10, mn_01, mn_11, or_true, true_or, mn_c0, mn_c1, mn_l0, mn_l1, eq_self, List.contains_nil, List.contains_cons, List.elem_nil, List.elem_cons, List.contains_eq_mem, List.not_mem_nil, List.mem_cons, decide_false, decide_true, or_false, false_or, Bool.or_false, Bool.false_or, List.length_cons, List.length_nil, Nat.reduceAdd, Nat.reduceSub, Nat.reduceMul, Nat.reduceBEq, Nat.reduceEqDiff, Nat.reduceLT, Nat.reduceLeDiff, reduceCtorEq, if_true, if_false, ite_true, ite_false, true_and, and_true, Bool.and_true, Bool.true_and, Bool.and_false, Bool.false_and, Bool.not_true, Bool.not_false, Bool.or_true, Bool.true_or, cond_true, cond_false, not_false_eq_true, not_true_eq_false, true_implies, false_implies, implies_true, Nat.le_refl, Nat.add_zero, Nat.zero_add, Nat.zero_le, ↓mo_gi, cs_X4_read, ↓go_X4_read_0, ↓lo_X4_read_0, ↓go_X4_read_31, ↓lo_X4_read_31, ↓go_X4_read_43, ↓lo_X4_read_43, ↓go_X4_read_73, ↓lo_X4_read_73, ↓go_X4_read_79, ↓lo_X4_read_79, ↓go_X4_read_93, ↓lo_X4_read_93, ↓go_X4_read_95, ↓lo_X4_read_95, toc, g0, g1, g2, g3, g4, g5, gal, k0, k1, k2, k3, k4, k5, m4, m5, m6, m7, sto, r1, t4, nI_les (show 160 < 2 ^ 31 by omega) (show m < 2 ^ 31 by omega), nI_les (show n < 2 ^ 31 by omega) (show pos < 2 ^ 31 by omega)]
    have hexit : n ≤ pos → (v2 1 2 = 0 → K (some (vI (-(nI 9)))) v2 w2) ∧ (¬ v2 1 2 = 0 → K (some (vI (nI pos))) v2 w2) := by
      intro hge
      rw [if_neg (by omega)] at hgo
      by_cases ho : op = 0
      · rw [if_pos ho] at hgo
        exact ⟨fun _ => hK1 _ S hf hgo.symm hok.1 hR.2.2.2, fun z => absurd (hR.2.1 ho) z⟩
      · rw [if_neg ho] at hgo
        refine ⟨fun z => ?_, fun _ => hK2 _ _ hf hgo.symm (by omega)⟩
        rw [(hR.2.2.1 ho).1] at z
        exact absurd z (by decide)
    refine ⟨fun h => absurd h (by omega), fun _ => ⟨fun h => hexit h, fun h => ?_⟩⟩
    rw [if_pos (by omega)] at hgo
    refine ⟨n, pos, op, t, S, rfl, hT2, hR, hok, by omega, fun p S2 op2 v3 hr hf3 hR3 => ?_, fun e v3 hr hf3 hp3 => ?_⟩
    · simp only [↓mo_vb, ↓mo_ve, ↓mo_gi, ↓mo_0, ↓mo_1, ↓mo_2, ↓mo_3i, ↓mo_3l, ↓mo_3r, ↓mo_3q, ↓mo_4_0, ↓mo_4_1, ↓mo_4_2, ↓mo_4_3, ↓mo_4_4, ↓mo_4_5, ↓mo_4_6, ↓mo_4_7, ↓mo_4_8, ↓mo_4_9, ↓mo_4_10, ↓mo_5_0, ↓mo_5_1, ↓mo_5_2, ↓mo_5_3, ↓mo_5_4, ↓mo_5_8, ↓mo_5_9, ↓mo_6_0, ↓mo_6_1, ↓mo_7, ↓mo_8, ↓mo_9, ↓mo_10i, ↓mo_10r, ↓mo_10q, ↓mo_11ir, ↓mo_12i, ↓mo_13, ↓mo_13m, ↓mo_14_0, ↓mo_15_0, ↓mo_14_1, ↓mo_15_1, ↓mo_14_2, ↓mo_15_2, ↓mo_14_3, ↓mo_15_3, ↓mo_14_4, ↓mo_15_4, ↓mo_14_5, ↓mo_15_5, ↓mo_16, ↓mo_17, ↓mo_18, ↓mo_19, ↓mo_20i, ↓mo_20z, ↓mo_20l, ↓mo_21, ↓mo_22, ↓mo_23, ↓mo_24, ↓mo_25, ↓mo_27, ↓mo_26, ↓mo_28, ↓mo_31, ↓mo_32, ↓mo_33, ↓mo_34, ↓mo_35, ↓mo_36, ↓mo_37, ↓mo_39, ↓mo_40, ↓mo_30_0, ↓mo_41_0, ↓mo_29_0, ↓mo_30_1, ↓mo_41_1, ↓mo_29_1, ↓mo_30_2, ↓mo_41_2, ↓mo_29_2, ↓mo_30_3, ↓mo_41_3, ↓mo_29_3, ↓mo_30_4, ↓mo_41_4, ↓mo_29_4, ↓mo_30_5, ↓mo_41_5, ↓mo_29_5, ↓me_tb, ↓me_lu, me_t2i, me_t2l, me_t2r, me_t2q, me_t13i, me_t19a, me_t19b, me_t19c, me_t19d, me_tae, me_t28e, me_t36e, ↓me_kn_d, ↓me_ky_d, me_ca_e, me_sv_d, me_in_n, me_in_c, decide_true, decide_false, me_rm_n, me_rm_c, me_lk_c, me_kdI, me_kdL, me_kdR, me_kdQ, me_ag_n, me_agI, me_agL, me_agR, me_agQ, me_w9n, me_w9I, me_w9L, me_w9R, me_w9Q, me_psN, me_psS, mn_0, mn_1, mn_00, mn_10, mn_01, mn_11, or_true, true_or, mn_c0, mn_c1, mn_l0, mn_l1, eq_self, List.contains_nil, List.contains_cons, List.elem_nil, List.elem_cons, List.contains_eq_mem, List.not_mem_nil, List.mem_cons, decide_false, decide_true, or_false, false_or, Bool.or_false, Bool.false_or, List.length_cons, List.length_nil, Nat.reduceAdd, Nat.reduceSub, Nat.reduceMul, Nat.reduceBEq, Nat.reduceEqDiff, Nat.reduceLT, Nat.reduceLeDiff, reduceCtorEq, if_true, if_false, ite_true, ite_false, true_and, and_true, Bool.and_true, Bool.true_and, Bool.and_false, Bool.false_and, Bool.not_true, Bool.not_false, Bool.or_true, Bool.true_or, cond_true, cond_false, not_false_eq_true, not_true_eq_false, true_implies, false_implies, implies_true, Nat.le_refl, Nat.add_zero, Nat.zero_add, Nat.zero_le, ↓mo_gi, cs_X4_read, ↓go_X4_read_0, ↓lo_X4_read_0, ↓go_X4_read_31, ↓lo_X4_read_31, ↓go_X4_read_43, ↓lo_X4_read_43, ↓go_X4_read_73, ↓lo_X4_read_73, ↓go_X4_read_79, ↓lo_X4_read_79, ↓go_X4_read_93, ↓lo_X4_read_93, ↓go_X4_read_95, ↓lo_X4_read_95, toc, g0, g1, g2, g3, g4, g5, gal, k0, k1, k2, k3, k4, k5, m4, m5, m6, m7, sto]
      obtain ⟨ok2, hlt⟩ := rd_part_ok hok (by omega) hr
      rw [hr] at hgo
      exact ⟨200 - (m + 1), by omega, m + 1, p, op2, S2, by rw [nI_1], by omega, tf_tr hf hf3, hR3, ok2, by rw [show 160 - (m + 1) = 159 - m by omega]; exact hgo, rfl⟩
    · simp only [↓mo_vb, ↓mo_ve, ↓mo_gi, ↓mo_0, ↓mo_1, ↓mo_2, ↓mo_3i, ↓mo_3l, ↓mo_3r, ↓mo_3q, ↓mo_4_0, ↓mo_4_1, ↓mo_4_2, ↓mo_4_3, ↓mo_4_4, ↓mo_4_5, ↓mo_4_6, ↓mo_4_7, ↓mo_4_8, ↓mo_4_9, ↓mo_4_10, ↓mo_5_0, ↓mo_5_1, ↓mo_5_2, ↓mo_5_3, ↓mo_5_4, ↓mo_5_8, ↓mo_5_9, ↓mo_6_0, ↓mo_6_1, ↓mo_7, ↓mo_8, ↓mo_9, ↓mo_10i, ↓mo_10r, ↓mo_10q, ↓mo_11ir, ↓mo_12i, ↓mo_13, ↓mo_13m, ↓mo_14_0, ↓mo_15_0, ↓mo_14_1, ↓mo_15_1, ↓mo_14_2, ↓mo_15_2, ↓mo_14_3, ↓mo_15_3, ↓mo_14_4, ↓mo_15_4, ↓mo_14_5, ↓mo_15_5, ↓mo_16, ↓mo_17, ↓mo_18, ↓mo_19, ↓mo_20i, ↓mo_20z, ↓mo_20l, ↓mo_21, ↓mo_22, ↓mo_23, ↓mo_24, ↓mo_25, ↓mo_27, ↓mo_26, ↓mo_28, ↓mo_31, ↓mo_32, ↓mo_33, ↓mo_34, ↓mo_35, ↓mo_36, ↓mo_37, ↓mo_39, ↓mo_40, ↓mo_30_0, ↓mo_41_0, ↓mo_29_0, ↓mo_30_1, ↓mo_41_1, ↓mo_29_1, ↓mo_30_2, ↓mo_41_2, ↓mo_29_2, ↓mo_30_3, ↓mo_41_3, ↓mo_29_3, ↓mo_30_4, ↓mo_41_4, ↓mo_29_4, ↓mo_30_5, ↓mo_41_5, ↓mo_29_5, ↓me_tb, ↓me_lu, me_t2i, me_t2l, me_t2r, me_t2q, me_t13i, me_t19a, me_t19b, me_t19c, me_t19d, me_tae, me_t28e, me_t36e, ↓me_kn_d, ↓me_ky_d, me_ca_e, me_sv_d, me_in_n, me_in_c, decide_true, decide_false, me_rm_n, me_rm_c, me_lk_c, me_kdI, me_kdL, me_kdR, me_kdQ, me_ag_n, me_agI, me_agL, me_agR, me_agQ, me_w9n, me_w9I, me_w9L, me_w9R, me_w9Q, me_psN, me_psS, mn_0, mn_1, mn_00, mn_10, mn_01, mn_11, or_true, true_or, mn_c0, mn_c1, mn_l0, mn_l1, eq_self, List.contains_nil, List.contains_cons, List.elem_nil, List.elem_cons, List.contains_eq_mem, List.not_mem_nil, List.mem_cons, decide_false, decide_true, or_false, false_or, Bool.or_false, Bool.false_or, List.length_cons, List.length_nil, Nat.reduceAdd, Nat.reduceSub, Nat.reduceMul, Nat.reduceBEq, Nat.reduceEqDiff, Nat.reduceLT, Nat.reduceLeDiff, reduceCtorEq, if_true, if_false, ite_true, ite_false, true_and, and_true, Bool.and_true, Bool.true_and, Bool.and_false, Bool.false_and, Bool.not_true, Bool.not_false, Bool.or_true, Bool.true_or, cond_true, cond_false, not_false_eq_true, not_true_eq_false, true_implies, false_implies, implies_true, Nat.le_refl, Nat.add_zero, Nat.zero_add, Nat.zero_le, ↓mo_gi, cs_X4_read, ↓go_X4_read_0, ↓lo_X4_read_0, ↓go_X4_read_31, ↓lo_X4_read_31, ↓go_X4_read_43, ↓lo_X4_read_43, ↓go_X4_read_73, ↓lo_X4_read_73, ↓go_X4_read_79, ↓lo_X4_read_79, ↓go_X4_read_93, ↓lo_X4_read_93, ↓go_X4_read_95, ↓lo_X4_read_95, toc, g0, g1, g2, g3, g4, g5, gal, k0, k1, k2, k3, k4, k5, m4, m5, m6, m7, sto, hp3]
      rw [hr] at hgo
      exact hK2 _ e (tf_tr hf hf3) hgo.symm (by have := rd_part_er hr; omega)
theorem ct_X4_read {l : Launch} (hfl : l.stackTraces = false) : me_M l yX4_read (.code yX4_read cX4_read 2 (some .int)) 5 147 0 sp_read := me_meth (us := 0) (bl := cd_X4_read) (cs := cs_X4_read) (hd := [43]) hfl (by decide +kernel) rfl (by decide) ⟨by decide, by decide⟩ (by decide) ck_X4_read (by
    intro a ha
    simp only [List.mem_cons, List.not_mem_nil, or_false] at ha
    rcases ha with rfl | rfl | rfl
    · exact cl_X3_empty (ct_X3_empty hfl) (by decide) (by decide)
    · exact cl_X4_sign (ct_X4_sign hfl) (by decide) (by decide)
    · exact cl_X4_readPart (ct_X4_readPart hfl) (by decide) (by decide)) (by decide) mv_sx vc_X4_read
