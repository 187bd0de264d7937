/-! ===== sums over what is played; bounds; ascending ===== -/
theorem sc_sum_add (f : Nat → Nat) (a : Nat) : ∀ b, sc_sum f (a + b) = sc_sum f a + sc_sum (fun k => f (a + k)) b
  | 0 => by simp [sc_sum]
  | b + 1 => by
    show sc_sum f (a + b) + f (a + b) = _
    rw [sc_sum_add f a b]
    simp only [sc_sum]
    omega
theorem sc_sum_cg {f g : Nat → Nat} : ∀ n, (∀ k, k < n → f k = g k) → sc_sum f n = sc_sum g n
  | 0, _ => rfl
  | n + 1, h => by
    simp only [sc_sum]
    rw [sc_sum_cg n (fun k hk => h k (by omega)), h n (by omega)]
theorem sc_sum_pl (f g : Nat → Nat) : ∀ n, sc_sum (fun k => f k + g k) n = sc_sum f n + sc_sum g n
  | 0 => rfl
  | n + 1 => by
    simp only [sc_sum, sc_sum_pl f g n]
    omega
theorem sc_sum_z : ∀ m, sc_sum (fun _ => 0) m = 0
  | 0 => rfl
  | m + 1 => by simp only [sc_sum, sc_sum_z m]
theorem sc_sum_sw (f : Nat → Nat → Nat) (m : Nat) : ∀ n, sc_sum (fun r => sc_sum (fun d => f d r) m) n = sc_sum (fun d => sc_sum (fun r => f d r) n) m
  | 0 => (sc_sum_z m).symm
  | n + 1 => by
    simp only [sc_sum]
    rw [sc_sum_sw f m n, ← sc_sum_pl]
theorem sc_sum_lt {f : Nat → Nat} {k : Nat} : ∀ m, (∀ i, i < m → 1 ≤ f i) → k < m → sc_sum f k < sc_sum f m
  | 0, _, h => by omega
  | m + 1, hp, h => by
    have h1 := hp m (by omega)
    simp only [sc_sum]
    rcases Nat.eq_or_lt_of_le (Nat.le_of_lt_succ h) with rfl | h2
    · omega
    · have := sc_sum_lt m (fun i hi => hp i (by omega)) h2
      omega
def pl_sm (g : Nat × Nat → Nat) : List (Nat × Nat) → Nat
  | [] => 0
  | q :: l => g q + pl_sm g l
theorem pl_sm_app (g : Nat × Nat → Nat) : ∀ (A B : List (Nat × Nat)), pl_sm g (A ++ B) = pl_sm g A + pl_sm g B
  | [], B => by simp [pl_sm]
  | q :: A, B => by
    simp only [List.cons_append, pl_sm, pl_sm_app g A B]
    omega
theorem pl_sm_map (g : Nat × Nat → Nat) (f : Nat → Nat × Nat) : ∀ n, pl_sm g ((List.range n).map f) = sc_sum (fun k => g (f k)) n
  | 0 => rfl
  | n + 1 => by
    rw [List.range_succ, List.map_append, pl_sm_app, pl_sm_map g f n]
    simp [pl_sm, sc_sum]
theorem pl_sm_flat (g : Nat × Nat → Nat) (f : Nat → List (Nat × Nat)) : ∀ n, pl_sm g ((List.range n).flatMap f) = sc_sum (fun k => pl_sm g (f k)) n
  | 0 => rfl
  | n + 1 => by
    rw [List.range_succ, List.flatMap_append, pl_sm_app, pl_sm_flat g f n]
    simp [sc_sum]
theorem pl_sm_len : ∀ l : List (Nat × Nat), pl_sm (fun _ => 1) l = l.length
  | [] => rfl
  | q :: l => by
    simp only [pl_sm, pl_sm_len l, List.length_cons]
    omega
theorem pl_sm_f (g : Nat × Nat → Nat) (p : Nat × Nat → Bool) : ∀ l : List (Nat × Nat), pl_sm g (l.filter p) = pl_sm (fun q => if p q = true then g q else 0) l
  | [] => rfl
  | q :: l => by
    rw [List.filter_cons]
    split
    · rename_i h
      simp only [pl_sm, h, if_true, pl_sm_f g p l]
    · rename_i h
      simp only [pl_sm, h, pl_sm_f g p l]
      simp
theorem pl_t_sm (S : sc_T) : ∀ P : List (Nat × Nat), pl_t S P = pl_sm (fun q => pl_dur S q.1) P
  | [] => rfl
  | q :: P => by simp only [pl_t, pl_sm, pl_t_sm S P]
theorem sc_mono {S : sc_T} (h : sc_wf S) (s : Nat) : ∀ t, s < t → t < S 0 1 → S 6 s < S 5 t
  | 0, h1, _ => by omega
  | t + 1, h1, h2 => by
    have h3 := h.2.2.2.2.1 t h2
    rcases Nat.eq_or_lt_of_le (Nat.le_of_lt_succ h1) with rfl | h4
    · exact h3
    · have h5 := sc_mono h s t h4 (by omega)
      have h6 := h.2.2.2.1 t (by omega)
      omega
theorem sc_sf_no (S : sc_T) (j : Nat) : ∀ n s k, s ≤ k → k < sc_sf S j n s → ¬ (S 5 k ≤ j ∧ j ≤ S 6 k)
  | 0, s, k, h1, h2 => by
    simp only [sc_sf] at h2
    omega
  | n + 1, s, k, h1, h2 => by
    unfold sc_sf at h2
    split at h2
    · omega
    · rename_i hn
      rcases Nat.eq_or_lt_of_le h1 with rfl | h
      · exact hn
      · exact sc_sf_no S j n (s + 1) k h h2
theorem sc_secs {S : sc_T} {j : Nat} (h : sc_sec S j ≠ S 0 1) : sc_sec S j < S 0 1 ∧ S 5 (sc_sec S j) ≤ j ∧ j ≤ S 6 (sc_sec S j) := by
  have h1 := sc_sec_le S j
  have h2 : sc_sec S j < 0 + S 0 1 := by omega
  exact ⟨by omega, sc_sf_in S j (S 0 1) 0 h2⟩
theorem sc_uniq {S : sc_T} (h : sc_wf S) {s j : Nat} (hs : s < S 0 1) (h1 : S 5 s ≤ j) (h2 : j ≤ S 6 s) : sc_sec S j = s := by
  rcases Nat.lt_trichotomy (sc_sec S j) s with h3 | h3 | h3
  · have h4 := sc_secs (S := S) (j := j) (by omega)
    have h5 := sc_mono h (sc_sec S j) s h3 hs
    omega
  · exact h3
  · exact absurd ⟨h1, h2⟩ (sc_sf_no S j (S 0 1) 0 s (by omega) h3)
def pl_en (S : sc_T) : Nat → Nat
  | 0 => 0
  | n + 1 => if sc_sec S n = S 0 1 then n + 1 else S 6 (sc_sec S n) + 1
theorem pl_en_1 (S : sc_T) (n : Nat) : pl_en S (n + 1) = if sc_sec S n = S 0 1 then n + 1 else S 6 (sc_sec S n) + 1 := rfl
def pl_h (S : sc_T) (g : Nat × Nat → Nat) (j : Nat) : Nat := sc_sum (fun r => g (j, r)) (sc_times S j)
theorem pl_sch_s (S : sc_T) (n : Nat) : pl_sch S (n + 1) = pl_sch S n ++ pl_bar S n := by
  unfold pl_sch
  rw [List.range_succ, List.flatMap_append]
  simp
theorem pl_en_ge (S : sc_T) : ∀ n, n ≤ pl_en S n
  | 0 => Nat.le_refl _
  | n + 1 => by
    rw [pl_en_1]
    split
    · omega
    · rename_i h
      have := (sc_secs h).2.2
      omega
theorem pl_en_le {S : sc_T} (h : sc_wf S) : ∀ n, n ≤ S 0 0 → pl_en S n ≤ S 0 0
  | 0, _ => Nat.zero_le _
  | n + 1, hn => by
    rw [pl_en_1]
    split
    · omega
    · rename_i h2
      have := h.2.2.2.1 _ (sc_secs h2).1
      omega
theorem pl_en_eq {S : sc_T} (h : sc_wf S) {n : Nat} (hn : sc_sec S n = S 0 1 ∨ S 5 (sc_sec S n) = n) : pl_en S n = n := by
  rcases n with _ | m
  · rfl
  · have hge := pl_en_ge S (m + 1)
    rw [pl_en_1] at hge ⊢
    split
    · rfl
    · rename_i h2
      rw [if_neg h2] at hge
      obtain ⟨a, b, c⟩ := sc_secs h2
      rcases Nat.lt_or_ge m (S 6 (sc_sec S m)) with h3 | h3
      · have h4 := sc_uniq h a (show S 5 (sc_sec S m) ≤ m + 1 by omega) (by omega)
        rw [h4] at hn
        omega
      · omega
theorem pl_en_sum {S : sc_T} (h : sc_wf S) (g : Nat × Nat → Nat) : ∀ n, n ≤ S 0 0 → pl_sm g (pl_sch S n) = sc_sum (pl_h S g) (pl_en S n)
  | 0, _ => rfl
  | n + 1, hn => by
    have ih := pl_en_sum h g n (by omega)
    rw [pl_sch_s, pl_sm_app, ih]
    unfold pl_bar
    by_cases h1 : sc_sec S n = S 0 1
    · rw [pl_en_eq h (Or.inl h1), if_pos h1]
      have e : pl_en S (n + 1) = n + 1 := by rw [pl_en_1]; rw [if_pos h1]
      rw [e]
      simp only [pl_sm, sc_sum, pl_h, sc_times, if_pos h1]
      omega
    · rw [if_neg h1]
      obtain ⟨a, b, c⟩ := sc_secs h1
      have e : pl_en S (n + 1) = S 6 (sc_sec S n) + 1 := by rw [pl_en_1]; rw [if_neg h1]
      by_cases h2 : S 5 (sc_sec S n) = n
      · rw [if_pos h2, pl_en_eq h (Or.inr h2), e]
        have e2 : S 6 (sc_sec S n) + 1 = n + (S 6 (sc_sec S n) + 1 - n) := by omega
        conv => rhs; rw [e2]
        rw [sc_sum_add]
        congr 1
        have e3 : sc_sum (fun k => pl_h S g (n + k)) (S 6 (sc_sec S n) + 1 - n) = sc_sum (fun k => sc_sum (fun r => g (n + k, r)) (S 7 (sc_sec S n))) (S 6 (sc_sec S n) + 1 - n) := sc_sum_cg _ (fun k hk => by
          have h4 := sc_uniq h a (show S 5 (sc_sec S n) ≤ n + k by omega) (by omega)
          unfold pl_h sc_times
          rw [if_neg (by omega), h4])
        rw [e3, ← sc_sum_sw (fun d r => g (n + d, r))]
        unfold pl_sec
        rw [h2, pl_sm_flat]
        exact sc_sum_cg _ (fun k hk => pl_sm_map _ _ _)
      · rw [if_neg h2, e]
        rcases n with _ | m
        · omega
        · have h4 := sc_uniq h a (show S 5 (sc_sec S (m + 1)) ≤ m by omega) (by omega)
          have e3 : pl_en S (m + 1) = S 6 (sc_sec S (m + 1)) + 1 := by rw [pl_en_1]; rw [if_neg (by omega), h4]
          rw [e3]
          simp [pl_sm]
theorem pl_sch_len {S : sc_T} (h : sc_wf S) {n : Nat} (hn : n ≤ S 0 0) : (pl_sch S n).length ≤ 96 := by
  have h1 := pl_en_sum h (fun _ => 1) n hn
  rw [pl_sm_len] at h1
  have h2 : ∀ j, pl_h S (fun _ => 1) j ≤ 4 := fun j => by
    have h3 := (sc_times_le h j).2
    have h4 := sc_sum_le (f := fun _ => 1) (c := 1) (sc_times S j) (fun _ _ => Nat.le_refl _)
    show sc_sum (fun _ => 1) (sc_times S j) ≤ 4
    omega
  have h5 := sc_sum_le (pl_en S n) (fun k _ => h2 k)
  have h6 := pl_en_le h n hn
  have h7 := h.1
  omega
def pl_ok4 (P : List (Nat × Nat)) : Prop := ∀ q ∈ P, q.2 < 4
theorem pl_sec_ok4 {S : sc_T} (h : sc_wf S) {s : Nat} (hs : s < S 0 1) : pl_ok4 (pl_sec S s) := by
  intro q hq
  unfold pl_sec at hq
  obtain ⟨r, hr, hq2⟩ := List.mem_flatMap.mp hq
  obtain ⟨x, hx, rfl⟩ := List.mem_map.mp hq2
  have := List.mem_range.mp hr
  have := h.2.2.2.1 s hs
  show r < 4
  omega
theorem pl_sch_ok {S : sc_T} (h : sc_wf S) {n : Nat} (hn : n ≤ S 0 0) : pl_ok S (pl_sch S n) ∧ pl_ok4 (pl_sch S n) := by
  have key : ∀ q ∈ pl_sch S n, q.1 < S 0 0 ∧ q.2 < 4 := by
    intro q hq
    unfold pl_sch at hq
    obtain ⟨j, hj, hq2⟩ := List.mem_flatMap.mp hq
    have hj2 := List.mem_range.mp hj
    unfold pl_bar at hq2
    split at hq2
    · rw [List.mem_singleton] at hq2
      subst hq2
      exact ⟨by show j < S 0 0; omega, by show 0 < 4; omega⟩
    · rename_i h1
      split at hq2
      · have a := (sc_secs h1).1
        exact ⟨ps_r_ok h a _ q hq2, pl_sec_ok4 h a q hq2⟩
      · cases hq2
  exact ⟨fun q hq => (key q hq).1, fun q hq => (key q hq).2⟩
/-- a list of places fits into a Row -/
def rw_fit (S : sc_T) (P : List (Nat × Nat)) : Prop := sc_wf S ∧ pl_ok S P ∧ pl_ok4 P ∧ P.length ≤ 96
theorem rw_fit_pl {S : sc_T} (h : sc_wf S) (p : Nat) : rw_fit S (pl S p) :=
  ⟨h, fun q hq => (pl_sch_ok h (Nat.le_refl _)).1 q (List.mem_filter.mp hq).1, fun q hq => (pl_sch_ok h (Nat.le_refl _)).2 q (List.mem_filter.mp hq).1, Nat.le_trans (List.length_filter_le _ _) (pl_sch_len h (Nat.le_refl _))⟩
def pb (P : List (Nat × Nat)) (k : Nat) : Nat := (P[k]?.getD (0, 0)).1
def pp (P : List (Nat × Nat)) (k : Nat) : Nat := (P[k]?.getD (0, 0)).2
theorem pb_g {P : List (Nat × Nat)} {k : Nat} (h : k < P.length) : pb P k = P[k].1 ∧ pp P k = P[k].2 := by
  unfold pb pp
  rw [List.getElem?_eq_getElem h]
  exact ⟨rfl, rfl⟩
/-- the place k's beginning -/
def pst (S : sc_T) (P : List (Nat × Nat)) (k : Nat) : Nat := pl_t S (P.take k)
theorem pst_s {S : sc_T} {P : List (Nat × Nat)} {k : Nat} (h : k < P.length) : pst S P (k + 1) = pst S P k + pl_dur S (pb P k) := by
  unfold pst
  rw [List.take_add_one, pl_t_app, List.getElem?_eq_getElem h, (pb_g h).1]
  simp [pl_t]
theorem pst_all (S : sc_T) (P : List (Nat × Nat)) : pst S P P.length = pl_t S P := by unfold pst; rw [List.take_length]
theorem pl_dur_ge {S : sc_T} (h : sc_wf S) {j : Nat} (hj : j < S 0 0) : 250000 ≤ pl_dur S j := by
  have h1 := (pl_len_le h hj).1
  have h2 := h.2.2.1 j hj
  have h3 := sc_sum_lt (f := fun k => S 3 (9 * j + k)) (k := 0) (S 1 j) (fun i hi => (h2.2.2.2.2.2 i (by omega)).1) (by omega)
  unfold pl_dur sc_units
  calc 250000 = 250000 * 1 := rfl
    _ ≤ pl_len S j * sc_sum (fun k => S 3 (9 * j + k)) (S 1 j) := Nat.mul_le_mul h1 (by simp only [sc_sum] at h3; omega)
theorem rw_pb {S : sc_T} {P : List (Nat × Nat)} (h : rw_fit S P) {k : Nat} (hk : k < P.length) : pb P k < S 0 0 ∧ pb P k < 24 ∧ pp P k < 4 := by
  have h1 := h.2.1 _ (List.getElem_mem hk)
  have h2 := h.2.2.1 _ (List.getElem_mem hk)
  have h3 := h.1.1
  rw [(pb_g hk).1, (pb_g hk).2]
  omega
theorem pst_lt {S : sc_T} {P : List (Nat × Nat)} (h : rw_fit S P) {i : Nat} : ∀ k, k ≤ P.length → i < k → pst S P i < pst S P k
  | 0, _, h2 => by omega
  | k + 1, h1, h2 => by
    rw [pst_s (by omega)]
    have h3 := pl_dur_ge h.1 (rw_pb h (show k < P.length by omega)).1
    rcases Nat.eq_or_lt_of_le (Nat.le_of_lt_succ h2) with rfl | h4
    · omega
    · have := pst_lt h k (by omega) h4
      omega
theorem rw_t {S : sc_T} {P : List (Nat × Nat)} (h : rw_fit S P) : pl_t S P ≤ 6912000000 := by
  have h1 := pl_t_le h.1 P h.2.1
  have h2 := h.2.2.2
  omega
theorem pst_le {S : sc_T} {P : List (Nat × Nat)} (h : rw_fit S P) {k : Nat} (hk : k ≤ P.length) : pst S P k ≤ 6912000000 := by
  have h1 := rw_t h
  rw [← pst_all] at h1
  rcases Nat.eq_or_lt_of_le hk with rfl | h2
  · exact h1
  · have := pst_lt h P.length (Nat.le_refl _) h2
    omega
theorem pl_cb_bd {S : sc_T} (h : sc_wf S) {j t i : Nat} (hj : j < S 0 0) : ∀ c ∈ pl_cb S j t i (S 1 j), t ≤ c.1 ∧ c.1 < t + pl_dur S j ∧ c.2 ≤ 10 * i + 9 := by
  intro c hc
  unfold pl_cb at hc
  obtain ⟨k, hk, rfl⟩ := List.mem_map.mp hc
  have hk2 := List.mem_range.mp hk
  have h2 := h.2.2.1 j hj
  have h3 := sc_sum_lt (f := fun k => S 3 (9 * j + k)) (k := k) (S 1 j) (fun i hi => (h2.2.2.2.2.2 i (by omega)).1) hk2
  have h1 := (pl_len_le h hj).1
  have h4 := Nat.mul_lt_mul_of_pos_left h3 (show 0 < pl_len S j by omega)
  refine ⟨Nat.le_add_right _ _, Nat.add_lt_add_left h4 _, ?_⟩
  show 10 * i + (k + 1) ≤ 10 * i + 9
  omega
theorem pl_ck_bd {S : sc_T} (h : sc_wf S) : ∀ (P : List (Nat × Nat)) (t i : Nat), pl_ok S P → ∀ c ∈ pl_ck S P t i, t ≤ c.1 ∧ c.1 < t + pl_t S P ∧ c.2 ≤ 10 * (i + P.length)
  | [], t, i, _, c, hc => by cases hc
  | q :: P, t, i, hp, c, hc => by
    unfold pl_ck at hc
    simp only [pl_t, List.length_cons]
    rcases List.mem_append.mp hc with h1 | h1
    · have := pl_cb_bd h (hp q List.mem_cons_self) c h1
      omega
    · have := pl_ck_bd h P (t + pl_dur S q.1) (i + 1) (fun z hz => hp z (List.mem_cons_of_mem _ hz)) c h1
      omega
theorem pl_cb_as {S : sc_T} (h : sc_wf S) {j t i : Nat} (hj : j < S 0 0) : List.Pairwise (fun a b : Nat × Nat => a.1 < b.1) (pl_cb S j t i (S 1 j)) := by
  unfold pl_cb
  rw [List.pairwise_map]
  refine List.Pairwise.imp_of_mem (fun {a b} ha hb hab => ?_) (List.pairwise_lt_range)
  have hb2 := List.mem_range.mp hb
  have h2 := h.2.2.1 j hj
  have h3 := sc_sum_lt (f := fun k => S 3 (9 * j + k)) (k := a) b (fun i hi => (h2.2.2.2.2.2 i (by omega)).1) hab
  have h1 := (pl_len_le h hj).1
  exact Nat.add_lt_add_left (Nat.mul_lt_mul_of_pos_left h3 (show 0 < pl_len S j by omega)) _
theorem pl_ck_as {S : sc_T} (h : sc_wf S) : ∀ (P : List (Nat × Nat)) (t i : Nat), pl_ok S P → List.Pairwise (fun a b : Nat × Nat => a.1 < b.1) (pl_ck S P t i)
  | [], t, i, _ => List.Pairwise.nil
  | q :: P, t, i, hp => by
    have hq := hp q List.mem_cons_self
    have hP : pl_ok S P := fun z hz => hp z (List.mem_cons_of_mem _ hz)
    unfold pl_ck
    refine List.pairwise_append.mpr ⟨pl_cb_as h hq, pl_ck_as h P _ _ hP, fun a ha b hb => ?_⟩
    have h1 := pl_cb_bd h hq a ha
    have h2 := pl_ck_bd h P _ _ hP b hb
    omega
/-- the clicks of a row -/
def ck (S : sc_T) (P : List (Nat × Nat)) : List (Nat × Nat) := pl_ck S P 0 0
theorem ck_len {S : sc_T} {P : List (Nat × Nat)} (h : rw_fit S P) : (ck S P).length ≤ 864 := by
  have h1 := pl_ck_len h.1 P 0 0 h.2.1
  have h2 := h.2.2.2
  unfold ck
  omega
theorem ck_bd {S : sc_T} {P : List (Nat × Nat)} (h : rw_fit S P) {k : Nat} (hk : k < (ck S P).length) : pb (ck S P) k < pl_t S P ∧ pb (ck S P) k < 6912000000 ∧ pp (ck S P) k ≤ 960 := by
  have h1 := pl_ck_bd h.1 P 0 0 h.2.1 (ck S P)[k] (List.getElem_mem hk)
  have h2 := rw_t h
  have h3 := h.2.2.2
  rw [(pb_g hk).1, (pb_g hk).2]
  omega
theorem ck_as {S : sc_T} {P : List (Nat × Nat)} (h : rw_fit S P) {i k : Nat} (hik : i < k) (hk : k < (ck S P).length) : pb (ck S P) i < pb (ck S P) k := by
  have h1 := List.pairwise_iff_getElem.mp (pl_ck_as h.1 P 0 0 h.2.1) i k (by unfold ck at hk; omega) hk hik
  rw [(pb_g hk).1, (pb_g (show i < (ck S P).length by omega)).1]
  exact h1
theorem rw_g {v : me_V} {w : me_U} {b : Nat} {S : sc_T} {P : List (Nat × Nat)} (h : rw_at v w b S P) {k : Nat} (hk : k < P.length) : v (b + 1) k = nI (pb P k) ∧ v (b + 2) k = nI (pp P k + 1) ∧ w (b + 3) k = lN (pst S P k) := by
  rw [(pb_g hk).1, (pb_g hk).2]
  exact h.2.2.1 k hk
theorem rw_k {v : me_V} {w : me_U} {b : Nat} {S : sc_T} {P : List (Nat × Nat)} (h : rw_at v w b S P) {k : Nat} (hk : k < (ck S P).length) : w (b + 4) k = lN (pb (ck S P) k) ∧ v (b + 5) k = nI (pp (ck S P) k) := by
  rw [(pb_g hk).1, (pb_g hk).2]
  exact h.2.2.2.2 k hk
theorem lq_lt (x y : Int64) : (lg_cmp x y < 0) = (x < y) := propext (lg_cmp_lt x y)
theorem lq_ge (x y : Int64) : (0 ≤ lg_cmp x y) = (y ≤ x) := propext (lg_cmp_ge x y)
theorem lq_gt (x y : Int64) : (0 < lg_cmp x y) = (y < x) := propext (lg_cmp_gt x y)
theorem lq_le (x y : Int64) : (lg_cmp x y ≤ 0) = (x ≤ y) := propext (lg_cmp_le x y)
theorem lq_eq (x y : Int64) : (lg_cmp x y = 0) = (x = y) := propext (lg_cmp_eq x y)
theorem lN_lts {a b : Nat} (ha : a < 2 ^ 63) (hb : b < 2 ^ 63) : (lN a < lN b) = (a < b) := propext (pk_lLT ha hb)
theorem lN_les {a b : Nat} (ha : a < 2 ^ 63) (hb : b < 2 ^ 63) : (lN a ≤ lN b) = (a ≤ b) := propext (pk_lLE ha hb)
theorem lN_eqs {a b : Nat} (ha : a < 2 ^ 63) (hb : b < 2 ^ 63) : (lN a = lN b) = (a = b) := propext (pk_lEQ ha hb)
/-- an index, or -9 -/
def ix_of (p : Nat → Prop) (n : Nat) (y : Int32) : Prop := (∃ i, i < n ∧ p i ∧ (∀ k, k < i → ¬ p k) ∧ y = nI i) ∨ ((∀ k, k < n → ¬ p k) ∧ y = -(nI 9))
def cb_of (C : List (Nat × Nat)) (X n : Nat) : Prop := n ≤ C.length ∧ (∀ k, k < n → pb C k < X) ∧ (n < C.length → X ≤ pb C n)
def at_of (C : List (Nat × Nat)) (T X : Nat) (y : Int32) : Prop := (T ≤ X ∧ y = -(nI 9)) ∨ (X < T ∧ ∃ n, n ≤ C.length ∧ (∀ k, k < n → pb C k ≤ X) ∧ (n < C.length → X < pb C n) ∧ y = if n = 0 then -(nI 9) else nI (pp C (n - 1)))
def sm_of (P Q : List (Nat × Nat)) (i k : Nat) : Prop := pb P i = pb Q k ∧ pp P i = pp Q k
def pt_of (P Q : List (Nat × Nat)) (y : Int32) : Prop := (∃ i, i < P.length ∧ i < Q.length ∧ ¬ sm_of P Q i i ∧ (∀ k, k < i → sm_of P Q k k) ∧ y = nI i) ∨ ((∀ k, k < P.length → k < Q.length → sm_of P Q k k) ∧ y = if P.length = Q.length then -(nI 9) else nI (min P.length Q.length))
def mt_q (S : sc_T) (P Q : List (Nat × Nat)) (i k : Nat) : Prop := i ≠ k ∧ sm_of P Q i k ∧ pst S P i = pst S Q k
def mt_of (S : sc_T) (P Q : List (Nat × Nat)) (y : Int64) : Prop := (∃ i k, i < P.length ∧ k < Q.length ∧ mt_q S P Q i k ∧ (∀ i2 k2, i2 < i → k2 < Q.length → ¬ mt_q S P Q i2 k2) ∧ y = lN (pst S P i)) ∨ ((∀ i k, i < P.length → k < Q.length → ¬ mt_q S P Q i k) ∧ y = -(lN 9))
def cw (D : List (Nat × Nat)) (m : Nat) : Nat := if m ∈ D.map Prod.fst then 1 else 0
theorem cw_yes {D : List (Nat × Nat)} {k : Nat} (h : k < D.length) : cw D (pb D k) = 1 := by
  unfold cw
  rw [if_pos]
  rw [(pb_g h).1]
  exact List.mem_map.mpr ⟨_, List.getElem_mem h, rfl⟩
theorem cw_no {D : List (Nat × Nat)} {m : Nat} (h : ∀ k, k < D.length → pb D k ≠ m) : cw D m = 0 := by
  unfold cw
  rw [if_neg]
  intro hm
  obtain ⟨q, hq, rfl⟩ := List.mem_map.mp hm
  obtain ⟨k, hk, rfl⟩ := List.mem_iff_getElem.mp hq
  exact h k hk (pb_g hk).1
def sp_rowFill : me_P := fun as v w K _ => ∃ (a b p : Nat) (S : sc_T), as = [vR a, vR b, vI (nI p)] ∧ rw_ok a ∧ st_ok b ∧ b + 9 ≤ a ∧ sc_at v b S ∧ sc_wf S ∧ p < 3 ∧ ∀ v2 w2, fr_at a 6 v w v2 w2 → rw_at v2 w2 a S (pl S p) → K none v2 w2
theorem go_X1_fill_0 {cs : Nat → Nat × me_P} {KR : me_K} {kx : (Nat → Nat → me_L → List me_S → me_V → me_U → Prop) → Nat → Nat → me_L → Nat → me_V → me_U → Prop} {km : Nat} {sx : me_Sc} {hd : List Nat} {Inv : Nat → Nat → me_L → List me_S → me_V → me_U → Prop} {n k : Nat} {L : me_L} {st : List me_S} {v : me_V} {w : me_U} (hn : (n == 0) = false) (h : hd.contains 0 = false) : me_go cs KR kx km sx cd_X1_fill hd Inv n 0 k L st v w = me_vb cs (me_go cs KR kx km sx cd_X1_fill hd Inv (n - 1)) KR (kx (me_go cs KR kx km sx cd_X1_fill hd Inv (n - 1))) km sx [(2, 0, 2, [], 1, 0, 0), (0, 0, 0, [], 1, 0, 0), (20, 1, 0, [], 3, 0, 193), (2, 0, 2, [], 1, 0, 0), (1, 0, 0, [], 1, 0, 0), (20, 1, 1, [], 3, 0, 196), (2, 0, 2, [], 1, 0, 0), (0, 0, 0, [], 1, 0, 0), (20, 1, 5, [], 3, 0, 205), (0, 0, 0, [], 1, 0, 0), (3, 3, 0, [], 1, 0, 0)] 0 k L st v w := by
  rcases n with _ | n
  · cases hn
  · rw [mo_gb h]
    rfl
theorem lo_X1_fill_0 {cs : Nat → Nat × me_P} {J : Nat → Nat → me_L → List me_S → me_V → me_U → Prop} {KR : me_K} {KX : Nat → Nat → me_L → Nat → me_V → me_U → Prop} {km : Nat} {sx : me_Sc} {k : Nat} {L : me_L} {st : List me_S} {v : me_V} {w : me_U} : me_vb cs J KR KX km sx (me_bk cd_X1_fill 0) 0 k L st v w = me_vb cs J KR KX km sx [(2, 0, 2, [], 1, 0, 0), (0, 0, 0, [], 1, 0, 0), (20, 1, 0, [], 3, 0, 193), (2, 0, 2, [], 1, 0, 0), (1, 0, 0, [], 1, 0, 0), (20, 1, 1, [], 3, 0, 196), (2, 0, 2, [], 1, 0, 0), (0, 0, 0, [], 1, 0, 0), (20, 1, 5, [], 3, 0, 205), (0, 0, 0, [], 1, 0, 0), (3, 3, 0, [], 1, 0, 0)] 0 k L st v w := rfl
theorem go_X1_fill_17 {cs : Nat → Nat × me_P} {KR : me_K} {kx : (Nat → Nat → me_L → List me_S → me_V → me_U → Prop) → Nat → Nat → me_L → Nat → me_V → me_U → Prop} {km : Nat} {sx : me_Sc} {hd : List Nat} {Inv : Nat → Nat → me_L → List me_S → me_V → me_U → Prop} {n k : Nat} {L : me_L} {st : List me_S} {v : me_V} {w : me_U} (hn : (n == 0) = false) (h : hd.contains 17 = false) : me_go cs KR kx km sx cd_X1_fill hd Inv n 17 k L st v w = me_vb cs (me_go cs KR kx km sx cd_X1_fill hd Inv (n - 1)) KR (kx (me_go cs KR kx km sx cd_X1_fill hd Inv (n - 1))) km sx [(2, 3, 0, [], 1, 0, 0), (2, 1, 2, [], 1, 0, 0), (19, 3, 0, [], 3, 0, 93), (15, 75, 3, [], 3, 0, 0), (2, 1, 2, [], 1, 0, 0), (2, 3, 0, [], 1, 0, 0), (29, 40, 1, [3, 565, 566], 3, 0, 625), (3, 4, 0, [], 2, 0, 0), (2, 4, 0, [], 2, 0, 0), (0, 9, 1, [], 2, 0, 0), (15, 50, 1, [], 3, 0, 0), (2, 0, 2, [], 1, 0, 0), (2, 1, 2, [], 1, 0, 0), (2, 2, 0, [], 1, 0, 0), (2, 3, 0, [], 1, 0, 0), (0, 1, 0, [], 1, 0, 0), (29, 7, 4, [1, 628, 13], 3, 0, 626), (16, 69, 0, [], 3, 0, 0)] 17 k L st v w := by
  rcases n with _ | n
  · cases hn
  · rw [mo_gb h]
    rfl
theorem lo_X1_fill_17 {cs : Nat → Nat × me_P} {J : Nat → Nat → me_L → List me_S → me_V → me_U → Prop} {KR : me_K} {KX : Nat → Nat → me_L → Nat → me_V → me_U → Prop} {km : Nat} {sx : me_Sc} {k : Nat} {L : me_L} {st : List me_S} {v : me_V} {w : me_U} : me_vb cs J KR KX km sx (me_bk cd_X1_fill 17) 17 k L st v w = me_vb cs J KR KX km sx [(2, 3, 0, [], 1, 0, 0), (2, 1, 2, [], 1, 0, 0), (19, 3, 0, [], 3, 0, 93), (15, 75, 3, [], 3, 0, 0), (2, 1, 2, [], 1, 0, 0), (2, 3, 0, [], 1, 0, 0), (29, 40, 1, [3, 565, 566], 3, 0, 625), (3, 4, 0, [], 2, 0, 0), (2, 4, 0, [], 2, 0, 0), (0, 9, 1, [], 2, 0, 0), (15, 50, 1, [], 3, 0, 0), (2, 0, 2, [], 1, 0, 0), (2, 1, 2, [], 1, 0, 0), (2, 2, 0, [], 1, 0, 0), (2, 3, 0, [], 1, 0, 0), (0, 1, 0, [], 1, 0, 0), (29, 7, 4, [1, 628, 13], 3, 0, 626), (16, 69, 0, [], 3, 0, 0)] 17 k L st v w := rfl
theorem go_X1_fill_50 {cs : Nat → Nat × me_P} {KR : me_K} {kx : (Nat → Nat → me_L → List me_S → me_V → me_U → Prop) → Nat → Nat → me_L → Nat → me_V → me_U → Prop} {km : Nat} {sx : me_Sc} {hd : List Nat} {Inv : Nat → Nat → me_L → List me_S → me_V → me_U → Prop} {n k : Nat} {L : me_L} {st : List me_S} {v : me_V} {w : me_U} (hn : (n == 0) = false) (h : hd.contains 50 = false) : me_go cs KR kx km sx cd_X1_fill hd Inv n 50 k L st v w = me_vb cs (me_go cs KR kx km sx cd_X1_fill hd Inv (n - 1)) KR (kx (me_go cs KR kx km sx cd_X1_fill hd Inv (n - 1))) km sx [(2, 1, 2, [], 1, 0, 0), (19, 3, 6, [], 3, 0, 112), (2, 4, 0, [], 2, 0, 0), (21, 0, 0, [], 1, 0, 0), (2, 3, 0, [], 1, 0, 0), (15, 69, 1, [], 3, 0, 0), (2, 0, 2, [], 1, 0, 0), (2, 1, 2, [], 1, 0, 0), (2, 2, 0, [], 1, 0, 0), (2, 4, 0, [], 2, 0, 0), (29, 6, 3, [1, 643, 14], 3, 0, 641)] 50 k L st v w := by
  rcases n with _ | n
  · cases hn
  · rw [mo_gb h]
    rfl
theorem lo_X1_fill_50 {cs : Nat → Nat × me_P} {J : Nat → Nat → me_L → List me_S → me_V → me_U → Prop} {KR : me_K} {KX : Nat → Nat → me_L → Nat → me_V → me_U → Prop} {km : Nat} {sx : me_Sc} {k : Nat} {L : me_L} {st : List me_S} {v : me_V} {w : me_U} : me_vb cs J KR KX km sx (me_bk cd_X1_fill 50) 50 k L st v w = me_vb cs J KR KX km sx [(2, 1, 2, [], 1, 0, 0), (19, 3, 6, [], 3, 0, 112), (2, 4, 0, [], 2, 0, 0), (21, 0, 0, [], 1, 0, 0), (2, 3, 0, [], 1, 0, 0), (15, 69, 1, [], 3, 0, 0), (2, 0, 2, [], 1, 0, 0), (2, 1, 2, [], 1, 0, 0), (2, 2, 0, [], 1, 0, 0), (2, 4, 0, [], 2, 0, 0), (29, 6, 3, [1, 643, 14], 3, 0, 641)] 50 k L st v w := rfl
theorem go_X1_fill_69 {cs : Nat → Nat × me_P} {KR : me_K} {kx : (Nat → Nat → me_L → List me_S → me_V → me_U → Prop) → Nat → Nat → me_L → Nat → me_V → me_U → Prop} {km : Nat} {sx : me_Sc} {hd : List Nat} {Inv : Nat → Nat → me_L → List me_S → me_V → me_U → Prop} {n k : Nat} {L : me_L} {st : List me_S} {v : me_V} {w : me_U} (hn : (n == 0) = false) (h : hd.contains 69 = false) : me_go cs KR kx km sx cd_X1_fill hd Inv n 69 k L st v w = me_vb cs (me_go cs KR kx km sx cd_X1_fill hd Inv (n - 1)) KR (kx (me_go cs KR kx km sx cd_X1_fill hd Inv (n - 1))) km sx [(13, 3, 1, [], 3, 0, 0), (16, 17, 0, [], 3, 0, 0)] 69 k L st v w := by
  rcases n with _ | n
  · cases hn
  · rw [mo_gb h]
    rfl
theorem lo_X1_fill_69 {cs : Nat → Nat × me_P} {J : Nat → Nat → me_L → List me_S → me_V → me_U → Prop} {KR : me_K} {KX : Nat → Nat → me_L → Nat → me_V → me_U → Prop} {km : Nat} {sx : me_Sc} {k : Nat} {L : me_L} {st : List me_S} {v : me_V} {w : me_U} : me_vb cs J KR KX km sx (me_bk cd_X1_fill 69) 69 k L st v w = me_vb cs J KR KX km sx [(13, 3, 1, [], 3, 0, 0), (16, 17, 0, [], 3, 0, 0)] 69 k L st v w := rfl
theorem go_X1_fill_75 {cs : Nat → Nat × me_P} {KR : me_K} {kx : (Nat → Nat → me_L → List me_S → me_V → me_U → Prop) → Nat → Nat → me_L → Nat → me_V → me_U → Prop} {km : Nat} {sx : me_Sc} {hd : List Nat} {Inv : Nat → Nat → me_L → List me_S → me_V → me_U → Prop} {n k : Nat} {L : me_L} {st : List me_S} {v : me_V} {w : me_U} (hn : (n == 0) = false) (h : hd.contains 75 = false) : me_go cs KR kx km sx cd_X1_fill hd Inv n 75 k L st v w = me_vb cs (me_go cs KR kx km sx cd_X1_fill hd Inv (n - 1)) KR (kx (me_go cs KR kx km sx cd_X1_fill hd Inv (n - 1))) km sx [(31, 0, 0, [], 1, 0, 0)] 75 k L st v w := by
  rcases n with _ | n
  · cases hn
  · rw [mo_gb h]
    rfl
theorem lo_X1_fill_75 {cs : Nat → Nat × me_P} {J : Nat → Nat → me_L → List me_S → me_V → me_U → Prop} {KR : me_K} {KX : Nat → Nat → me_L → Nat → me_V → me_U → Prop} {km : Nat} {sx : me_Sc} {k : Nat} {L : me_L} {st : List me_S} {v : me_V} {w : me_U} : me_vb cs J KR KX km sx (me_bk cd_X1_fill 75) 75 k L st v w = me_vb cs J KR KX km sx [(31, 0, 0, [], 1, 0, 0)] 75 k L st v w := rfl
def cs_X1_fill : Nat → Nat × me_P := fun a => match a with
  | 6 => (0, sp_playSection)
  | 7 => (0, sp_playBar)
  | 40 => (0, sp_sectionOf)
  | _ => (0, fun _ _ _ _ _ => False)
set_option maxHeartbeats 1000000 in
set_option maxRecDepth 100000 in
theorem vc_X1_fill : mv_ok cs_X1_fill cd_X1_fill [17] 0 5 sp_rowFill := by
  intro as v w K X h
  obtain ⟨a, b, p, S, rfl, hr, hb, hab, hS, hwf, hp, hK⟩ := h
  have hb2 := hb
  have hr2 := hr
  obtain ⟨hoc, f0, f1, f2, f3, f4, f5, f6, f7, f8, f9, a1, a2, a3, a4, a5, a6, a7, a8⟩ := hb
  obtain ⟨roc, g0, g1, g2, g3, g4, g5, g6, g7, q1, q2, q3, q4, q5⟩ := hr
  have h24 := hwf.1
  have h4 := hwf.2.1
  refine ⟨Nat.le_of_ble_eq_true rfl, 20, fun μ pc k L st v2 w2 => pc = 17 ∧ k = 0 ∧ st = [] ∧ fr_at a 6 v w v2 w2 ∧ ∃ (n : Nat) (z : me_L), L = (0, vR a) :: (1, vR b) :: (2, vI (nI p)) :: (3, vI (nI n)) :: z ∧ (z = [] ∨ ∃ y : Int32, z = [(4, vI y)]) ∧ n ≤ S 0 0 ∧ rw_at v2 w2 a S (pl_f S p (pl_sch S n)) ∧ μ = S 0 0 - n, ?_, ?_⟩
  · simp only [↓mo_vb, ↓mo_ve, ↓mo_gi, ↓mo_0, ↓mo_1, ↓mo_2, ↓mo_3i, ↓mo_3l, ↓mo_3r, ↓mo_3q, ↓mo_4_0, ↓mo_4_1, ↓mo_4_2, ↓mo_4_3, ↓mo_4_4, ↓mo_4_5, ↓mo_4_6, ↓mo_4_7, ↓mo_4_8, ↓mo_4_9, ↓mo_4_10, ↓mo_5_0, ↓mo_5_1, ↓mo_5_2, ↓mo_5_3, ↓mo_5_4, ↓mo_5_8, ↓mo_5_9, ↓mo_6_0, ↓mo_6_1, ↓mo_7, ↓mo_8, ↓mo_9, ↓mo_10i, ↓mo_10r, ↓mo_10q, ↓mo_11ir, ↓mo_12i, ↓mo_13, ↓mo_13m, ↓mo_14_0, ↓mo_15_0, ↓mo_14_1, ↓mo_15_1, ↓mo_14_2, ↓mo_15_2, ↓mo_14_3, ↓mo_15_3, ↓mo_14_4, ↓mo_15_4, ↓mo_14_5, ↓mo_15_5, ↓mo_16, ↓mo_17, ↓mo_18, ↓mo_19, ↓mo_20i, ↓mo_20z, ↓mo_20l, ↓mo_21, ↓mo_22, ↓mo_23, ↓mo_24, ↓mo_25, ↓mo_27, ↓mo_26, ↓mo_28, ↓mo_31, ↓mo_32, ↓mo_33, ↓mo_34, ↓mo_35, ↓mo_36, ↓mo_37, ↓mo_39, ↓mo_40, ↓mo_30_0, ↓mo_41_0, ↓mo_29_0, ↓mo_30_1, ↓mo_41_1, ↓mo_29_1, ↓mo_30_2, ↓mo_41_2, ↓mo_29_2, ↓mo_30_3, ↓mo_41_3, ↓mo_29_3, ↓mo_30_4, ↓mo_41_4, ↓mo_29_4, ↓mo_30_5, ↓mo_41_5, ↓mo_29_5, ↓me_tb, ↓me_lu, me_t2i, me_t2l, me_t2r, me_t2q, me_t13i, me_t19a, me_t19b, me_t19c, me_t19d, me_tae, me_t28e, me_t36e, ↓me_kn_d, ↓me_ky_d, me_ca_e, me_sv_d, me_in_n, me_in_c, decide_true, decide_false, me_rm_n, me_rm_c, me_lk_c, me_kdI, me_kdL, me_kdR, me_kdQ, me_ag_n, me_agI, me_agL, me_agR, me_agQ, me_w9n, me_w9I, me_w9L, me_w9R, me_w9Q, me_psN, me_psS, mn_0, mn_1, mn_00, mn_10, mn_01, mn_11, or_true, true_or, mn_c0, mn_c1, mn_l0, mn_l1, eq_self, List.contains_nil, List.contains_cons, List.elem_nil, List.elem_cons, List.contains_eq_mem, List.not_mem_nil, List.mem_cons, decide_false, decide_true, or_false, false_or, Bool.or_false, Bool.false_or, List.length_cons, List.length_nil, Nat.reduceAdd, Nat.reduceSub, Nat.reduceMul, Nat.reduceBEq, Nat.reduceEqDiff, Nat.reduceLT, Nat.reduceLeDiff, reduceCtorEq, if_true, if_false, ite_true, ite_false, true_and, and_true, Bool.and_true, Bool.true_and, Bool.and_false, Bool.false_and, Bool.not_true, Bool.not_false, Bool.or_true, Bool.true_or, cond_true, cond_false, not_false_eq_true, not_true_eq_false, true_implies, false_implies, implies_true, Nat.le_refl, Nat.add_zero, Nat.zero_add, Nat.zero_le, ↓mo_gi, cs_X1_fill, ↓go_X1_fill_0, ↓lo_X1_fill_0, ↓go_X1_fill_17, ↓lo_X1_fill_17, ↓go_X1_fill_50, ↓lo_X1_fill_50, ↓go_X1_fill_69, ↓lo_X1_fill_69, ↓go_X1_fill_75, ↓lo_X1_fill_75, hoc, f0, f1, f2, f3, f4, f5, f6, f7, f8, f9, a1, a2, a3, a4, a5, a6, a7, a8, roc, g0, g1, g2, g3, g4, g5, g6, g7, q1, q2, q3, q4, q5]
    refine ⟨_, fun c hc => ⟨by rw [me_up_n _ _ _ (by omega), me_up_n _ _ _ (by omega)], by rw [me_ul_n _ _ _ (by omega)]⟩, 0, [], rfl, Or.inl rfl, by omega, ⟨?_, ?_, fun i hi => absurd hi (Nat.not_lt_zero _), ?_, fun i hi => absurd hi (Nat.not_lt_zero _)⟩, rfl⟩
    · rw [me_up_s, pk_un (by omega), me_up_s, pk_us]; rfl
    · rw [me_ul_s, pk_uLs]; rfl
    · rw [me_up_s, pk_us]; rfl
  · rintro μ pc k L st v2 w2 hpc ⟨rfl, rfl, rfl, hfr, n, z, rfl, hz, hn, hR, rfl⟩
    have eS : sc_at v2 b S := sc_at_fr hS (fun c hc9 => (hfr (b + c) (by omega)).1)
    have hok := (pl_sch_ok hwf hn).1
    have hle := sc_sec_le S n
    rcases hz with rfl | ⟨y, rfl⟩
    all_goals
      simp only [↓mo_vb, ↓mo_ve, ↓mo_gi, ↓mo_0, ↓mo_1, ↓mo_2, ↓mo_3i, ↓mo_3l, ↓mo_3r, ↓mo_3q, ↓mo_4_0, ↓mo_4_1, ↓mo_4_2, ↓mo_4_3, ↓mo_4_4, ↓mo_4_5, ↓mo_4_6, ↓mo_4_7, ↓mo_4_8, ↓mo_4_9, ↓mo_4_10, ↓mo_5_0, ↓mo_5_1, ↓mo_5_2, ↓mo_5_3, ↓mo_5_4, ↓mo_5_8, ↓mo_5_9, ↓mo_6_0, ↓mo_6_1, ↓mo_7, ↓mo_8, ↓mo_9, ↓mo_10i, ↓mo_10r, ↓mo_10q, ↓mo_11ir, ↓mo_12i, ↓mo_13, ↓mo_13m, ↓mo_14_0, ↓mo_15_0, ↓mo_14_1, ↓mo_15_1, ↓mo_14_2, ↓mo_15_2, ↓mo_14_3, ↓mo_15_3, ↓mo_14_4, ↓mo_15_4, ↓mo_14_5, ↓mo_15_5, ↓mo_16, ↓mo_17, ↓mo_18, ↓mo_19, ↓mo_20i, ↓mo_20z, ↓mo_20l, ↓mo_21, ↓mo_22, ↓mo_23, ↓mo_24, ↓mo_25, ↓mo_27, ↓mo_26, ↓mo_28, ↓mo_31, ↓mo_32, ↓mo_33, ↓mo_34, ↓mo_35, ↓mo_36, ↓mo_37, ↓mo_39, ↓mo_40, ↓mo_30_0, ↓mo_41_0, ↓mo_29_0, ↓mo_30_1, ↓mo_41_1, ↓mo_29_1, ↓mo_30_2, ↓mo_41_2, ↓mo_29_2, ↓mo_30_3, ↓mo_41_3, ↓mo_29_3, ↓mo_30_4, ↓mo_41_4, ↓mo_29_4, ↓mo_30_5, ↓mo_41_5, ↓mo_29_5, ↓me_tb, ↓me_lu, me_t2i, me_t2l, me_t2r, me_t2q, me_t13i, me_t19a, me_t19b, me_t19c, me_t19d, me_tae, me_t28e, me_t36e, ↓me_kn_d, ↓me_ky_d, me_ca_e, me_sv_d, me_in_n, me_in_c, decide_true, decide_false, me_rm_n, me_rm_c, me_lk_c, me_kdI, me_kdL, me_kdR, me_kdQ, me_ag_n, me_agI, me_agL, me_agR, me_agQ, me_w9n, me_w9I, me_w9L, me_w9R, me_w9Q, me_psN, me_psS, mn_0, mn_1, mn_00, mn_10, mn_01, mn_11, or_true, true_or, mn_c0, mn_c1, mn_l0, mn_l1, eq_self, List.contains_nil, List.contains_cons, List.elem_nil, List.elem_cons, List.contains_eq_mem, List.not_mem_nil, List.mem_cons, decide_false, decide_true, or_false, false_or, Bool.or_false, Bool.false_or, List.length_cons, List.length_nil, Nat.reduceAdd, Nat.reduceSub, Nat.reduceMul, Nat.reduceBEq, Nat.reduceEqDiff, Nat.reduceLT, Nat.reduceLeDiff, reduceCtorEq, if_true, if_false, ite_true, ite_false, true_and, and_true, Bool.and_true, Bool.true_and, Bool.and_false, Bool.false_and, Bool.not_true, Bool.not_false, Bool.or_true, Bool.true_or, cond_true, cond_false, not_false_eq_true, not_true_eq_false, true_implies, false_implies, implies_true, Nat.le_refl, Nat.add_zero, Nat.zero_add, Nat.zero_le, ↓mo_gi, cs_X1_fill, ↓go_X1_fill_0, ↓lo_X1_fill_0, ↓go_X1_fill_17, ↓lo_X1_fill_17, ↓go_X1_fill_50, ↓lo_X1_fill_50, ↓go_X1_fill_69, ↓lo_X1_fill_69, ↓go_X1_fill_75, ↓lo_X1_fill_75, hoc, f0, f1, f2, f3, f4, f5, f6, f7, f8, f9, a1, a2, a3, a4, a5, a6, a7, a8, roc, g0, g1, g2, g3, g4, g5, g6, g7, q1, q2, q3, q4, q5, eS.1, nI_les (show S 0 0 < 2 ^ 31 by omega) (show n < 2 ^ 31 by omega)]
      refine ⟨fun h => ?_, fun h => ⟨b, n, S, rfl, hb2, eS, hwf, by omega, ?_⟩⟩
      · obtain rfl : n = S 0 0 := by omega
        exact hK _ _ hfr hR
      · have hl1 := pl_sch_len hwf (show n + 1 ≤ S 0 0 by omega)
        have hl2 := pl_f_len S p (pl_sch S n)
        rw [pl_sch_s, List.length_append] at hl1
        by_cases hs : sc_sec S n = S 0 1
        · have e : sc_secI S n = -(nI 9) := by unfold sc_secI; rw [if_pos hs]
          have eb : pl_bar S n = [(n, 0)] := by unfold pl_bar; rw [if_pos hs]
          rw [eb] at hl1
          simp only [↓mo_vb, ↓mo_ve, ↓mo_gi, ↓mo_0, ↓mo_1, ↓mo_2, ↓mo_3i, ↓mo_3l, ↓mo_3r, ↓mo_3q, ↓mo_4_0, ↓mo_4_1, ↓mo_4_2, ↓mo_4_3, ↓mo_4_4, ↓mo_4_5, ↓mo_4_6, ↓mo_4_7, ↓mo_4_8, ↓mo_4_9, ↓mo_4_10, ↓mo_5_0, ↓mo_5_1, ↓mo_5_2, ↓mo_5_3, ↓mo_5_4, ↓mo_5_8, ↓mo_5_9, ↓mo_6_0, ↓mo_6_1, ↓mo_7, ↓mo_8, ↓mo_9, ↓mo_10i, ↓mo_10r, ↓mo_10q, ↓mo_11ir, ↓mo_12i, ↓mo_13, ↓mo_13m, ↓mo_14_0, ↓mo_15_0, ↓mo_14_1, ↓mo_15_1, ↓mo_14_2, ↓mo_15_2, ↓mo_14_3, ↓mo_15_3, ↓mo_14_4, ↓mo_15_4, ↓mo_14_5, ↓mo_15_5, ↓mo_16, ↓mo_17, ↓mo_18, ↓mo_19, ↓mo_20i, ↓mo_20z, ↓mo_20l, ↓mo_21, ↓mo_22, ↓mo_23, ↓mo_24, ↓mo_25, ↓mo_27, ↓mo_26, ↓mo_28, ↓mo_31, ↓mo_32, ↓mo_33, ↓mo_34, ↓mo_35, ↓mo_36, ↓mo_37, ↓mo_39, ↓mo_40, ↓mo_30_0, ↓mo_41_0, ↓mo_29_0, ↓mo_30_1, ↓mo_41_1, ↓mo_29_1, ↓mo_30_2, ↓mo_41_2, ↓mo_29_2, ↓mo_30_3, ↓mo_41_3, ↓mo_29_3, ↓mo_30_4, ↓mo_41_4, ↓mo_29_4, ↓mo_30_5, ↓mo_41_5, ↓mo_29_5, ↓me_tb, ↓me_lu, me_t2i, me_t2l, me_t2r, me_t2q, me_t13i, me_t19a, me_t19b, me_t19c, me_t19d, me_tae, me_t28e, me_t36e, ↓me_kn_d, ↓me_ky_d, me_ca_e, me_sv_d, me_in_n, me_in_c, decide_true, decide_false, me_rm_n, me_rm_c, me_lk_c, me_kdI, me_kdL, me_kdR, me_kdQ, me_ag_n, me_agI, me_agL, me_agR, me_agQ, me_w9n, me_w9I, me_w9L, me_w9R, me_w9Q, me_psN, me_psS, mn_0, mn_1, mn_00, mn_10, mn_01, mn_11, or_true, true_or, mn_c0, mn_c1, mn_l0, mn_l1, eq_self, List.contains_nil, List.contains_cons, List.elem_nil, List.elem_cons, List.contains_eq_mem, List.not_mem_nil, List.mem_cons, decide_false, decide_true, or_false, false_or, Bool.or_false, Bool.false_or, List.length_cons, List.length_nil, Nat.reduceAdd, Nat.reduceSub, Nat.reduceMul, Nat.reduceBEq, Nat.reduceEqDiff, Nat.reduceLT, Nat.reduceLeDiff, reduceCtorEq, if_true, if_false, ite_true, ite_false, true_and, and_true, Bool.and_true, Bool.true_and, Bool.and_false, Bool.false_and, Bool.not_true, Bool.not_false, Bool.or_true, Bool.true_or, cond_true, cond_false, not_false_eq_true, not_true_eq_false, true_implies, false_implies, implies_true, Nat.le_refl, Nat.add_zero, Nat.zero_add, Nat.zero_le, ↓mo_gi, cs_X1_fill, ↓go_X1_fill_0, ↓lo_X1_fill_0, ↓go_X1_fill_17, ↓lo_X1_fill_17, ↓go_X1_fill_50, ↓lo_X1_fill_50, ↓go_X1_fill_69, ↓lo_X1_fill_69, ↓go_X1_fill_75, ↓lo_X1_fill_75, hoc, f0, f1, f2, f3, f4, f5, f6, f7, f8, f9, a1, a2, a3, a4, a5, a6, a7, a8, roc, g0, g1, g2, g3, g4, g5, g6, g7, q1, q2, q3, q4, q5, e]
          refine ⟨a, b, p, n, 0, S, _, rfl, hr2, hb2, hab, eS, hwf, hR, pl_ok_f hok, by simp only [List.length_cons, List.length_nil] at hl1; omega, hp, by omega, by omega, fun v3 w3 hf3 hR3 => ?_⟩
          simp only [↓mo_vb, ↓mo_ve, ↓mo_gi, ↓mo_0, ↓mo_1, ↓mo_2, ↓mo_3i, ↓mo_3l, ↓mo_3r, ↓mo_3q, ↓mo_4_0, ↓mo_4_1, ↓mo_4_2, ↓mo_4_3, ↓mo_4_4, ↓mo_4_5, ↓mo_4_6, ↓mo_4_7, ↓mo_4_8, ↓mo_4_9, ↓mo_4_10, ↓mo_5_0, ↓mo_5_1, ↓mo_5_2, ↓mo_5_3, ↓mo_5_4, ↓mo_5_8, ↓mo_5_9, ↓mo_6_0, ↓mo_6_1, ↓mo_7, ↓mo_8, ↓mo_9, ↓mo_10i, ↓mo_10r, ↓mo_10q, ↓mo_11ir, ↓mo_12i, ↓mo_13, ↓mo_13m, ↓mo_14_0, ↓mo_15_0, ↓mo_14_1, ↓mo_15_1, ↓mo_14_2, ↓mo_15_2, ↓mo_14_3, ↓mo_15_3, ↓mo_14_4, ↓mo_15_4, ↓mo_14_5, ↓mo_15_5, ↓mo_16, ↓mo_17, ↓mo_18, ↓mo_19, ↓mo_20i, ↓mo_20z, ↓mo_20l, ↓mo_21, ↓mo_22, ↓mo_23, ↓mo_24, ↓mo_25, ↓mo_27, ↓mo_26, ↓mo_28, ↓mo_31, ↓mo_32, ↓mo_33, ↓mo_34, ↓mo_35, ↓mo_36, ↓mo_37, ↓mo_39, ↓mo_40, ↓mo_30_0, ↓mo_41_0, ↓mo_29_0, ↓mo_30_1, ↓mo_41_1, ↓mo_29_1, ↓mo_30_2, ↓mo_41_2, ↓mo_29_2, ↓mo_30_3, ↓mo_41_3, ↓mo_29_3, ↓mo_30_4, ↓mo_41_4, ↓mo_29_4, ↓mo_30_5, ↓mo_41_5, ↓mo_29_5, ↓me_tb, ↓me_lu, me_t2i, me_t2l, me_t2r, me_t2q, me_t13i, me_t19a, me_t19b, me_t19c, me_t19d, me_tae, me_t28e, me_t36e, ↓me_kn_d, ↓me_ky_d, me_ca_e, me_sv_d, me_in_n, me_in_c, decide_true, decide_false, me_rm_n, me_rm_c, me_lk_c, me_kdI, me_kdL, me_kdR, me_kdQ, me_ag_n, me_agI, me_agL, me_agR, me_agQ, me_w9n, me_w9I, me_w9L, me_w9R, me_w9Q, me_psN, me_psS, mn_0, mn_1, mn_00, mn_10, mn_01, mn_11, or_true, true_or, mn_c0, mn_c1, mn_l0, mn_l1, eq_self, List.contains_nil, List.contains_cons, List.elem_nil, List.elem_cons, List.contains_eq_mem, List.not_mem_nil, List.mem_cons, decide_false, decide_true, or_false, false_or, Bool.or_false, Bool.false_or, List.length_cons, List.length_nil, Nat.reduceAdd, Nat.reduceSub, Nat.reduceMul, Nat.reduceBEq, Nat.reduceEqDiff, Nat.reduceLT, Nat.reduceLeDiff, reduceCtorEq, if_true, if_false, ite_true, ite_false, true_and, and_true, Bool.and_true, Bool.true_and, Bool.and_false, Bool.false_and, Bool.not_true, Bool.not_false, Bool.or_true, Bool.true_or, cond_true, cond_false, not_false_eq_true, not_true_eq_false, true_implies, false_implies, implies_true, Nat.le_refl, Nat.add_zero, Nat.zero_add, Nat.zero_le, ↓mo_gi, cs_X1_fill, ↓go_X1_fill_0, ↓lo_X1_fill_0, ↓go_X1_fill_17, ↓lo_X1_fill_17, ↓go_X1_fill_50, ↓lo_X1_fill_50, ↓go_X1_fill_69, ↓lo_X1_fill_69, ↓go_X1_fill_75, ↓lo_X1_fill_75, hoc, f0, f1, f2, f3, f4, f5, f6, f7, f8, f9, a1, a2, a3, a4, a5, a6, a7, a8, roc, g0, g1, g2, g3, g4, g5, g6, g7, q1, q2, q3, q4, q5]
          rw [← pl_f_app, ← eb, ← pl_sch_s] at hR3
          exact ⟨S 0 0 - (n + 1), by omega, fr_tr hfr hf3, n + 1, _, by rw [nI_1], Or.inr ⟨_, rfl⟩, by omega, hR3, rfl⟩
        · have e : sc_secI S n = nI (sc_sec S n) := by unfold sc_secI; rw [if_neg hs]
          have sb := hwf.2.2.2.1 (sc_sec S n) (by omega)
          have e5 := (eS.2.2.2.1 (sc_sec S n) (by omega)).1
          simp only [↓mo_vb, ↓mo_ve, ↓mo_gi, ↓mo_0, ↓mo_1, ↓mo_2, ↓mo_3i, ↓mo_3l, ↓mo_3r, ↓mo_3q, ↓mo_4_0, ↓mo_4_1, ↓mo_4_2, ↓mo_4_3, ↓mo_4_4, ↓mo_4_5, ↓mo_4_6, ↓mo_4_7, ↓mo_4_8, ↓mo_4_9, ↓mo_4_10, ↓mo_5_0, ↓mo_5_1, ↓mo_5_2, ↓mo_5_3, ↓mo_5_4, ↓mo_5_8, ↓mo_5_9, ↓mo_6_0, ↓mo_6_1, ↓mo_7, ↓mo_8, ↓mo_9, ↓mo_10i, ↓mo_10r, ↓mo_10q, ↓mo_11ir, ↓mo_12i, ↓mo_13, ↓mo_13m, ↓mo_14_0, ↓mo_15_0, ↓mo_14_1, ↓mo_15_1, ↓mo_14_2, ↓mo_15_2, ↓mo_14_3, ↓mo_15_3, ↓mo_14_4, ↓mo_15_4, ↓mo_14_5, ↓mo_15_5, ↓mo_16, ↓mo_17, ↓mo_18, ↓mo_19, ↓mo_20i, ↓mo_20z, ↓mo_20l, ↓mo_21, ↓mo_22, ↓mo_23, ↓mo_24, ↓mo_25, ↓mo_27, ↓mo_26, ↓mo_28, ↓mo_31, ↓mo_32, ↓mo_33, ↓mo_34, ↓mo_35, ↓mo_36, ↓mo_37, ↓mo_39, ↓mo_40, ↓mo_30_0, ↓mo_41_0, ↓mo_29_0, ↓mo_30_1, ↓mo_41_1, ↓mo_29_1, ↓mo_30_2, ↓mo_41_2, ↓mo_29_2, ↓mo_30_3, ↓mo_41_3, ↓mo_29_3, ↓mo_30_4, ↓mo_41_4, ↓mo_29_4, ↓mo_30_5, ↓mo_41_5, ↓mo_29_5, ↓me_tb, ↓me_lu, me_t2i, me_t2l, me_t2r, me_t2q, me_t13i, me_t19a, me_t19b, me_t19c, me_t19d, me_tae, me_t28e, me_t36e, ↓me_kn_d, ↓me_ky_d, me_ca_e, me_sv_d, me_in_n, me_in_c, decide_true, decide_false, me_rm_n, me_rm_c, me_lk_c, me_kdI, me_kdL, me_kdR, me_kdQ, me_ag_n, me_agI, me_agL, me_agR, me_agQ, me_w9n, me_w9I, me_w9L, me_w9R, me_w9Q, me_psN, me_psS, mn_0, mn_1, mn_00, mn_10, mn_01, mn_11, or_true, true_or, mn_c0, mn_c1, mn_l0, mn_l1, eq_self, List.contains_nil, List.contains_cons, List.elem_nil, List.elem_cons, List.contains_eq_mem, List.not_mem_nil, List.mem_cons, decide_false, decide_true, or_false, false_or, Bool.or_false, Bool.false_or, List.length_cons, List.length_nil, Nat.reduceAdd, Nat.reduceSub, Nat.reduceMul, Nat.reduceBEq, Nat.reduceEqDiff, Nat.reduceLT, Nat.reduceLeDiff, reduceCtorEq, if_true, if_false, ite_true, ite_false, true_and, and_true, Bool.and_true, Bool.true_and, Bool.and_false, Bool.false_and, Bool.not_true, Bool.not_false, Bool.or_true, Bool.true_or, cond_true, cond_false, not_false_eq_true, not_true_eq_false, true_implies, false_implies, implies_true, Nat.le_refl, Nat.add_zero, Nat.zero_add, Nat.zero_le, ↓mo_gi, cs_X1_fill, ↓go_X1_fill_0, ↓lo_X1_fill_0, ↓go_X1_fill_17, ↓lo_X1_fill_17, ↓go_X1_fill_50, ↓lo_X1_fill_50, ↓go_X1_fill_69, ↓lo_X1_fill_69, ↓go_X1_fill_75, ↓lo_X1_fill_75, hoc, f0, f1, f2, f3, f4, f5, f6, f7, f8, f9, a1, a2, a3, a4, a5, a6, a7, a8, roc, g0, g1, g2, g3, g4, g5, g6, g7, q1, q2, q3, q4, q5, e, nI_m9 (show sc_sec S n < 2 ^ 31 by omega), nI_clamp (show sc_sec S n < 2 ^ 31 by omega), e5, nI_eqs (show S 5 (sc_sec S n) < 2 ^ 31 by omega) (show n < 2 ^ 31 by omega)]
          refine ⟨vp_in_nI (by omega) (by omega), fun h5 => ?_, fun h5 => ?_⟩
          · have eb : pl_bar S n = [] := by unfold pl_bar; rw [if_neg hs, if_neg h5]
            have ee : pl_sch S (n + 1) = pl_sch S n := by rw [pl_sch_s, eb, List.append_nil]
            exact ⟨S 0 0 - (n + 1), by omega, hfr, n + 1, _, by rw [nI_1], Or.inr ⟨_, rfl⟩, by omega, by rw [ee]; exact hR, rfl⟩
          · have eb : pl_bar S n = pl_sec S (sc_sec S n) := by unfold pl_bar; rw [if_neg hs, if_pos (Classical.not_not.mp h5)]
            rw [eb] at hl1
            refine ⟨a, b, p, sc_sec S n, S, _, rfl, hr2, hb2, hab, eS, hwf, hR, pl_ok_f hok, by omega, hp, by omega, fun v3 w3 hf3 hR3 => ?_⟩
            simp only [↓mo_vb, ↓mo_ve, ↓mo_gi, ↓mo_0, ↓mo_1, ↓mo_2, ↓mo_3i, ↓mo_3l, ↓mo_3r, ↓mo_3q, ↓mo_4_0, ↓mo_4_1, ↓mo_4_2, ↓mo_4_3, ↓mo_4_4, ↓mo_4_5, ↓mo_4_6, ↓mo_4_7, ↓mo_4_8, ↓mo_4_9, ↓mo_4_10, ↓mo_5_0, ↓mo_5_1, ↓mo_5_2, ↓mo_5_3, ↓mo_5_4, ↓mo_5_8, ↓mo_5_9, ↓mo_6_0, ↓mo_6_1, ↓mo_7, ↓mo_8, ↓mo_9, ↓mo_10i, ↓mo_10r, ↓mo_10q, ↓mo_11ir, ↓mo_12i, ↓mo_13, ↓mo_13m, ↓mo_14_0, ↓mo_15_0, ↓mo_14_1, ↓mo_15_1, ↓mo_14_2, ↓mo_15_2, ↓mo_14_3, ↓mo_15_3, ↓mo_14_4, ↓mo_15_4, ↓mo_14_5, ↓mo_15_5, ↓mo_16, ↓mo_17, ↓mo_18, ↓mo_19, ↓mo_20i, ↓mo_20z, ↓mo_20l, ↓mo_21, ↓mo_22, ↓mo_23, ↓mo_24, ↓mo_25, ↓mo_27, ↓mo_26, ↓mo_28, ↓mo_31, ↓mo_32, ↓mo_33, ↓mo_34, ↓mo_35, ↓mo_36, ↓mo_37, ↓mo_39, ↓mo_40, ↓mo_30_0, ↓mo_41_0, ↓mo_29_0, ↓mo_30_1, ↓mo_41_1, ↓mo_29_1, ↓mo_30_2, ↓mo_41_2, ↓mo_29_2, ↓mo_30_3, ↓mo_41_3, ↓mo_29_3, ↓mo_30_4, ↓mo_41_4, ↓mo_29_4, ↓mo_30_5, ↓mo_41_5, ↓mo_29_5, ↓me_tb, ↓me_lu, me_t2i, me_t2l, me_t2r, me_t2q, me_t13i, me_t19a, me_t19b, me_t19c, me_t19d, me_tae, me_t28e, me_t36e, ↓me_kn_d, ↓me_ky_d, me_ca_e, me_sv_d, me_in_n, me_in_c, decide_true, decide_false, me_rm_n, me_rm_c, me_lk_c, me_kdI, me_kdL, me_kdR, me_kdQ, me_ag_n, me_agI, me_agL, me_agR, me_agQ, me_w9n, me_w9I, me_w9L, me_w9R, me_w9Q, me_psN, me_psS, mn_0, mn_1, mn_00, mn_10, mn_01, mn_11, or_true, true_or, mn_c0, mn_c1, mn_l0, mn_l1, eq_self, List.contains_nil, List.contains_cons, List.elem_nil, List.elem_cons, List.contains_eq_mem, List.not_mem_nil, List.mem_cons, decide_false, decide_true, or_false, false_or, Bool.or_false, Bool.false_or, List.length_cons, List.length_nil, Nat.reduceAdd, Nat.reduceSub, Nat.reduceMul, Nat.reduceBEq, Nat.reduceEqDiff, Nat.reduceLT, Nat.reduceLeDiff, reduceCtorEq, if_true, if_false, ite_true, ite_false, true_and, and_true, Bool.and_true, Bool.true_and, Bool.and_false, Bool.false_and, Bool.not_true, Bool.not_false, Bool.or_true, Bool.true_or, cond_true, cond_false, not_false_eq_true, not_true_eq_false, true_implies, false_implies, implies_true, Nat.le_refl, Nat.add_zero, Nat.zero_add, Nat.zero_le, ↓mo_gi, cs_X1_fill, ↓go_X1_fill_0, ↓lo_X1_fill_0, ↓go_X1_fill_17, ↓lo_X1_fill_17, ↓go_X1_fill_50, ↓lo_X1_fill_50, ↓go_X1_fill_69, ↓lo_X1_fill_69, ↓go_X1_fill_75, ↓lo_X1_fill_75, hoc, f0, f1, f2, f3, f4, f5, f6, f7, f8, f9, a1, a2, a3, a4, a5, a6, a7, a8, roc, g0, g1, g2, g3, g4, g5, g6, g7, q1, q2, q3, q4, q5]
            rw [← pl_f_app, ← eb, ← pl_sch_s] at hR3
            exact ⟨S 0 0 - (n + 1), by omega, fr_tr hfr hf3, n + 1, _, by rw [nI_1], Or.inr ⟨_, rfl⟩, by omega, hR3, rfl⟩
theorem ct_X1_fill {l : Launch} (hfl : l.stackTraces = false) : me_M l yX1_fill (.code yX1_fill cX1_fill 5 none) 4 133 0 sp_rowFill := me_meth (us := 0) (bl := cd_X1_fill) (cs := cs_X1_fill) (hd := [17]) hfl (by decide +kernel) rfl (by decide) ⟨by decide, by decide⟩ (by decide) ck_X1_fill (by
    intro a ha
    simp only [List.mem_cons, List.not_mem_nil, or_false] at ha
    rcases ha with rfl | rfl | rfl
    · exact cl_X1_playSection (ct_X1_playSection hfl) (by decide) (by decide)
    · exact cl_X1_playBar (ct_X1_playBar hfl) (by decide) (by decide)
    · exact cl_X3_sectionOf (ct_X3_sectionOf hfl) (by decide) (by decide)) (by decide) mv_sx vc_X1_fill
