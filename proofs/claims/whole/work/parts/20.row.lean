/-! ===== what is played, as lists; a Row ===== -/
/-- bars as they are scheduled: (bar, pass - 1) -/
def pl_sec (S : sc_T) (s : Nat) : List (Nat × Nat) := (List.range (S 7 s)).flatMap (fun r => (List.range (S 6 s + 1 - S 5 s)).map (fun d => (S 5 s + d, r)))
def pl_bar (S : sc_T) (j : Nat) : List (Nat × Nat) := if sc_sec S j = S 0 1 then [(j, 0)] else if S 5 (sc_sec S j) = j then pl_sec S (sc_sec S j) else []
def pl_sch (S : sc_T) (n : Nat) : List (Nat × Nat) := (List.range n).flatMap (pl_bar S)
def pl_on (S : sc_T) (p : Nat) (q : Nat × Nat) : Bool := decide (¬ S 4 q.1 / 2 ^ q.2 % 2 = 1 ∧ ¬ S 8 p / 2 ^ q.1 % 2 = 1)
def pl_f (S : sc_T) (p : Nat) (T : List (Nat × Nat)) : List (Nat × Nat) := T.filter (pl_on S p)
def pl (S : sc_T) (p : Nat) : List (Nat × Nat) := pl_f S p (pl_sch S (S 0 0))
def pl_len (S : sc_T) (j : Nat) : Nat := 60000000 / sc_tempo S j
def pl_dur (S : sc_T) (j : Nat) : Nat := pl_len S j * sc_units S j
def pl_t (S : sc_T) : List (Nat × Nat) → Nat
  | [] => 0
  | q :: P => pl_dur S q.1 + pl_t S P
/-- the clicks of a bar that begins at t as the place i: (moment, 10 i + beat), the first n of them -/
def pl_cb (S : sc_T) (j t i n : Nat) : List (Nat × Nat) := (List.range n).map (fun k => (t + pl_len S j * sc_sum (fun k => S 3 (9 * j + k)) k, 10 * i + (k + 1)))
def pl_ck (S : sc_T) : List (Nat × Nat) → Nat → Nat → List (Nat × Nat)
  | [], _, _ => []
  | q :: P, t, i => pl_cb S q.1 t i (S 1 q.1) ++ pl_ck S P (t + pl_dur S q.1) (i + 1)
theorem pl_t_app (S : sc_T) : ∀ (P P2 : List (Nat × Nat)), pl_t S (P ++ P2) = pl_t S P + pl_t S P2
  | [], P2 => by simp [pl_t]
  | q :: P, P2 => by simp only [List.cons_append, pl_t, pl_t_app S P P2]; omega
theorem pl_ck_app (S : sc_T) : ∀ (P P2 : List (Nat × Nat)) (t i : Nat), pl_ck S (P ++ P2) t i = pl_ck S P t i ++ pl_ck S P2 (t + pl_t S P) (i + P.length)
  | [], P2, t, i => by simp [pl_ck, pl_t]
  | q :: P, P2, t, i => by
    simp only [List.cons_append, pl_ck, pl_ck_app S P P2, pl_t, List.append_assoc, List.length_cons]
    rw [show t + pl_dur S q.1 + pl_t S P = t + (pl_dur S q.1 + pl_t S P) by omega, show i + 1 + P.length = i + (P.length + 1) by omega]
def pl_ok (S : sc_T) (P : List (Nat × Nat)) : Prop := ∀ q ∈ P, q.1 < S 0 0
theorem pl_ck_len {S : sc_T} (h : sc_wf S) : ∀ (P : List (Nat × Nat)) (t i : Nat), pl_ok S P → (pl_ck S P t i).length ≤ 9 * P.length
  | [], t, i, _ => by simp [pl_ck]
  | q :: P, t, i, hp => by
    have ih := pl_ck_len h P (t + pl_dur S q.1) (i + 1) (fun z hz => hp z (List.mem_cons_of_mem _ hz))
    have hq := h.2.2.1 q.1 (hp q List.mem_cons_self)
    simp only [pl_ck, List.length_append, pl_cb, List.length_map, List.length_range, List.length_cons]
    omega
theorem sc_units_le {S : sc_T} (h : sc_wf S) {j n : Nat} (hj : j < S 0 0) (hn : n ≤ 9) : sc_sum (fun k => S 3 (9 * j + k)) n ≤ n * 4 :=
  sc_sum_le n (fun k hk => ((h.2.2.1 j hj).2.2.2.2.2 k (by omega)).2)
theorem pl_len_le {S : sc_T} (h : sc_wf S) {j : Nat} (hj : j < S 0 0) : 250000 ≤ pl_len S j ∧ pl_len S j ≤ 2000000 := by
  have ht := sc_tempo_le h j hj
  unfold pl_len
  constructor
  · rw [Nat.le_div_iff_mul_le (by omega)]
    omega
  · exact Nat.div_le_of_le_mul (by omega)
theorem pl_dur_le {S : sc_T} (h : sc_wf S) {j : Nat} (hj : j < S 0 0) : pl_dur S j ≤ 72000000 := by
  have h1 := (pl_len_le h hj).2
  have h2 := sc_units_le h hj (h.2.2.1 j hj).2.1
  unfold pl_dur sc_units
  have h3 := (h.2.2.1 j hj).2.1
  calc pl_len S j * sc_sum (fun k => S 3 (9 * j + k)) (S 1 j) ≤ 2000000 * 36 := Nat.mul_le_mul h1 (by omega)
    _ = 72000000 := by decide
theorem pl_t_le {S : sc_T} (h : sc_wf S) : ∀ (P : List (Nat × Nat)), pl_ok S P → pl_t S P ≤ 72000000 * P.length
  | [], _ => by simp [pl_t]
  | q :: P, hp => by
    have ih := pl_t_le h P (fun z hz => hp z (List.mem_cons_of_mem _ hz))
    have h1 := pl_dur_le h (hp q List.mem_cons_self)
    simp only [pl_t, List.length_cons]
    omega
/-- a Row of the class, its cells -/
def rw_ok (b : Nat) : Prop := me_oc b = some 1 ∧ me_gf b 1 0 = some (.inl 0) ∧ me_gf b 1 1 = some (.inl 1) ∧ me_gf b 1 2 = some (.inr (b + 1)) ∧ me_gf b 1 3 = some (.inr (b + 2)) ∧ me_gf b 1 4 = some (.inr (b + 3)) ∧ me_gf b 1 5 = some (.inl 0) ∧ me_gf b 1 6 = some (.inr (b + 4)) ∧ me_gf b 1 7 = some (.inr (b + 5)) ∧
  me_al (b + 1) = some (0, 96) ∧ me_al (b + 2) = some (0, 96) ∧ me_al (b + 3) = some (1, 96) ∧ me_al (b + 4) = some (1, 864) ∧ me_al (b + 5) = some (0, 864)
theorem rw_151 : rw_ok 151 := by unfold rw_ok; decide +kernel
theorem rw_157 : rw_ok 157 := by unfold rw_ok; decide +kernel
theorem rw_176 : rw_ok 176 := by unfold rw_ok; decide +kernel
theorem rw_182 : rw_ok 182 := by unfold rw_ok; decide +kernel
/-- the Row at b holds the places P -/
def rw_at (v : me_V) (w : me_U) (b : Nat) (S : sc_T) (P : List (Nat × Nat)) : Prop :=
  v b 0 = nI P.length ∧ w b 1 = lN (pl_t S P) ∧ (∀ i (h : i < P.length), v (b + 1) i = nI (P[i].1) ∧ v (b + 2) i = nI (P[i].2 + 1) ∧ w (b + 3) i = lN (pl_t S (P.take i))) ∧
  v b 5 = nI (pl_ck S P 0 0).length ∧ ∀ i (h : i < (pl_ck S P 0 0).length), w (b + 4) i = lN ((pl_ck S P 0 0)[i].1) ∧ v (b + 5) i = nI ((pl_ck S P 0 0)[i].2)
