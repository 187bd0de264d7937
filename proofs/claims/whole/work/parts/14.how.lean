/-! ===== how contracts are said and shown ===== -/
def mv_sx : me_Sc := (0, 0, fun _ => 0)
def mv_ok (cs : Nat → Nat × me_P) (bl : List (Nat × List me_I)) (hd : List Nat) (mc nL : Nat) (sp : me_P) : Prop :=
  ∀ (as : List me_S) (v : me_V) (w : me_U) (K : me_K) (X : me_X), sp as v w K X → me_ws9 as ≤ nL ∧ ∃ (N : Nat) (I : Nat → Nat → Nat → me_L → List me_S → me_V → me_U → Prop),
    me_go cs K (fun _ _ k _ E v w => k ≤ mc ∧ X E v w) mc mv_sx bl hd (fun pc k L st v w => ∃ μ, I μ pc k L st v w) N 0 0 (me_ag 0 as) [] v w ∧
    ∀ μ pc k L st v w, pc ∈ hd → I μ pc k L st v w → me_vb cs (me_go cs K (fun _ _ k _ E v w => k ≤ mc ∧ X E v w) mc mv_sx bl hd (fun pc k L st v w => ∃ μ2, μ2 < μ ∧ I μ2 pc k L st v w) N) K (fun _ k _ E v w => k ≤ mc ∧ X E v w) mc mv_sx (me_bk bl pc) pc k L st v w
theorem mv_flat {cs : Nat → Nat × me_P} {bl : List (Nat × List me_I)} {mc nL : Nat} {sp : me_P} (N : Nat)
    (h : ∀ (as : List me_S) (v : me_V) (w : me_U) (K : me_K) (X : me_X), sp as v w K X → me_ws9 as ≤ nL ∧ ∀ Inv : Nat → Nat → me_L → List me_S → me_V → me_U → Prop, me_go cs K (fun _ _ k _ E v w => k ≤ mc ∧ X E v w) mc mv_sx bl [] Inv N 0 0 (me_ag 0 as) [] v w) : mv_ok cs bl [] mc nL sp := by
  intro as v w K X hs
  obtain ⟨h1, h2⟩ := h as v w K X hs
  exact ⟨h1, N, fun _ _ _ _ _ _ _ => False, h2 _, fun μ pc k L st v w hp => absurd hp List.not_mem_nil⟩
def mv_b (P : Prop) (K : me_K) (v : me_V) (w : me_U) : Prop := (P → K (some (vI 1)) v w) ∧ (¬ P → K (some (vI 0)) v w)
theorem mn_0 : nI 0 = 0 := rfl
theorem mn_1 : nI 1 = 1 := rfl
theorem mn_00 : ((0 : Int32) = 0) = True := eq_self 0
theorem mn_10 : ((1 : Int32) = 0) = False := by simp
theorem mn_c0 (a : Nat) : me_c a 0 = nI a := rfl
theorem mn_c1 (a : Nat) : me_c a 1 = -(nI a) := rfl
theorem mn_l0 (a : Nat) : me_lc a 0 = lN a := rfl
theorem mn_l1 (a : Nat) : me_lc a 1 = -(lN a) := rfl
section MO
variable {cs : Nat → Nat × me_P} {J : Nat → Nat → me_L → List me_S → me_V → me_U → Prop} {KR : me_K} {KX : Nat → Nat → me_L → Nat → me_V → me_U → Prop} {km : Nat} {sx : me_Sc} {pc a b k : Nat} {ts : List Nat} {L : me_L} {st : List me_S} {v : me_V} {w : me_U} {nx : Nat → me_L → List me_S → me_V → me_U → Prop}
theorem mo_vb {q : Nat} {len ix pp : Nat} {is : List me_I} : me_vb cs J KR KX km sx ((q, a, b, ts, len, ix, pp) :: is) pc k L st v w = me_op cs J KR KX km sx pc a b ts k L v w (me_vb cs J KR KX km sx is (pc + len)) st q := rfl
theorem mo_ve : me_vb cs J KR KX km sx [] pc k L st v w = J pc k L st v w := rfl
theorem mo_gh {kx : (Nat → Nat → me_L → List me_S → me_V → me_U → Prop) → Nat → Nat → me_L → Nat → me_V → me_U → Prop} {bl : List (Nat × List me_I)} {hd : List Nat} {Inv : Nat → Nat → me_L → List me_S → me_V → me_U → Prop} {n : Nat} (h : hd.contains pc = true) : me_go cs KR kx km sx bl hd Inv (n + 1) pc k L st v w = Inv pc k L st v w := by
  unfold me_go
  rw [if_pos (by simpa using h)]
theorem mo_gb {kx : (Nat → Nat → me_L → List me_S → me_V → me_U → Prop) → Nat → Nat → me_L → Nat → me_V → me_U → Prop} {bl : List (Nat × List me_I)} {hd : List Nat} {Inv : Nat → Nat → me_L → List me_S → me_V → me_U → Prop} {n : Nat} (h : hd.contains pc = false) : me_go cs KR kx km sx bl hd Inv (n + 1) pc k L st v w = me_vb cs (me_go cs KR kx km sx bl hd Inv n) KR (kx (me_go cs KR kx km sx bl hd Inv n)) km sx (me_bk bl pc) pc k L st v w := by
  conv => lhs; unfold me_go
  rw [if_neg (by simpa using h)]
theorem mo_0  : me_op cs J KR KX km sx pc a b ts k L v w nx st 0 = (nx k L (vI (me_c a b) :: st) v w) := rfl
theorem mo_1  : me_op cs J KR KX km sx pc a b ts k L v w nx st 1 = (nx k L (vL (me_lc a b) :: st) v w) := rfl
theorem mo_2i {x : Int32} (h : me_lk a L = some (vI x)) : me_op cs J KR KX km sx pc a 0 ts k L v w nx st 2 = (nx k L (vI x :: st) v w) := by simp only [me_op, h, me_kd, true_and]
theorem mo_2l {x : Int64} (h : me_lk a L = some (vL x)) : me_op cs J KR KX km sx pc a 1 ts k L v w nx st 2 = (nx k L (vL x :: st) v w) := by simp only [me_op, h, me_kd, true_and]
theorem mo_2r {x : Nat} (h : me_lk a L = some (vR x)) : me_op cs J KR KX km sx pc a 2 ts k L v w nx st 2 = (nx k L (vR x :: st) v w) := by simp only [me_op, h, me_kd, true_and]
theorem mo_2q {x : Nat} (h : me_lk a L = some (vQ x)) : me_op cs J KR KX km sx pc a 2 ts k L v w nx st 2 = (nx k L (vQ x :: st) v w) := by simp only [me_op, h, me_kd, true_and]
theorem mo_3i {x : Int32} : me_op cs J KR KX km sx pc a 0 ts k L v w nx (vI x :: st) 3 = (nx k (me_sv a (vI x) L) st v w) := by simp only [me_op, me_t1, me_kd, true_and]
theorem mo_3l {x : Int64} : me_op cs J KR KX km sx pc a 1 ts k L v w nx (vL x :: st) 3 = (nx k (me_sv a (vL x) L) st v w) := by simp only [me_op, me_t1, me_kd, true_and]
theorem mo_3r {x : Nat} : me_op cs J KR KX km sx pc a 2 ts k L v w nx (vR x :: st) 3 = (nx k (me_sv a (vR x) L) st v w) := by simp only [me_op, me_t1, me_kd, true_and]
theorem mo_3q {x : Nat} : me_op cs J KR KX km sx pc a 2 ts k L v w nx (vQ x :: st) 3 = (nx k (me_sv a (vQ x) L) st v w) := by simp only [me_op, me_t1, me_kd, true_and]
theorem mo_4_0 {x y : Int32} : me_op cs J KR KX km sx pc 0 b ts k L v w nx (vI y :: vI x :: st) 4 = (nx k L (vI (x + y) :: st) v w) := by simp [me_op, me_tI, me_ib]
theorem mo_4_1 {x y : Int32} : me_op cs J KR KX km sx pc 1 b ts k L v w nx (vI y :: vI x :: st) 4 = (nx k L (vI (x - y) :: st) v w) := by simp [me_op, me_tI, me_ib]
theorem mo_4_2 {x y : Int32} : me_op cs J KR KX km sx pc 2 b ts k L v w nx (vI y :: vI x :: st) 4 = (nx k L (vI (x * y) :: st) v w) := by simp [me_op, me_tI, me_ib]
theorem mo_4_3 {x y : Int32} : me_op cs J KR KX km sx pc 3 b ts k L v w nx (vI y :: vI x :: st) 4 = (nx k L (vI (x &&& y) :: st) v w) := by simp [me_op, me_tI, me_ib]
theorem mo_4_4 {x y : Int32} : me_op cs J KR KX km sx pc 4 b ts k L v w nx (vI y :: vI x :: st) 4 = (nx k L (vI (x ||| y) :: st) v w) := by simp [me_op, me_tI, me_ib]
theorem mo_4_5 {x y : Int32} : me_op cs J KR KX km sx pc 5 b ts k L v w nx (vI y :: vI x :: st) 4 = (nx k L (vI (x ^^^ y) :: st) v w) := by simp [me_op, me_tI, me_ib]
theorem mo_4_6 {x y : Int32} : me_op cs J KR KX km sx pc 6 b ts k L v w nx (vI y :: vI x :: st) 4 = (nx k L (vI (x <<< (y &&& 31)) :: st) v w) := by simp [me_op, me_tI, me_ib]
theorem mo_4_7 {x y : Int32} : me_op cs J KR KX km sx pc 7 b ts k L v w nx (vI y :: vI x :: st) 4 = (nx k L (vI (x >>> (y &&& 31)) :: st) v w) := by simp [me_op, me_tI, me_ib]
theorem mo_4_8 {x y : Int32} : me_op cs J KR KX km sx pc 8 b ts k L v w nx (vI y :: vI x :: st) 4 = (¬ y = 0 ∧ nx k L (vI (x / y) :: st) v w) := by simp [me_op, me_tI, me_ib]
theorem mo_4_9 {x y : Int32} : me_op cs J KR KX km sx pc 9 b ts k L v w nx (vI y :: vI x :: st) 4 = (¬ y = 0 ∧ nx k L (vI (x - x / y * y) :: st) v w) := by simp [me_op, me_tI, me_ib]
theorem mo_4_10 {x y : Int32} : me_op cs J KR KX km sx pc 10 b ts k L v w nx (vI y :: vI x :: st) 4 = (nx k L (vI (x.toUInt32 >>> (y.toUInt32 &&& Int32.toUInt32 31)).toInt32 :: st) v w) := by simp [me_op, me_tI, me_ib]
theorem mo_5_0 {x y : Int64} : me_op cs J KR KX km sx pc 0 b ts k L v w nx (vL y :: vL x :: st) 5 = (nx k L (vL (x + y) :: st) v w) := by simp [me_op, me_tL, me_lb]
theorem mo_5_1 {x y : Int64} : me_op cs J KR KX km sx pc 1 b ts k L v w nx (vL y :: vL x :: st) 5 = (nx k L (vL (x - y) :: st) v w) := by simp [me_op, me_tL, me_lb]
theorem mo_5_2 {x y : Int64} : me_op cs J KR KX km sx pc 2 b ts k L v w nx (vL y :: vL x :: st) 5 = (nx k L (vL (x * y) :: st) v w) := by simp [me_op, me_tL, me_lb]
theorem mo_5_3 {x y : Int64} : me_op cs J KR KX km sx pc 3 b ts k L v w nx (vL y :: vL x :: st) 5 = (nx k L (vL (x &&& y) :: st) v w) := by simp [me_op, me_tL, me_lb]
theorem mo_5_4 {x y : Int64} : me_op cs J KR KX km sx pc 4 b ts k L v w nx (vL y :: vL x :: st) 5 = (nx k L (vL (x ||| y) :: st) v w) := by simp [me_op, me_tL, me_lb]
theorem mo_5_8 {x y : Int64} : me_op cs J KR KX km sx pc 8 b ts k L v w nx (vL y :: vL x :: st) 5 = (¬ y = 0 ∧ nx k L (vL (x / y) :: st) v w) := by simp [me_op, me_tL, me_lb]
theorem mo_5_9 {x y : Int64} : me_op cs J KR KX km sx pc 9 b ts k L v w nx (vL y :: vL x :: st) 5 = (¬ y = 0 ∧ nx k L (vL (x - x / y * y) :: st) v w) := by simp [me_op, me_tL, me_lb]
theorem mo_6_0 {x : Int64} {y : Int32} : me_op cs J KR KX km sx pc 0 b ts k L v w nx (vI y :: vL x :: st) 6 = (nx k L (vL (x <<< (y.toInt64 &&& 63)) :: st) v w) := rfl
theorem mo_6_1 {x : Int64} {y : Int32} : me_op cs J KR KX km sx pc 1 b ts k L v w nx (vI y :: vL x :: st) 6 = (nx k L (vL (x.toUInt64 >>> (y.toInt64.toUInt64 &&& Int64.toUInt64 63)).toInt64 :: st) v w) := rfl
theorem mo_7 {x : Int32} : me_op cs J KR KX km sx pc a b ts k L v w nx (vI x :: st) 7 = (nx k L (vL x.toInt64 :: st) v w) := rfl
theorem mo_8 {x : Int64} : me_op cs J KR KX km sx pc a b ts k L v w nx (vL x :: st) 8 = (nx k L (vI x.toInt32 :: st) v w) := rfl
theorem mo_9 {x y : Int64} : me_op cs J KR KX km sx pc a b ts k L v w nx (vL y :: vL x :: st) 9 = (nx k L (vI (lg_cmp x y) :: st) v w) := rfl
theorem mo_10i {x : Int32} : me_op cs J KR KX km sx pc a b ts k L v w nx (vI x :: st) 10 = (nx k L (vI x :: vI x :: st) v w) := by simp only [me_op, me_t1, me_wd, true_and]
theorem mo_10r {x : Nat} : me_op cs J KR KX km sx pc a b ts k L v w nx (vR x :: st) 10 = (nx k L (vR x :: vR x :: st) v w) := by simp only [me_op, me_t1, me_wd, true_and]
theorem mo_10q {x : Nat} : me_op cs J KR KX km sx pc a b ts k L v w nx (vQ x :: st) 10 = (nx k L (vQ x :: vQ x :: st) v w) := by simp only [me_op, me_t1, me_wd, true_and]
theorem mo_11ir {x : Int32} {y : Nat} : me_op cs J KR KX km sx pc a b ts k L v w nx (vI x :: vR y :: st) 11 = (nx k L (vI x :: vR y :: vI x :: vR y :: st) v w) := by simp only [me_op, me_t1, me_wd, true_and]
theorem mo_12i {x : Int32} : me_op cs J KR KX km sx pc a b ts k L v w nx (vI x :: st) 12 = (nx k L st v w) := by simp only [me_op, me_t1, me_wd, true_and]
theorem mo_13 {x : Int32} (h : me_lk a L = some (vI x)) : me_op cs J KR KX km sx pc a b [] k L v w nx st 13 = (nx k (me_sv a (vI (x + nI b)) L) st v w) := by simp only [me_op, h, List.headD_nil, me_c, if_true]
theorem mo_13m {x : Int32} (h : me_lk a L = some (vI x)) : me_op cs J KR KX km sx pc a b [1] k L v w nx st 13 = (nx k (me_sv a (vI (x + -(nI b))) L) st v w) := by simp [me_op, h, me_c]
theorem mo_14_0 {x : Int32} : me_op cs J KR KX km sx pc a 0 ts k L v w nx (vI x :: st) 14 = ((x = 0 → J a k L st v w) ∧ (¬ (x = 0) → nx k L st v w)) := rfl
theorem mo_15_0 {x y : Int32} : me_op cs J KR KX km sx pc a 0 ts k L v w nx (vI y :: vI x :: st) 15 = ((x = y → J a k L st v w) ∧ (¬ (x = y) → nx k L st v w)) := rfl
theorem mo_14_1 {x : Int32} : me_op cs J KR KX km sx pc a 1 ts k L v w nx (vI x :: st) 14 = ((¬ x = 0 → J a k L st v w) ∧ (¬ (¬ x = 0) → nx k L st v w)) := rfl
theorem mo_15_1 {x y : Int32} : me_op cs J KR KX km sx pc a 1 ts k L v w nx (vI y :: vI x :: st) 15 = ((¬ x = y → J a k L st v w) ∧ (¬ (¬ x = y) → nx k L st v w)) := rfl
theorem mo_14_2 {x : Int32} : me_op cs J KR KX km sx pc a 2 ts k L v w nx (vI x :: st) 14 = ((x < 0 → J a k L st v w) ∧ (¬ (x < 0) → nx k L st v w)) := rfl
theorem mo_15_2 {x y : Int32} : me_op cs J KR KX km sx pc a 2 ts k L v w nx (vI y :: vI x :: st) 15 = ((x < y → J a k L st v w) ∧ (¬ (x < y) → nx k L st v w)) := rfl
theorem mo_14_3 {x : Int32} : me_op cs J KR KX km sx pc a 3 ts k L v w nx (vI x :: st) 14 = ((0 ≤ x → J a k L st v w) ∧ (¬ (0 ≤ x) → nx k L st v w)) := rfl
theorem mo_15_3 {x y : Int32} : me_op cs J KR KX km sx pc a 3 ts k L v w nx (vI y :: vI x :: st) 15 = ((y ≤ x → J a k L st v w) ∧ (¬ (y ≤ x) → nx k L st v w)) := rfl
theorem mo_14_4 {x : Int32} : me_op cs J KR KX km sx pc a 4 ts k L v w nx (vI x :: st) 14 = ((0 < x → J a k L st v w) ∧ (¬ (0 < x) → nx k L st v w)) := rfl
theorem mo_15_4 {x y : Int32} : me_op cs J KR KX km sx pc a 4 ts k L v w nx (vI y :: vI x :: st) 15 = ((y < x → J a k L st v w) ∧ (¬ (y < x) → nx k L st v w)) := rfl
theorem mo_14_5 {x : Int32} : me_op cs J KR KX km sx pc a 5 ts k L v w nx (vI x :: st) 14 = ((x ≤ 0 → J a k L st v w) ∧ (¬ (x ≤ 0) → nx k L st v w)) := rfl
theorem mo_15_5 {x y : Int32} : me_op cs J KR KX km sx pc a 5 ts k L v w nx (vI y :: vI x :: st) 15 = ((x ≤ y → J a k L st v w) ∧ (¬ (x ≤ y) → nx k L st v w)) := rfl
theorem mo_16  : me_op cs J KR KX km sx pc a b ts k L v w nx st 16 = (J a k L st v w) := rfl
theorem mo_17 {x : Int32} {t0 : Nat} : me_op cs J KR KX km sx pc a b (t0 :: ts) k L v w nx (vI x :: st) 17 = (me_tb x (fun t => J t k L st v w) a ts ∧ ((x < nI a ∨ nI (a + ((t0 :: ts).length - 2)) < x) → J t0 k L st v w)) := rfl
theorem mo_18 {x : Int32} : me_op cs J KR KX km sx pc a b ts k L v w nx (vI x :: st) 18 = (me_lu x (fun t => J t k L st v w) ts) := rfl
theorem mo_19i {r : Nat} (h : me_gf r a b = some (.inl 0)) : me_op cs J KR KX km sx pc a b ts k L v w nx (vR r :: st) 19 = (nx k L (vI (v r b) :: st) v w) := by simp only [me_op, me_tR, h]
theorem mo_19z {r : Nat} (h : me_gf r a b = some (.inl 2)) : me_op cs J KR KX km sx pc a b ts k L v w nx (vR r :: st) 19 = (nx k L (vI (v r b) :: st) v w) := by simp only [me_op, me_tR, h]
theorem mo_19l {r : Nat} (h : me_gf r a b = some (.inl 1)) : me_op cs J KR KX km sx pc a b ts k L v w nx (vR r :: st) 19 = (nx k L (vL (w r b) :: st) v w) := by simp only [me_op, me_tR, h]
theorem mo_19r {r t : Nat} (h : me_gf r a b = some (.inr t)) : me_op cs J KR KX km sx pc a b ts k L v w nx (vR r :: st) 19 = (nx k L (vR t :: st) v w) := by simp only [me_op, me_tR, h]
theorem mo_20i {r : Nat} {x : Int32} (h : me_gf r a b = some (.inl 0)) : me_op cs J KR KX km sx pc a b ts k L v w nx (vI x :: vR r :: st) 20 = (nx k L st (me_up v r b x) w) := by simp only [me_op, me_t1, me_tR, h]
theorem mo_20z {r : Nat} {x : Int32} (h : me_gf r a b = some (.inl 2)) : me_op cs J KR KX km sx pc a b ts k L v w nx (vI x :: vR r :: st) 20 = ((x = 0 ∨ x = 1) ∧ nx k L st (me_up v r b x) w) := by simp only [me_op, me_t1, me_tR, h]
theorem mo_20l {r : Nat} {x : Int64} (h : me_gf r a b = some (.inl 1)) : me_op cs J KR KX km sx pc a b ts k L v w nx (vL x :: vR r :: st) 20 = (nx k L st v (me_ul w r b x)) := by simp only [me_op, me_t1, me_tR, h]
theorem mo_21 {r n : Nat} {i : Int32} (h : me_al r = some (0, n)) : me_op cs J KR KX km sx pc a b ts k L v w nx (vI i :: vR r :: st) 21 = (vp_in i n ∧ nx k L (vI (v r i.toNatClampNeg) :: st) v w) := by simp only [me_op, me_tI, me_tL, me_tR, h]
theorem mo_22 {r n : Nat} {i : Int32} {x : Int32} (h : me_al r = some (0, n)) : me_op cs J KR KX km sx pc a b ts k L v w nx (vI x :: vI i :: vR r :: st) 22 = (vp_in i n ∧ nx k L st (me_up v r i.toNatClampNeg x) w) := by simp only [me_op, me_tI, me_tL, me_tR, h]
theorem mo_23 {r n : Nat} {i : Int32} (h : me_al r = some (1, n)) : me_op cs J KR KX km sx pc a b ts k L v w nx (vI i :: vR r :: st) 23 = (vp_in i n ∧ nx k L (vL (w r i.toNatClampNeg) :: st) v w) := by simp only [me_op, me_tI, me_tL, me_tR, h]
theorem mo_24 {r n : Nat} {i : Int32} {x : Int64} (h : me_al r = some (1, n)) : me_op cs J KR KX km sx pc a b ts k L v w nx (vL x :: vI i :: vR r :: st) 24 = (vp_in i n ∧ nx k L st v (me_ul w r i.toNatClampNeg x)) := by simp only [me_op, me_tI, me_tL, me_tR, h]
theorem mo_25 {r n : Nat} {i : Int32} (h : me_al r = some (2, n)) : me_op cs J KR KX km sx pc a b ts k L v w nx (vI i :: vR r :: st) 25 = (vp_in i n ∧ nx k L (vI (v r i.toNatClampNeg) :: st) v w) := by simp only [me_op, me_tI, me_tL, me_tR, h]
theorem mo_26 {r n : Nat} {i : Int32} {x : Int32} (h : me_al r = some (2, n)) : me_op cs J KR KX km sx pc a b ts k L v w nx (vI x :: vI i :: vR r :: st) 26 = ((x = 0 ∨ x = 1) ∧ vp_in i n ∧ nx k L st (me_up v r i.toNatClampNeg x) w) := by simp only [me_op, me_tI, me_tL, me_tR, h]
theorem mo_27 {r n : Nat} {i : Int32} (h : me_al r = some (3, n)) : me_op cs J KR KX km sx pc a b ts k L v w nx (vI i :: vR r :: st) 27 = (vp_in i n ∧ nx k L (vR (me_tg r i.toNatClampNeg) :: st) v w) := by simp only [me_op, me_tI, me_tL, me_tR, h]
theorem mo_28 {r kd n : Nat} (h : me_al r = some (kd, n)) : me_op cs J KR KX km sx pc a b ts k L v w nx (vR r :: st) 28 = (nx k L (vI (nI n) :: st) v w) := by simp only [me_op, me_tR, h]
theorem mo_31  : me_op cs J KR KX km sx pc a b ts k L v w nx [] 31 = (k ≤ km ∧ KR none v w) := by simp [me_op]
theorem mo_32 {x : Int32} : me_op cs J KR KX km sx pc a b ts k L v w nx [vI x] 32 = (k ≤ km ∧ KR (some (vI x)) v w) := by simp [me_op, me_tI]
theorem mo_33 {x : Int64} : me_op cs J KR KX km sx pc a b ts k L v w nx [vL x] 33 = (k ≤ km ∧ KR (some (vL x)) v w) := by simp [me_op, me_tL]
theorem mo_34 {x : Int32} : me_op cs J KR KX km sx pc a b ts k L v w nx [vI x] 34 = (k ≤ km ∧ (x = 0 ∨ x = 1) ∧ KR (some (vI x)) v w) := by simp [me_op, me_tI]
theorem mo_35  : me_op cs J KR KX km sx pc a b ts k L v w nx [] 35 = (k + 1 ≤ km ∧ KX pc (k + 1) L a v w) := by simp [me_op]
theorem mo_36 {n dp sp : Int32} {r1 r0 n0 n1 : Nat} (h0 : me_al r0 = some (0, n0)) (h1 : me_al r1 = some (0, n1)) : me_op cs J KR KX km sx pc a b ts k L v w nx (vI n :: vI dp :: vR r1 :: vI sp :: vR r0 :: st) 36 = ((¬ sp < 0 ∧ ¬ dp < 0 ∧ ¬ n < 0 ∧ sp.toNatClampNeg + n.toNatClampNeg ≤ n0 ∧ dp.toNatClampNeg + n.toNatClampNeg ≤ n1 ∧ me_ws9 st ≤ 8) ∧ nx k L st (fun q => if q = r1 then va_cpy (v r0) (v r1) sp.toNatClampNeg dp.toNatClampNeg n.toNatClampNeg else v q) w) := by simp only [me_op, me_tI, me_tR, h0, h1]
theorem mo_37 {x y : Int32} : me_op cs J KR KX km sx pc a b ts k L v w nx (vI y :: vI x :: st) 37 = ((me_ws9 st ≤ 8 ∧ k ≤ km) ∧ nx k L (vI (if y < x then y else x) :: st) v w) := rfl
theorem mo_39 {i : Int32} : me_op cs J KR KX km sx pc a b ts k L v w nx (vI i :: vQ sx.1 :: st) 39 = (vp_in i sx.2.1 ∧ nx k L (vI (sx.2.2 i.toNatClampNeg) :: st) v w) := by simp [me_op, me_tI, me_tQ]
theorem mo_40  : me_op cs J KR KX km sx pc a b ts k L v w nx (vQ sx.1 :: st) 40 = (nx k L (vI (nI sx.2.1) :: st) v w) := by simp [me_op, me_tQ]
theorem mo_30_0 {m : Nat} {sp : me_P} (h : cs a = (m, sp)) : me_op cs J KR KX km sx pc a 0 ts k L v w nx (st) 30 = ((me_ws9 st ≤ 8 ∧ k + m ≤ km) ∧ sp [] v w (fun r v w => nx (k + m) L (me_ps r st) v w) (fun E v w => KX pc (k + m) L E v w)) := by simp [me_op, h]
theorem mo_41_0 {m : Nat} {sp : me_P} (h : cs a = (m, sp)) : me_op cs J KR KX km sx pc a 0 ts k L v w nx (st) 41 = ((me_ws9 st ≤ 8 ∧ k + m ≤ km) ∧ sp [] v w (fun r v w => nx (k + m) L (me_ps r st) v w) (fun E v w => KX pc (k + m) L E v w)) := by simp [me_op, h]
theorem mo_29_0 {r c0 : Nat} {m : Nat} {sp : me_P} (h : cs a = (m, sp)) (h2 : me_oc r = some c0) : me_op cs J KR KX km sx pc a 0 (c0 :: ts) k L v w nx (vR r :: st) 29 = ((me_ws9 st ≤ 8 ∧ k + m ≤ km) ∧ sp [vR r] v w (fun r v w => nx (k + m) L (me_ps r st) v w) (fun E v w => KX pc (k + m) L E v w)) := by simp [me_op, h, h2, me_tR]
theorem mo_30_1 {x0 : me_S} {m : Nat} {sp : me_P} (h : cs a = (m, sp)) : me_op cs J KR KX km sx pc a 1 ts k L v w nx (x0 :: st) 30 = ((me_ws9 st ≤ 8 ∧ k + m ≤ km) ∧ sp [x0] v w (fun r v w => nx (k + m) L (me_ps r st) v w) (fun E v w => KX pc (k + m) L E v w)) := by simp [me_op, h]
theorem mo_41_1 {x0 : me_S} {m : Nat} {sp : me_P} (h : cs a = (m, sp)) : me_op cs J KR KX km sx pc a 1 ts k L v w nx (x0 :: st) 41 = ((me_ws9 st ≤ 8 ∧ k + m ≤ km) ∧ sp [x0] v w (fun r v w => nx (k + m) L (me_ps r st) v w) (fun E v w => KX pc (k + m) L E v w)) := by simp [me_op, h]
theorem mo_29_1 {r c0 : Nat} {x0 : me_S} {m : Nat} {sp : me_P} (h : cs a = (m, sp)) (h2 : me_oc r = some c0) : me_op cs J KR KX km sx pc a 1 (c0 :: ts) k L v w nx (x0 :: vR r :: st) 29 = ((me_ws9 st ≤ 8 ∧ k + m ≤ km) ∧ sp [vR r, x0] v w (fun r v w => nx (k + m) L (me_ps r st) v w) (fun E v w => KX pc (k + m) L E v w)) := by simp [me_op, h, h2, me_tR]
theorem mo_30_2 {x0 x1 : me_S} {m : Nat} {sp : me_P} (h : cs a = (m, sp)) : me_op cs J KR KX km sx pc a 2 ts k L v w nx (x1 :: x0 :: st) 30 = ((me_ws9 st ≤ 8 ∧ k + m ≤ km) ∧ sp [x0, x1] v w (fun r v w => nx (k + m) L (me_ps r st) v w) (fun E v w => KX pc (k + m) L E v w)) := by simp [me_op, h]
theorem mo_41_2 {x0 x1 : me_S} {m : Nat} {sp : me_P} (h : cs a = (m, sp)) : me_op cs J KR KX km sx pc a 2 ts k L v w nx (x1 :: x0 :: st) 41 = ((me_ws9 st ≤ 8 ∧ k + m ≤ km) ∧ sp [x0, x1] v w (fun r v w => nx (k + m) L (me_ps r st) v w) (fun E v w => KX pc (k + m) L E v w)) := by simp [me_op, h]
theorem mo_29_2 {r c0 : Nat} {x0 x1 : me_S} {m : Nat} {sp : me_P} (h : cs a = (m, sp)) (h2 : me_oc r = some c0) : me_op cs J KR KX km sx pc a 2 (c0 :: ts) k L v w nx (x1 :: x0 :: vR r :: st) 29 = ((me_ws9 st ≤ 8 ∧ k + m ≤ km) ∧ sp [vR r, x0, x1] v w (fun r v w => nx (k + m) L (me_ps r st) v w) (fun E v w => KX pc (k + m) L E v w)) := by simp [me_op, h, h2, me_tR]
theorem mo_30_3 {x0 x1 x2 : me_S} {m : Nat} {sp : me_P} (h : cs a = (m, sp)) : me_op cs J KR KX km sx pc a 3 ts k L v w nx (x2 :: x1 :: x0 :: st) 30 = ((me_ws9 st ≤ 8 ∧ k + m ≤ km) ∧ sp [x0, x1, x2] v w (fun r v w => nx (k + m) L (me_ps r st) v w) (fun E v w => KX pc (k + m) L E v w)) := by simp [me_op, h]
theorem mo_41_3 {x0 x1 x2 : me_S} {m : Nat} {sp : me_P} (h : cs a = (m, sp)) : me_op cs J KR KX km sx pc a 3 ts k L v w nx (x2 :: x1 :: x0 :: st) 41 = ((me_ws9 st ≤ 8 ∧ k + m ≤ km) ∧ sp [x0, x1, x2] v w (fun r v w => nx (k + m) L (me_ps r st) v w) (fun E v w => KX pc (k + m) L E v w)) := by simp [me_op, h]
theorem mo_29_3 {r c0 : Nat} {x0 x1 x2 : me_S} {m : Nat} {sp : me_P} (h : cs a = (m, sp)) (h2 : me_oc r = some c0) : me_op cs J KR KX km sx pc a 3 (c0 :: ts) k L v w nx (x2 :: x1 :: x0 :: vR r :: st) 29 = ((me_ws9 st ≤ 8 ∧ k + m ≤ km) ∧ sp [vR r, x0, x1, x2] v w (fun r v w => nx (k + m) L (me_ps r st) v w) (fun E v w => KX pc (k + m) L E v w)) := by simp [me_op, h, h2, me_tR]
theorem mo_30_4 {x0 x1 x2 x3 : me_S} {m : Nat} {sp : me_P} (h : cs a = (m, sp)) : me_op cs J KR KX km sx pc a 4 ts k L v w nx (x3 :: x2 :: x1 :: x0 :: st) 30 = ((me_ws9 st ≤ 8 ∧ k + m ≤ km) ∧ sp [x0, x1, x2, x3] v w (fun r v w => nx (k + m) L (me_ps r st) v w) (fun E v w => KX pc (k + m) L E v w)) := by simp [me_op, h]
theorem mo_41_4 {x0 x1 x2 x3 : me_S} {m : Nat} {sp : me_P} (h : cs a = (m, sp)) : me_op cs J KR KX km sx pc a 4 ts k L v w nx (x3 :: x2 :: x1 :: x0 :: st) 41 = ((me_ws9 st ≤ 8 ∧ k + m ≤ km) ∧ sp [x0, x1, x2, x3] v w (fun r v w => nx (k + m) L (me_ps r st) v w) (fun E v w => KX pc (k + m) L E v w)) := by simp [me_op, h]
theorem mo_29_4 {r c0 : Nat} {x0 x1 x2 x3 : me_S} {m : Nat} {sp : me_P} (h : cs a = (m, sp)) (h2 : me_oc r = some c0) : me_op cs J KR KX km sx pc a 4 (c0 :: ts) k L v w nx (x3 :: x2 :: x1 :: x0 :: vR r :: st) 29 = ((me_ws9 st ≤ 8 ∧ k + m ≤ km) ∧ sp [vR r, x0, x1, x2, x3] v w (fun r v w => nx (k + m) L (me_ps r st) v w) (fun E v w => KX pc (k + m) L E v w)) := by simp [me_op, h, h2, me_tR]
theorem mo_30_5 {x0 x1 x2 x3 x4 : me_S} {m : Nat} {sp : me_P} (h : cs a = (m, sp)) : me_op cs J KR KX km sx pc a 5 ts k L v w nx (x4 :: x3 :: x2 :: x1 :: x0 :: st) 30 = ((me_ws9 st ≤ 8 ∧ k + m ≤ km) ∧ sp [x0, x1, x2, x3, x4] v w (fun r v w => nx (k + m) L (me_ps r st) v w) (fun E v w => KX pc (k + m) L E v w)) := by simp [me_op, h]
theorem mo_41_5 {x0 x1 x2 x3 x4 : me_S} {m : Nat} {sp : me_P} (h : cs a = (m, sp)) : me_op cs J KR KX km sx pc a 5 ts k L v w nx (x4 :: x3 :: x2 :: x1 :: x0 :: st) 41 = ((me_ws9 st ≤ 8 ∧ k + m ≤ km) ∧ sp [x0, x1, x2, x3, x4] v w (fun r v w => nx (k + m) L (me_ps r st) v w) (fun E v w => KX pc (k + m) L E v w)) := by simp [me_op, h]
theorem mo_29_5 {r c0 : Nat} {x0 x1 x2 x3 x4 : me_S} {m : Nat} {sp : me_P} (h : cs a = (m, sp)) (h2 : me_oc r = some c0) : me_op cs J KR KX km sx pc a 5 (c0 :: ts) k L v w nx (x4 :: x3 :: x2 :: x1 :: x0 :: vR r :: st) 29 = ((me_ws9 st ≤ 8 ∧ k + m ≤ km) ∧ sp [vR r, x0, x1, x2, x3, x4] v w (fun r v w => nx (k + m) L (me_ps r st) v w) (fun E v w => KX pc (k + m) L E v w)) := by simp [me_op, h, h2, me_tR]
end MO
theorem me_sv_d (a : Nat) (x : me_S) (L : me_L) : me_sv a x L = (a, x) :: me_rm a x L := rfl
theorem me_rm_n (a : Nat) (x : me_S) : me_rm a x [] = [] := rfl
theorem me_rm_c (a j : Nat) (x y : me_S) (L : me_L) : me_rm a x ((j, y) :: L) = bif !(j == a) && (!(me_kd x == 1 && j == a + 1) && !(j + 1 == a && me_kd y == 1)) then (j, y) :: me_rm a x L else me_rm a x L := rfl
theorem me_lk_c (a j : Nat) (y : me_S) (L : me_L) : me_lk a ((j, y) :: L) = if j = a then some y else me_lk a L := rfl
theorem me_kdI (x : Int32) : me_kd (vI x) = 0 := rfl
theorem me_kdL (x : Int64) : me_kd (vL x) = 1 := rfl
theorem me_kdR (x : Nat) : me_kd (vR x) = 2 := rfl
theorem me_kdQ (x : Nat) : me_kd (vQ x) = 2 := rfl
theorem me_ag_n (i : Nat) : me_ag i [] = [] := rfl
theorem me_agI (i : Nat) (x : Int32) (as : List me_S) : me_ag i (vI x :: as) = (i, vI x) :: me_ag (i + 1) as := rfl
theorem me_agL (i : Nat) (x : Int64) (as : List me_S) : me_ag i (vL x :: as) = (i, vL x) :: me_ag (i + 2) as := rfl
theorem me_agR (i : Nat) (x : Nat) (as : List me_S) : me_ag i (vR x :: as) = (i, vR x) :: me_ag (i + 1) as := rfl
theorem me_agQ (i : Nat) (x : Nat) (as : List me_S) : me_ag i (vQ x :: as) = (i, vQ x) :: me_ag (i + 1) as := rfl
theorem me_w9n : me_ws9 [] = 0 := rfl
theorem me_w9I (x : Int32) (st : List me_S) : me_ws9 (vI x :: st) = 1 + me_ws9 st := rfl
theorem me_w9L (x : Int64) (st : List me_S) : me_ws9 (vL x :: st) = 2 + me_ws9 st := rfl
theorem me_w9R (x : Nat) (st : List me_S) : me_ws9 (vR x :: st) = 1 + me_ws9 st := rfl
theorem me_w9Q (x : Nat) (st : List me_S) : me_ws9 (vQ x :: st) = 1 + me_ws9 st := rfl
theorem me_psN (st : List me_S) : me_ps none st = st := rfl
theorem me_psS (x : me_S) (st : List me_S) : me_ps (some x) st = x :: st := rfl
