/-! ===== how contracts are said and shown ===== -/
def mv_sx : me_Sc := (0, 0, fun _ => 0)
def mv_ok (cs : Nat → Nat × me_P) (bl : List (Nat × List me_I)) (hd : List Nat) (mc nL : Nat) (sp : me_P) : Prop :=
  ∀ (as : List me_S) (v : me_V) (w : me_U) (K : me_K) (X : me_X), sp as v w K X → me_ws9 as ≤ nL ∧ ∃ (N : Nat) (I : Nat → Nat → Nat → me_L → List me_S → me_V → me_U → Prop),
    me_go cs K (fun _ _ k _ E v w => k ≤ mc ∧ X E v w) mc mv_sx bl hd (fun pc k L st v w => ∃ μ, I μ pc k L st v w) N 0 0 (me_ag 0 as) [] v w ∧
    ∀ μ pc k L st v w, pc ∈ hd → I μ pc k L st v w → me_vb cs (me_go cs K (fun _ _ k _ E v w => k ≤ mc ∧ X E v w) mc mv_sx bl hd (fun pc k L st v w => ∃ μ2, μ2 < μ ∧ I μ2 pc k L st v w) N) K (fun _ k _ E v w => k ≤ mc ∧ X E v w) mc mv_sx (me_bk bl pc) pc k L st v w
theorem mv_flat {cs : Nat → Nat × me_P} {bl : List (Nat × List me_I)} {mc nL : Nat} {sp : me_P} (N : Nat)
    (h : ∀ (as : List me_S) (v : me_V) (w : me_U) (K : me_K) (X : me_X), sp as v w K X → me_ws9 as ≤ nL ∧ ∀ Inv : Nat → Nat → me_L → List me_S → me_V → me_U → Prop, me_go cs K (fun _ _ k _ E v w => k ≤ mc ∧ X E v w) mc mv_sx bl [] Inv N 0 0 (me_ag 0 as) [] v w) : mv_ok cs bl [] mc nL sp := by
  intro as v w K X hs
  obtain ⟨h1, h2⟩ := h as v w K X hs
  exact ⟨h1, N, fun _ _ _ _ _ _ _ => False, h2 _, fun μ pc k L st v w hp => absurd hp List.not_mem_nil⟩
def mv_b (P : Prop) (K : me_K) (v : me_V) (w : me_U) : Prop := (P → K (some (vI 1)) v w) ∧ (¬ P → K (some (vI 0)) v w)
theorem mn_0 : nI 0 = 0 := rfl
theorem mn_1 : nI 1 = 1 := rfl
theorem mn_00 : ((0 : Int32) = 0) = True := eq_self 0
theorem mn_10 : ((1 : Int32) = 0) = False := by simp
theorem mn_01 : ((0 : Int32) = 1) = False := by simp
theorem mn_11 : ((1 : Int32) = 1) = True := eq_self 1
theorem mn_c0 (a : Nat) : me_c a 0 = nI a := rfl
theorem mn_c1 (a : Nat) : me_c a 1 = -(nI a) := rfl
theorem mn_l0 (a : Nat) : me_lc a 0 = lN a := rfl
theorem mn_l1 (a : Nat) : me_lc a 1 = -(lN a) := rfl
def me_t2 (q : Option me_S) (b : Nat) (f : List me_S → me_V → me_U → Prop) (st : List me_S) (v : me_V) (w : me_U) : Prop := match q with
  | some x => me_kd x = b ∧ f (x :: st) v w
  | none => False
theorem me_t2i (x : Int32) (f : List me_S → me_V → me_U → Prop) (st : List me_S) (v : me_V) (w : me_U) : me_t2 (some (vI x)) 0 f st v w = f (vI x :: st) v w := by simp [me_t2, me_kd]
theorem me_t2l (x : Int64) (f : List me_S → me_V → me_U → Prop) (st : List me_S) (v : me_V) (w : me_U) : me_t2 (some (vL x)) 1 f st v w = f (vL x :: st) v w := by simp [me_t2, me_kd]
theorem me_t2r (x : Nat) (f : List me_S → me_V → me_U → Prop) (st : List me_S) (v : me_V) (w : me_U) : me_t2 (some (vR x)) 2 f st v w = f (vR x :: st) v w := by simp [me_t2, me_kd]
theorem me_t2q (x : Nat) (f : List me_S → me_V → me_U → Prop) (st : List me_S) (v : me_V) (w : me_U) : me_t2 (some (vQ x)) 2 f st v w = f (vQ x :: st) v w := by simp [me_t2, me_kd]
def me_t13 (q : Option me_S) (f : me_L → List me_S → me_V → me_U → Prop) (a : Nat) (L : me_L) (st : List me_S) (c : Int32) (v : me_V) (w : me_U) : Prop := match q with
  | some (.inl x) => f (me_sv a (vI (x + c)) L) st v w
  | _ => False
theorem me_t13i (x : Int32) (f : me_L → List me_S → me_V → me_U → Prop) (a : Nat) (L : me_L) (st : List me_S) (c : Int32) (v : me_V) (w : me_U) : me_t13 (some (vI x)) f a L st c v w = f (me_sv a (vI (x + c)) L) st v w := rfl
def me_t19 (q : Option (Nat ⊕ Nat)) (x : Int32) (y : Int64) (f : List me_S → me_V → me_U → Prop) (st : List me_S) (v : me_V) (w : me_U) : Prop := match q with
  | some (.inl 1) => f (vL y :: st) v w
  | some (.inl _) => f (vI x :: st) v w
  | some (.inr t) => f (vR t :: st) v w
  | none => False
theorem me_t19a (x : Int32) (y : Int64) (f : List me_S → me_V → me_U → Prop) (st : List me_S) (v : me_V) (w : me_U) : me_t19 (some (.inl 0)) x y f st v w = f (vI x :: st) v w := rfl
theorem me_t19b (x : Int32) (y : Int64) (f : List me_S → me_V → me_U → Prop) (st : List me_S) (v : me_V) (w : me_U) : me_t19 (some (.inl 1)) x y f st v w = f (vL y :: st) v w := rfl
theorem me_t19c (x : Int32) (y : Int64) (f : List me_S → me_V → me_U → Prop) (st : List me_S) (v : me_V) (w : me_U) : me_t19 (some (.inl 2)) x y f st v w = f (vI x :: st) v w := rfl
theorem me_t19d (t : Nat) (x : Int32) (y : Int64) (f : List me_S → me_V → me_U → Prop) (st : List me_S) (v : me_V) (w : me_U) : me_t19 (some (.inr t)) x y f st v w = f (vR t :: st) v w := rfl
def me_ta (kd : Nat) (q : Option (Nat × Nat)) (i : Int32) (f : List me_S → me_V → me_U → Prop) (st : List me_S) (v : me_V) (w : me_U) : Prop := match q with
  | some (k2, n) => k2 = kd ∧ vp_in i n ∧ f st v w
  | none => False
theorem me_tae (kd n : Nat) (i : Int32) (f : List me_S → me_V → me_U → Prop) (st : List me_S) (v : me_V) (w : me_U) : me_ta kd (some (kd, n)) i f st v w = (vp_in i n ∧ f st v w) := by simp [me_ta]
def me_t28 (q : Option (Nat × Nat)) (f : List me_S → me_V → me_U → Prop) (st : List me_S) (v : me_V) (w : me_U) : Prop := match q with
  | some (_, n) => f (vI (nI n) :: st) v w
  | none => False
theorem me_t28e (kd n : Nat) (f : List me_S → me_V → me_U → Prop) (st : List me_S) (v : me_V) (w : me_U) : me_t28 (some (kd, n)) f st v w = f (vI (nI n) :: st) v w := rfl
def me_t36 (q0 q1 : Option (Nat × Nat)) (sp dp n : Int32) (f : List me_S → me_V → me_U → Prop) (st : List me_S) (v : me_V) (w : me_U) : Prop := match q0, q1 with
  | some (0, n0), some (0, n1) => (¬ sp < 0 ∧ ¬ dp < 0 ∧ ¬ n < 0 ∧ sp.toNatClampNeg + n.toNatClampNeg ≤ n0 ∧ dp.toNatClampNeg + n.toNatClampNeg ≤ n1 ∧ me_ws9 st ≤ 8) ∧ f st v w
  | _, _ => False
theorem me_t36e (n0 n1 : Nat) (sp dp n : Int32) (f : List me_S → me_V → me_U → Prop) (st : List me_S) (v : me_V) (w : me_U) : me_t36 (some (0, n0)) (some (0, n1)) sp dp n f st v w = ((¬ sp < 0 ∧ ¬ dp < 0 ∧ ¬ n < 0 ∧ sp.toNatClampNeg + n.toNatClampNeg ≤ n0 ∧ dp.toNatClampNeg + n.toNatClampNeg ≤ n1 ∧ me_ws9 st ≤ 8) ∧ f st v w) := rfl
def me_cpv (v : me_V) (r0 r1 : Nat) (sp dp n : Int32) : me_V := fun q => if q = r1 then va_cpy (v r0) (v r1) sp.toNatClampNeg dp.toNatClampNeg n.toNatClampNeg else v q
def me_kn (nx : me_L → List me_S → me_V → me_U → Prop) (L : me_L) (st : List me_S) : me_K := fun r v w => nx L (me_ps r st) v w
def me_ky (KX : Nat → Nat → me_L → Nat → me_V → me_U → Prop) (pc k : Nat) (L : me_L) : me_X := fun E v w => KX pc k L E v w
theorem me_kn_d (nx : me_L → List me_S → me_V → me_U → Prop) (L : me_L) (st : List me_S) (r : Option me_S) (v : me_V) (w : me_U) : me_kn nx L st r v w = nx L (me_ps r st) v w := rfl
theorem me_ky_d (KX : Nat → Nat → me_L → Nat → me_V → me_U → Prop) (pc k : Nat) (L : me_L) (E : Nat) (v : me_V) (w : me_U) : me_ky KX pc k L E v w = KX pc k L E v w := rfl
def me_ca (q : Nat × me_P) (as st : List me_S) (nx : Nat → me_L → List me_S → me_V → me_U → Prop) (KX : Nat → Nat → me_L → Nat → me_V → me_U → Prop) (km pc k : Nat) (L : me_L) (v : me_V) (w : me_U) : Prop := (me_ws9 st ≤ 8 ∧ k + q.1 ≤ km) ∧ q.2 as v w (me_kn (nx (k + q.1)) L st) (me_ky KX pc (k + q.1) L)
theorem me_ca_e (m : Nat) (sp : me_P) (as st : List me_S) (nx : Nat → me_L → List me_S → me_V → me_U → Prop) (KX : Nat → Nat → me_L → Nat → me_V → me_U → Prop) (km pc k : Nat) (L : me_L) (v : me_V) (w : me_U) : me_ca (m, sp) as st nx KX km pc k L v w = ((me_ws9 st ≤ 8 ∧ k + m ≤ km) ∧ sp as v w (me_kn (nx (k + m)) L st) (me_ky KX pc (k + m) L)) := rfl
section MO
variable {cs : Nat → Nat × me_P} {J : Nat → Nat → me_L → List me_S → me_V → me_U → Prop} {KR : me_K} {KX : Nat → Nat → me_L → Nat → me_V → me_U → Prop} {km : Nat} {sx : me_Sc} {pc a b k : Nat} {ts : List Nat} {L : me_L} {st : List me_S} {v : me_V} {w : me_U} {nx : Nat → me_L → List me_S → me_V → me_U → Prop}
theorem mo_vb {q : Nat} {len ix pp : Nat} {is : List me_I} : me_vb cs J KR KX km sx ((q, a, b, ts, len, ix, pp) :: is) pc k L st v w = me_op cs J KR KX km sx pc a b ts k L v w (me_vb cs J KR KX km sx is (pc + len)) st q := rfl
theorem mo_ve : me_vb cs J KR KX km sx [] pc k L st v w = J pc k L st v w := rfl
theorem mo_gh {kx : (Nat → Nat → me_L → List me_S → me_V → me_U → Prop) → Nat → Nat → me_L → Nat → me_V → me_U → Prop} {bl : List (Nat × List me_I)} {hd : List Nat} {Inv : Nat → Nat → me_L → List me_S → me_V → me_U → Prop} {n : Nat} (h : hd.contains pc = true) : me_go cs KR kx km sx bl hd Inv (n + 1) pc k L st v w = Inv pc k L st v w := by
  unfold me_go
  rw [if_pos (by simpa using h)]
theorem mo_gi {kx : (Nat → Nat → me_L → List me_S → me_V → me_U → Prop) → Nat → Nat → me_L → Nat → me_V → me_U → Prop} {bl : List (Nat × List me_I)} {hd : List Nat} {Inv : Nat → Nat → me_L → List me_S → me_V → me_U → Prop} {n : Nat} (hn : (n == 0) = false) (h : hd.contains pc = true) : me_go cs KR kx km sx bl hd Inv n pc k L st v w = Inv pc k L st v w := by
  rcases n with _ | n
  · cases hn
  · exact mo_gh h
theorem mo_gb {kx : (Nat → Nat → me_L → List me_S → me_V → me_U → Prop) → Nat → Nat → me_L → Nat → me_V → me_U → Prop} {bl : List (Nat × List me_I)} {hd : List Nat} {Inv : Nat → Nat → me_L → List me_S → me_V → me_U → Prop} {n : Nat} (h : hd.contains pc = false) : me_go cs KR kx km sx bl hd Inv (n + 1) pc k L st v w = me_vb cs (me_go cs KR kx km sx bl hd Inv n) KR (kx (me_go cs KR kx km sx bl hd Inv n)) km sx (me_bk bl pc) pc k L st v w := by
  conv => lhs; unfold me_go
  rw [if_neg (by simpa using h)]
theorem mo_0  : me_op cs J KR KX km sx pc a b ts k L v w nx st 0 = (nx k L (vI (me_c a b) :: st) v w) := rfl
theorem mo_1  : me_op cs J KR KX km sx pc a b ts k L v w nx st 1 = (nx k L (vL (me_lc a b) :: st) v w) := rfl
theorem mo_2  : me_op cs J KR KX km sx pc a b ts k L v w nx st 2 = (me_t2 (me_lk a L) b (nx k L) st v w) := rfl
theorem mo_3i {x : Int32} : me_op cs J KR KX km sx pc a 0 ts k L v w nx (vI x :: st) 3 = (nx k (me_sv a (vI x) L) st v w) := by simp only [me_op, me_t1, me_kd, true_and]
theorem mo_3l {x : Int64} : me_op cs J KR KX km sx pc a 1 ts k L v w nx (vL x :: st) 3 = (nx k (me_sv a (vL x) L) st v w) := by simp only [me_op, me_t1, me_kd, true_and]
theorem mo_3r {x : Nat} : me_op cs J KR KX km sx pc a 2 ts k L v w nx (vR x :: st) 3 = (nx k (me_sv a (vR x) L) st v w) := by simp only [me_op, me_t1, me_kd, true_and]
theorem mo_3q {x : Nat} : me_op cs J KR KX km sx pc a 2 ts k L v w nx (vQ x :: st) 3 = (nx k (me_sv a (vQ x) L) st v w) := by simp only [me_op, me_t1, me_kd, true_and]
theorem mo_4_0 {x y : Int32} : me_op cs J KR KX km sx pc 0 b ts k L v w nx (vI y :: vI x :: st) 4 = (nx k L (vI (x + y) :: st) v w) := by simp [me_op, me_tI, me_ib]
theorem mo_4_1 {x y : Int32} : me_op cs J KR KX km sx pc 1 b ts k L v w nx (vI y :: vI x :: st) 4 = (nx k L (vI (x - y) :: st) v w) := by simp [me_op, me_tI, me_ib]
theorem mo_4_2 {x y : Int32} : me_op cs J KR KX km sx pc 2 b ts k L v w nx (vI y :: vI x :: st) 4 = (nx k L (vI (x * y) :: st) v w) := by simp [me_op, me_tI, me_ib]
theorem mo_4_3 {x y : Int32} : me_op cs J KR KX km sx pc 3 b ts k L v w nx (vI y :: vI x :: st) 4 = (nx k L (vI (x &&& y) :: st) v w) := by simp [me_op, me_tI, me_ib]
theorem mo_4_4 {x y : Int32} : me_op cs J KR KX km sx pc 4 b ts k L v w nx (vI y :: vI x :: st) 4 = (nx k L (vI (x ||| y) :: st) v w) := by simp [me_op, me_tI, me_ib]
theorem mo_4_5 {x y : Int32} : me_op cs J KR KX km sx pc 5 b ts k L v w nx (vI y :: vI x :: st) 4 = (nx k L (vI (x ^^^ y) :: st) v w) := by simp [me_op, me_tI, me_ib]
theorem mo_4_6 {x y : Int32} : me_op cs J KR KX km sx pc 6 b ts k L v w nx (vI y :: vI x :: st) 4 = (nx k L (vI (x <<< (y &&& 31)) :: st) v w) := by simp [me_op, me_tI, me_ib]
theorem mo_4_7 {x y : Int32} : me_op cs J KR KX km sx pc 7 b ts k L v w nx (vI y :: vI x :: st) 4 = (nx k L (vI (x >>> (y &&& 31)) :: st) v w) := by simp [me_op, me_tI, me_ib]
theorem mo_4_8 {x y : Int32} : me_op cs J KR KX km sx pc 8 b ts k L v w nx (vI y :: vI x :: st) 4 = (¬ y = 0 ∧ nx k L (vI (x / y) :: st) v w) := by simp [me_op, me_tI, me_ib]
theorem mo_4_9 {x y : Int32} : me_op cs J KR KX km sx pc 9 b ts k L v w nx (vI y :: vI x :: st) 4 = (¬ y = 0 ∧ nx k L (vI (x - x / y * y) :: st) v w) := by simp [me_op, me_tI, me_ib]
theorem mo_4_10 {x y : Int32} : me_op cs J KR KX km sx pc 10 b ts k L v w nx (vI y :: vI x :: st) 4 = (nx k L (vI (x.toUInt32 >>> (y.toUInt32 &&& Int32.toUInt32 31)).toInt32 :: st) v w) := by simp [me_op, me_tI, me_ib]
theorem mo_5_0 {x y : Int64} : me_op cs J KR KX km sx pc 0 b ts k L v w nx (vL y :: vL x :: st) 5 = (nx k L (vL (x + y) :: st) v w) := by simp [me_op, me_tL, me_lb]
theorem mo_5_1 {x y : Int64} : me_op cs J KR KX km sx pc 1 b ts k L v w nx (vL y :: vL x :: st) 5 = (nx k L (vL (x - y) :: st) v w) := by simp [me_op, me_tL, me_lb]
theorem mo_5_2 {x y : Int64} : me_op cs J KR KX km sx pc 2 b ts k L v w nx (vL y :: vL x :: st) 5 = (nx k L (vL (x * y) :: st) v w) := by simp [me_op, me_tL, me_lb]
theorem mo_5_3 {x y : Int64} : me_op cs J KR KX km sx pc 3 b ts k L v w nx (vL y :: vL x :: st) 5 = (nx k L (vL (x &&& y) :: st) v w) := by simp [me_op, me_tL, me_lb]
theorem mo_5_4 {x y : Int64} : me_op cs J KR KX km sx pc 4 b ts k L v w nx (vL y :: vL x :: st) 5 = (nx k L (vL (x ||| y) :: st) v w) := by simp [me_op, me_tL, me_lb]
theorem mo_5_8 {x y : Int64} : me_op cs J KR KX km sx pc 8 b ts k L v w nx (vL y :: vL x :: st) 5 = (¬ y = 0 ∧ nx k L (vL (x / y) :: st) v w) := by simp [me_op, me_tL, me_lb]
theorem mo_5_9 {x y : Int64} : me_op cs J KR KX km sx pc 9 b ts k L v w nx (vL y :: vL x :: st) 5 = (¬ y = 0 ∧ nx k L (vL (x - x / y * y) :: st) v w) := by simp [me_op, me_tL, me_lb]
theorem mo_6_0 {x : Int64} {y : Int32} : me_op cs J KR KX km sx pc 0 b ts k L v w nx (vI y :: vL x :: st) 6 = (nx k L (vL (x <<< (y.toInt64 &&& 63)) :: st) v w) := rfl
theorem mo_6_1 {x : Int64} {y : Int32} : me_op cs J KR KX km sx pc 1 b ts k L v w nx (vI y :: vL x :: st) 6 = (nx k L (vL (x.toUInt64 >>> (y.toInt64.toUInt64 &&& Int64.toUInt64 63)).toInt64 :: st) v w) := rfl
theorem mo_7 {x : Int32} : me_op cs J KR KX km sx pc a b ts k L v w nx (vI x :: st) 7 = (nx k L (vL x.toInt64 :: st) v w) := rfl
theorem mo_8 {x : Int64} : me_op cs J KR KX km sx pc a b ts k L v w nx (vL x :: st) 8 = (nx k L (vI x.toInt32 :: st) v w) := rfl
theorem mo_9 {x y : Int64} : me_op cs J KR KX km sx pc a b ts k L v w nx (vL y :: vL x :: st) 9 = (nx k L (vI (lg_cmp x y) :: st) v w) := rfl
theorem mo_10i {x : Int32} : me_op cs J KR KX km sx pc a b ts k L v w nx (vI x :: st) 10 = (nx k L (vI x :: vI x :: st) v w) := by simp only [me_op, me_t1, me_wd, true_and]
theorem mo_10r {x : Nat} : me_op cs J KR KX km sx pc a b ts k L v w nx (vR x :: st) 10 = (nx k L (vR x :: vR x :: st) v w) := by simp only [me_op, me_t1, me_wd, true_and]
theorem mo_10q {x : Nat} : me_op cs J KR KX km sx pc a b ts k L v w nx (vQ x :: st) 10 = (nx k L (vQ x :: vQ x :: st) v w) := by simp only [me_op, me_t1, me_wd, true_and]
theorem mo_11ir {x : Int32} {y : Nat} : me_op cs J KR KX km sx pc a b ts k L v w nx (vI x :: vR y :: st) 11 = (nx k L (vI x :: vR y :: vI x :: vR y :: st) v w) := by simp only [me_op, me_t1, me_wd, true_and]
theorem mo_12i {x : Int32} : me_op cs J KR KX km sx pc a b ts k L v w nx (vI x :: st) 12 = (nx k L st v w) := by simp only [me_op, me_t1, me_wd, true_and]
theorem mo_13  : me_op cs J KR KX km sx pc a b [] k L v w nx st 13 = (me_t13 (me_lk a L) (nx k) a L st (nI b) v w) := rfl
theorem mo_13m  : me_op cs J KR KX km sx pc a b [1] k L v w nx st 13 = (me_t13 (me_lk a L) (nx k) a L st (-(nI b)) v w) := rfl
theorem mo_14_0 {x : Int32} : me_op cs J KR KX km sx pc a 0 ts k L v w nx (vI x :: st) 14 = ((x = 0 → J a k L st v w) ∧ (¬ (x = 0) → nx k L st v w)) := rfl
theorem mo_15_0 {x y : Int32} : me_op cs J KR KX km sx pc a 0 ts k L v w nx (vI y :: vI x :: st) 15 = ((x = y → J a k L st v w) ∧ (¬ (x = y) → nx k L st v w)) := rfl
theorem mo_14_1 {x : Int32} : me_op cs J KR KX km sx pc a 1 ts k L v w nx (vI x :: st) 14 = ((¬ x = 0 → J a k L st v w) ∧ (¬ (¬ x = 0) → nx k L st v w)) := rfl
theorem mo_15_1 {x y : Int32} : me_op cs J KR KX km sx pc a 1 ts k L v w nx (vI y :: vI x :: st) 15 = ((¬ x = y → J a k L st v w) ∧ (¬ (¬ x = y) → nx k L st v w)) := rfl
theorem mo_14_2 {x : Int32} : me_op cs J KR KX km sx pc a 2 ts k L v w nx (vI x :: st) 14 = ((x < 0 → J a k L st v w) ∧ (¬ (x < 0) → nx k L st v w)) := rfl
theorem mo_15_2 {x y : Int32} : me_op cs J KR KX km sx pc a 2 ts k L v w nx (vI y :: vI x :: st) 15 = ((x < y → J a k L st v w) ∧ (¬ (x < y) → nx k L st v w)) := rfl
theorem mo_14_3 {x : Int32} : me_op cs J KR KX km sx pc a 3 ts k L v w nx (vI x :: st) 14 = ((0 ≤ x → J a k L st v w) ∧ (¬ (0 ≤ x) → nx k L st v w)) := rfl
theorem mo_15_3 {x y : Int32} : me_op cs J KR KX km sx pc a 3 ts k L v w nx (vI y :: vI x :: st) 15 = ((y ≤ x → J a k L st v w) ∧ (¬ (y ≤ x) → nx k L st v w)) := rfl
theorem mo_14_4 {x : Int32} : me_op cs J KR KX km sx pc a 4 ts k L v w nx (vI x :: st) 14 = ((0 < x → J a k L st v w) ∧ (¬ (0 < x) → nx k L st v w)) := rfl
theorem mo_15_4 {x y : Int32} : me_op cs J KR KX km sx pc a 4 ts k L v w nx (vI y :: vI x :: st) 15 = ((y < x → J a k L st v w) ∧ (¬ (y < x) → nx k L st v w)) := rfl
theorem mo_14_5 {x : Int32} : me_op cs J KR KX km sx pc a 5 ts k L v w nx (vI x :: st) 14 = ((x ≤ 0 → J a k L st v w) ∧ (¬ (x ≤ 0) → nx k L st v w)) := rfl
theorem mo_15_5 {x y : Int32} : me_op cs J KR KX km sx pc a 5 ts k L v w nx (vI y :: vI x :: st) 15 = ((x ≤ y → J a k L st v w) ∧ (¬ (x ≤ y) → nx k L st v w)) := rfl
theorem mo_16  : me_op cs J KR KX km sx pc a b ts k L v w nx st 16 = (J a k L st v w) := rfl
theorem mo_17 {x : Int32} {t0 : Nat} : me_op cs J KR KX km sx pc a b (t0 :: ts) k L v w nx (vI x :: st) 17 = (me_tb x (fun t => J t k L st v w) a ts ∧ ((x < nI a ∨ nI (a + ((t0 :: ts).length - 2)) < x) → J t0 k L st v w)) := rfl
theorem mo_18 {x : Int32} : me_op cs J KR KX km sx pc a b ts k L v w nx (vI x :: st) 18 = (me_lu x (fun t => J t k L st v w) ts) := rfl
theorem mo_19 {r : Nat} : me_op cs J KR KX km sx pc a b ts k L v w nx (vR r :: st) 19 = (me_t19 (me_gf r a b) (v r b) (w r b) (nx k L) st v w) := rfl
theorem mo_20i {r : Nat} {x : Int32} (h : me_gf r a b = some (.inl 0)) : me_op cs J KR KX km sx pc a b ts k L v w nx (vI x :: vR r :: st) 20 = (nx k L st (me_up v r b x) w) := by simp only [me_op, me_t1, me_tR, h]
theorem mo_20z {r : Nat} {x : Int32} (h : me_gf r a b = some (.inl 2)) : me_op cs J KR KX km sx pc a b ts k L v w nx (vI x :: vR r :: st) 20 = ((x = 0 ∨ x = 1) ∧ nx k L st (me_up v r b x) w) := by simp only [me_op, me_t1, me_tR, h]
theorem mo_20l {r : Nat} {x : Int64} (h : me_gf r a b = some (.inl 1)) : me_op cs J KR KX km sx pc a b ts k L v w nx (vL x :: vR r :: st) 20 = (nx k L st v (me_ul w r b x)) := by simp only [me_op, me_t1, me_tR, h]
theorem mo_21 {r : Nat} {i : Int32}  : me_op cs J KR KX km sx pc a b ts k L v w nx (vI i :: vR r :: st) 21 = (me_ta 0 (me_al r) i (nx k L) (vI (v r i.toNatClampNeg) :: st) v w) := by
  simp only [me_op, me_tI, me_tL, me_tR, me_ta]
  rcases me_al r with _ | ⟨k2, n⟩
  · rfl
  · rcases k2 with _ | _ | _ | _ | k2 <;> simp
theorem mo_22 {r : Nat} {i : Int32} {x : Int32}  : me_op cs J KR KX km sx pc a b ts k L v w nx (vI x :: vI i :: vR r :: st) 22 = (me_ta 0 (me_al r) i (nx k L) st (me_up v r i.toNatClampNeg x) w) := by
  simp only [me_op, me_tI, me_tL, me_tR, me_ta]
  rcases me_al r with _ | ⟨k2, n⟩
  · rfl
  · rcases k2 with _ | _ | _ | _ | k2 <;> simp
theorem mo_23 {r : Nat} {i : Int32}  : me_op cs J KR KX km sx pc a b ts k L v w nx (vI i :: vR r :: st) 23 = (me_ta 1 (me_al r) i (nx k L) (vL (w r i.toNatClampNeg) :: st) v w) := by
  simp only [me_op, me_tI, me_tL, me_tR, me_ta]
  rcases me_al r with _ | ⟨k2, n⟩
  · rfl
  · rcases k2 with _ | _ | _ | _ | k2 <;> simp
theorem mo_24 {r : Nat} {i : Int32} {x : Int64}  : me_op cs J KR KX km sx pc a b ts k L v w nx (vL x :: vI i :: vR r :: st) 24 = (me_ta 1 (me_al r) i (nx k L) st v (me_ul w r i.toNatClampNeg x)) := by
  simp only [me_op, me_tI, me_tL, me_tR, me_ta]
  rcases me_al r with _ | ⟨k2, n⟩
  · rfl
  · rcases k2 with _ | _ | _ | _ | k2 <;> simp
theorem mo_25 {r : Nat} {i : Int32}  : me_op cs J KR KX km sx pc a b ts k L v w nx (vI i :: vR r :: st) 25 = (me_ta 2 (me_al r) i (nx k L) (vI (v r i.toNatClampNeg) :: st) v w) := by
  simp only [me_op, me_tI, me_tL, me_tR, me_ta]
  rcases me_al r with _ | ⟨k2, n⟩
  · rfl
  · rcases k2 with _ | _ | _ | _ | k2 <;> simp
theorem mo_27 {r : Nat} {i : Int32}  : me_op cs J KR KX km sx pc a b ts k L v w nx (vI i :: vR r :: st) 27 = (me_ta 3 (me_al r) i (nx k L) (vR (me_tg r i.toNatClampNeg) :: st) v w) := by
  simp only [me_op, me_tI, me_tL, me_tR, me_ta]
  rcases me_al r with _ | ⟨k2, n⟩
  · rfl
  · rcases k2 with _ | _ | _ | _ | k2 <;> simp
theorem mo_26 {r : Nat} {i x : Int32} : me_op cs J KR KX km sx pc a b ts k L v w nx (vI x :: vI i :: vR r :: st) 26 = ((x = 0 ∨ x = 1) ∧ me_ta 2 (me_al r) i (nx k L) st (me_up v r i.toNatClampNeg x) w) := by
  simp only [me_op, me_tI, me_tL, me_tR, me_ta]
  rcases me_al r with _ | ⟨k2, n⟩
  · simp
  · rcases k2 with _ | _ | _ | _ | k2 <;> simp
theorem mo_28 {r : Nat} : me_op cs J KR KX km sx pc a b ts k L v w nx (vR r :: st) 28 = (me_t28 (me_al r) (nx k L) st v w) := rfl
theorem mo_31  : me_op cs J KR KX km sx pc a b ts k L v w nx [] 31 = (k ≤ km ∧ KR none v w) := by simp [me_op]
theorem mo_32 {x : Int32} : me_op cs J KR KX km sx pc a b ts k L v w nx [vI x] 32 = (k ≤ km ∧ KR (some (vI x)) v w) := by simp [me_op, me_tI]
theorem mo_33 {x : Int64} : me_op cs J KR KX km sx pc a b ts k L v w nx [vL x] 33 = (k ≤ km ∧ KR (some (vL x)) v w) := by simp [me_op, me_tL]
theorem mo_34 {x : Int32} : me_op cs J KR KX km sx pc a b ts k L v w nx [vI x] 34 = (k ≤ km ∧ (x = 0 ∨ x = 1) ∧ KR (some (vI x)) v w) := by simp [me_op, me_tI]
theorem mo_35  : me_op cs J KR KX km sx pc a b ts k L v w nx [] 35 = (k + 1 ≤ km ∧ KX pc (k + 1) L a v w) := by simp [me_op]
theorem mo_36 {n dp sp : Int32} {r1 r0 : Nat} : me_op cs J KR KX km sx pc a b ts k L v w nx (vI n :: vI dp :: vR r1 :: vI sp :: vR r0 :: st) 36 = (me_t36 (me_al r0) (me_al r1) sp dp n (nx k L) st (me_cpv v r0 r1 sp dp n) w) := rfl
theorem mo_37 {x y : Int32} : me_op cs J KR KX km sx pc a b ts k L v w nx (vI y :: vI x :: st) 37 = ((me_ws9 st ≤ 8 ∧ k ≤ km) ∧ nx k L (vI (if y < x then y else x) :: st) v w) := rfl
theorem mo_39 {i : Int32} : me_op cs J KR KX km sx pc a b ts k L v w nx (vI i :: vQ sx.1 :: st) 39 = (vp_in i sx.2.1 ∧ nx k L (vI (sx.2.2 i.toNatClampNeg) :: st) v w) := by simp [me_op, me_tI, me_tQ]
theorem mo_40  : me_op cs J KR KX km sx pc a b ts k L v w nx (vQ sx.1 :: st) 40 = (nx k L (vI (nI sx.2.1) :: st) v w) := by simp [me_op, me_tQ]
theorem mo_30_0  : me_op cs J KR KX km sx pc a 0 ts k L v w nx (st) 30 = (me_ca (cs a) [] st nx KX km pc k L v w) := by simp [me_op, me_ca]; exact fun _ _ => Iff.rfl
theorem mo_41_0  : me_op cs J KR KX km sx pc a 0 ts k L v w nx (st) 41 = (me_ca (cs a) [] st nx KX km pc k L v w) := by simp [me_op, me_ca]; exact fun _ _ => Iff.rfl
theorem mo_29_0 {r c0 : Nat} (h2 : me_oc r = some c0) : me_op cs J KR KX km sx pc a 0 (c0 :: ts) k L v w nx (vR r :: st) 29 = (me_ca (cs a) [vR r] st nx KX km pc k L v w) := by simp [me_op, h2, me_tR, me_ca]; exact fun _ _ => Iff.rfl
theorem mo_30_1 {x0 : me_S}  : me_op cs J KR KX km sx pc a 1 ts k L v w nx (x0 :: st) 30 = (me_ca (cs a) [x0] st nx KX km pc k L v w) := by simp [me_op, me_ca]; exact fun _ _ => Iff.rfl
theorem mo_41_1 {x0 : me_S}  : me_op cs J KR KX km sx pc a 1 ts k L v w nx (x0 :: st) 41 = (me_ca (cs a) [x0] st nx KX km pc k L v w) := by simp [me_op, me_ca]; exact fun _ _ => Iff.rfl
theorem mo_29_1 {r c0 : Nat} {x0 : me_S} (h2 : me_oc r = some c0) : me_op cs J KR KX km sx pc a 1 (c0 :: ts) k L v w nx (x0 :: vR r :: st) 29 = (me_ca (cs a) [vR r, x0] st nx KX km pc k L v w) := by simp [me_op, h2, me_tR, me_ca]; exact fun _ _ => Iff.rfl
theorem mo_30_2 {x0 x1 : me_S}  : me_op cs J KR KX km sx pc a 2 ts k L v w nx (x1 :: x0 :: st) 30 = (me_ca (cs a) [x0, x1] st nx KX km pc k L v w) := by simp [me_op, me_ca]; exact fun _ _ => Iff.rfl
theorem mo_41_2 {x0 x1 : me_S}  : me_op cs J KR KX km sx pc a 2 ts k L v w nx (x1 :: x0 :: st) 41 = (me_ca (cs a) [x0, x1] st nx KX km pc k L v w) := by simp [me_op, me_ca]; exact fun _ _ => Iff.rfl
theorem mo_29_2 {r c0 : Nat} {x0 x1 : me_S} (h2 : me_oc r = some c0) : me_op cs J KR KX km sx pc a 2 (c0 :: ts) k L v w nx (x1 :: x0 :: vR r :: st) 29 = (me_ca (cs a) [vR r, x0, x1] st nx KX km pc k L v w) := by simp [me_op, h2, me_tR, me_ca]; exact fun _ _ => Iff.rfl
theorem mo_30_3 {x0 x1 x2 : me_S}  : me_op cs J KR KX km sx pc a 3 ts k L v w nx (x2 :: x1 :: x0 :: st) 30 = (me_ca (cs a) [x0, x1, x2] st nx KX km pc k L v w) := by simp [me_op, me_ca]; exact fun _ _ => Iff.rfl
theorem mo_41_3 {x0 x1 x2 : me_S}  : me_op cs J KR KX km sx pc a 3 ts k L v w nx (x2 :: x1 :: x0 :: st) 41 = (me_ca (cs a) [x0, x1, x2] st nx KX km pc k L v w) := by simp [me_op, me_ca]; exact fun _ _ => Iff.rfl
theorem mo_29_3 {r c0 : Nat} {x0 x1 x2 : me_S} (h2 : me_oc r = some c0) : me_op cs J KR KX km sx pc a 3 (c0 :: ts) k L v w nx (x2 :: x1 :: x0 :: vR r :: st) 29 = (me_ca (cs a) [vR r, x0, x1, x2] st nx KX km pc k L v w) := by simp [me_op, h2, me_tR, me_ca]; exact fun _ _ => Iff.rfl
theorem mo_30_4 {x0 x1 x2 x3 : me_S}  : me_op cs J KR KX km sx pc a 4 ts k L v w nx (x3 :: x2 :: x1 :: x0 :: st) 30 = (me_ca (cs a) [x0, x1, x2, x3] st nx KX km pc k L v w) := by simp [me_op, me_ca]; exact fun _ _ => Iff.rfl
theorem mo_41_4 {x0 x1 x2 x3 : me_S}  : me_op cs J KR KX km sx pc a 4 ts k L v w nx (x3 :: x2 :: x1 :: x0 :: st) 41 = (me_ca (cs a) [x0, x1, x2, x3] st nx KX km pc k L v w) := by simp [me_op, me_ca]; exact fun _ _ => Iff.rfl
theorem mo_29_4 {r c0 : Nat} {x0 x1 x2 x3 : me_S} (h2 : me_oc r = some c0) : me_op cs J KR KX km sx pc a 4 (c0 :: ts) k L v w nx (x3 :: x2 :: x1 :: x0 :: vR r :: st) 29 = (me_ca (cs a) [vR r, x0, x1, x2, x3] st nx KX km pc k L v w) := by simp [me_op, h2, me_tR, me_ca]; exact fun _ _ => Iff.rfl
theorem mo_30_5 {x0 x1 x2 x3 x4 : me_S}  : me_op cs J KR KX km sx pc a 5 ts k L v w nx (x4 :: x3 :: x2 :: x1 :: x0 :: st) 30 = (me_ca (cs a) [x0, x1, x2, x3, x4] st nx KX km pc k L v w) := by simp [me_op, me_ca]; exact fun _ _ => Iff.rfl
theorem mo_41_5 {x0 x1 x2 x3 x4 : me_S}  : me_op cs J KR KX km sx pc a 5 ts k L v w nx (x4 :: x3 :: x2 :: x1 :: x0 :: st) 41 = (me_ca (cs a) [x0, x1, x2, x3, x4] st nx KX km pc k L v w) := by simp [me_op, me_ca]; exact fun _ _ => Iff.rfl
theorem mo_29_5 {r c0 : Nat} {x0 x1 x2 x3 x4 : me_S} (h2 : me_oc r = some c0) : me_op cs J KR KX km sx pc a 5 (c0 :: ts) k L v w nx (x4 :: x3 :: x2 :: x1 :: x0 :: vR r :: st) 29 = (me_ca (cs a) [vR r, x0, x1, x2, x3, x4] st nx KX km pc k L v w) := by simp [me_op, h2, me_tR, me_ca]; exact fun _ _ => Iff.rfl
end MO
theorem me_sv_d (a : Nat) (x : me_S) (L : me_L) : me_sv a x L = me_in a x (me_rm a x L) := rfl
theorem me_in_n (a : Nat) (x : me_S) : me_in a x [] = [(a, x)] := rfl
theorem me_in_c (a j : Nat) (x y : me_S) (L : me_L) : me_in a x ((j, y) :: L) = bif decide (a < j) then (a, x) :: (j, y) :: L else (j, y) :: me_in a x L := rfl

theorem me_rm_n (a : Nat) (x : me_S) : me_rm a x [] = [] := rfl
theorem me_rm_c (a j : Nat) (x y : me_S) (L : me_L) : me_rm a x ((j, y) :: L) = bif !(j == a) && (!(me_kd x == 1 && j == a + 1) && !(j + 1 == a && me_kd y == 1)) then (j, y) :: me_rm a x L else me_rm a x L := rfl
theorem me_lk_c (a j : Nat) (y : me_S) (L : me_L) : me_lk a ((j, y) :: L) = if j = a then some y else me_lk a L := rfl
theorem me_kdI (x : Int32) : me_kd (vI x) = 0 := rfl
theorem me_kdL (x : Int64) : me_kd (vL x) = 1 := rfl
theorem me_kdR (x : Nat) : me_kd (vR x) = 2 := rfl
theorem me_kdQ (x : Nat) : me_kd (vQ x) = 2 := rfl
theorem me_ag_n (i : Nat) : me_ag i [] = [] := rfl
theorem me_agI (i : Nat) (x : Int32) (as : List me_S) : me_ag i (vI x :: as) = (i, vI x) :: me_ag (i + 1) as := rfl
theorem me_agL (i : Nat) (x : Int64) (as : List me_S) : me_ag i (vL x :: as) = (i, vL x) :: me_ag (i + 2) as := rfl
theorem me_agR (i : Nat) (x : Nat) (as : List me_S) : me_ag i (vR x :: as) = (i, vR x) :: me_ag (i + 1) as := rfl
theorem me_agQ (i : Nat) (x : Nat) (as : List me_S) : me_ag i (vQ x :: as) = (i, vQ x) :: me_ag (i + 1) as := rfl
theorem me_w9n : me_ws9 [] = 0 := rfl
theorem me_w9I (x : Int32) (st : List me_S) : me_ws9 (vI x :: st) = 1 + me_ws9 st := rfl
theorem me_w9L (x : Int64) (st : List me_S) : me_ws9 (vL x :: st) = 2 + me_ws9 st := rfl
theorem me_w9R (x : Nat) (st : List me_S) : me_ws9 (vR x :: st) = 1 + me_ws9 st := rfl
theorem me_w9Q (x : Nat) (st : List me_S) : me_ws9 (vQ x :: st) = 1 + me_ws9 st := rfl
theorem me_psN (st : List me_S) : me_ps none st = st := rfl
theorem me_psS (x : me_S) (st : List me_S) : me_ps (some x) st = x :: st := rfl
