/-! ===== the worlds, and a method's contract ===== -/
def me_isN : Cond → Bool
  | .methodLinkNest .. => true
  | .declares _ => true
  | .castable .. => true
  | _ => false
def me_TG : List Cond := lw_tbl.filter goodWord
def me_strs : List (String × Nat × String) := lw_tbl.filterMap (fun w => match w with | .stringRef o i t => some (o, i, t) | _ => none)
def me_xn (e : Nat) : String := match e with
  | 0 => "java/lang/IndexOutOfBoundsException"
  | 1 => "java/lang/IllegalArgumentException"
  | _ => "java/lang/IllegalStateException"
def me_ncs : List (String × String) := [(me_xn 0, me_xn 1), (me_xn 0, me_xn 2), (me_xn 1, me_xn 0), (me_xn 1, me_xn 2), (me_xn 2, me_xn 0), (me_xn 2, me_xn 1)]
def me_Wx (C : me_C) (U : State) (H : Heap) : Prop :=
  va_K C.1 me_cl (me_ty C) U ∧ vx_Zq Bundle.tN "UNASSIGNED_STACK" Bundle.steD (me_A C) U H ∧ vx_Zq Bundle.tN "SUPPRESSED_SENTINEL" Bundle.listD (me_A C) U H ∧
  (∀ t ∈ me_strs, ∃ a : Nat, vk_R t.1 t.2.1 t.2.2 a U) ∧ (∀ w ∈ lw_tbl, me_isN w = true → va_Nw w U) ∧ (∀ q ∈ me_ncs, va_Nc q.1 q.2 U)
theorem me_Nw_go {w : Cond} (hN : me_isN w = true) {u U : State} (hW : u.WarmedH U.vm) (h : va_Nw w u) : va_Nw w U := by
  cases w <;> first | (simp [me_isN] at hN; done) | exact va_Nw.warmM hW h | exact va_Nw.warmD hW h | exact va_Nw.warmC hW h
theorem me_Nw_on {w : Cond} (hN : me_isN w = true) : w.onTables = true := by
  cases w <;> first | (simp [me_isN] at hN; done) | rfl
theorem me_Wx_go {C : me_C} {u U : State} {H H1 : Heap} (hW : u.WarmedH U.vm) (h : me_Wx C u H) (hk : ∀ a : Nat, a < H.size → ¬ me_A C a → H1[a]? = H[a]?) : me_Wx C U H1 := by
  obtain ⟨h1, h2, h3, h4, h5, h6⟩ := h
  refine ⟨va_K.moved hW.alike h1, (vx_Zq.moved hW.alike h2).kept hk, (vx_Zq.moved hW.alike h3).kept hk, fun t ht => ?_, fun w hw hN => me_Nw_go hN hW (h5 w hw hN), fun q hq => va_Nc.moved hW.alike (h6 q hq)⟩
  obtain ⟨a, ha⟩ := h4 t ht
  exact ⟨a, vk_R.warm hW ha⟩
theorem me_Wx_same {C : me_C} {u U : State} {H : Heap} (hv : U.vm = u.vm) (h : me_Wx C u H) : me_Wx C U H := by
  obtain ⟨h1, h2, h3, h4, h5, h6⟩ := h
  have hal : u.vm.Alike U.vm := by rw [hv]; exact Vm.Alike.refl _
  refine ⟨va_K.moved hal h1, vx_Zq.moved hal h2, vx_Zq.moved hal h3, fun t ht => ?_, fun w hw hN => va_Nw.same (me_Nw_on hN) hv.symm (h5 w hw hN), fun q hq => va_Nc.moved hal (h6 q hq)⟩
  obtain ⟨a, ha⟩ := h4 t ht
  exact ⟨a, vk_R.same hv ha⟩
def me_W (C : me_C) (v : me_V) (w : me_U) (U : State) : Prop := me_Wx C U U.heap ∧ va_P C.1 me_cl (me_ws C v w) U.heap ∧ va_D (me_A C) (me_ws C v w) ∧ me_B C ≤ U.heap.size
theorem me_W_blind {C : me_C} {v : me_V} {w : me_U} {U : State} (g : JFrame) (mk : MethodId) (a : Array Value) (h : me_W C v w U) : me_W C v w (U.calling g mk a) := by
  obtain ⟨h1, h2, h3, h4⟩ := h
  exact ⟨me_Wx_same (u := U) rfl h1, h2, h3, h4⟩
def me_Wp (C : me_C) (v : me_V) (w : me_U) (U : State) : Prop := va_P C.1 me_cl (me_ws C v w) U.heap ∧ va_D (me_A C) (me_ws C v w)
def me_Qc (C : me_C) (K : me_K) : Array Value → State → Outcome → State → Prop := fun _ st o t => (∃ (r : Option me_S) (v : me_V) (w : me_U), o = .returned (r.map (me_vl (me_ad C))) ∧ K r v w ∧ me_Wp C v w t) ∧ va_F (me_A C) st t
def me_XC (C : me_C) (X : me_X) : String → State → State → Prop := fun E st t => (∃ (x : Nat) (v : me_V) (w : me_U), E = me_xn x ∧ x < 3 ∧ X x v w ∧ me_Wp C v w t) ∧ va_F (me_A C) st t
/-- a method's contract: where sp holds of its arguments, it comes to an end that sp asks for -/
def me_M (l : Launch) (y : MethodName) (hd : Cond) (fr lo mc : Nat) (sp : me_P) : Prop :=
  ∀ (C : me_C) (as : List me_S) (v : me_V) (w : me_U) (K : me_K) (X : me_X), sp as v w K X →
    vx_Met l y (hd :: me_TG) ({ frames := fr, cells := mc, slots := 6 * mc, locals := lo }) (va_Pc (as.map (me_vl (me_ad C))) (me_W C v w)) (me_Qc C K) (me_XC C X) mc (6 * mc) (me_A C)
/-! ===== what an instruction asks for ===== -/
def me_c (a b : Nat) : Int32 := if b = 0 then nI a else -(nI a)
def me_lc (a b : Nat) : Int64 := if b = 0 then lN a else -(lN a)
def me_ib (a : Nat) (x y : Int32) : Int32 := match a with
  | 0 => x + y
  | 1 => x - y
  | 2 => x * y
  | 3 => x &&& y
  | 4 => x ||| y
  | 5 => x ^^^ y
  | 6 => x <<< (y &&& 31)
  | 7 => x >>> (y &&& 31)
  | 8 => x / y
  | 9 => x - x / y * y
  | _ => (x.toUInt32 >>> (y.toUInt32 &&& Int32.toUInt32 31)).toInt32
def me_lb (a : Nat) (x y : Int64) : Int64 := match a with
  | 0 => x + y
  | 1 => x - y
  | 2 => x * y
  | 3 => x &&& y
  | 4 => x ||| y
  | 8 => x / y
  | _ => x - x / y * y
def me_ls (a : Nat) (x : Int64) (y : Int32) : Int64 := match a with
  | 0 => x <<< (y.toInt64 &&& 63)
  | _ => (x.toUInt64 >>> (y.toInt64.toUInt64 &&& Int64.toUInt64 63)).toInt64
def me_cd (b : Nat) (x y : Int32) : Prop := match b with
  | 0 => x = y
  | 1 => ¬ x = y
  | 2 => x < y
  | 3 => y ≤ x
  | 4 => y < x
  | _ => x ≤ y
def me_lk (a : Nat) : me_L → Option me_S
  | [] => none
  | q :: L => if q.1 = a then some q.2 else me_lk a L
def me_rm (a : Nat) (x : me_S) : me_L → me_L
  | [] => []
  | q :: L => bif !(q.1 == a) && (!(me_kd x == 1 && q.1 == a + 1) && !(q.1 + 1 == a && me_kd q.2 == 1)) then q :: me_rm a x L else me_rm a x L
def me_in (a : Nat) (x : me_S) : me_L → me_L
  | [] => [(a, x)]
  | q :: L => bif decide (a < q.1) then (a, x) :: q :: L else q :: me_in a x L
def me_sv (a : Nat) (x : me_S) (L : me_L) : me_L := me_in a x (me_rm a x L)
def me_t1 (st : List me_S) (f : me_S → List me_S → Prop) : Prop := match st with
  | x :: r => f x r
  | _ => False
def me_tI (st : List me_S) (f : Int32 → List me_S → Prop) : Prop := match st with
  | .inl x :: r => f x r
  | _ => False
def me_tL (st : List me_S) (f : Int64 → List me_S → Prop) : Prop := match st with
  | .inr (.inl x) :: r => f x r
  | _ => False
def me_tR (st : List me_S) (f : Nat → List me_S → Prop) : Prop := match st with
  | .inr (.inr (.inl x)) :: r => f x r
  | _ => False
def me_tQ (st : List me_S) (f : Nat → List me_S → Prop) : Prop := match st with
  | .inr (.inr (.inr x)) :: r => f x r
  | _ => False
theorem me_t1_inv {st : List me_S} {f : me_S → List me_S → Prop} (h : me_t1 st f) : ∃ x r, st = x :: r ∧ f x r := by
  rcases st with _ | ⟨x, r⟩
  · exact h.elim
  · exact ⟨x, r, rfl, h⟩
theorem me_tI_inv {st : List me_S} {f : Int32 → List me_S → Prop} (h : me_tI st f) : ∃ x r, st = vI x :: r ∧ f x r := by
  rcases st with _ | ⟨x | x | x | x, r⟩
  · exact h.elim
  · exact ⟨x, r, rfl, h⟩
  · exact h.elim
  · exact h.elim
  · exact h.elim
theorem me_tL_inv {st : List me_S} {f : Int64 → List me_S → Prop} (h : me_tL st f) : ∃ x r, st = vL x :: r ∧ f x r := by
  rcases st with _ | ⟨x | x | x | x, r⟩
  · exact h.elim
  · exact h.elim
  · exact ⟨x, r, rfl, h⟩
  · exact h.elim
  · exact h.elim
theorem me_tR_inv {st : List me_S} {f : Nat → List me_S → Prop} (h : me_tR st f) : ∃ x r, st = vR x :: r ∧ f x r := by
  rcases st with _ | ⟨x | x | x | x, r⟩
  · exact h.elim
  · exact h.elim
  · exact h.elim
  · exact ⟨x, r, rfl, h⟩
  · exact h.elim
theorem me_tQ_inv {st : List me_S} {f : Nat → List me_S → Prop} (h : me_tQ st f) : ∃ x r, st = vQ x :: r ∧ f x r := by
  rcases st with _ | ⟨x | x | x | x, r⟩
  · exact h.elim
  · exact h.elim
  · exact h.elim
  · exact h.elim
  · exact ⟨x, r, rfl, h⟩
def me_tb (x : Int32) (J : Nat → Prop) : Nat → List Nat → Prop
  | _, [] => True
  | lo, t :: ts => (x = nI lo → J t) ∧ me_tb x J (lo + 1) ts
def me_lu (x : Int32) (J : Nat → Prop) : List Nat → Prop
  | m :: t :: ts => (x = nI m → J t) ∧ (¬ x = nI m → me_lu x J ts)
  | [d] => J d
  | [] => False
def me_ps (r : Option me_S) (st : List me_S) : List me_S := r.toList ++ st
/-- an instruction: its group, numbers a, b, a list, its length, two numbers for the check of it against the bytecode -/
abbrev me_I : Type := Nat × Nat × Nat × List Nat × Nat × Nat × Nat
/-- script's address, length, ints (the law's alone) -/
abbrev me_Sc : Type := Nat × Nat × (Nat → Int32)
def me_op (cs : Nat → Nat × me_P) (J : Nat → Nat → me_L → List me_S → me_V → me_U → Prop) (KR : me_K) (KX : Nat → Nat → me_L → Nat → me_V → me_U → Prop) (km : Nat) (sx : me_Sc)
    (pc a b : Nat) (ts : List Nat) (k : Nat) (L : me_L) (v : me_V) (w : me_U) (nx : Nat → me_L → List me_S → me_V → me_U → Prop) (st : List me_S) (o : Nat) : Prop :=
  match o with
  | 0 => nx k L (vI (me_c a b) :: st) v w
  | 1 => nx k L (vL (me_lc a b) :: st) v w
  | 2 => match me_lk a L with
    | some x => me_kd x = b ∧ nx k L (x :: st) v w
    | none => False
  | 3 => me_t1 st fun x st => me_kd x = b ∧ nx k (me_sv a x L) st v w
  | 4 => me_tI st fun y st => me_tI st fun x st => (8 ≤ a ∧ a ≤ 9 → ¬ y = 0) ∧ nx k L (vI (me_ib a x y) :: st) v w
  | 5 => me_tL st fun y st => me_tL st fun x st => (8 ≤ a → ¬ y = 0) ∧ nx k L (vL (me_lb a x y) :: st) v w
  | 6 => me_tI st fun y st => me_tL st fun x st => nx k L (vL (me_ls a x y) :: st) v w
  | 7 => me_tI st fun x st => nx k L (vL x.toInt64 :: st) v w
  | 8 => me_tL st fun x st => nx k L (vI x.toInt32 :: st) v w
  | 9 => me_tL st fun y st => me_tL st fun x st => nx k L (vI (lg_cmp x y) :: st) v w
  | 10 => me_t1 st fun x st => me_wd x = 1 ∧ nx k L (x :: x :: st) v w
  | 11 => me_t1 st fun x st => me_t1 st fun y st => (me_wd x = 1 ∧ me_wd y = 1) ∧ nx k L (x :: y :: x :: y :: st) v w
  | 12 => me_t1 st fun x st => me_wd x = 1 ∧ nx k L st v w
  | 13 => match me_lk a L with
    | some (.inl x) => nx k (me_sv a (vI (x + me_c b (ts.headD 0))) L) st v w
    | _ => False
  | 14 => me_tI st fun x st => (me_cd b x 0 → J a k L st v w) ∧ (¬ me_cd b x 0 → nx k L st v w)
  | 15 => me_tI st fun y st => me_tI st fun x st => (me_cd b x y → J a k L st v w) ∧ (¬ me_cd b x y → nx k L st v w)
  | 16 => J a k L st v w
  | 17 => me_tI st fun x st => me_tb x (fun t => J t k L st v w) a ts.tail ∧ ((x < nI a ∨ nI (a + (ts.length - 2)) < x) → J (ts.headD 0) k L st v w)
  | 18 => me_tI st fun x st => me_lu x (fun t => J t k L st v w) ts
  | 19 => me_tR st fun r st => match me_gf r a b with
    | some (.inl 1) => nx k L (vL (w r b) :: st) v w
    | some (.inl _) => nx k L (vI (v r b) :: st) v w
    | some (.inr t) => nx k L (vR t :: st) v w
    | none => False
  | 20 => me_t1 st fun x st => me_tR st fun r st => match me_gf r a b, x with
    | some (.inl 0), .inl i => nx k L st (me_up v r b i) w
    | some (.inl 1), .inr (.inl i) => nx k L st v (me_ul w r b i)
    | some (.inl 2), .inl i => (i = 0 ∨ i = 1) ∧ nx k L st (me_up v r b i) w
    | _, _ => False
  | 21 => me_tI st fun i st => me_tR st fun r st => match me_al r with
    | some (0, n) => vp_in i n ∧ nx k L (vI (v r i.toNatClampNeg) :: st) v w
    | _ => False
  | 22 => me_tI st fun x st => me_tI st fun i st => me_tR st fun r st => match me_al r with
    | some (0, n) => vp_in i n ∧ nx k L st (me_up v r i.toNatClampNeg x) w
    | _ => False
  | 23 => me_tI st fun i st => me_tR st fun r st => match me_al r with
    | some (1, n) => vp_in i n ∧ nx k L (vL (w r i.toNatClampNeg) :: st) v w
    | _ => False
  | 24 => me_tL st fun x st => me_tI st fun i st => me_tR st fun r st => match me_al r with
    | some (1, n) => vp_in i n ∧ nx k L st v (me_ul w r i.toNatClampNeg x)
    | _ => False
  | 25 => me_tI st fun i st => me_tR st fun r st => match me_al r with
    | some (2, n) => vp_in i n ∧ nx k L (vI (v r i.toNatClampNeg) :: st) v w
    | _ => False
  | 26 => me_tI st fun x st => me_tI st fun i st => me_tR st fun r st => match me_al r with
    | some (2, n) => (x = 0 ∨ x = 1) ∧ vp_in i n ∧ nx k L st (me_up v r i.toNatClampNeg x) w
    | _ => False
  | 27 => me_tI st fun i st => me_tR st fun r st => match me_al r with
    | some (3, n) => vp_in i n ∧ nx k L (vR (me_tg r i.toNatClampNeg) :: st) v w
    | _ => False
  | 28 => me_tR st fun r st => match me_al r with
    | some (_, n) => nx k L (vI (nI n) :: st) v w
    | none => False
  | 29 => (b < st.length ∧ me_ws9 (st.drop (b + 1)) ≤ 8 ∧ k + (cs a).1 ≤ km) ∧ me_tR (st.drop b) (fun r _ => me_oc r = some (ts.headD 0)) ∧
      (cs a).2 (st.take (b + 1)).reverse v w (fun r v w => nx (k + (cs a).1) L (me_ps r (st.drop (b + 1))) v w) (fun E v w => KX pc (k + (cs a).1) L E v w)
  | 30 => (b ≤ st.length ∧ me_ws9 (st.drop b) ≤ 8 ∧ k + (cs a).1 ≤ km) ∧
      (cs a).2 (st.take b).reverse v w (fun r v w => nx (k + (cs a).1) L (me_ps r (st.drop b)) v w) (fun E v w => KX pc (k + (cs a).1) L E v w)
  | 31 => st = [] ∧ k ≤ km ∧ KR none v w
  | 32 => me_tI st fun x st => st = [] ∧ k ≤ km ∧ KR (some (vI x)) v w
  | 33 => me_tL st fun x st => st = [] ∧ k ≤ km ∧ KR (some (vL x)) v w
  | 34 => me_tI st fun x st => st = [] ∧ k ≤ km ∧ (x = 0 ∨ x = 1) ∧ KR (some (vI x)) v w
  | 35 => st = [] ∧ k + 1 ≤ km ∧ KX pc (k + 1) L a v w
  | 36 => me_tI st fun n st => me_tI st fun dp st => me_tR st fun r1 st => me_tI st fun sp st => me_tR st fun r0 st => match me_al r0, me_al r1 with
    | some (0, n0), some (0, n1) => (¬ sp < 0 ∧ ¬ dp < 0 ∧ ¬ n < 0 ∧ sp.toNatClampNeg + n.toNatClampNeg ≤ n0 ∧ dp.toNatClampNeg + n.toNatClampNeg ≤ n1 ∧ me_ws9 st ≤ 8) ∧
        nx k L st (fun q => if q = r1 then va_cpy (v r0) (v r1) sp.toNatClampNeg dp.toNatClampNeg n.toNatClampNeg else v q) w
    | _, _ => False
  | 37 => me_tI st fun y st => me_tI st fun x st => (me_ws9 st ≤ 8 ∧ k ≤ km) ∧ nx k L (vI (if y < x then y else x) :: st) v w
  | 38 => (b ≤ st.length ∧ me_ws9 (st.drop b) ≤ 8 ∧ k + (cs a).1 ≤ km) ∧
      (cs a).2 (st.take b).reverse v w (fun r v w => nx (k + (cs a).1) L (me_ps r (st.drop b)) v w) (fun _ _ _ => False)
  | 39 => me_tI st fun i st => me_tQ st fun r st => r = sx.1 ∧ vp_in i sx.2.1 ∧ nx k L (vI (sx.2.2 i.toNatClampNeg) :: st) v w
  | 40 => me_tQ st fun r st => r = sx.1 ∧ nx k L (vI (nI sx.2.1) :: st) v w
  | 41 => (b ≤ st.length ∧ me_ws9 (st.drop b) ≤ 8 ∧ k + (cs a).1 ≤ km) ∧
      (cs a).2 (st.take b).reverse v w (fun r v w => nx (k + (cs a).1) L (me_ps r (st.drop b)) v w) (fun E v w => KX pc (k + (cs a).1) L E v w)
  | _ => False
def me_vb (cs : Nat → Nat × me_P) (J : Nat → Nat → me_L → List me_S → me_V → me_U → Prop) (KR : me_K) (KX : Nat → Nat → me_L → Nat → me_V → me_U → Prop) (km : Nat) (sx : me_Sc) : List me_I → Nat → Nat → me_L → List me_S → me_V → me_U → Prop
  | [], pc, k, L, st, v, w => J pc k L st v w
  | q :: is, pc, k, L, st, v, w => me_op cs J KR KX km sx pc q.2.1 q.2.2.1 q.2.2.2.1 k L v w (fun k L st v w => me_vb cs J KR KX km sx is (pc + q.2.2.2.2.1) k L st v w) st q.1
