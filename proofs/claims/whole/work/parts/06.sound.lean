/-! ===== what a program checks of an instruction ===== -/
def me_w1 (pp : Nat) (x : Cond) : Bool := decide (lw_tbl[pp]? = some x)
def me_fl (own : String) (i a b pp : Nat) : Bool := match me_cl[a]? with
  | some (Cn, T, N) => decide (b < N) && (me_w1 pp (.fieldLink own i Cn (T b).2.1 (T b).2.2.1) && decide ((T b).1 = Cn))
  | none => false
def me_ck (nm : Nat → MethodName) (own : String) (cc : ByteArray) (nL : Nat) (ret : Option FieldType) (cl9 : List Nat) (pc a b : Nat) (ts : List Nat) (len ix pp o : Nat) : Bool :=
  match o with
  | 0 => (match decode cc pc with
    | .ok (.iconst n, 1) => decide (len = 1) && decide (Int32.ofInt n = me_c a b)
    | .ok (.bipush n, 2) => decide (len = 2) && decide ((Int8.ofInt n).toInt32 = me_c a b)
    | .ok (.sipush n, 3) => decide (len = 3) && decide ((Int16.ofInt n).toInt32 = me_c a b)
    | .ok (.ldc i, 2) => decide (len = 2) && me_w1 pp (.constant own i (me_c a b))
    | .ok (.ldc_w i, 3) => decide (len = 3) && me_w1 pp (.constant own i (me_c a b))
    | _ => false)
  | 1 => (match decode cc pc with
    | .ok (.lconst n, 1) => decide (len = 1) && decide (Int64.ofNat (n : Nat) = me_lc a b)
    | .ok (.ldc2_w i, 3) => decide (len = 3) && me_w1 pp (.constantLong own i (me_lc a b))
    | _ => false)
  | 2 => (match decode cc pc with
    | .ok (.iload_n n, 1) => decide (len = 1) && (decide (b = 0) && decide ((n : Nat) = a))
    | .ok (.iload n, 2) => decide (len = 2) && (decide (b = 0) && decide (n = a))
    | .ok (.lload_n n, 1) => decide (len = 1) && (decide (b = 1) && decide ((n : Nat) = a))
    | .ok (.lload n, 2) => decide (len = 2) && (decide (b = 1) && decide (n = a))
    | .ok (.aload_n n, 1) => decide (len = 1) && (decide (b = 2) && decide ((n : Nat) = a))
    | .ok (.aload n, 2) => decide (len = 2) && (decide (b = 2) && decide (n = a))
    | _ => false)
  | 3 => (match decode cc pc with
    | .ok (.istore_n n, 1) => decide (len = 1) && (decide (b = 0) && (decide ((n : Nat) = a) && decide (a < nL)))
    | .ok (.istore n, 2) => decide (len = 2) && (decide (b = 0) && (decide (n = a) && decide (a < nL)))
    | .ok (.lstore_n n, 1) => decide (len = 1) && (decide (b = 1) && (decide ((n : Nat) = a) && decide (a + 1 < nL)))
    | .ok (.lstore n, 2) => decide (len = 2) && (decide (b = 1) && (decide (n = a) && decide (a + 1 < nL)))
    | .ok (.astore_n n, 1) => decide (len = 1) && (decide (b = 2) && (decide ((n : Nat) = a) && decide (a < nL)))
    | .ok (.astore n, 2) => decide (len = 2) && (decide (b = 2) && (decide (n = a) && decide (a < nL)))
    | _ => false)
  | 4 => (match decode cc pc with
    | .ok (.iadd, 1) => decide (len = 1) && decide (a = 0)
    | .ok (.isub, 1) => decide (len = 1) && decide (a = 1)
    | .ok (.imul, 1) => decide (len = 1) && decide (a = 2)
    | .ok (.iand, 1) => decide (len = 1) && decide (a = 3)
    | .ok (.ior, 1) => decide (len = 1) && decide (a = 4)
    | .ok (.ixor, 1) => decide (len = 1) && decide (a = 5)
    | .ok (.ishl, 1) => decide (len = 1) && decide (a = 6)
    | .ok (.ishr, 1) => decide (len = 1) && decide (a = 7)
    | .ok (.idiv, 1) => decide (len = 1) && decide (a = 8)
    | .ok (.irem, 1) => decide (len = 1) && decide (a = 9)
    | .ok (.iushr, 1) => decide (len = 1) && decide (a = 10)
    | _ => false)
  | 5 => (match decode cc pc with
    | .ok (.ladd, 1) => decide (len = 1) && decide (a = 0)
    | .ok (.lsub, 1) => decide (len = 1) && decide (a = 1)
    | .ok (.lmul, 1) => decide (len = 1) && decide (a = 2)
    | .ok (.land, 1) => decide (len = 1) && decide (a = 3)
    | .ok (.lor, 1) => decide (len = 1) && decide (a = 4)
    | .ok (.ldiv, 1) => decide (len = 1) && decide (a = 8)
    | .ok (.lrem, 1) => decide (len = 1) && decide (a = 9)
    | _ => false)
  | 6 => (match decode cc pc with
    | .ok (.lshl, 1) => decide (len = 1) && decide (a = 0)
    | .ok (.lushr, 1) => decide (len = 1) && decide (a = 1)
    | _ => false)
  | 7 => (match decode cc pc with | .ok (.i2l, 1) => decide (len = 1) | _ => false)
  | 8 => (match decode cc pc with | .ok (.l2i, 1) => decide (len = 1) | _ => false)
  | 9 => (match decode cc pc with | .ok (.lcmp, 1) => decide (len = 1) | _ => false)
  | 10 => (match decode cc pc with | .ok (.dup, 1) => decide (len = 1) | _ => false)
  | 11 => (match decode cc pc with | .ok (.dup2, 1) => decide (len = 1) | _ => false)
  | 12 => (match decode cc pc with | .ok (.pop, 1) => decide (len = 1) | _ => false)
  | 13 => (match decode cc pc with | .ok (.iinc i n, 3) => decide (len = 3) && (decide (i = a) && (decide (Int32.ofInt n = me_c b (ts.headD 0)) && decide (a < nL))) | _ => false)
  | 14 => (match decode cc pc with
    | .ok (.ifCond .eq off, 3) => decide (len = 3) && (decide (b = 0) && decide ((pc : Int) + off = (a : Int)))
    | .ok (.ifCond .ne off, 3) => decide (len = 3) && (decide (b = 1) && decide ((pc : Int) + off = (a : Int)))
    | .ok (.ifCond .lt off, 3) => decide (len = 3) && (decide (b = 2) && decide ((pc : Int) + off = (a : Int)))
    | .ok (.ifCond .ge off, 3) => decide (len = 3) && (decide (b = 3) && decide ((pc : Int) + off = (a : Int)))
    | .ok (.ifCond .gt off, 3) => decide (len = 3) && (decide (b = 4) && decide ((pc : Int) + off = (a : Int)))
    | .ok (.ifCond .le off, 3) => decide (len = 3) && (decide (b = 5) && decide ((pc : Int) + off = (a : Int)))
    | _ => false)
  | 15 => (match decode cc pc with
    | .ok (.if_icmp .eq off, 3) => decide (len = 3) && (decide (b = 0) && decide ((pc : Int) + off = (a : Int)))
    | .ok (.if_icmp .ne off, 3) => decide (len = 3) && (decide (b = 1) && decide ((pc : Int) + off = (a : Int)))
    | .ok (.if_icmp .lt off, 3) => decide (len = 3) && (decide (b = 2) && decide ((pc : Int) + off = (a : Int)))
    | .ok (.if_icmp .ge off, 3) => decide (len = 3) && (decide (b = 3) && decide ((pc : Int) + off = (a : Int)))
    | .ok (.if_icmp .gt off, 3) => decide (len = 3) && (decide (b = 4) && decide ((pc : Int) + off = (a : Int)))
    | .ok (.if_icmp .le off, 3) => decide (len = 3) && (decide (b = 5) && decide ((pc : Int) + off = (a : Int)))
    | _ => false)
  | 16 => (match decode cc pc with | .ok (.goto off, 3) => decide ((pc : Int) + off = (a : Int)) | _ => false)
  | 17 => (match decode cc pc with
    | .ok (.tableswitch d lo hi offs, _) => decide (lo = (a : Int)) && (decide (hi = (a : Int) + (offs.size : Int) - 1) && (decide (0 < offs.size) && (decide (a + offs.size < 2 ^ 31) &&
        decide ((d :: offs.toList).map (fun z => (pc : Int) + z) = ts.map (fun (t : Nat) => (t : Int))))))
    | _ => false)
  | 18 => (match decode cc pc with
    | .ok (.lookupswitch d ps, _) => (ps.toList.zip (ps.toList.drop 1)).all (fun (x, y) => x.1 < y.1) && (decide (ps.toList.flatMap (fun z => [z.1, (pc : Int) + z.2]) ++ [(pc : Int) + d] = ts.map (fun (t : Nat) => (t : Int))) && ps.toList.all (fun z => decide (z.1 < 2 ^ 31)))
    | _ => false)
  | 19 => (match decode cc pc with | .ok (.getfield i, 3) => decide (len = 3) && me_fl own i a b pp | _ => false)
  | 20 => (match decode cc pc with | .ok (.putfield i, 3) => decide (len = 3) && (me_fl own i a b pp && (match me_cl[a]? with | some (_, T, _) => decide ((T b).2.2.2 = false) | none => false)) | _ => false)
  | 21 => (match decode cc pc with | .ok (.iaload, 1) => decide (len = 1) | _ => false)
  | 22 => (match decode cc pc with | .ok (.iastore, 1) => decide (len = 1) | _ => false)
  | 23 => (match decode cc pc with | .ok (.laload, 1) => decide (len = 1) | _ => false)
  | 24 => (match decode cc pc with | .ok (.lastore, 1) => decide (len = 1) | _ => false)
  | 25 => (match decode cc pc with | .ok (.baload, 1) => decide (len = 1) | _ => false)
  | 26 => (match decode cc pc with | .ok (.bastore, 1) => decide (len = 1) | _ => false)
  | 27 => (match decode cc pc with | .ok (.aaload, 1) => decide (len = 1) | _ => false)
  | 28 => (match decode cc pc with | .ok (.arraylength, 1) => decide (len = 1) | _ => false)
  | 29 => (match decode cc pc with
    | .ok (.invokevirtual i, 3) => decide (len = 3) && (decide (a ∈ cl9) && (me_w1 pp (.methodLink own i (nm a)) && (me_w1 (ts.getD 1 0) (.instanceMethod (nm a)) && (me_w1 (ts.getD 2 0) (.selects (nm a).cls (nm a) (nm a)) &&
        (decide ((me_cl[ts.headD 0]?).map (fun q => q.1) = some (nm a).cls) && decide ((parseMethodDescriptor (nm a).desc).map (fun d => d.parameters.length) = some b))))))
    | _ => false)
  | 30 => (match decode cc pc with
    | .ok (.invokestatic i, 3) => decide (len = 3) && (decide (a ∈ cl9) && (me_w1 pp (.methodLink own i (nm a)) && (me_w1 (ts.headD 0) (.static (nm a)) && decide ((parseMethodDescriptor (nm a).desc).map (fun d => d.parameters.length) = some b))))
    | _ => false)
  | 31 => (match decode cc pc with | .ok (.return_, 1) => decide (ret = none) | _ => false)
  | 32 => (match decode cc pc with | .ok (.ireturn, 1) => decide (ret = some .int) | _ => false)
  | 33 => (match decode cc pc with | .ok (.lreturn, 1) => decide (ret = some .long) | _ => false)
  | 34 => (match decode cc pc with | .ok (.ireturn, 1) => decide (ret = some .boolean) | _ => false)
  | 36 => (match decode cc pc with | .ok (.invokestatic i, 3) => decide (len = 3) && me_w1 pp (.methodLink own i arraycopyName) | _ => false)
  | 37 => (match decode cc pc with | .ok (.invokestatic i, 3) => decide (len = 3) && me_w1 pp (.methodLink own i Lib.Math.min.name) | _ => false)
  | 38 => (match decode cc pc with
    | .ok (.invokestatic i, 3) => decide (len = 3) && (decide (a ∈ cl9) && (me_w1 pp (.methodLink own i (nm a)) && (me_w1 (ts.headD 0) (.static (nm a)) && decide ((parseMethodDescriptor (nm a).desc).map (fun d => d.parameters.length) = some b))))
    | _ => false)
  | 39 => (match decode cc pc with | .ok (.iaload, 1) => decide (len = 1) | _ => false)
  | 40 => (match decode cc pc with | .ok (.arraylength, 1) => decide (len = 1) | _ => false)
  | 41 => (match decode cc pc with
    | .ok (.invokestatic i, 3) => decide (len = 3) && (decide (a ∈ cl9) && ((match lw_tbl[pp]? with | some (.methodLinkNest o2 i2 y2 _) => decide (o2 = own) && (decide (i2 = i) && decide (y2 = nm a)) | _ => false) && (me_w1 (ts.headD 0) (.static (nm a)) && decide ((parseMethodDescriptor (nm a).desc).map (fun d => d.parameters.length) = some b))))
    | _ => false)
  | _ => false
/-! ===== an instruction's step ===== -/
def me_lm (ad : Nat → Nat) (L : me_L) : List (Nat × Value) := L.map (fun q => (q.1, me_vl ad q.2))
theorem me_lk_get (ad : Nat → Nat) {a : Nat} {x : me_S} : ∀ (L : me_L), me_lk a L = some x → ∃ k : Nat, (me_lm ad L)[k]? = some (a, me_vl ad x)
  | [], h => by cases h
  | q :: L, h => by
    unfold me_lk at h
    split at h
    · rename_i e
      cases h
      exact ⟨0, by subst e; rfl⟩
    · obtain ⟨k, hk⟩ := me_lk_get ad L h
      exact ⟨k + 1, hk⟩
theorem me_cat2 (ad : Nat → Nat) (x : me_S) : ((me_vl ad x).category == 2) = (me_kd x == 1) := by
  rcases x with x | x | x | x <;> rfl
theorem me_rm_ok1 (ad : Nat → Nat) (a : Nat) {x : me_S} (hx : me_kd x ≠ 1) : ∀ (L : me_L), (me_lm ad L).filter (fun q => !(q.1 == a) && !(q.1 + 1 == a && q.2.category == 2)) = me_lm ad (me_rm a x L)
  | [] => rfl
  | q :: L => by
    have ih := me_rm_ok1 ad a hx L
    have hx2 : (me_kd x == 1) = false := by simpa using hx
    simp only [me_lm, List.map_cons, List.filter_cons, me_rm, me_cat2, hx2, Bool.false_and, Bool.not_false, Bool.true_and] at ih ⊢
    cases hc : (!(q.1 == a) && !(q.1 + 1 == a && me_kd q.2 == 1))
    · simpa [hc] using ih
    · simpa [hc] using ih
theorem me_rm_ok2 (ad : Nat → Nat) (a : Nat) {x : me_S} (hx : me_kd x = 1) : ∀ (L : me_L), (me_lm ad L).filter (fun q => !(q.1 == a) && (!(q.1 == a + 1) && !(q.1 + 1 == a && q.2.category == 2))) = me_lm ad (me_rm a x L)
  | [] => rfl
  | q :: L => by
    have ih := me_rm_ok2 ad a hx L
    have hx2 : (me_kd x == 1) = true := by simpa using hx
    simp only [me_lm, List.map_cons, List.filter_cons, me_rm, me_cat2, hx2, Bool.true_and] at ih ⊢
    cases hc : (!(q.1 == a) && (!(q.1 == a + 1) && !(q.1 + 1 == a && me_kd q.2 == 1)))
    · simpa [hc] using ih
    · simpa [hc] using ih
theorem me_in_mem {a : Nat} {x : me_S} {q : Nat × me_S} : ∀ {L : me_L}, q ∈ me_in a x L → q = (a, x) ∨ q ∈ L
  | [], h => by simpa [me_in] using h
  | z :: L, h => by
    unfold me_in at h
    cases hb : decide (a < z.1)
    · rw [hb] at h
      rcases List.mem_cons.mp h with h | h
      · exact Or.inr (List.mem_cons.mpr (Or.inl h))
      · rcases me_in_mem h with h | h
        · exact Or.inl h
        · exact Or.inr (List.mem_cons_of_mem _ h)
    · rw [hb] at h
      rcases List.mem_cons.mp h with h | h
      · exact Or.inl h
      · exact Or.inr h
theorem me_in_has {ad : Nat → Nat} {ls : Array Slot} {nL a : Nat} {x : me_S} {L : me_L} (h : lv_has ls nL ((a, me_vl ad x) :: me_lm ad L)) : lv_has ls nL (me_lm ad (me_in a x L)) := by
  refine ⟨h.1, h.2.1, fun q hq => h.2.2 q ?_⟩
  obtain ⟨z, hz, rfl⟩ := List.mem_map.mp hq
  rcases me_in_mem hz with rfl | hz
  · exact List.mem_cons_self
  · exact List.mem_cons_of_mem _ (List.mem_map.mpr ⟨z, hz, rfl⟩)
section SND
variable {nm : Nat → MethodName} {p : Program} {l : Launch} {e : Env} {R : Room} {s : State} {m : MethodId} {args : Array Value} {below : List Frame} {meth : Method} {c : Code} {Q : State → Prop} {C : me_C} {cc : ByteArray} {nL c0 s0 : Nat} {own : String} {ret : Option FieldType} {cl9 : List Nat}
def me_at (p : Program) (l : Launch) (e : Env) (R : Room) (s : State) (m : MethodId) (args : Array Value) (below : List Frame) (meth : Method) (c : Code) (Q : State → Prop) (C : me_C) (nL c0 s0 : Nat) (pc k : Nat) (L : me_L) (st : List me_S) (v : me_V) (w : me_U) : Prop :=
  ∀ (H : Heap) (locs : List Loc) (ls : Array Slot), va_P C.1 me_cl (me_ws C v w) H → va_D (me_A C) (me_ws C v w) → va_S (me_A C) s.heap H locs → lv_has ls nL (me_lm (me_ad C) L) →
    W p l e R s m args below meth c H locs (c0 + k) (s0 + 6 * k) Q (F0 m pc ls (st.map (me_vl (me_ad C))))
def me_Fx (p : Program) (s : State) (m : MethodId) (args : Array Value) (c : Code) (C : me_C) (cc : ByteArray) (nL : Nat) (own : String) : Prop :=
  p.tables.exec = Jvm.exec ∧ c.code = cc ∧ c.maxLocals = nL ∧ s.vm.findClass own = some m.cls ∧ (∀ w ∈ me_TG, w.before args s = true) ∧ me_Wx C s s.heap ∧ me_B C ≤ s.heap.size
variable {pc a b len ix pp k : Nat} {ts : List Nat} {L : me_L} {st : List me_S} {v : me_V} {w : me_U} {nx : Nat → me_L → List me_S → me_V → me_U → Prop}
theorem me_s0 {cs : Nat → Nat × me_P} {J : Nat → Nat → me_L → List me_S → me_V → me_U → Prop} {KR : me_K} {KX : Nat → Nat → me_L → Nat → me_V → me_U → Prop} {km : Nat} {sx : me_Sc} (F : me_Fx p s m args c C cc nL own) (hck : me_ck nm own cc nL ret cl9 pc a b ts len ix pp 0 = true) (hn : ∀ k L st v w, nx k L st v w → me_at p l e R s m args below meth c Q C nL c0 s0 (pc + len) k L st v w) (h : me_op cs J KR KX km sx pc a b ts k L v w nx st 0) : me_at p l e R s m args below meth c Q C nL c0 s0 pc k L st v w := by
  simp only [me_op] at h
  intro H locs ls hP hD hS hl
  obtain ⟨hx, hb, hml, hown, hts, hW, hB⟩ := F
  have h1 := hn _ _ _ _ _ h H locs ls hP hD hS hl
  simp only [me_ck] at hck
  split at hck
  · rename_i n hd
    simp only [Bool.and_eq_true, decide_eq_true_eq] at hck
    obtain ⟨rfl, hv⟩ := hck
    exact lv_iconst hx hb hd hv h1
  · rename_i n hd
    simp only [Bool.and_eq_true, decide_eq_true_eq] at hck
    obtain ⟨rfl, hv⟩ := hck
    exact lv_bipush hx hb hd hv h1
  · rename_i n hd
    simp only [Bool.and_eq_true, decide_eq_true_eq] at hck
    obtain ⟨rfl, hv⟩ := hck
    exact lv_sipush hx hb hd hv h1
  · rename_i n hd
    simp only [me_w1, Bool.and_eq_true, decide_eq_true_eq] at hck
    obtain ⟨rfl, hv⟩ := hck
    exact lv_ldc hx hb hown (hts _ (List.mem_filter.mpr ⟨List.mem_of_getElem? hv, rfl⟩)) hd h1
  · rename_i n hd
    simp only [me_w1, Bool.and_eq_true, decide_eq_true_eq] at hck
    obtain ⟨rfl, hv⟩ := hck
    exact lv_ldcw hx hb hown (hts _ (List.mem_filter.mpr ⟨List.mem_of_getElem? hv, rfl⟩)) hd h1
  · cases hck
theorem me_s1 {cs : Nat → Nat × me_P} {J : Nat → Nat → me_L → List me_S → me_V → me_U → Prop} {KR : me_K} {KX : Nat → Nat → me_L → Nat → me_V → me_U → Prop} {km : Nat} {sx : me_Sc} (F : me_Fx p s m args c C cc nL own) (hck : me_ck nm own cc nL ret cl9 pc a b ts len ix pp 1 = true) (hn : ∀ k L st v w, nx k L st v w → me_at p l e R s m args below meth c Q C nL c0 s0 (pc + len) k L st v w) (h : me_op cs J KR KX km sx pc a b ts k L v w nx st 1) : me_at p l e R s m args below meth c Q C nL c0 s0 pc k L st v w := by
  simp only [me_op] at h
  intro H locs ls hP hD hS hl
  obtain ⟨hx, hb, hml, hown, hts, hW, hB⟩ := F
  have h1 := hn _ _ _ _ _ h H locs ls hP hD hS hl
  simp only [me_ck] at hck
  split at hck
  · rename_i n hd
    simp only [Bool.and_eq_true, decide_eq_true_eq] at hck
    obtain ⟨rfl, hv⟩ := hck
    exact lv_lconst hx hb hd hv h1
  · rename_i n hd
    simp only [me_w1, Bool.and_eq_true, decide_eq_true_eq] at hck
    obtain ⟨rfl, hv⟩ := hck
    exact lv_ldc2 hx hb hown (hts _ (List.mem_filter.mpr ⟨List.mem_of_getElem? hv, rfl⟩)) hd h1
  · cases hck
theorem me_s2 {cs : Nat → Nat × me_P} {J : Nat → Nat → me_L → List me_S → me_V → me_U → Prop} {KR : me_K} {KX : Nat → Nat → me_L → Nat → me_V → me_U → Prop} {km : Nat} {sx : me_Sc} (F : me_Fx p s m args c C cc nL own) (hck : me_ck nm own cc nL ret cl9 pc a b ts len ix pp 2 = true) (hn : ∀ k L st v w, nx k L st v w → me_at p l e R s m args below meth c Q C nL c0 s0 (pc + len) k L st v w) (h : me_op cs J KR KX km sx pc a b ts k L v w nx st 2) : me_at p l e R s m args below meth c Q C nL c0 s0 pc k L st v w := by
  simp only [me_op] at h
  split at h
  · rename_i x hlk
    obtain ⟨hkd, h⟩ := h
    obtain ⟨kk, hkk⟩ := me_lk_get (me_ad C) L hlk
    intro H locs ls hP hD hS hl
    obtain ⟨hx, hb, hml, hown, hts, hW, hB⟩ := F
    have h1 := hn _ _ _ _ _ h H locs ls hP hD hS hl
    have h2 := lv_at hl kk hkk
    simp only [me_ck] at hck
    split at hck
    · rename_i n hd
      simp only [Bool.and_eq_true, decide_eq_true_eq] at hck
      obtain ⟨rfl, rfl, hi⟩ := hck
      rcases x with x | x | x | x
      · exact lv_iload_n hx hb hd hi h2 h1
      · cases hkd
      · cases hkd
      · cases hkd
    · rename_i n hd
      simp only [Bool.and_eq_true, decide_eq_true_eq] at hck
      obtain ⟨rfl, rfl, hi⟩ := hck
      subst hi
      rcases x with x | x | x | x
      · exact lv_iload hx hb hd h2 h1
      · cases hkd
      · cases hkd
      · cases hkd
    · rename_i n hd
      simp only [Bool.and_eq_true, decide_eq_true_eq] at hck
      obtain ⟨rfl, rfl, hi⟩ := hck
      rcases x with x | x | x | x
      · cases hkd
      · exact lv_lload_n hx hb hd hi h2 h1
      · cases hkd
      · cases hkd
    · rename_i n hd
      simp only [Bool.and_eq_true, decide_eq_true_eq] at hck
      obtain ⟨rfl, rfl, hi⟩ := hck
      subst hi
      rcases x with x | x | x | x
      · cases hkd
      · exact lv_lload hx hb hd h2 h1
      · cases hkd
      · cases hkd
    · rename_i n hd
      simp only [Bool.and_eq_true, decide_eq_true_eq] at hck
      obtain ⟨rfl, rfl, hi⟩ := hck
      rcases x with x | x | x | x
      · cases hkd
      · cases hkd
      · exact lv_aload_n hx hb hd hi h2 h1
      · exact lv_aload_n hx hb hd hi h2 h1
    · rename_i n hd
      simp only [Bool.and_eq_true, decide_eq_true_eq] at hck
      obtain ⟨rfl, rfl, hi⟩ := hck
      subst hi
      rcases x with x | x | x | x
      · cases hkd
      · cases hkd
      · exact lv_aload hx hb hd h2 h1
      · exact lv_aload hx hb hd h2 h1
    · cases hck
  · exact h.elim
theorem me_s3 {cs : Nat → Nat × me_P} {J : Nat → Nat → me_L → List me_S → me_V → me_U → Prop} {KR : me_K} {KX : Nat → Nat → me_L → Nat → me_V → me_U → Prop} {km : Nat} {sx : me_Sc} (F : me_Fx p s m args c C cc nL own) (hck : me_ck nm own cc nL ret cl9 pc a b ts len ix pp 3 = true) (hn : ∀ k L st v w, nx k L st v w → me_at p l e R s m args below meth c Q C nL c0 s0 (pc + len) k L st v w) (h : me_op cs J KR KX km sx pc a b ts k L v w nx st 3) : me_at p l e R s m args below meth c Q C nL c0 s0 pc k L st v w := by
  simp only [me_op] at h
  obtain ⟨x, st, rfl, hkd, h⟩ := me_t1_inv h
  intro H locs ls hP hD hS hl
  obtain ⟨hx, hb, hml, hown, hts, hW, hB⟩ := F
  have h1 := fun ls' (hl' : lv_has ls' nL ((a, me_vl (me_ad C) x) :: me_lm (me_ad C) (me_rm a x L))) => hn _ _ _ _ _ h H locs ls' hP hD hS (me_in_has hl')
  simp only [me_ck] at hck
  split at hck
  · rename_i n hd
    simp only [Bool.and_eq_true, decide_eq_true_eq] at hck
    obtain ⟨rfl, rfl, hi, hlt⟩ := hck
    rcases x with x | x | x | x
    · exact lv_istore_n hx hb hd hi hl hlt (congrArg (List.cons _) (me_rm_ok1 (me_ad C) _ (fun z => by cases z) L)) h1
    · cases hkd
    · cases hkd
    · cases hkd
  · rename_i n hd
    simp only [Bool.and_eq_true, decide_eq_true_eq] at hck
    obtain ⟨rfl, rfl, hi, hlt⟩ := hck
    subst hi
    rcases x with x | x | x | x
    · exact lv_istore hx hb hd hl hlt (congrArg (List.cons _) (me_rm_ok1 (me_ad C) _ (fun z => by cases z) L)) h1
    · cases hkd
    · cases hkd
    · cases hkd
  · rename_i n hd
    simp only [Bool.and_eq_true, decide_eq_true_eq] at hck
    obtain ⟨rfl, rfl, hi, hlt⟩ := hck
    rcases x with x | x | x | x
    · cases hkd
    · exact lv_lstore_n hx hb hd hi hl hlt (congrArg (List.cons _) (me_rm_ok2 (me_ad C) _ rfl L)) h1
    · cases hkd
    · cases hkd
  · rename_i n hd
    simp only [Bool.and_eq_true, decide_eq_true_eq] at hck
    obtain ⟨rfl, rfl, hi, hlt⟩ := hck
    subst hi
    rcases x with x | x | x | x
    · cases hkd
    · exact lv_lstore hx hb hd hl hlt (congrArg (List.cons _) (me_rm_ok2 (me_ad C) _ rfl L)) h1
    · cases hkd
    · cases hkd
  · rename_i n hd
    simp only [Bool.and_eq_true, decide_eq_true_eq] at hck
    obtain ⟨rfl, rfl, hi, hlt⟩ := hck
    rcases x with x | x | x | x
    · cases hkd
    · cases hkd
    · exact lv_astore_n hx hb hd hi hl hlt (congrArg (List.cons _) (me_rm_ok1 (me_ad C) _ (fun z => by cases z) L)) h1
    · exact lv_astore_n hx hb hd hi hl hlt (congrArg (List.cons _) (me_rm_ok1 (me_ad C) _ (fun z => by cases z) L)) h1
  · rename_i n hd
    simp only [Bool.and_eq_true, decide_eq_true_eq] at hck
    obtain ⟨rfl, rfl, hi, hlt⟩ := hck
    subst hi
    rcases x with x | x | x | x
    · cases hkd
    · cases hkd
    · exact lv_astore hx hb hd hl hlt (congrArg (List.cons _) (me_rm_ok1 (me_ad C) _ (fun z => by cases z) L)) h1
    · exact lv_astore hx hb hd hl hlt (congrArg (List.cons _) (me_rm_ok1 (me_ad C) _ (fun z => by cases z) L)) h1
  · cases hck
theorem me_s4 {cs : Nat → Nat × me_P} {J : Nat → Nat → me_L → List me_S → me_V → me_U → Prop} {KR : me_K} {KX : Nat → Nat → me_L → Nat → me_V → me_U → Prop} {km : Nat} {sx : me_Sc} (F : me_Fx p s m args c C cc nL own) (hck : me_ck nm own cc nL ret cl9 pc a b ts len ix pp 4 = true) (hn : ∀ k L st v w, nx k L st v w → me_at p l e R s m args below meth c Q C nL c0 s0 (pc + len) k L st v w) (h : me_op cs J KR KX km sx pc a b ts k L v w nx st 4) : me_at p l e R s m args below meth c Q C nL c0 s0 pc k L st v w := by
  simp only [me_op] at h
  obtain ⟨y, st1, rfl, g1⟩ := me_tI_inv h
  obtain ⟨x, st2, rfl, h0, g2⟩ := me_tI_inv g1
  clear h g1
  have h := g2
  intro H locs ls hP hD hS hl
  obtain ⟨hx, hb, hml, hown, hts, hW, hB⟩ := F
  have h1 := hn _ _ _ _ _ h H locs ls hP hD hS hl
  simp only [me_ck] at hck
  split at hck
  · rename_i hd
    simp only [Bool.and_eq_true, decide_eq_true_eq] at hck
    obtain ⟨rfl, rfl⟩ := hck
    exact lv_iadd hx hb hd h1
  · rename_i hd
    simp only [Bool.and_eq_true, decide_eq_true_eq] at hck
    obtain ⟨rfl, rfl⟩ := hck
    exact lv_isub hx hb hd h1
  · rename_i hd
    simp only [Bool.and_eq_true, decide_eq_true_eq] at hck
    obtain ⟨rfl, rfl⟩ := hck
    exact lv_imul hx hb hd h1
  · rename_i hd
    simp only [Bool.and_eq_true, decide_eq_true_eq] at hck
    obtain ⟨rfl, rfl⟩ := hck
    exact lv_iand hx hb hd h1
  · rename_i hd
    simp only [Bool.and_eq_true, decide_eq_true_eq] at hck
    obtain ⟨rfl, rfl⟩ := hck
    exact lv_ior hx hb hd h1
  · rename_i hd
    simp only [Bool.and_eq_true, decide_eq_true_eq] at hck
    obtain ⟨rfl, rfl⟩ := hck
    exact lv_ixor hx hb hd h1
  · rename_i hd
    simp only [Bool.and_eq_true, decide_eq_true_eq] at hck
    obtain ⟨rfl, rfl⟩ := hck
    exact lv_ishl hx hb hd h1
  · rename_i hd
    simp only [Bool.and_eq_true, decide_eq_true_eq] at hck
    obtain ⟨rfl, rfl⟩ := hck
    exact lv_ishr hx hb hd h1
  · rename_i hd
    simp only [Bool.and_eq_true, decide_eq_true_eq] at hck
    obtain ⟨rfl, rfl⟩ := hck
    exact lv_idiv hx hb hd (h0 (by omega)) h1
  · rename_i hd
    simp only [Bool.and_eq_true, decide_eq_true_eq] at hck
    obtain ⟨rfl, rfl⟩ := hck
    exact lv_irem hx hb hd (h0 (by omega)) h1
  · rename_i hd
    simp only [Bool.and_eq_true, decide_eq_true_eq] at hck
    obtain ⟨rfl, rfl⟩ := hck
    exact lv_iushr hx hb hd rfl h1
  · cases hck
theorem me_s5 {cs : Nat → Nat × me_P} {J : Nat → Nat → me_L → List me_S → me_V → me_U → Prop} {KR : me_K} {KX : Nat → Nat → me_L → Nat → me_V → me_U → Prop} {km : Nat} {sx : me_Sc} (F : me_Fx p s m args c C cc nL own) (hck : me_ck nm own cc nL ret cl9 pc a b ts len ix pp 5 = true) (hn : ∀ k L st v w, nx k L st v w → me_at p l e R s m args below meth c Q C nL c0 s0 (pc + len) k L st v w) (h : me_op cs J KR KX km sx pc a b ts k L v w nx st 5) : me_at p l e R s m args below meth c Q C nL c0 s0 pc k L st v w := by
  simp only [me_op] at h
  obtain ⟨y, st1, rfl, g1⟩ := me_tL_inv h
  obtain ⟨x, st2, rfl, h0, g2⟩ := me_tL_inv g1
  clear h g1
  have h := g2
  intro H locs ls hP hD hS hl
  obtain ⟨hx, hb, hml, hown, hts, hW, hB⟩ := F
  have h1 := hn _ _ _ _ _ h H locs ls hP hD hS hl
  simp only [me_ck] at hck
  split at hck
  · rename_i hd
    simp only [Bool.and_eq_true, decide_eq_true_eq] at hck
    obtain ⟨rfl, rfl⟩ := hck
    exact lv_ladd hx hb hd h1
  · rename_i hd
    simp only [Bool.and_eq_true, decide_eq_true_eq] at hck
    obtain ⟨rfl, rfl⟩ := hck
    exact lv_lsub hx hb hd h1
  · rename_i hd
    simp only [Bool.and_eq_true, decide_eq_true_eq] at hck
    obtain ⟨rfl, rfl⟩ := hck
    exact lv_lmul hx hb hd h1
  · rename_i hd
    simp only [Bool.and_eq_true, decide_eq_true_eq] at hck
    obtain ⟨rfl, rfl⟩ := hck
    exact lv_land hx hb hd h1
  · rename_i hd
    simp only [Bool.and_eq_true, decide_eq_true_eq] at hck
    obtain ⟨rfl, rfl⟩ := hck
    exact lv_lor hx hb hd h1
  · rename_i hd
    simp only [Bool.and_eq_true, decide_eq_true_eq] at hck
    obtain ⟨rfl, rfl⟩ := hck
    exact lv_ldiv hx hb hd (h0 (by omega)) h1
  · rename_i hd
    simp only [Bool.and_eq_true, decide_eq_true_eq] at hck
    obtain ⟨rfl, rfl⟩ := hck
    exact lv_lrem hx hb hd (h0 (by omega)) h1
  · cases hck
theorem me_s6 {cs : Nat → Nat × me_P} {J : Nat → Nat → me_L → List me_S → me_V → me_U → Prop} {KR : me_K} {KX : Nat → Nat → me_L → Nat → me_V → me_U → Prop} {km : Nat} {sx : me_Sc} (F : me_Fx p s m args c C cc nL own) (hck : me_ck nm own cc nL ret cl9 pc a b ts len ix pp 6 = true) (hn : ∀ k L st v w, nx k L st v w → me_at p l e R s m args below meth c Q C nL c0 s0 (pc + len) k L st v w) (h : me_op cs J KR KX km sx pc a b ts k L v w nx st 6) : me_at p l e R s m args below meth c Q C nL c0 s0 pc k L st v w := by
  simp only [me_op] at h
  obtain ⟨y, st1, rfl, g1⟩ := me_tI_inv h
  obtain ⟨x, st2, rfl, g2⟩ := me_tL_inv g1
  clear h g1
  have h := g2
  intro H locs ls hP hD hS hl
  obtain ⟨hx, hb, hml, hown, hts, hW, hB⟩ := F
  have h1 := hn _ _ _ _ _ h H locs ls hP hD hS hl
  simp only [me_ck] at hck
  split at hck
  · rename_i hd
    simp only [Bool.and_eq_true, decide_eq_true_eq] at hck
    obtain ⟨rfl, rfl⟩ := hck
    exact lv_lshl hx hb hd rfl h1
  · rename_i hd
    simp only [Bool.and_eq_true, decide_eq_true_eq] at hck
    obtain ⟨rfl, rfl⟩ := hck
    exact lv_lushr hx hb hd rfl h1
  · cases hck
theorem me_s7 {cs : Nat → Nat × me_P} {J : Nat → Nat → me_L → List me_S → me_V → me_U → Prop} {KR : me_K} {KX : Nat → Nat → me_L → Nat → me_V → me_U → Prop} {km : Nat} {sx : me_Sc} (F : me_Fx p s m args c C cc nL own) (hck : me_ck nm own cc nL ret cl9 pc a b ts len ix pp 7 = true) (hn : ∀ k L st v w, nx k L st v w → me_at p l e R s m args below meth c Q C nL c0 s0 (pc + len) k L st v w) (h : me_op cs J KR KX km sx pc a b ts k L v w nx st 7) : me_at p l e R s m args below meth c Q C nL c0 s0 pc k L st v w := by
  simp only [me_op] at h
  obtain ⟨x, st, rfl, h⟩ := me_tI_inv h
  intro H locs ls hP hD hS hl
  obtain ⟨hx, hb, hml, hown, hts, hW, hB⟩ := F
  have h1 := hn _ _ _ _ _ h H locs ls hP hD hS hl
  simp only [me_ck] at hck
  split at hck
  · rename_i hd
    simp only [decide_eq_true_eq] at hck
    subst hck
    exact lv_i2l hx hb hd rfl h1
  · cases hck
theorem me_s8 {cs : Nat → Nat × me_P} {J : Nat → Nat → me_L → List me_S → me_V → me_U → Prop} {KR : me_K} {KX : Nat → Nat → me_L → Nat → me_V → me_U → Prop} {km : Nat} {sx : me_Sc} (F : me_Fx p s m args c C cc nL own) (hck : me_ck nm own cc nL ret cl9 pc a b ts len ix pp 8 = true) (hn : ∀ k L st v w, nx k L st v w → me_at p l e R s m args below meth c Q C nL c0 s0 (pc + len) k L st v w) (h : me_op cs J KR KX km sx pc a b ts k L v w nx st 8) : me_at p l e R s m args below meth c Q C nL c0 s0 pc k L st v w := by
  simp only [me_op] at h
  obtain ⟨x, st, rfl, h⟩ := me_tL_inv h
  intro H locs ls hP hD hS hl
  obtain ⟨hx, hb, hml, hown, hts, hW, hB⟩ := F
  have h1 := hn _ _ _ _ _ h H locs ls hP hD hS hl
  simp only [me_ck] at hck
  split at hck
  · rename_i hd
    simp only [decide_eq_true_eq] at hck
    subst hck
    exact lv_l2i hx hb hd rfl h1
  · cases hck
theorem me_s9 {cs : Nat → Nat × me_P} {J : Nat → Nat → me_L → List me_S → me_V → me_U → Prop} {KR : me_K} {KX : Nat → Nat → me_L → Nat → me_V → me_U → Prop} {km : Nat} {sx : me_Sc} (F : me_Fx p s m args c C cc nL own) (hck : me_ck nm own cc nL ret cl9 pc a b ts len ix pp 9 = true) (hn : ∀ k L st v w, nx k L st v w → me_at p l e R s m args below meth c Q C nL c0 s0 (pc + len) k L st v w) (h : me_op cs J KR KX km sx pc a b ts k L v w nx st 9) : me_at p l e R s m args below meth c Q C nL c0 s0 pc k L st v w := by
  simp only [me_op] at h
  obtain ⟨y, st1, rfl, g1⟩ := me_tL_inv h
  obtain ⟨x, st2, rfl, g2⟩ := me_tL_inv g1
  clear h g1
  have h := g2
  intro H locs ls hP hD hS hl
  obtain ⟨hx, hb, hml, hown, hts, hW, hB⟩ := F
  have h1 := hn _ _ _ _ _ h H locs ls hP hD hS hl
  simp only [me_ck] at hck
  split at hck
  · rename_i hd
    simp only [decide_eq_true_eq] at hck
    subst hck
    exact W.lcmp hx hb hd h1
  · cases hck
theorem me_s10 {cs : Nat → Nat × me_P} {J : Nat → Nat → me_L → List me_S → me_V → me_U → Prop} {KR : me_K} {KX : Nat → Nat → me_L → Nat → me_V → me_U → Prop} {km : Nat} {sx : me_Sc} (F : me_Fx p s m args c C cc nL own) (hck : me_ck nm own cc nL ret cl9 pc a b ts len ix pp 10 = true) (hn : ∀ k L st v w, nx k L st v w → me_at p l e R s m args below meth c Q C nL c0 s0 (pc + len) k L st v w) (h : me_op cs J KR KX km sx pc a b ts k L v w nx st 10) : me_at p l e R s m args below meth c Q C nL c0 s0 pc k L st v w := by
  simp only [me_op] at h
  obtain ⟨x, st, rfl, hc, h⟩ := me_t1_inv h
  intro H locs ls hP hD hS hl
  obtain ⟨hx, hb, hml, hown, hts, hW, hB⟩ := F
  have h1 := hn _ _ _ _ _ h H locs ls hP hD hS hl
  simp only [me_ck] at hck
  split at hck
  · rename_i hd
    simp only [decide_eq_true_eq] at hck
    subst hck
    exact lv_dup hx hb hd ((me_wd_ok _ _).trans hc) h1
  · cases hck
theorem me_s11 {cs : Nat → Nat × me_P} {J : Nat → Nat → me_L → List me_S → me_V → me_U → Prop} {KR : me_K} {KX : Nat → Nat → me_L → Nat → me_V → me_U → Prop} {km : Nat} {sx : me_Sc} (F : me_Fx p s m args c C cc nL own) (hck : me_ck nm own cc nL ret cl9 pc a b ts len ix pp 11 = true) (hn : ∀ k L st v w, nx k L st v w → me_at p l e R s m args below meth c Q C nL c0 s0 (pc + len) k L st v w) (h : me_op cs J KR KX km sx pc a b ts k L v w nx st 11) : me_at p l e R s m args below meth c Q C nL c0 s0 pc k L st v w := by
  simp only [me_op] at h
  obtain ⟨x, st1, rfl, g1⟩ := me_t1_inv h
  obtain ⟨y, st2, rfl, ⟨hc, hc2⟩, g2⟩ := me_t1_inv g1
  clear h g1
  have h := g2
  intro H locs ls hP hD hS hl
  obtain ⟨hx, hb, hml, hown, hts, hW, hB⟩ := F
  have h1 := hn _ _ _ _ _ h H locs ls hP hD hS hl
  simp only [me_ck] at hck
  split at hck
  · rename_i hd
    simp only [decide_eq_true_eq] at hck
    subst hck
    exact lv_dup2_11 hx hb hd ((me_wd_ok _ _).trans hc) ((me_wd_ok _ _).trans hc2) h1
  · cases hck
theorem me_s12 {cs : Nat → Nat × me_P} {J : Nat → Nat → me_L → List me_S → me_V → me_U → Prop} {KR : me_K} {KX : Nat → Nat → me_L → Nat → me_V → me_U → Prop} {km : Nat} {sx : me_Sc} (F : me_Fx p s m args c C cc nL own) (hck : me_ck nm own cc nL ret cl9 pc a b ts len ix pp 12 = true) (hn : ∀ k L st v w, nx k L st v w → me_at p l e R s m args below meth c Q C nL c0 s0 (pc + len) k L st v w) (h : me_op cs J KR KX km sx pc a b ts k L v w nx st 12) : me_at p l e R s m args below meth c Q C nL c0 s0 pc k L st v w := by
  simp only [me_op] at h
  obtain ⟨x, st, rfl, hc, h⟩ := me_t1_inv h
  intro H locs ls hP hD hS hl
  obtain ⟨hx, hb, hml, hown, hts, hW, hB⟩ := F
  have h1 := hn _ _ _ _ _ h H locs ls hP hD hS hl
  simp only [me_ck] at hck
  split at hck
  · rename_i hd
    simp only [decide_eq_true_eq] at hck
    subst hck
    exact lv_pop hx hb hd ((me_wd_ok _ _).trans hc) h1
  · cases hck
theorem me_s13 {cs : Nat → Nat × me_P} {J : Nat → Nat → me_L → List me_S → me_V → me_U → Prop} {KR : me_K} {KX : Nat → Nat → me_L → Nat → me_V → me_U → Prop} {km : Nat} {sx : me_Sc} (F : me_Fx p s m args c C cc nL own) (hck : me_ck nm own cc nL ret cl9 pc a b ts len ix pp 13 = true) (hn : ∀ k L st v w, nx k L st v w → me_at p l e R s m args below meth c Q C nL c0 s0 (pc + len) k L st v w) (h : me_op cs J KR KX km sx pc a b ts k L v w nx st 13) : me_at p l e R s m args below meth c Q C nL c0 s0 pc k L st v w := by
  simp only [me_op] at h
  split at h
  · rename_i x hlk
    obtain ⟨kk, hkk⟩ := me_lk_get (me_ad C) L hlk
    intro H locs ls hP hD hS hl
    obtain ⟨hx, hb, hml, hown, hts, hW, hB⟩ := F
    have h1 := fun ls' (hl' : lv_has ls' nL ((a, me_vl (me_ad C) (vI (x + me_c b (ts.headD 0)))) :: me_lm (me_ad C) (me_rm a (vI (x + me_c b (ts.headD 0))) L))) => hn _ _ _ _ _ h H locs ls' hP hD hS (me_in_has hl')
    simp only [me_ck] at hck
    split at hck
    · rename_i i n hd
      simp only [Bool.and_eq_true, decide_eq_true_eq] at hck
      obtain ⟨rfl, rfl, hv, hlt⟩ := hck
      exact lv_iinc hx hb hd hl hkk (congrArg (x + ·) hv) hlt (congrArg (List.cons _) (me_rm_ok1 (me_ad C) _ (fun z => by cases z) L)) h1
    · cases hck
  · exact h.elim
theorem me_s14 {cs : Nat → Nat × me_P} {J : Nat → Nat → me_L → List me_S → me_V → me_U → Prop} {KR : me_K} {KX : Nat → Nat → me_L → Nat → me_V → me_U → Prop} {km : Nat} {sx : me_Sc} (F : me_Fx p s m args c C cc nL own) (hck : me_ck nm own cc nL ret cl9 pc a b ts len ix pp 14 = true) (hn : ∀ k L st v w, nx k L st v w → me_at p l e R s m args below meth c Q C nL c0 s0 (pc + len) k L st v w) (hj : ∀ pc k L st v w, J pc k L st v w → me_at p l e R s m args below meth c Q C nL c0 s0 pc k L st v w) (h : me_op cs J KR KX km sx pc a b ts k L v w nx st 14) : me_at p l e R s m args below meth c Q C nL c0 s0 pc k L st v w := by
  simp only [me_op] at h
  obtain ⟨x, st, rfl, ht, hf⟩ := me_tI_inv h
  intro H locs ls hP hD hS hl
  obtain ⟨hx, hb, hml, hown, hts, hW, hB⟩ := F
  have h1 := fun z => hj _ _ _ _ _ _ (ht z) H locs ls hP hD hS hl
  have h2 := fun z => hn _ _ _ _ _ (hf z) H locs ls hP hD hS hl
  simp only [me_ck] at hck
  split at hck
  · rename_i off hd
    simp only [Bool.and_eq_true, decide_eq_true_eq] at hck
    obtain ⟨rfl, rfl, htg⟩ := hck
    exact lv_if_eq hx hb hd htg h1 h2
  · rename_i off hd
    simp only [Bool.and_eq_true, decide_eq_true_eq] at hck
    obtain ⟨rfl, rfl, htg⟩ := hck
    exact lv_if_ne hx hb hd htg h1 (fun z => h2 (fun z2 => z2 z))
  · rename_i off hd
    simp only [Bool.and_eq_true, decide_eq_true_eq] at hck
    obtain ⟨rfl, rfl, htg⟩ := hck
    exact lv_if_lt hx hb hd htg h1 h2
  · rename_i off hd
    simp only [Bool.and_eq_true, decide_eq_true_eq] at hck
    obtain ⟨rfl, rfl, htg⟩ := hck
    exact lv_if_ge hx hb hd htg h1 h2
  · rename_i off hd
    simp only [Bool.and_eq_true, decide_eq_true_eq] at hck
    obtain ⟨rfl, rfl, htg⟩ := hck
    exact lv_if_gt hx hb hd htg h1 h2
  · rename_i off hd
    simp only [Bool.and_eq_true, decide_eq_true_eq] at hck
    obtain ⟨rfl, rfl, htg⟩ := hck
    exact lv_if_le hx hb hd htg h1 h2
  · cases hck
theorem me_s15 {cs : Nat → Nat × me_P} {J : Nat → Nat → me_L → List me_S → me_V → me_U → Prop} {KR : me_K} {KX : Nat → Nat → me_L → Nat → me_V → me_U → Prop} {km : Nat} {sx : me_Sc} (F : me_Fx p s m args c C cc nL own) (hck : me_ck nm own cc nL ret cl9 pc a b ts len ix pp 15 = true) (hn : ∀ k L st v w, nx k L st v w → me_at p l e R s m args below meth c Q C nL c0 s0 (pc + len) k L st v w) (hj : ∀ pc k L st v w, J pc k L st v w → me_at p l e R s m args below meth c Q C nL c0 s0 pc k L st v w) (h : me_op cs J KR KX km sx pc a b ts k L v w nx st 15) : me_at p l e R s m args below meth c Q C nL c0 s0 pc k L st v w := by
  simp only [me_op] at h
  obtain ⟨y, st1, rfl, g1⟩ := me_tI_inv h
  obtain ⟨x, st2, rfl, ht, hf⟩ := me_tI_inv g1
  intro H locs ls hP hD hS hl
  obtain ⟨hx, hb, hml, hown, hts, hW, hB⟩ := F
  have h1 := fun z => hj _ _ _ _ _ _ (ht z) H locs ls hP hD hS hl
  have h2 := fun z => hn _ _ _ _ _ (hf z) H locs ls hP hD hS hl
  simp only [me_ck] at hck
  split at hck
  · rename_i off hd
    simp only [Bool.and_eq_true, decide_eq_true_eq] at hck
    obtain ⟨rfl, rfl, htg⟩ := hck
    exact lv_icmp_eq hx hb hd htg h1 h2
  · rename_i off hd
    simp only [Bool.and_eq_true, decide_eq_true_eq] at hck
    obtain ⟨rfl, rfl, htg⟩ := hck
    exact lv_icmp_ne hx hb hd htg h1 (fun z => h2 (fun z2 => z2 z))
  · rename_i off hd
    simp only [Bool.and_eq_true, decide_eq_true_eq] at hck
    obtain ⟨rfl, rfl, htg⟩ := hck
    exact lv_icmp_lt hx hb hd htg h1 h2
  · rename_i off hd
    simp only [Bool.and_eq_true, decide_eq_true_eq] at hck
    obtain ⟨rfl, rfl, htg⟩ := hck
    exact lv_icmp_ge hx hb hd htg h1 h2
  · rename_i off hd
    simp only [Bool.and_eq_true, decide_eq_true_eq] at hck
    obtain ⟨rfl, rfl, htg⟩ := hck
    exact lv_icmp_gt hx hb hd htg h1 h2
  · rename_i off hd
    simp only [Bool.and_eq_true, decide_eq_true_eq] at hck
    obtain ⟨rfl, rfl, htg⟩ := hck
    exact lv_icmp_le hx hb hd htg h1 h2
  · cases hck
theorem me_s16 {cs : Nat → Nat × me_P} {J : Nat → Nat → me_L → List me_S → me_V → me_U → Prop} {KR : me_K} {KX : Nat → Nat → me_L → Nat → me_V → me_U → Prop} {km : Nat} {sx : me_Sc} (F : me_Fx p s m args c C cc nL own) (hck : me_ck nm own cc nL ret cl9 pc a b ts len ix pp 16 = true) (hn : ∀ k L st v w, nx k L st v w → me_at p l e R s m args below meth c Q C nL c0 s0 (pc + len) k L st v w) (hj : ∀ pc k L st v w, J pc k L st v w → me_at p l e R s m args below meth c Q C nL c0 s0 pc k L st v w) (h : me_op cs J KR KX km sx pc a b ts k L v w nx st 16) : me_at p l e R s m args below meth c Q C nL c0 s0 pc k L st v w := by
  simp only [me_op] at h
  intro H locs ls hP hD hS hl
  obtain ⟨hx, hb, hml, hown, hts, hW, hB⟩ := F
  have h1 := hj _ _ _ _ _ _ h H locs ls hP hD hS hl
  simp only [me_ck] at hck
  split at hck
  · rename_i off hd
    simp only [decide_eq_true_eq] at hck
    exact lv_goto hx hb hd hck h1
  · cases hck
end SND
