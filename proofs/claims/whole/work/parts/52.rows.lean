/-! ===== the making of the objects: cells one behind another ===== -/
def cx_Z (C : me_C) (U : State) : Prop := va_K C.1 me_cl (me_ty C) U ∧ va_AO "ClickTrack$State" U ∧ ∀ w ∈ lw_tbl, me_isN w = true → va_Nw w U
theorem cx_Z_go {C : me_C} {u U : State} (hW : u.WarmedH U.vm) (h : cx_Z C u) : cx_Z C U := ⟨va_K.moved hW.alike h.1, va_AO.moved hW.alike h.2.1, fun w hw hN => me_Nw_go hN hW (h.2.2 w hw hN)⟩
theorem cx_Z_same {C : me_C} {u U : State} (hv : U.vm = u.vm) (h : cx_Z C u) : cx_Z C U := by
  have hal : u.vm.Alike U.vm := by rw [hv]; exact Vm.Alike.refl _
  exact ⟨va_K.moved hal h.1, va_AO.moved hal h.2.1, fun w hw hN => va_Nw.same (me_Nw_on hN) hv.symm (h.2.2 w hw hN)⟩
def cx_Pc (C : me_C) (q ci : Nat) (f0 : List Value) : Array Value → State → Prop := va_Pc [.ref q] (fun U => U.heap.size = q + 1 ∧ va_P C.1 me_cl [(q, .inr (ci, f0))] U.heap ∧ cx_Z C U)
def cx_Qc (C : me_C) (q ci : Nat) (f0 : List Value) (w1 : va_W) (mc : Nat) : Array Value → State → Outcome → State → Prop := va_Qv (fun _ : Unit => True) (fun _ t => va_P C.1 me_cl w1 t.heap ∧ va_D (va_A [(q, .inr (ci, f0))] (q + 1)) w1 ∧ t.heap.size = q + 1 + mc) (va_A [(q, .inr (ci, f0))] (q + 1))
/-- a constructor's contract: the object at q is the last cell; its own stand behind it -/
def cx_M (l : Launch) (y : MethodName) (cc : ByteArray) (nL fr lo mc ms ci : Nat) (f0 : List Value) (cw : me_C → Nat → va_W) : Prop := ∀ (C : me_C) (q : Nat), Met l y (.code y cc nL none :: me_TG) ({ frames := fr, cells := mc, slots := ms, locals := lo } : Room) (cx_Pc C q ci f0) (cx_Qc C q ci f0 (cw C q) mc) mc ms (va_A [(q, .inr (ci, f0))] (q + 1))
theorem cx_one {a : Nat × va_E} {x : Nat × va_E} {i : Nat} (h : [a][i]? = some x) : i = 0 ∧ x = a := by
  have h1 : i < 1 := (List.getElem?_eq_some_iff.mp h).1
  rw [show i = 0 by omega] at h
  exact ⟨by omega, by cases h; rfl⟩
theorem cx_D1 {A : Nat → Prop} {a : Nat × va_E} (h : A a.1) : va_D A [a] := by
  refine ⟨fun i j p q hi hj _ => ?_, fun k q hk => ?_⟩
  · rw [(cx_one hi).1, (cx_one hj).1]
  · rw [(cx_one hk).2]; exact h
theorem cx_w_i : Cond.arrayClass .int ∈ me_TG := (List.mem_filter.mpr ⟨List.mem_of_getElem? (i := 143) (by decide +kernel), rfl⟩)
theorem cx_w_l : Cond.arrayClass .long ∈ me_TG := (List.mem_filter.mpr ⟨List.mem_of_getElem? (i := 226) (by decide +kernel), rfl⟩)
theorem cx_w_z : Cond.arrayClass .boolean ∈ me_TG := (List.mem_filter.mpr ⟨List.mem_of_getElem? (i := 225) (by decide +kernel), rfl⟩)
theorem cx_w_77 : Cond.instanceMethod objectInit ∈ me_TG := (List.mem_filter.mpr ⟨List.mem_of_getElem? (i := 77) (by decide +kernel), rfl⟩)
theorem cx_w_78 : Cond.code objectInit ⟨#[0xb1]⟩ 1 none ∈ me_TG := (List.mem_filter.mpr ⟨List.mem_of_getElem? (i := 78) (by decide +kernel), rfl⟩)
section CX
variable {p : Program} {l : Launch} {e : Env} {R : Room} {s : State} {m : MethodId} {args : Array Value} {below : List Frame} {meth : Method} {c : Code} {Q : State → Prop} {C : me_C} {cc : ByteArray} {nL : Nat} {own : String} {A : Nat → Prop}
def cx_at (p : Program) (l : Launch) (e : Env) (R : Room) (s : State) (m : MethodId) (args : Array Value) (below : List Frame) (meth : Method) (c : Code) (Q : State → Prop) (C : me_C) (nL : Nat) (A : Nat → Prop) (ws : va_W) (pc k n z : Nat) (LL : List (Nat × Value)) (st : List Value) : Prop :=
  ∀ (H : Heap) (locs : List Loc) (ls : Array Slot), va_P C.1 me_cl ws H → va_D A ws → va_S A s.heap H locs → H.size = z → lv_has ls nL LL → W p l e R s m args below meth c H locs k n Q (F0 m pc ls st)
def cx_Fx (p : Program) (s : State) (m : MethodId) (args : Array Value) (c : Code) (C : me_C) (cc : ByteArray) (nL : Nat) (own : String) (A : Nat → Prop) : Prop := p.tables.exec = Jvm.exec ∧ c.code = cc ∧ c.maxLocals = nL ∧ s.vm.findClass own = some m.cls ∧ (∀ w ∈ me_TG, w.before args s = true) ∧ cx_Z C s ∧ ∀ q : Nat, s.heap.size ≤ q → A q
theorem cx_to {ws ws2 : va_W} {pc k k2 n n2 z z2 : Nat} {LL : List (Nat × Value)} {st : List Value} (h : cx_at p l e R s m args below meth c Q C nL A (ws2) (pc) (k2) (n2) (z2) (LL) (st)) (h1 : ws = ws2) (h2 : k = k2) (h3 : n = n2) (h4 : z = z2) : cx_at p l e R s m args below meth c Q C nL A (ws) (pc) (k) (n) (z) (LL) (st) := by
  subst h1 h2 h3 h4
  exact h
theorem cx_push {ws : va_W} {pc k n z : Nat} {LL : List (Nat × Value)} {st : List Value} (F : cx_Fx p s m args c C cc nL own A) {N b len : Nat} {x : Int32} (hck : me_ck (fun _ => yX0_init) own cc nL none [] pc N b [] len 0 0 0 = true) (hx9 : me_c N b = x) (kk : cx_at p l e R s m args below meth c Q C nL A (ws) (pc + len) (k) (n) (z) (LL) (.int x :: st)) : cx_at p l e R s m args below meth c Q C nL A (ws) (pc) (k) (n) (z) (LL) (st) := by
  subst hx9
  intro H locs ls hP hD hS hz hl
  obtain ⟨hx, hb, hml, hown, hts, hZ, hA⟩ := F
  have h1 := kk H locs ls hP hD hS hz hl
  simp only [me_ck] at hck
  split at hck
  · rename_i n hd
    simp only [Bool.and_eq_true, decide_eq_true_eq] at hck
    obtain ⟨rfl, hv⟩ := hck
    exact lv_iconst hx hb hd hv h1
  · rename_i n hd
    simp only [Bool.and_eq_true, decide_eq_true_eq] at hck
    obtain ⟨rfl, hv⟩ := hck
    exact lv_bipush hx hb hd hv h1
  · rename_i n hd
    simp only [Bool.and_eq_true, decide_eq_true_eq] at hck
    obtain ⟨rfl, hv⟩ := hck
    exact lv_sipush hx hb hd hv h1
  · rename_i n hd
    simp only [me_w1, Bool.and_eq_true, decide_eq_true_eq] at hck
    obtain ⟨rfl, hv⟩ := hck
    exact lv_ldc hx hb hown (hts _ (List.mem_filter.mpr ⟨List.mem_of_getElem? hv, rfl⟩)) hd h1
  · rename_i n hd
    simp only [me_w1, Bool.and_eq_true, decide_eq_true_eq] at hck
    obtain ⟨rfl, hv⟩ := hck
    exact lv_ldcw hx hb hown (hts _ (List.mem_filter.mpr ⟨List.mem_of_getElem? hv, rfl⟩)) hd h1
  · cases hck
theorem cx_al {ws : va_W} {pc k n z : Nat} {LL : List (Nat × Value)} {st : List Value} (F : cx_Fx p s m args c C cc nL own A) {j : Fin 4} {q : Nat} (hd : decode cc pc = .ok (.aload_n j, 1)) (i : Nat) (hi : LL[i]? = some ((j : Nat), .ref q)) (kk : cx_at p l e R s m args below meth c Q C nL A (ws) (pc + 1) (k) (n) (z) (LL) (.ref q :: st)) : cx_at p l e R s m args below meth c Q C nL A (ws) (pc) (k) (n) (z) (LL) (st) := fun H locs ls hP hD hS hz hl => lv_aload_n F.1 F.2.1 hd rfl (lv_at hl i hi) (kk H locs ls hP hD hS hz hl)
theorem cx_il {ws : va_W} {pc k n z : Nat} {LL : List (Nat × Value)} {st : List Value} (F : cx_Fx p s m args c C cc nL own A) {j : Fin 4} {q : Int32} (hd : decode cc pc = .ok (.iload_n j, 1)) (i : Nat) (hi : LL[i]? = some ((j : Nat), .int q)) (kk : cx_at p l e R s m args below meth c Q C nL A (ws) (pc + 1) (k) (n) (z) (LL) (.int q :: st)) : cx_at p l e R s m args below meth c Q C nL A (ws) (pc) (k) (n) (z) (LL) (st) := fun H locs ls hP hD hS hz hl => lv_iload_n F.1 F.2.1 hd rfl (lv_at hl i hi) (kk H locs ls hP hD hS hz hl)
theorem cx_is {ws : va_W} {pc k n z : Nat} {LL : List (Nat × Value)} {st : List Value} (F : cx_Fx p s m args c C cc nL own A) {j : Fin 4} {q : Int32} {L2 : List (Nat × Value)} (hd : decode cc pc = .ok (.istore_n j, 1)) (hj : (j : Nat) < nL) (hL : ((j : Nat), Value.int q) :: LL.filter (fun q => !(q.1 == (j : Nat)) && !(q.1 + 1 == (j : Nat) && q.2.category == 2)) = L2) (kk : cx_at p l e R s m args below meth c Q C nL A (ws) (pc + 1) (k) (n) (z) (L2) (st)) : cx_at p l e R s m args below meth c Q C nL A (ws) (pc) (k) (n) (z) (LL) (.int q :: st) := fun H locs ls hP hD hS hz hl => lv_istore_n F.1 F.2.1 hd rfl hl hj hL (fun ls2 hl2 => kk H locs ls2 hP hD hS hz hl2)
theorem cx_as {ws : va_W} {pc k n z : Nat} {LL : List (Nat × Value)} {st : List Value} (F : cx_Fx p s m args c C cc nL own A) {j : Fin 4} {q : Nat} {L2 : List (Nat × Value)} (hd : decode cc pc = .ok (.astore_n j, 1)) (hj : (j : Nat) < nL) (hL : ((j : Nat), Value.ref q) :: LL.filter (fun q => !(q.1 == (j : Nat)) && !(q.1 + 1 == (j : Nat) && q.2.category == 2)) = L2) (kk : cx_at p l e R s m args below meth c Q C nL A (ws) (pc + 1) (k) (n) (z) (L2) (st)) : cx_at p l e R s m args below meth c Q C nL A (ws) (pc) (k) (n) (z) (LL) (.ref q :: st) := fun H locs ls hP hD hS hz hl => lv_astore_n F.1 F.2.1 hd rfl hl hj hL (fun ls2 hl2 => kk H locs ls2 hP hD hS hz hl2)
theorem cx_is2 {ws : va_W} {pc k n z : Nat} {LL : List (Nat × Value)} {st : List Value} (F : cx_Fx p s m args c C cc nL own A) {j : Nat} {q : Int32} {L2 : List (Nat × Value)} (hd : decode cc pc = .ok (.istore j, 2)) (hj : j < nL) (hL : (j, Value.int q) :: LL.filter (fun q => !(q.1 == j) && !(q.1 + 1 == j && q.2.category == 2)) = L2) (kk : cx_at p l e R s m args below meth c Q C nL A (ws) (pc + 2) (k) (n) (z) (L2) (st)) : cx_at p l e R s m args below meth c Q C nL A (ws) (pc) (k) (n) (z) (LL) (.int q :: st) := fun H locs ls hP hD hS hz hl => lv_istore F.1 F.2.1 hd hl hj hL (fun ls2 hl2 => kk H locs ls2 hP hD hS hz hl2)
theorem cx_inc {ws : va_W} {pc k n z : Nat} {LL : List (Nat × Value)} {st : List Value} (F : cx_Fx p s m args c C cc nL own A) {j i : Nat} {d : Int} {x y : Int32} {L2 : List (Nat × Value)} (hd : decode cc pc = .ok (.iinc j d, 3)) (hi : LL[i]? = some (j, .int x)) (hy : x + Int32.ofInt d = y) (hj : j < nL) (hL : (j, Value.int y) :: LL.filter (fun q => !(q.1 == j) && !(q.1 + 1 == j && q.2.category == 2)) = L2) (kk : cx_at p l e R s m args below meth c Q C nL A (ws) (pc + 3) (k) (n) (z) (L2) (st)) : cx_at p l e R s m args below meth c Q C nL A (ws) (pc) (k) (n) (z) (LL) (st) := fun H locs ls hP hD hS hz hl => lv_iinc F.1 F.2.1 hd hl hi hy hj hL (fun ls2 hl2 => kk H locs ls2 hP hD hS hz hl2)
theorem cx_dup {ws : va_W} {pc k n z : Nat} {LL : List (Nat × Value)} {st : List Value} (F : cx_Fx p s m args c C cc nL own A) {q : Nat} (hd : decode cc pc = .ok (.dup, 1)) (kk : cx_at p l e R s m args below meth c Q C nL A (ws) (pc + 1) (k) (n) (z) (LL) (.ref q :: .ref q :: st)) : cx_at p l e R s m args below meth c Q C nL A (ws) (pc) (k) (n) (z) (LL) (.ref q :: st) := fun H locs ls hP hD hS hz hl => lv_dup F.1 F.2.1 hd rfl (kk H locs ls hP hD hS hz hl)
theorem cx_ge {ws : va_W} {pc k n z : Nat} {LL : List (Nat × Value)} {st : List Value} (F : cx_Fx p s m args c C cc nL own A) {off : Int} {tgt : Nat} {x y : Int32} (hd : decode cc pc = .ok (.if_icmp .ge off, 3)) (ht : (pc : Int) + off = (tgt : Int)) (kt : y ≤ x → cx_at p l e R s m args below meth c Q C nL A (ws) (tgt) (k) (n) (z) (LL) (st)) (kf : ¬ y ≤ x → cx_at p l e R s m args below meth c Q C nL A (ws) (pc + 3) (k) (n) (z) (LL) (st)) : cx_at p l e R s m args below meth c Q C nL A (ws) (pc) (k) (n) (z) (LL) (.int y :: .int x :: st) := fun H locs ls hP hD hS hz hl => lv_icmp_ge F.1 F.2.1 hd ht (fun h => kt h H locs ls hP hD hS hz hl) (fun h => kf h H locs ls hP hD hS hz hl)
theorem cx_goto {ws : va_W} {pc k n z : Nat} {LL : List (Nat × Value)} {st : List Value} (F : cx_Fx p s m args c C cc nL own A) {off : Int} {tgt : Nat} (hd : decode cc pc = .ok (.goto off, 3)) (ht : (pc : Int) + off = (tgt : Int)) (kk : cx_at p l e R s m args below meth c Q C nL A (ws) (tgt) (k) (n) (z) (LL) (st)) : cx_at p l e R s m args below meth c Q C nL A (ws) (pc) (k) (n) (z) (LL) (st) := fun H locs ls hP hD hS hz hl => lv_goto F.1 F.2.1 hd ht (kk H locs ls hP hD hS hz hl)
theorem cx_oi {ws : va_W} {pc k n z : Nat} {LL : List (Nat × Value)} {st : List Value} (F : cx_Fx p s m args c C cc nL own A) {ix q : Nat} (hlk : Cond.methodLink own ix objectInit ∈ me_TG) (hd : decode cc pc = .ok (.invokespecial ix, 3)) (hR : 1 ≤ R.frames ∧ (st.map fun v => v.category).sum + 12 ≤ R.locals) (kk : cx_at p l e R s m args below meth c Q C nL A (ws) (pc + 3) (k) (n) (z) (LL) (st)) : cx_at p l e R s m args below meth c Q C nL A (ws) (pc) (k) (n) (z) (LL) (.ref q :: st) := by
  intro H locs ls hP hD hS hz hl
  obtain ⟨hx, hb, hml, hown, hts, hZ, hA⟩ := F
  refine W.objInit hx hb hown (hts _ hlk) (hts _ cx_w_77) (hts _ cx_w_78) rfl (by rw [hml]; exact hl.1) rfl hd hR.1 (by show 2 * 0 + _ + 12 ≤ _; omega) ?_
  refine W.eq (g2 := F0 m (pc + 3) ls st) rfl ?_
  exact kk H locs ls hP hD hS hz hl
theorem cx_new {ws : va_W} {pc k n z : Nat} {LL : List (Nat × Value)} {st : List Value} (F : cx_Fx p s m args c C cc nL own A) {ci N ix : Nat} {Cn : String} {T : u_T} {f0 : List Value} (hcl : me_cl[ci]? = some (Cn, T, N)) (ty : Nat → FieldType) (hty : ∀ k, k < N → parseFieldDescriptor (T k).2.2.1 = some (ty k)) (hlk : Cond.classLink own ix Cn ∈ me_TG) (hin : Cond.instantiable Cn N ∈ me_TG) (hini : Cond.initialized Cn ∈ me_TG) (hfs : ∀ j, j < N → defaultValue (ty j) = vp_V f0 j) (hc : k + 1 ≤ R.cells ∧ n + N ≤ R.slots) (hd : decode cc pc = .ok (.new ix, 3)) (kk : cx_at p l e R s m args below meth c Q C nL A (ws ++ [(z, .inr (ci, f0))]) (pc + 3) (k + 1) (n + N) (z + 1) (LL) (.ref z :: st)) : cx_at p l e R s m args below meth c Q C nL A (ws) (pc) (k) (n) (z) (LL) (st) := by
  intro H locs ls hP hD hS hz hl
  obtain ⟨hx, hb, hml, hown, hts, hZ, hA⟩ := F
  subst hz
  have hK := hZ.1
  have hKn := hK.1 ci _ hcl
  refine W.newcK hx hb hown (hts _ hlk) (hts _ hin) (hts _ hini) rfl hd hc.1 hc.2 hKn.2.1 rfl fun H1 kC hkC e1 z1 o1 => ?_
  have hk : ∀ (k : Nat) (x : Nat × va_E), ws[k]? = some x → H1[x.1]? = H[x.1]? := fun k x hx => o1 x.1 ((hP k x hx).lt)
  refine kk H1 locs ls ((hP.kept hk).app (fun k x hx => ?_)) (hD.push hP rfl (hA _ hS.1)) ⟨Nat.le_trans hS.1 (by omega), fun x h1 h2 => (o1 x (Nat.lt_of_lt_of_le h1 hS.1)).trans (hS.2.1 x h1 h2), hS.2.2⟩ z1 hl
  rw [(cx_one hx).2]
  exact ⟨_, hcl, (u_born ty hts (me_clok hcl).1 hKn hkC e1 hty).to hfs⟩
theorem cx_na_i {ws : va_W} {pc k n z : Nat} {LL : List (Nat × Value)} {st : List Value} (F : cx_Fx p s m args c C cc nL own A) {N : Nat} (hN : N < 2 ^ 31) (hby : N * componentBytes .int ≤ 536870912) (hc : k + 1 ≤ R.cells ∧ n + N ≤ R.slots) (hd : decode cc pc = .ok (.newarray .int, 2)) (kk : cx_at p l e R s m args below meth c Q C nL A (ws ++ [(z, .inl (C.2.2.1, N, .inl (fun _ => 0)))]) (pc + 2) (k + 1) (n + N) (z + 1) (LL) (.ref z :: st)) : cx_at p l e R s m args below meth c Q C nL A (ws) (pc) (k) (n) (z) (LL) (.int (nI N) :: st) := by
  intro H locs ls hP hD hS hz hl
  obtain ⟨hx, hb, hml, hown, hts, hZ, hA⟩ := F
  subst hz
  have hK := hZ.1
  refine va_newaK (atype := .int) hx hb (hts _ cx_w_i) rfl hd rfl (nI_pos hN) (nI_clamp hN) hby hc.1 hc.2 rfl fun H1 cA e1 z1 o1 hAr hNm => ?_
  have e : cA = C.2.2.1 := by
    have h2 : s.vm.findClass ("[" ++ (.int : FieldType).toString) = some (C.2.2.1) := (hK.2 0 _ rfl).2
    exact Option.some.inj (hNm.symm.trans h2)
  subst e
  have hk : ∀ (k : Nat) (x : Nat × va_E), ws[k]? = some x → H1[x.1]? = H[x.1]? := fun k x hx => o1 x.1 ((hP k x hx).lt)
  refine kk H1 locs ls ((hP.kept hk).app (fun k x hx => ?_)) (hD.push hP rfl (hA _ hS.1)) ⟨Nat.le_trans hS.1 (by omega), fun x h1 h2 => (o1 x (Nat.lt_of_lt_of_le h1 hS.1)).trans (hS.2.1 x h1 h2), hS.2.2⟩ z1 hl
  rw [(cx_one hx).2]
  exact e1
theorem cx_na_l {ws : va_W} {pc k n z : Nat} {LL : List (Nat × Value)} {st : List Value} (F : cx_Fx p s m args c C cc nL own A) {N : Nat} (hN : N < 2 ^ 31) (hby : N * componentBytes .long ≤ 536870912) (hc : k + 1 ≤ R.cells ∧ n + N ≤ R.slots) (hd : decode cc pc = .ok (.newarray .long, 2)) (kk : cx_at p l e R s m args below meth c Q C nL A (ws ++ [(z, .inl (C.2.2.2.1, N, .inr (.inl (fun _ => 0))))]) (pc + 2) (k + 1) (n + N) (z + 1) (LL) (.ref z :: st)) : cx_at p l e R s m args below meth c Q C nL A (ws) (pc) (k) (n) (z) (LL) (.int (nI N) :: st) := by
  intro H locs ls hP hD hS hz hl
  obtain ⟨hx, hb, hml, hown, hts, hZ, hA⟩ := F
  subst hz
  have hK := hZ.1
  refine va_newaK (atype := .long) hx hb (hts _ cx_w_l) rfl hd rfl (nI_pos hN) (nI_clamp hN) hby hc.1 hc.2 rfl fun H1 cA e1 z1 o1 hAr hNm => ?_
  have e : cA = C.2.2.2.1 := by
    have h2 : s.vm.findClass ("[" ++ (.long : FieldType).toString) = some (C.2.2.2.1) := (hK.2 1 _ rfl).2
    exact Option.some.inj (hNm.symm.trans h2)
  subst e
  have hk : ∀ (k : Nat) (x : Nat × va_E), ws[k]? = some x → H1[x.1]? = H[x.1]? := fun k x hx => o1 x.1 ((hP k x hx).lt)
  refine kk H1 locs ls ((hP.kept hk).app (fun k x hx => ?_)) (hD.push hP rfl (hA _ hS.1)) ⟨Nat.le_trans hS.1 (by omega), fun x h1 h2 => (o1 x (Nat.lt_of_lt_of_le h1 hS.1)).trans (hS.2.1 x h1 h2), hS.2.2⟩ z1 hl
  rw [(cx_one hx).2]
  exact e1
theorem cx_na_z {ws : va_W} {pc k n z : Nat} {LL : List (Nat × Value)} {st : List Value} (F : cx_Fx p s m args c C cc nL own A) {N : Nat} (hN : N < 2 ^ 31) (hby : N * componentBytes .boolean ≤ 536870912) (hc : k + 1 ≤ R.cells ∧ n + N ≤ R.slots) (hd : decode cc pc = .ok (.newarray .boolean, 2)) (kk : cx_at p l e R s m args below meth c Q C nL A (ws ++ [(z, .inl (C.2.2.2.2.1, N, .inl (fun _ => 0)))]) (pc + 2) (k + 1) (n + N) (z + 1) (LL) (.ref z :: st)) : cx_at p l e R s m args below meth c Q C nL A (ws) (pc) (k) (n) (z) (LL) (.int (nI N) :: st) := by
  intro H locs ls hP hD hS hz hl
  obtain ⟨hx, hb, hml, hown, hts, hZ, hA⟩ := F
  subst hz
  have hK := hZ.1
  refine va_newaK (atype := .boolean) hx hb (hts _ cx_w_z) rfl hd rfl (nI_pos hN) (nI_clamp hN) hby hc.1 hc.2 rfl fun H1 cA e1 z1 o1 hAr hNm => ?_
  have e : cA = C.2.2.2.2.1 := by
    have h2 : s.vm.findClass ("[" ++ (.boolean : FieldType).toString) = some (C.2.2.2.2.1) := (hK.2 2 _ rfl).2
    exact Option.some.inj (hNm.symm.trans h2)
  subst e
  have hk : ∀ (k : Nat) (x : Nat × va_E), ws[k]? = some x → H1[x.1]? = H[x.1]? := fun k x hx => o1 x.1 ((hP k x hx).lt)
  refine kk H1 locs ls ((hP.kept hk).app (fun k x hx => ?_)) (hD.push hP rfl (hA _ hS.1)) ⟨Nat.le_trans hS.1 (by omega), fun x h1 h2 => (o1 x (Nat.lt_of_lt_of_le h1 hS.1)).trans (hS.2.1 x h1 h2), hS.2.2⟩ z1 hl
  rw [(cx_one hx).2]
  exact e1
theorem cx_nq {ws : va_W} {pc k n z : Nat} {LL : List (Nat × Value)} {st : List Value} (F : cx_Fx p s m args c C cc nL own A) {ix N : Nat} (hN : N < 2 ^ 27) (hlk : Cond.classLink own ix "ClickTrack$State" ∈ me_TG) (hc : k + 1 ≤ R.cells ∧ n + N ≤ R.slots) (hd : decode cc pc = .ok (.anewarray ix, 3)) (kk : cx_at p l e R s m args below meth c Q C nL A (ws ++ [(z, .inl (C.2.2.2.2.2.1, N, .inr (.inr (.inr (.inr (fun _ => none))))))]) (pc + 3) (k + 1) (n + N) (z + 1) (LL) (.ref z :: st)) : cx_at p l e R s m args below meth c Q C nL A (ws) (pc) (k) (n) (z) (LL) (.int (nI N) :: st) := by
  intro H locs ls hP hD hS hz hl
  obtain ⟨hx, hb, hml, hown, hts, hZ, hA⟩ := F
  subst hz
  have hK := hZ.1
  have hcp : (nI N).toNatClampNeg = N := nI_clamp (by omega)
  refine W.anew hx hb hown (hts _ hlk) (va_AO.use hZ.2.1) rfl hd rfl (nI_pos (by omega)) (by rw [hcp]; omega) hc.1 (by rw [hcp]; exact hc.2) fun cA kA comp f1 f2 f3 f4 => ?_
  rw [hcp]
  have e : cA = C.2.2.2.2.2.1 := by
    obtain ⟨-, kA2, comp2, -, -, -, h2⟩ := hK.2 3 _ rfl
    exact Option.some.inj (f1.symm.trans h2)
  subst e
  generalize hH1 : H.push ({ cls := C.2.2.2.2.2.1, slots := Array.replicate N .null, vm := .none } : Cell) = H1
  have z1 : H1.size = H.size + 1 := by rw [← hH1, Array.size_push]
  have e1 : H1[H.size]? = some (arrV C.2.2.2.2.2.1 N (fun _ => .null)) := by rw [← hH1, Array.getElem?_push_size, ← arrV_new]
  have o1 : ∀ q : Nat, q < H.size → H1[q]? = H[q]? := fun q hq => by rw [← hH1, Array.getElem?_push, if_neg (Nat.ne_of_lt hq)]
  have hk : ∀ (k : Nat) (x : Nat × va_E), ws[k]? = some x → H1[x.1]? = H[x.1]? := fun k x hx => o1 x.1 ((hP k x hx).lt)
  refine kk H1 locs ls ((hP.kept hk).app (fun k x hx => ?_)) (hD.push hP rfl (hA _ hS.1)) ⟨Nat.le_trans hS.1 (by omega), fun x h1 h2 => (o1 x (Nat.lt_of_lt_of_le h1 hS.1)).trans (hS.2.1 x h1 h2), hS.2.2⟩ z1 hl
  rw [(cx_one hx).2]
  exact e1
theorem cx_wf {q ci : Nat} {f0 : List Value} {H : Heap} {locs : List Loc} {ws : va_W} (hA : ∀ q : Nat, s.heap.size ≤ q → A q) (hD : va_D A (ws ++ [(q, .inr (ci, f0))])) (hS : va_S A s.heap H locs) (hz : H.size = q + 1) : ∀ x, va_A [(q, .inr (ci, f0))] (q + 1) x → A x := by
  intro x h
  rcases h with ⟨k, e9, hk⟩ | h
  · have h1 := (cx_one hk).2
    have h2 := hD.2 ws.length (q, .inr (ci, f0)) (by rw [List.getElem?_append_right (Nat.le_refl _), Nat.sub_self]; rfl)
    cases h1
    exact h2
  · exact hA x (Nat.le_trans hS.1 (by omega))
theorem cx_jn {q ci : Nat} {f0 : List Value} {H H1 : Heap} {ws w1 : va_W} {D : va_G} (hP : va_P D me_cl (ws ++ [(q, .inr (ci, f0))]) H) (hD : va_D A (ws ++ [(q, .inr (ci, f0))])) (hz : H.size = q + 1) (hk1 : ∀ x : Nat, x < H.size → ¬ va_A [(q, .inr (ci, f0))] (q + 1) x → H1[x]? = H[x]?) (hF : ∀ x, va_A [(q, .inr (ci, f0))] (q + 1) x → A x) (hP1 : va_P D me_cl w1 H1) (hD1 : va_D (va_A [(q, .inr (ci, f0))] (q + 1)) w1) : va_P D me_cl (ws ++ w1) H1 ∧ va_D A (ws ++ w1) := by
  have hq : (ws ++ [(q, (.inr (ci, f0) : va_E))])[ws.length]? = some (q, .inr (ci, f0)) := by rw [List.getElem?_append_right (Nat.le_refl _), Nat.sub_self]; rfl
  have hw : ∀ (k : Nat) (x : Nat × va_E), ws[k]? = some x → (ws ++ [(q, (.inr (ci, f0) : va_E))])[k]? = some x := fun k x hx => by rw [List.getElem?_append_left (List.getElem?_eq_some_iff.mp hx).1]; exact hx
  have ap : ∀ (k : Nat) (x : Nat × va_E), ws[k]? = some x → x.1 < H.size ∧ ¬ va_A [(q, .inr (ci, f0))] (q + 1) x.1 := by
    intro k x hx
    have hlt := (hP k x (hw k x hx)).lt
    refine ⟨hlt, fun h => ?_⟩
    rcases h with ⟨j, e9, hj⟩ | h
    · have h1 := (cx_one hj).2
      have h2 := hD.1 k ws.length x (q, .inr (ci, f0)) (hw k x hx) hq (by have h9 := congrArg Prod.fst h1; exact h9)
      have h3 := (List.getElem?_eq_some_iff.mp hx).1
      omega
    · omega
  refine ⟨va_P.app (fun k x hx => ?_) hP1, va_D.app ⟨fun i j x y hi hj hxy => hD.1 i j x y (hw i x hi) (hw j y hj) hxy, fun k x hx => hD.2 k x (hw k x hx)⟩ (hD1.weaken (fun k x hx h => hF _ h)) (fun i j x y hi hj hxy => ?_)⟩
  · exact (hP k x (hw k x hx)).kept (hk1 _ (ap k x hx).1 (ap k x hx).2)
  · exact (ap i x hi).2 (hxy ▸ hD1.2 j y hj)
theorem cx_blind {q ci : Nat} {f0 : List Value} : FrameBlind (cx_Pc C q ci f0) := fun _ x g mk h => ⟨h.1, h.2.1, h.2.2.1, cx_Z_same (u := x) rfl h.2.2.2⟩
theorem cx_end1 {q ci : Nat} {f0 : List Value} {H : Heap} {ws : va_W} {D : va_G} (hP : va_P D me_cl (ws ++ [(q, .inr (ci, f0))]) H) : va_P D me_cl [(q, .inr (ci, f0))] H := fun k x hx => by
  rw [(cx_one hx).2]
  exact hP ws.length _ (by rw [List.getElem?_append_right (Nat.le_refl _), Nat.sub_self]; rfl)
theorem cx_nest {ws : va_W} {pc k n : Nat} {LL : List (Nat × Value)} {st : List Value} (F : cx_Fx p s m args c C cc nL own A) {y : MethodName} {bytes : ByteArray} {maxL fr lo mc ms ci ix q : Nat} {f0 : List Value} {cw : me_C → Nat → va_W} {host : String} (hM : cx_M l y bytes maxL fr lo mc ms ci f0 cw) (hlk : Cond.methodLinkNest own ix y host ∈ lw_tbl) (hins : Cond.instanceMethod y ∈ me_TG) (hcode : Cond.code y bytes maxL none ∈ me_TG) (hini : Cond.initialized y.cls ∈ me_TG) (hy1 : y.name = "<init>") (hy : y.cls ≠ "java/lang/invoke/MethodHandle" ∧ y.cls ≠ "java/lang/invoke/VarHandle" ∧ (parseMethodDescriptor y.desc).map (fun d => d.parameters.length) = some 0) (hR : fr + 1 ≤ R.frames ∧ 8 + (maxL + 11) + lo ≤ R.locals) (hc : k + mc ≤ R.cells ∧ n + ms ≤ R.slots) (hst : (st.map fun v => v.category).sum ≤ 8) (hd : decode cc pc = .ok (.invokespecial ix, 3)) (kk : cx_at p l e R s m args below meth c Q C nL A (ws ++ cw C q) (pc + 3) (k + mc) (n + ms) (q + 1 + mc) (LL) (st)) : cx_at p l e R s m args below meth c Q C nL A (ws ++ [(q, .inr (ci, f0))]) (pc) (k) (n) (q + 1) (LL) (.ref q :: st) := by
  intro H locs ls hP hD hS hz hl
  obtain ⟨hx, hb, hml, hown, hts, hZ, hA⟩ := F
  have hF := cx_wf hA hD hS hz
  refine va_callv (va_runIN (As := []) (rest := st) ⟨hx, hb, hml, hown, hts⟩ (hM C q) ⟨va_cnB 0 hts (me_TG_in hcode) rfl rfl rfl (hZ.2.2 _ hlk rfl) (hts _ hini) hy hR, hy1, hts _ hins⟩ ⟨cx_blind, fun U hU hW => ⟨rfl, by rw [hU]; exact hz, by rw [hU]; exact cx_end1 hP, cx_Z_go hW hZ⟩⟩ rfl rfl hl.1 rfl (by show 2 * 0 + _ ≤ 8; omega) hd hc) hS (fun x _ h => hF x h) hF (fun u t H1 locs1 ht hal hpost hB hsz hk1 hS1 => ?_)
  obtain ⟨hP1, hD1, hz1⟩ := hB
  rw [ht] at hP1 hz1
  obtain ⟨j1, j2⟩ := cx_jn hP hD hz hk1 hF hP1 hD1
  exact kk H1 locs1 ls j1 j2 hS1 hz1 hl
theorem cx_call {ws : va_W} {pc k n : Nat} {LL : List (Nat × Value)} {st : List Value} (F : cx_Fx p s m args c C cc nL own A) {y : MethodName} {bytes : ByteArray} {maxL fr lo mc ms ci ix q : Nat} {f0 : List Value} {cw : me_C → Nat → va_W} (hM : cx_M l y bytes maxL fr lo mc ms ci f0 cw) (hlk : Cond.methodLink own ix y ∈ me_TG) (hins : Cond.instanceMethod y ∈ me_TG) (hcode : Cond.code y bytes maxL none ∈ me_TG) (hini : Cond.initialized y.cls ∈ me_TG) (hy1 : y.name = "<init>") (hy : y.cls ≠ "java/lang/invoke/MethodHandle" ∧ y.cls ≠ "java/lang/invoke/VarHandle" ∧ (parseMethodDescriptor y.desc).map (fun d => d.parameters.length) = some 0) (hR : fr + 1 ≤ R.frames ∧ 8 + (maxL + 11) + lo ≤ R.locals) (hc : k + mc ≤ R.cells ∧ n + ms ≤ R.slots) (hst : (st.map fun v => v.category).sum ≤ 8) (hd : decode cc pc = .ok (.invokespecial ix, 3)) (kk : cx_at p l e R s m args below meth c Q C nL A (ws ++ cw C q) (pc + 3) (k + mc) (n + ms) (q + 1 + mc) (LL) (st)) : cx_at p l e R s m args below meth c Q C nL A (ws ++ [(q, .inr (ci, f0))]) (pc) (k) (n) (q + 1) (LL) (.ref q :: st) := by
  intro H locs ls hP hD hS hz hl
  obtain ⟨hx, hb, hml, hown, hts, hZ, hA⟩ := F
  have hF := cx_wf hA hD hS hz
  refine va_callv (va_runI (As := []) (rest := st) ⟨hx, hb, hml, hown, hts⟩ (hM C q) (cwI 0 hts (me_TG_in hcode) rfl rfl rfl (hts _ hini) (hts _ hlk) (hts _ hins) hy1 hy hR) ⟨cx_blind, fun U hU hW => ⟨rfl, by rw [hU]; exact hz, by rw [hU]; exact cx_end1 hP, cx_Z_go hW hZ⟩⟩ rfl rfl hl.1 rfl (by show 2 * 0 + _ ≤ 8; omega) hd hc) hS (fun x _ h => hF x h) hF (fun u t H1 locs1 ht hal hpost hB hsz hk1 hS1 => ?_)
  obtain ⟨hP1, hD1, hz1⟩ := hB
  rw [ht] at hP1 hz1
  obtain ⟨j1, j2⟩ := cx_jn hP hD hz hk1 hF hP1 hD1
  exact kk H1 locs1 ls j1 j2 hS1 hz1 hl
theorem cx_put {h0 ci : Nat} {fs : List Value} {tl : va_W} {pc k n z : Nat} {LL : List (Nat × Value)} {st : List Value} (F : cx_Fx p s m args c C cc nL own A) (hinit : meth.name = "<init>") {N ix j v : Nat} {Cn : String} {T : u_T} {ty : FieldType} (hcl : me_cl[ci]? = some (Cn, T, N)) (hj : j < N) (hfin : (T j).2.2.2 = true) (hdecl : (T j).1 = own) (hlk : Cond.fieldLink own ix own (T j).2.1 (T j).2.2.1 ∈ me_TG) (hty : parseFieldDescriptor (T j).2.2.1 = some ty) (hn : narrow ty (.ref v) = .ref v) (hfit : fits ty (.ref v) = true) (hl9 : j < fs.length) (hd : decode cc pc = .ok (.putfield ix, 3)) (kk : cx_at p l e R s m args below meth c Q C nL A ((h0, .inr (ci, fs.set j (.ref v))) :: tl) (pc + 3) (k) (n) (z) (LL) (st)) : cx_at p l e R s m args below meth c Q C nL A ((h0, .inr (ci, fs)) :: tl) (pc) (k) (n) (z) (LL) (.ref v :: .ref h0 :: st) := by
  intro H locs ls hP hD hS0 hz hl
  obtain ⟨hx, hb, hml, hown, hts, hZ, hA⟩ := F
  obtain ⟨hin, ⟨ty0, hty0⟩, hnm⟩ := me_clok hcl
  have hK := hZ.1
  have hap := va_apart (own := own) hts hin ty0 hty0 hnm hK hcl
  have he : (((h0, .inr (ci, fs)) :: tl : va_W))[0]? = some (h0, .inr (ci, fs)) := rfl
  obtain ⟨r, h1, cell, q1, q2, q3, q4⟩ := hP 0 _ he
  have hr : r = (Cn, T, N) := Option.some.inj (h1.symm.trans hcl)
  subst hr
  obtain ⟨hS, hfc, kC, hkC, hkind⟩ := hK.1 ci _ hcl
  obtain ⟨cf, kf, fi, f, hi, hsl⟩ := hS j hj
  have hlay := hts _ (hin _ (u_in_lay hj))
  unfold u_lay at hlay
  rw [if_pos hfin] at hlay
  have hst := (u_facts hfc hkC (u_lays hts hin hj) hi).1
  have hcf : m.cls = cf := by
    obtain ⟨_, _, c', _, _, _, -, -, hf', -, -, -, hown2, -⟩ := Cond.laysFinal_spec hlay
    have e1 : c' = cf := by have := hi.symm.trans hf'; simp at this; exact this.1.symm
    rw [hdecl] at hown2
    rw [← e1]; exact Option.some.inj (hown.symm.trans hown2)
  have h6 := u_fits hfc hkC hkind (Or.inr hlay) hi hty hn hfit
  refine W.putFinK hx hb hown (hts _ hlk) (by rw [← hdecl]; exact hi) hst hcf hinit (by rw [q2]; exact h6) q1 q3 (by rw [hsl]; exact k2_hasslot (q4 j hj)) rfl rfl hd fun H' e1 e2 e3 => ?_
  rw [hsl] at e1 ⊢
  exact kk H' _ ls (hP.set hD he ⟨_, hcl, t_OB.to (V := updV (vp_V fs) j (.ref v)) ⟨_, e1, q2, q3, t_set q4 hap hj (.ref v)⟩ (fun i _ => vp_updV_set hl9 (.ref v) i)⟩ e3) (hD.set he) (hS0.put e2 e3 (hD.2 0 _ he)) (e2.trans hz) hl
theorem cx_puti {h0 ci : Nat} {fs : List Value} {tl : va_W} {pc k n z : Nat} {LL : List (Nat × Value)} {st : List Value} (F : cx_Fx p s m args c C cc nL own A) {N ix j : Nat} {x : Int32} {Cn : String} {T : u_T} (hcl : me_cl[ci]? = some (Cn, T, N)) (hj : j < N) (hfin : (T j).2.2.2 = false) (hdecl : (T j).1 = own) (hlk : Cond.fieldLink own ix own (T j).2.1 (T j).2.2.1 ∈ me_TG) (hty : parseFieldDescriptor (T j).2.2.1 = some .int) (hl9 : j < fs.length) (hd : decode cc pc = .ok (.putfield ix, 3)) (kk : cx_at p l e R s m args below meth c Q C nL A ((h0, .inr (ci, fs.set j (.int x))) :: tl) (pc + 3) (k) (n) (z) (LL) (st)) : cx_at p l e R s m args below meth c Q C nL A ((h0, .inr (ci, fs)) :: tl) (pc) (k) (n) (z) (LL) (.int x :: .ref h0 :: st) := by
  intro H locs ls hP hD hS0 hz hl
  obtain ⟨hx, hb, hml, hown, hts, hZ, hA⟩ := F
  obtain ⟨hin, ⟨ty0, hty0⟩, hnm⟩ := me_clok hcl
  have hK := hZ.1
  have hap := va_apart (own := own) hts hin ty0 hty0 hnm hK hcl
  have he : (((h0, .inr (ci, fs)) :: tl : va_W))[0]? = some (h0, .inr (ci, fs)) := rfl
  obtain ⟨r, h1, cell, q1, q2, q3, q4⟩ := hP 0 _ he
  have hr : r = (Cn, T, N) := Option.some.inj (h1.symm.trans hcl)
  subst hr
  obtain ⟨hS, hfc, kC, hkC, hkind⟩ := hK.1 ci _ hcl
  obtain ⟨cf, kf, fi, f, hi, hsl⟩ := hS j hj
  have hlay := hts _ (hin _ (u_in_lay hj))
  unfold u_lay at hlay
  rw [if_neg (by rw [hfin]; decide)] at hlay
  have hst := (u_facts hfc hkC (u_lays hts hin hj) hi).1
  have h6 := u_store hfc hkC hkind hlay hi hty (v := .int x) rfl rfl
  refine W.putK hx hb (f := f) ⟨hown, hts _ hlk, ⟨_, _, _, by rw [← hdecl]; exact hi⟩, hst⟩ (by rw [q2]; exact h6) q1 q3 (by rw [hsl]; exact k2_hasslot (q4 j hj)) rfl rfl hd fun H' e1 e2 e3 => ?_
  rw [hsl] at e1 ⊢
  exact kk H' _ ls (hP.set hD he ⟨_, hcl, t_OB.to (V := updV (vp_V fs) j (.int x)) ⟨_, e1, q2, q3, t_set q4 hap hj (.int x)⟩ (fun i _ => vp_updV_set hl9 (.int x) i)⟩ e3) (hD.set he) (hS0.put e2 e3 (hD.2 0 _ he)) (e2.trans hz) hl
theorem cx_get {h0 ci : Nat} {fs : List Value} {tl : va_W} {pc k n z : Nat} {LL : List (Nat × Value)} {st : List Value} (F : cx_Fx p s m args c C cc nL own A) {N ix j : Nat} {x : Value} {Cn : String} {T : u_T} (hcl : me_cl[ci]? = some (Cn, T, N)) (hj : j < N) (hdecl : (T j).1 = own) (hlk : Cond.fieldLink own ix own (T j).2.1 (T j).2.2.1 ∈ me_TG) (hx9 : fs[j]? = some x) (hd : decode cc pc = .ok (.getfield ix, 3)) (kk : cx_at p l e R s m args below meth c Q C nL A ((h0, .inr (ci, fs)) :: tl) (pc + 3) (k) (n) (z) (LL) (x :: st)) : cx_at p l e R s m args below meth c Q C nL A ((h0, .inr (ci, fs)) :: tl) (pc) (k) (n) (z) (LL) (.ref h0 :: st) := by
  intro H locs ls hP hD hS0 hz hl
  obtain ⟨hx, hb, hml, hown, hts, hZ, hA⟩ := F
  exact va_get (D := C.1) (ci := ci) (C := Cn) (T := T) (N := N) hx hb hts (me_clok hcl).1 hown hZ.1 hP 0 (fs := fs) rfl hcl j hj (hts _ hlk) (fun _ h9 => by rw [hdecl] at h9; exact h9) hx9 hd (kk H locs ls hP hD hS0 hz hl)
theorem cx_set {α : Type} (x y : α) : ∀ (a b : List α), (a ++ x :: b).set a.length y = a ++ y :: b
  | [], b => rfl
  | c :: a, b => by
    show c :: (a ++ x :: b).set a.length y = _
    rw [cx_set x y a b]
    rfl
/-- a State into its place in an array -/
theorem cx_ast {a v N : Nat} {vs : List Value} {f : Nat → Option Nat} {pre post : va_W} {pc k n z : Nat} {LL : List (Nat × Value)} {st : List Value} {i : Int32} (F : cx_Fx p s m args c C cc nL own A) (hv : (v, .inr (3, vs)) ∈ pre ++ (a, .inl (C.2.2.2.2.2.1, N, .inr (.inr (.inr (.inr f))))) :: post) (hin : vp_in i N) (hd : decode cc pc = .ok (.aastore, 1)) (kk : cx_at p l e R s m args below meth c Q C nL A (pre ++ (a, .inl (C.2.2.2.2.2.1, N, .inr (.inr (.inr (.inr (va_up f i.toNatClampNeg (some v))))))) :: post) (pc + 1) (k) (n) (z) (LL) (st)) : cx_at p l e R s m args below meth c Q C nL A (pre ++ (a, .inl (C.2.2.2.2.2.1, N, .inr (.inr (.inr (.inr f))))) :: post) (pc) (k) (n) (z) (LL) (.ref v :: .int i :: .ref a :: st) := by
  intro H locs ls hP hD hS hz hl
  obtain ⟨hx, hb, hml, hown, hts, hZ, hA⟩ := F
  have hK := hZ.1
  obtain ⟨qk, hqk⟩ := List.getElem?_of_mem hv
  have ha : (pre ++ (a, .inl (C.2.2.2.2.2.1, N, .inr (.inr (.inr (.inr f))))) :: post)[pre.length]? = some (a, .inl (C.2.2.2.2.2.1, N, .inr (.inr (.inr (.inr f))))) := by rw [List.getElem?_append_right (Nat.le_refl _), Nat.sub_self]; rfl
  have hlt : i.toNatClampNeg < N := Nat.not_le.mp fun q => hin (Or.inr q)
  have h0 : ¬ i < 0 := fun q => hin (Or.inl q)
  obtain ⟨r', hr', cellV, g1, g2, g3, -⟩ := hP qk _ hqk
  have hcls := (hK.1 3 _ rfl).2
  obtain ⟨kA, comp, k1, k2, k3, -⟩ := (hK.2 3 _ rfl).2
  have hcomp : comp = C.1.1 3 := Option.some.inj (k3.symm.trans hcls.1)
  subst hcomp
  obtain ⟨kC, hkC, -⟩ := hcls.2
  refine W.aast hx hb (hP pre.length _ ha) (fun q h => by cases h) (fun h => by cases h) k1 k2 rfl hkC ⟨h0, by show _ < (arrV _ _ _).slots.size; rw [arrV_size]; exact hlt⟩ g1 (fun q h => by rw [g3] at h; cases h) (by rw [g2]; exact hkC) (by rw [g2]; exact va_assign hcls) rfl rfl hd fun H1 e z1 oq => ?_
  have hPn := hP.set (e := .inl (C.2.2.2.2.2.1, N, .inr (.inr (.inr (.inr (va_up f i.toNatClampNeg (some v))))))) hD ha (by
    show H1[a]? = some (vp_cell _ _)
    rw [e]
    rw [vp_cell_q, vp_cell_q, arrV_store]
    congr 2
    funext q
    by_cases hq : q = i.toNatClampNeg
    · subst hq
      simp [updV, va_up, va_rf]
    · simp [updV, va_up, hq]) oq
  have hDn := hD.set (e := .inl (C.2.2.2.2.2.1, N, .inr (.inr (.inr (.inr (va_up f i.toNatClampNeg (some v))))))) ha
  rw [cx_set] at hPn hDn
  exact kk H1 _ ls hPn hDn (hS.put z1 oq (hD.2 pre.length _ ha)) (z1.trans hz) hl
end CX
