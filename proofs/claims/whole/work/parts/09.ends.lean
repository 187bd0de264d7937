/-! ===== a throw, the ends, whole methods ===== -/
def me_nms : List String := ["java/lang/RuntimeException", "java/lang/Exception"]
def me_ic (a : Nat) : Nat := match a with
  | 0 => 357
  | 1 => 70
  | _ => 81
def me_atk (a : Nat) : Bool := (vx_atS RX6 (me_ic a) (me_xn a) me_nms).all (fun w => (goodWord w || me_isN w) && lw_tbl.any (fun z => decide (z = w)))
set_option maxRecDepth 100000 in
theorem me_atk0 : me_atk 0 = true := by decide +kernel
set_option maxRecDepth 100000 in
theorem me_atk1 : me_atk 1 = true := by decide +kernel
set_option maxRecDepth 100000 in
theorem me_atk2 : me_atk 2 = true := by decide +kernel
def me_ini (a : Nat) : Bool := lw_tbl.any (fun z => decide (z = Cond.initialized (me_xn a))) && (Bundle.fit (me_xn a) && me_nms.all Bundle.fit)
theorem me_ini0 : me_ini 0 = true := by decide +kernel
theorem me_ini1 : me_ini 1 = true := by decide +kernel
theorem me_ini2 : me_ini 2 = true := by decide +kernel
theorem me_any {w : Cond} (h : lw_tbl.any (fun z => decide (z = w)) = true) : w ∈ lw_tbl := by
  obtain ⟨z, hz, he⟩ := List.any_eq_true.mp h
  rw [← of_decide_eq_true he]
  exact hz
/-- a throw's check: new, dup, the text, the constructor, athrow -/
def me_ckT (own : String) (cc : ByteArray) (pc a : Nat) (ts : List Nat) (pp : Nat) : Bool :=
  match decode cc pc, decode cc (pc + 3), decode cc (pc + 4) with
  | .ok (.new ik, 3), .ok (.dup, 1), .ok (.ldc is, 2) => decide (own = RX6) && (decide (a < 3) && (me_w1 (ts.headD 0) (.classLink own ik (me_xn a)) && ((match lw_tbl[pp]? with | some (.stringRef o i _) => decide (o = own) && decide (i = is) | _ => false) &&
      (match decode cc (pc + 6), decode cc (pc + 9) with | .ok (.invokespecial ic, 3), .ok (.athrow, 1) => decide (ic = me_ic a) | _, _ => false))))
  | .ok (.new ik, 3), .ok (.dup, 1), .ok (.ldc_w is, 3) => decide (own = RX6) && (decide (a < 3) && (me_w1 (ts.headD 0) (.classLink own ik (me_xn a)) && ((match lw_tbl[pp]? with | some (.stringRef o i _) => decide (o = own) && decide (i = is) | _ => false) &&
      (match decode cc (pc + 7), decode cc (pc + 10) with | .ok (.invokespecial ic, 3), .ok (.athrow, 1) => decide (ic = me_ic a) | _, _ => false))))
  | _, _, _ => false
theorem me_str {own : String} {is pp : Nat} (h : (match lw_tbl[pp]? with | some (.stringRef o i _) => decide (o = own) && decide (i = is) | _ => false) = true) : ∃ tx : String, (own, is, tx) ∈ me_strs := by
  split at h
  · rename_i o i tx hq
    simp only [Bool.and_eq_true, decide_eq_true_eq] at h
    obtain ⟨rfl, rfl⟩ := h
    exact ⟨tx, List.mem_filterMap.mpr ⟨_, List.mem_of_getElem? hq, rfl⟩⟩
  · cases h
section END
variable {nm : Nat → MethodName} {p : Program} {l : Launch} {e : Env} {R : Room} {s : State} {m : MethodId} {args : Array Value} {below : List Frame} {meth : Method} {c : Code} {C : me_C} {cc : ByteArray} {nL : Nat} {own : String} {ret : Option FieldType} {cl9 : List Nat}
variable {pc a b len ix pp k : Nat} {ts : List Nat} {L : me_L} {st : List me_S} {v : me_V} {w : me_U} {nx : Nat → me_L → List me_S → me_V → me_U → Prop}
variable {cs : Nat → Nat × me_P} {J : Nat → Nat → me_L → List me_S → me_V → me_U → Prop} {K : me_K} {X : me_X} {KX : Nat → Nat → me_L → Nat → me_V → me_U → Prop} {km : Nat} {sx : me_Sc}
theorem me_s31 (F : me_Fx p s m args c C cc nL own) (hr : meth.sig.returnType = ret) (hlk : meth.locks = false) (hck : me_ck nm own cc nL ret cl9 pc a b ts len ix pp 31 = true) (h : me_op cs J K KX km sx pc a b ts k L v w nx st 31) : me_at p l e R s m args below meth c (vx_MQ below (me_Qc C K) (me_XC C X) args s km (6 * km) (me_A C)) C nL 0 0 pc k L st v w := by
  simp only [me_op] at h
  obtain ⟨rfl, hkm, hK⟩ := h
  intro H locs ls hP hD hS hl
  obtain ⟨hx, hb, hml, hown, hts, hW, hB⟩ := F
  simp only [me_ck] at hck
  split at hck
  · rename_i hd
    simp only [decide_eq_true_eq] at hck
    subst hck
    refine W.widen (k := km) (n := 6 * km) (by omega) (by omega) (vx_ret ?_)
    exact W.vret hx hb hr (fun t ht hWm => ⟨⟨none, v, w, rfl, hK, ⟨by rw [ht]; exact hP, hD⟩⟩, hS.F ht⟩) hS.2.2 hd hlk
  · cases hck
theorem me_s32 (F : me_Fx p s m args c C cc nL own) (hr : meth.sig.returnType = ret) (hlk : meth.locks = false) (hck : me_ck nm own cc nL ret cl9 pc a b ts len ix pp 32 = true) (h : me_op cs J K KX km sx pc a b ts k L v w nx st 32) : me_at p l e R s m args below meth c (vx_MQ below (me_Qc C K) (me_XC C X) args s km (6 * km) (me_A C)) C nL 0 0 pc k L st v w := by
  simp only [me_op] at h
  obtain ⟨x, st1, rfl, rfl, hkm, hK⟩ := me_tI_inv h
  intro H locs ls hP hD hS hl
  obtain ⟨hx, hb, hml, hown, hts, hW, hB⟩ := F
  simp only [me_ck] at hck
  split at hck
  · rename_i hd
    simp only [decide_eq_true_eq] at hck
    subst hck
    refine W.widen (k := km) (n := 6 * km) (by omega) (by omega) (vx_ret ?_)
    exact W.iret hx hb hr (fun t ht hWm => ⟨⟨some (vI x), v, w, rfl, hK, ⟨by rw [ht]; exact hP, hD⟩⟩, hS.F ht⟩) hS.2.2 hd hlk
  · cases hck
theorem me_s33 (F : me_Fx p s m args c C cc nL own) (hr : meth.sig.returnType = ret) (hlk : meth.locks = false) (hck : me_ck nm own cc nL ret cl9 pc a b ts len ix pp 33 = true) (h : me_op cs J K KX km sx pc a b ts k L v w nx st 33) : me_at p l e R s m args below meth c (vx_MQ below (me_Qc C K) (me_XC C X) args s km (6 * km) (me_A C)) C nL 0 0 pc k L st v w := by
  simp only [me_op] at h
  obtain ⟨x, st1, rfl, rfl, hkm, hK⟩ := me_tL_inv h
  intro H locs ls hP hD hS hl
  obtain ⟨hx, hb, hml, hown, hts, hW, hB⟩ := F
  simp only [me_ck] at hck
  split at hck
  · rename_i hd
    simp only [decide_eq_true_eq] at hck
    subst hck
    refine W.widen (k := km) (n := 6 * km) (by omega) (by omega) (vx_ret ?_)
    exact W.lret hx hb hr (fun t ht hWm => ⟨⟨some (vL x), v, w, rfl, hK, ⟨by rw [ht]; exact hP, hD⟩⟩, hS.F ht⟩) hS.2.2 hd hlk
  · cases hck
theorem me_s34 (F : me_Fx p s m args c C cc nL own) (hr : meth.sig.returnType = ret) (hlk : meth.locks = false) (hck : me_ck nm own cc nL ret cl9 pc a b ts len ix pp 34 = true) (h : me_op cs J K KX km sx pc a b ts k L v w nx st 34) : me_at p l e R s m args below meth c (vx_MQ below (me_Qc C K) (me_XC C X) args s km (6 * km) (me_A C)) C nL 0 0 pc k L st v w := by
  simp only [me_op] at h
  obtain ⟨x, st1, rfl, rfl, hkm, h01, hK⟩ := me_tI_inv h
  intro H locs ls hP hD hS hl
  obtain ⟨hx, hb, hml, hown, hts, hW, hB⟩ := F
  simp only [me_ck] at hck
  split at hck
  · rename_i hd
    simp only [decide_eq_true_eq] at hck
    subst hck
    refine W.widen (k := km) (n := 6 * km) (by omega) (by omega) (vx_ret ?_)
    exact W.zret hx hb hr (by rcases h01 with rfl | rfl <;> rfl) (fun t ht hWm => ⟨⟨some (vI x), v, w, rfl, hK, ⟨by rw [ht]; exact hP, hD⟩⟩, hS.F ht⟩) hS.2.2 hd hlk
  · cases hck
theorem me_s35 (F : me_Fx p s m args c C cc nL own) (hlk : meth.locks = false) (hfl : l.stackTraces = false) (hR : 5 < R.frames ∧ 82 ≤ R.locals ∧ km ≤ R.cells ∧ 6 * km ≤ R.slots) (hout : ∀ x ∈ c.exceptionTable.toList, False) (hck : me_ckT own cc pc a ts pp = true) (hKX : ∀ k L E v w, KX pc k L E v w → X E v w) (h : me_op cs J K KX km sx pc a b ts k L v w nx st 35) :
    me_at p l e R s m args below meth c (vx_MQ below (me_Qc C K) (me_XC C X) args s km (6 * km) (me_A C)) C nL 0 0 pc k L st v w := by
  simp only [me_op] at h
  obtain ⟨rfl, hkm, hX⟩ := h
  intro H locs ls hP hD hS hl
  obtain ⟨hx, hb, hml, hown, hts, hW, hB⟩ := F
  have hX := hKX _ _ _ _ _ hX
  have key : ∀ (cls : String), cls = me_xn a → a < 3 → own = RX6 → ∀ ik, Cond.classLink own ik cls ∈ me_TG → Bundle.fit cls = true ∧ (∀ n ∈ me_nms, Bundle.fit n = true) ∧ Cond.initialized cls ∈ me_TG ∧ (∀ w ∈ vx_atS own (me_ic a) cls me_nms, w.before args s = true) ∧ (∀ w ∈ Cond.classLink own ik cls :: Cond.initialized cls :: vx_atS own (me_ic a) cls me_nms, vx_ot w = true) := by
    intro cls hc ha ho ik hik
    subst hc ho
    have hk : me_atk a = true ∧ me_ini a = true := by
      rcases (show a = 0 ∨ a = 1 ∨ a = 2 by omega) with rfl | rfl | rfl
      · exact ⟨me_atk0, me_ini0⟩
      · exact ⟨me_atk1, me_ini1⟩
      · exact ⟨me_atk2, me_ini2⟩
    obtain ⟨h1, h2⟩ := hk
    unfold me_ini at h2
    simp only [Bool.and_eq_true] at h2
    obtain ⟨h2, h3, h4⟩ := h2
    have hin : Cond.initialized (me_xn a) ∈ me_TG := me_init_TG (me_any h2)
    have h5 := List.all_eq_true.mp h1
    refine ⟨h3, fun n hn => List.all_eq_true.mp h4 n hn, hin, fun w hw => ?_, fun w hw => ?_⟩
    · have h6 := h5 w hw
      simp only [Bool.and_eq_true, Bool.or_eq_true] at h6
      obtain ⟨h7 | h7, h8⟩ := h6
      · exact hts _ (List.mem_filter.mpr ⟨me_any h8, h7⟩)
      · exact va_Nw.use (me_Nw_on h7) (hW.2.2.2.2.1 _ (me_any h8) h7)
    · unfold vx_ot
      rcases List.mem_cons.mp hw with rfl | hw
      · rfl
      · rcases List.mem_cons.mp hw with rfl | hw
        · rfl
        · have h6 := h5 w hw
          simp only [Bool.and_eq_true, Bool.or_eq_true] at h6
          obtain ⟨h7 | h7, h8⟩ := h6
          · rw [h7, Bool.or_true]
          · rw [me_Nw_on h7, Bool.true_or]
  have hend : ∀ (cls : String), cls = me_xn a → a < 3 → ∀ t : State, s.vm.Alike t.vm → H.size ≤ t.heap.size → (∀ q : Nat, q < H.size → t.heap[q]? = H[q]?) → me_XC C X cls s t := by
    intro cls hc ha t hal hsz hkp
    refine ⟨⟨a, v, w, hc, ha, hX, ⟨hP.kept (fun k q hq => hkp _ ((hP k q hq).lt)), hD⟩⟩, Nat.le_trans hS.1 hsz, fun q h1 h2 => ?_⟩
    rw [hkp q (Nat.lt_of_lt_of_le h1 hS.1)]
    exact hS.2.1 q h1 h2
  unfold me_ckT at hck
  split at hck
  · rename_i ik is hd0 hd3 hd4
    simp only [me_w1, Bool.and_eq_true, decide_eq_true_eq] at hck
    obtain ⟨ho, ha, hlink, hstr, hrest⟩ := hck
    split at hrest
    · rename_i ic hd6 hd9
      simp only [decide_eq_true_eq] at hrest
      subst hrest
      have hcl : Cond.classLink own ik (me_xn a) ∈ me_TG := List.mem_filter.mpr ⟨List.mem_of_getElem? hlink, rfl⟩
      obtain ⟨k1, k2, k3, k4, k5⟩ := key _ rfl ha ho ik hcl
      obtain ⟨tx, htx⟩ := me_str hstr
      obtain ⟨sa, hsa⟩ := hW.2.2.2.1 _ htx
      exact vx_throwS hx hb hfl hown k1 k2 (hts _ hcl) (hts _ k3) hsa k4 k5 hW.2.1 hW.2.2.1 hS (hl.1.trans hml.symm) hd0 hd3 hd4 hd6 hd9 (fun x hx9 => (hout x hx9).elim) (by show 2 + 3 < R.frames; omega) (by show 0 + (13 * (2 + 1) + 43) ≤ R.locals; omega) (by omega) (by omega) hlk (hend _ rfl ha) hS.2.2 (by omega) (by omega)
    · cases hrest
  · rename_i ik is hd0 hd3 hd4
    simp only [me_w1, Bool.and_eq_true, decide_eq_true_eq] at hck
    obtain ⟨ho, ha, hlink, hstr, hrest⟩ := hck
    split at hrest
    · rename_i ic hd6 hd9
      simp only [decide_eq_true_eq] at hrest
      subst hrest
      have hcl : Cond.classLink own ik (me_xn a) ∈ me_TG := List.mem_filter.mpr ⟨List.mem_of_getElem? hlink, rfl⟩
      obtain ⟨k1, k2, k3, k4, k5⟩ := key _ rfl ha ho ik hcl
      obtain ⟨tx, htx⟩ := me_str hstr
      obtain ⟨sa, hsa⟩ := hW.2.2.2.1 _ htx
      exact vx_throwSW hx hb hfl hown k1 k2 (hts _ hcl) (hts _ k3) hsa k4 k5 hW.2.1 hW.2.2.1 hS (hl.1.trans hml.symm) hd0 hd3 hd4 hd6 hd9 (fun x hx9 => (hout x hx9).elim) (by show 2 + 3 < R.frames; omega) (by show 0 + (13 * (2 + 1) + 43) ≤ R.locals; omega) (by omega) (by omega) hlk (hend _ rfl ha) hS.2.2 (by omega) (by omega)
    · cases hrest
  · cases hck
end END
