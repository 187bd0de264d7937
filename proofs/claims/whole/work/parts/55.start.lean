/-! ===== the law from its entry ===== -/
theorem sg_mls {C : me_C} {ls : Array Slot} {B b : Nat} (hB : me_ad C = fun k => B + k) {sx : me_Sc} (hs : sx.1 = b) (h : lv_has ls 8 [(4, .int (nI 0)), (3, .ref (B + 223)), (2, .ref (B + 207)), (1, .ref B), (0, .ref b)]) : lv_has ls 8 (me_lm (me_ad C) (lw_B sx (nI (6 * 0)))) := by
  rw [hB]
  have e : me_lm (fun k => B + k) (lw_B sx (nI (6 * 0))) = [(0, .ref b), (1, .ref B), (2, .ref (B + 207)), (3, .ref (B + 223)), (4, .int (nI 0))] := by
    rw [← hs]
    rfl
  rw [e]
  exact lv_sub h [4, 3, 2, 1, 0] rfl
theorem st_ex : me_strs.all (fun t => decide (Cond.exactly (.string t.1 t.2.1) "java/lang/String" ∈ flatC (Jvm.Cond.and given_1 narrow_1))) = true := by decide +kernel
theorem st_in {t : String × Nat × String} (h : t ∈ me_strs) : Cond.stringRef t.1 t.2.1 t.2.2 ∈ lw_tbl := by
  obtain ⟨w, hw, he⟩ := List.mem_filterMap.mp h
  cases w <;> first | (cases he; exact hw) | cases he
theorem st_nc : me_ncs.all (fun t => decide (Cond.not (.castable t.1 t.2) ∈ flatC (Jvm.Cond.and given_1 narrow_1))) = true := by decide +kernel
theorem st_us : Cond.isRef (.static Bundle.tN "UNASSIGNED_STACK" Bundle.steD) ∈ flatC (Jvm.Cond.and given_1 narrow_1) := by decide +kernel
theorem st_ss : Cond.isRef (.static Bundle.tN "SUPPRESSED_SENTINEL" Bundle.listD) ∈ flatC (Jvm.Cond.and given_1 narrow_1) := by decide +kernel
theorem st_l1 : Cond.laysStatic Bundle.tN "UNASSIGNED_STACK" Bundle.steD ∈ lw_tbl := by decide +kernel
theorem st_l2 : Cond.laysStatic Bundle.tN "SUPPRESSED_SENTINEL" Bundle.listD ∈ lw_tbl := by decide +kernel
theorem st_li : Cond.initialized Bundle.tN ∈ lw_tbl := by decide +kernel
theorem st_ao : Cond.arrayOver (.object "ClickTrack$State") ∈ lw_tbl := List.mem_of_getElem? (i := 174) (by decide +kernel)
theorem st_arr {s : State} {args : Array Value} {ty : FieldType} (h : (Cond.arrayClass ty).before args s = true) : ∃ cA : ClassId, s.vm.findClass ("[" ++ ty.toString) = some cA ∧ ArrOfT s cA ty := by
  obtain ⟨cA, kA, comp, h1, h2, h3⟩ := Cond.arrayClass_spec h
  exact ⟨cA, h1, fun N z => ⟨(fun k h => by cases h), kA, h2, comp, h3⟩⟩
theorem st_arrq {s : State} {args : Array Value} {Cn : String} (h : (Cond.arrayOver (.object Cn)).before args s = true) : ∃ cA : ClassId, ArrOfT s cA (.object Cn) ∧ va_RA s cA (.object Cn) := by
  obtain ⟨comp, cA, kA, h1, h2, h3, h4, h5⟩ := Cond.arrayOver_spec h
  exact ⟨cA, fun N z => ⟨(fun k h => by cases h), kA, h3, comp, h4⟩, kA, comp, h3, h4, h1, h5⟩
theorem st_inst {ci : Nat} {q : vw_C} (h : me_cl[ci]? = some q) : Cond.instantiable q.1 q.2.2 ∈ lw_tbl := by
  match ci, h with
  | 0, h => cases h; exact List.mem_of_getElem? (i := 168) (by decide +kernel)
  | 1, h => cases h; exact List.mem_of_getElem? (i := 188) (by decide +kernel)
  | 2, h => cases h; exact List.mem_of_getElem? (i := 244) (by decide +kernel)
  | 3, h => cases h; exact List.mem_of_getElem? (i := 86) (by decide +kernel)
  | 4, h => cases h; exact List.mem_of_getElem? (i := 80) (by decide +kernel)
  | 5, h => cases h; exact List.mem_of_getElem? (i := 228) (by decide +kernel)
  | 6, h => cases h; exact List.mem_of_getElem? (i := 72) (by decide +kernel)
  | 7, h => cases h; exact List.mem_of_getElem? (i := 1038) (by decide +kernel)
  | n + 8, h => simp [me_cl] at h
theorem st_K {s : State} {args : Array Value} (hts : ∀ w ∈ lw_tbl, w.before args s = true) : ∃ (D : va_G) (cI cJ cZ cS : Nat), va_K D me_cl [(cI, .int), (cJ, .long), (cZ, .boolean), (cS, .object "ClickTrack$State")] s := by
  have hts9 : ∀ w ∈ me_TG, w.before args s = true := fun w hw => hts w (List.mem_filter.mp hw).1
  have hk : ∀ ci : Nat, ∃ (cC : ClassId) (iS : Nat → Nat), ∀ q : vw_C, me_cl[ci]? = some q → u_Kn s q.1 q.2.1 q.2.2 cC iS := by
    intro ci
    cases hq : me_cl[ci]? with
    | none => exact ⟨0, fun _ => 0, fun q h => by cases h⟩
    | some q =>
      obtain ⟨cC, iS, h⟩ := u_known hts9 (me_clok (Cn := q.1) (T := q.2.1) (N := q.2.2) hq).1 (hts _ (st_inst hq))
      exact ⟨cC, iS, fun q2 h2 => by cases h2; exact h⟩
  obtain ⟨cI, i1, i2⟩ := st_arr (hts9 _ cx_w_i)
  obtain ⟨cJ, j1, j2⟩ := st_arr (hts9 _ cx_w_l)
  obtain ⟨cZ, z1, z2⟩ := st_arr (hts9 _ cx_w_z)
  obtain ⟨cS, s1, s2⟩ := st_arrq (hts _ st_ao)
  refine ⟨(fun ci => (hk ci).choose, fun ci => (hk ci).choose_spec.choose), cI, cJ, cZ, cS, fun c q hq => (hk c).choose_spec.choose_spec q hq, fun k q hq => ?_⟩
  match k, hq with
  | 0, hq => cases hq; exact ⟨i2, i1⟩
  | 1, hq => cases hq; exact ⟨j2, j1⟩
  | 2, hq => cases hq; exact ⟨z2, z1⟩
  | 3, hq => cases hq; exact ⟨s1, s2⟩
  | n + 4, hq => cases hq
theorem st_Wx {s : State} {args : Array Value} {D : va_G} {cI cJ cZ cS : Nat} (hts : ∀ w ∈ lw_tbl, w.before args s = true) (hgv : (Jvm.Cond.and given_1 narrow_1).before args s = true) (hK : va_K D me_cl [(cI, .int), (cJ, .long), (cZ, .boolean), (cS, .object "ClickTrack$State")] s) : me_Wx (sgC D s.heap.size cI cJ cZ cS) s s.heap ∧ cx_Z (sgC D s.heap.size cI cJ cZ cS) s := by
  have hg := flat_of_before _ hgv
  have hNw : ∀ w ∈ lw_tbl, me_isN w = true → va_Nw w s := fun w hw hN => va_Nw.of (me_Nw_on hN) (hts w hw)
  refine ⟨⟨hK, vx_Zqof (hts _ st_l1) (hts _ st_li) (hg _ st_us) (fun a h => Nat.not_le.mpr h), vx_Zqof (hts _ st_l2) (hts _ st_li) (hg _ st_ss) (fun a h => Nat.not_le.mpr h), fun t ht => ?_, hNw, fun q hq => ?_⟩, hK, va_AO.of (hts _ st_ao), hNw⟩
  · obtain ⟨a, -, -, -, ha, -⟩ := Cond.exactly_spec (hg _ (of_decide_eq_true (List.all_eq_true.mp st_ex t ht)))
    exact ⟨a, vk_R.of (hts _ (st_in ht)) ha⟩
  · exact va_Nc.of (hg _ (of_decide_eq_true (List.all_eq_true.mp st_nc q hq)))
theorem st_Ed {p : Program} {l : Launch} {e : Env} {s : State} {m : MethodId} {below : List Frame} {meth : Method} {c : Code} {b : Nat} {C : me_C} (hB : me_B C = s.heap.size) (hx : p.tables.exec = Jvm.exec) (hb : c.code = code) (hr : meth.sig.returnType = ret) (hlocks : meth.locks = false) {sx : me_Sc} (KX : Nat → Nat → me_L → Nat → me_V → me_U → Prop) : me_Ed mt_nm p l e room_1 s m #[Value.ref b] below meth c (lw_Z below #[Value.ref b] s) C cL_law 8 224 22590 RL (some .boolean) cl_L_law cs_L_law lw_K KX 1539 sx 1 := by
  refine ⟨fun J nx pc k L st v w o a b9 ts len ix pp h1 h2 hck h => ?_, fun J nx pc k L st v w a b9 ts pp hu => absurd hu (by decide)⟩
  rcases (show o = 31 ∨ o = 32 ∨ o = 33 ∨ o = 34 by omega) with rfl | rfl | rfl | rfl
  · simp only [me_ck] at hck
    split at hck
    · exact absurd (of_decide_eq_true hck) (by intro z; cases z)
    · cases hck
  · simp only [me_ck] at hck
    split at hck
    · exact absurd (of_decide_eq_true hck) (by intro z; cases z)
    · cases hck
  · simp only [me_ck] at hck
    split at hck
    · exact absurd (of_decide_eq_true hck) (by intro z; cases z)
    · cases hck
  · simp only [me_op] at h
    obtain ⟨x, st1, rfl, rfl, hkm, h01, hK⟩ := me_tI_inv h
    obtain rfl : x = 1 := by
      have h9 : some (vI x) = some (vI 1) := hK
      cases h9
      rfl
    intro H locs ls hP hD hS hl
    simp only [me_ck] at hck
    split at hck
    · rename_i hd
      exact va_forget (fun q hq => by rw [← hB]; exact hS.2.2 q hq) (W.widen (k := 601024) (n := 7293034) (by omega) (by omega) (lw_ret hx hb hr hlocks hd))
    · cases hck
set_option maxHeartbeats 4000000 in
set_option maxRecDepth 100000 in
/-- YOUR PART: from the entry, for every script of at most 3072 ints, the law comes to its end with true -/
theorem whole_start {p : Program} {e : Env} {s : State} {m : MethodId} {below : List Frame} {meth : Method} {c : Code} (l : Launch) (hflags : l.flags = flags0) {b L : Nat} {xs : Nat → Int32} (hL : L ≤ 3072) (C0 : lw_At p s m meth c b L xs) : W p l e room_1 s m #[Value.ref b] below meth c s.heap [] 0 0 (lw_Z below #[Value.ref b] s) (entryFrame m ([Value.ref b] : List Value).toArray 8) := by
  obtain ⟨hx, hb, hr, hml, hown, hts, hX, hbl, hlocks, hgv⟩ := id C0
  have hfl : l.stackTraces = false := by
    unfold Launch.stackTraces
    rw [hflags]
    decide
  obtain ⟨D, cI, cJ, cZ, cS, hK⟩ := st_K hts
  obtain ⟨hW, hZ⟩ := st_Wx hts hgv hK
  have hts9 : ∀ w ∈ me_TG, w.before #[Value.ref b] s = true := fun w hw => hts w (List.mem_filter.mp hw).1
  have FX : cx_Fx p s m #[Value.ref b] c (sgC D s.heap.size cI cJ cZ cS) cL_law 8 RL (me_A (sgC D s.heap.size cI cJ cZ cS)) := ⟨hx, hb, hml, hown, hts9, hZ, fun q h => h⟩
  have F : me_Fx p s m #[Value.ref b] c (sgC D s.heap.size cI cJ cZ cS) cL_law 8 RL := ⟨hx, hb, hml, hown, hts9, hW, Nat.le_refl _⟩
  have En : me_En mt_nm l room_1 s (sgC D s.heap.size cI cJ cZ cS) cl_L_law cs_L_law 1539 224 22590 1 (b, L, xs) := ⟨⟨Nat.le_of_ble_eq_true rfl, Nat.le_of_ble_eq_true rfl⟩, ⟨Nat.le_of_ble_eq_true rfl, Nat.le_of_ble_eq_true rfl⟩, (ca_L_law hfl).1, (ca_L_law hfl).2, fun _ => ⟨hX, hbl, fun h => absurd h (Nat.not_le.mpr hbl)⟩⟩
  have hl := lv_entry ([.ref b]) (n := 8) (Nat.le_of_ble_eq_true rfl)
  rw [lg_entry_eq]
  suffices hmain : cx_at p l e room_1 s m #[Value.ref b] below meth c (lw_Z below #[Value.ref b] s) (sgC D s.heap.size cI cJ cZ cS) 8 (me_A (sgC D s.heap.size cI cJ cZ cS)) [] 0 0 0 s.heap.size [(0, .ref b)] [] from
    hmain s.heap [] _ (fun k q h => by cases h) ⟨fun i j p q h => (by cases h), fun k q h => (by cases h)⟩ va_S.rf rfl hl
  refine cx_new (ws := []) (pc := 0) (k := 0) (n := 0) (z := s.heap.size) (ci := 6) (N := 10) (ix := 8) (T := TX6) (Cn := RX6) (f0 := [.null, .null, .null, .null, .null, .null, .null, .null, .null, .null]) FX rfl tyX6 tyX6_ok (List.mem_filter.mpr ⟨List.mem_of_getElem? (i := 71) (by decide +kernel), rfl⟩) (List.mem_filter.mpr ⟨List.mem_of_getElem? (i := 72) (by decide +kernel), rfl⟩) (List.mem_filter.mpr ⟨List.mem_of_getElem? (i := 53) (by decide +kernel), rfl⟩) cd9_C ⟨Nat.le_of_ble_eq_true rfl, Nat.le_of_ble_eq_true rfl⟩ (by decide +kernel) ?_
  refine cx_dup (pc := 3) FX (by decide +kernel) ?_
  refine cx_call (ws := []) (pc := 4) (k := 1) (n := 10) (q := s.heap.size) (ix := 119) (ms := 14291) FX (ci9_C l) (List.mem_filter.mpr ⟨List.mem_of_getElem? (i := 73) (by decide +kernel), rfl⟩) (List.mem_filter.mpr ⟨List.mem_of_getElem? (i := 74) (by decide +kernel), rfl⟩) (List.mem_filter.mpr ⟨List.mem_of_getElem? (i := 75) (by decide +kernel), rfl⟩) (List.mem_filter.mpr ⟨List.mem_of_getElem? (i := 53) (by decide +kernel), rfl⟩) rfl (by decide +kernel) ⟨Nat.le_of_ble_eq_true rfl, Nat.le_of_ble_eq_true rfl⟩ ⟨Nat.le_of_ble_eq_true rfl, Nat.le_of_ble_eq_true rfl⟩ (show 1 ≤ 8 from by decide) (by decide +kernel) ?_
  refine cx_as (ws := [] ++ cw_C (sgC D s.heap.size cI cJ cZ cS) s.heap.size) (pc := 7) (k := 207) (n := 14301) (z := s.heap.size + 207) (j := 1) (q := s.heap.size) (L2 := [(1, .ref s.heap.size), (0, .ref b)]) FX (by decide +kernel) (by decide) rfl ?_
  refine cx_new (ws := [] ++ cw_C (sgC D s.heap.size cI cJ cZ cS) s.heap.size) (pc := 8) (k := 207) (n := 14301) (z := s.heap.size + 207) (ci := 7) (N := 25) (ix := 120) (T := TX7) (Cn := RX7) (f0 := [.int 0, .null, .int 0, .int 0, .int 0, .int 0, .null, .null, .null, .null, .int 0, .null, .null, .null, .null, .null, .int 0, .null, .int 0, .null, .null, .null, .int 0, .null, .int 0]) FX rfl tyX7 tyX7_ok (List.mem_filter.mpr ⟨List.mem_of_getElem? (i := 1037) (by decide +kernel), rfl⟩) (List.mem_filter.mpr ⟨List.mem_of_getElem? (i := 1038) (by decide +kernel), rfl⟩) (List.mem_filter.mpr ⟨List.mem_of_getElem? (i := 60) (by decide +kernel), rfl⟩) cd9_M ⟨Nat.le_of_ble_eq_true rfl, Nat.le_of_ble_eq_true rfl⟩ (by decide +kernel) ?_
  refine cx_dup (pc := 11) FX (by decide +kernel) ?_
  refine cx_call (ws := [] ++ cw_C (sgC D s.heap.size cI cJ cZ cS) s.heap.size) (pc := 12) (k := 208) (n := 14326) (q := s.heap.size + 207) (ix := 122) (ms := 8263) FX (ci9_M l) (List.mem_filter.mpr ⟨List.mem_of_getElem? (i := 1039) (by decide +kernel), rfl⟩) (List.mem_filter.mpr ⟨List.mem_of_getElem? (i := 1040) (by decide +kernel), rfl⟩) (List.mem_filter.mpr ⟨List.mem_of_getElem? (i := 1041) (by decide +kernel), rfl⟩) (List.mem_filter.mpr ⟨List.mem_of_getElem? (i := 60) (by decide +kernel), rfl⟩) rfl (by decide +kernel) ⟨Nat.le_of_ble_eq_true rfl, Nat.le_of_ble_eq_true rfl⟩ ⟨Nat.le_of_ble_eq_true rfl, Nat.le_of_ble_eq_true rfl⟩ (show 1 ≤ 8 from by decide) (by decide +kernel) ?_
  refine cx_as (ws := [] ++ cw_C (sgC D s.heap.size cI cJ cZ cS) s.heap.size ++ cw_M (sgC D s.heap.size cI cJ cZ cS) (s.heap.size + 207)) (pc := 15) (k := 223) (n := 22589) (z := s.heap.size + 223) (j := 2) (q := s.heap.size + 207) (L2 := [(2, .ref (s.heap.size + 207)), (1, .ref s.heap.size), (0, .ref b)]) FX (by decide +kernel) (by decide) rfl ?_
  refine cx_push (ws := [] ++ cw_C (sgC D s.heap.size cI cJ cZ cS) s.heap.size ++ cw_M (sgC D s.heap.size cI cJ cZ cS) (s.heap.size + 207)) (pc := 16) (k := 223) (n := 22589) (z := s.heap.size + 223) (N := 1) (b := 0) (len := 1) (x := nI 1) FX (by decide +kernel) rfl ?_
  refine cx_na_l (ws := [] ++ cw_C (sgC D s.heap.size cI cJ cZ cS) s.heap.size ++ cw_M (sgC D s.heap.size cI cJ cZ cS) (s.heap.size + 207)) (pc := 17) (k := 223) (n := 22589) (z := s.heap.size + 223) (N := 1) FX (by decide) (by decide) ⟨Nat.le_of_ble_eq_true rfl, Nat.le_of_ble_eq_true rfl⟩ (by decide +kernel) ?_
  refine cx_as (pc := 19) (k := 224) (n := 22590) (z := s.heap.size + 224) (j := 3) (q := s.heap.size + 223) (L2 := [(3, .ref (s.heap.size + 223)), (2, .ref (s.heap.size + 207)), (1, .ref s.heap.size), (0, .ref b)]) FX (by decide +kernel) (by decide) rfl ?_
  refine cx_push (pc := 20) (k := 224) (n := 22590) (z := s.heap.size + 224) (N := 0) (b := 0) (len := 1) (x := nI 0) FX (by decide +kernel) rfl ?_
  refine cx_is2 (pc := 21) (k := 224) (n := 22590) (z := s.heap.size + 224) (j := 4) (L2 := [(4, .int (nI 0)), (3, .ref (s.heap.size + 223)), (2, .ref (s.heap.size + 207)), (1, .ref s.heap.size), (0, .ref b)]) FX (by decide +kernel) (by decide) rfl ?_
  intro H locs ls hP hD hS hz hl
  have hP2 : va_P D me_cl (me_ws (sgC D s.heap.size cI cJ cZ cS) sgv sgw) H := by rw [← sg_W]; exact hP
  have hD2 : va_D (me_A (sgC D s.heap.size cI cJ cZ cS)) (me_ws (sgC D s.heap.size cI cJ cZ cS) sgv sgw) := by rw [← sg_W]; exact hD
  exact lw_loop F En (st_Ed rfl hx hb hr hlocks) (n := L) rfl hL (Nat.le_refl _) L 0 0 sgG sgv sgw (by omega) (by omega) (by omega) sg_cl sg_md H locs ls hP2 hD2 hS (sg_mls rfl rfl hl)
set_option maxHeartbeats 4000000 in
theorem lw_walk (l : Launch) (hflags : l.flags = flags0) (b : Addr) (xs : List Int32) : MetFree l x (headSpec (Jvm.Cond.code x code maxLocals ret :: tables_1) room_1) (lw_P b xs) (fun _ _ _ _ _ => True) lw_Q := by
  refine MetFree.of_bodyS (code := code) (maxLocals := maxLocals) (ret := ret) (by decide) ?_ ?_
  · intro args s m h hn
    obtain ⟨meth, c, h1, h2, h3, h4, h5, h6, -, -⟩ := Cond.code_spec hn (atoms_spec (ws := Jvm.Cond.code x code maxLocals ret :: tables_1) h _ List.mem_cons_self)
    exact ⟨meth, c, h1, h2, h3, h4, h5, h6⟩
  · intro p e s m args below meth c s₁ B hml0 hP _
    obtain ⟨rfl, hx, hbd, hgv⟩ := hP
    obtain ⟨scr, harrAt, hlist, hof, hsmall⟩ := hx
    obtain ⟨hcb, hkn, -, -⟩ := State.arrayAt?_spec harrAt
    have hown : s.vm.findClass R_law = some m.cls := findClass_of_methodNamed B.named
    have hts0 : ∀ c ∈ (Jvm.Cond.code x code maxLocals ret :: tables_1), c.before #[Value.ref b] s = true := atoms_spec (ws := Jvm.Cond.code x code maxLocals ret :: tables_1) B.pre
    have hts : ∀ w ∈ lw_tbl, w.before #[Value.ref b] s = true := k2_hts_sels lw_privs (fun w hw => hts0 w (List.mem_cons_of_mem _ hw)) lw_privs_ok
    have hml : c.maxLocals = 8 := B.maxLocals_eq (hts0 _ List.mem_cons_self)
    have X₀ : Stand p l e room_1 s m #[Value.ref b] below meth c s₁ [] 0 0 := Stand.of_body B
    have hh0 : s₁.heap = s.heap := by rw [B.state]; rfl
    have hsz : scr.slots.size = xs.length := by rw [← Array.length_toList, hlist, List.length_map]
    have hval : ∀ j : Nat, j < xs.length → scr.slots[j]? = some (.int (xs.getD j 0)) := fun j hj => by
      rw [← Array.getElem?_toList, hlist]
      simp [hj]
    have hbl : b < s.heap.size := (Array.getElem?_eq_some_iff.mp hcb).1
    have hX : va_X b xs.length (fun j => xs.getD j 0) s s.heap := ⟨scr, hcb, hof, hkn, hsz, hval⟩
    have K : W p l e room_1 s m #[Value.ref b] below meth c s₁.heap [] 0 0 (lw_Z below #[Value.ref b] s) (entryFrame m ([Value.ref b] : List Value).toArray 8) := by
      rw [hh0]
      exact whole_start l hflags hbd ⟨B.exec, B.bytes, B.returns, hml, hown, hts, hX, hbl, B.notSynchronized, hgv⟩
    obtain ⟨t, a1, o, b1, b2, b3⟩ := K s₁ rfl X₀
    exact ⟨t, o, a1, b1, b2, b3⟩
theorem lw_pre_spec {args : Array Value} {s : State} (h : (Jvm.Cond.and given_1 narrow_1).before args s = true) (hr : rest_1_c.before args s = true) : ∃ (b : Addr) (xs : List Int32), lw_P b xs args s := by
  have hs := flat_of_before _ h
  have hq := flat_of_before _ hr
  have hc : (Cond.count 1).before args s = true := hs _ (by decide +kernel)
  have harr : (Cond.arrayOf (.arg 0) .int).before args s = true := hs _ (by decide +kernel)
  have hle : (Cond.le (.length (.arg 0)) (.int 3072)).before args s = true := hs _ (by decide +kernel)
  have hlen : (Cond.isInt (.length (.arg 0))).before args s = true := hq _ (by decide +kernel)
  have hall : (Cond.all (.arg 0) (.isInt (.elem (.arg 0) (.index 0)))).before args s = true := hq _ (by decide +kernel)
  obtain ⟨b, xs, hb, hx⟩ := State.ints_of_pre rfl harr hlen hall
  have hsm : xs.length < 2 ^ 31 := hx.choose_spec.2.2.2
  have hev : (Term.length (.arg 0)).eval args s none [] s = some (.int xs.length.toInt32) := hx.length_eval hb
  have hv := Cond.le_ints hev (show (Term.int 3072).eval args s none [] s = some (.int 3072) from rfl)
  have hd : xs.length.toInt32 ≤ 3072 := by
    simpa [Cond.before, Cond.holds, hv] using hle
  have hN : xs.length ≤ 3072 := (Int32.ofNat_le_ofNat hsm (by decide)).mp (show Int32.ofNat xs.length ≤ Int32.ofNat 3072 from hd)
  exact ⟨b, xs, Cond.one_arg hc (show args[0]? = some (.ref b) from hb), hx, hN, h⟩
theorem lw_comes (l : Launch) (hflags : l.flags = flags0) : Comes l x (Jvm.Cond.code x code maxLocals ret :: tables_1) room_1 (fun tb e args s => Calls_1 tb e args s ∧ rest_1 tb e args s ∧ Pre_1 tb e args s)
    (fun _ _ args s o t => lw_Q args s o t) := by
  intro p e ha hc hk s m args below hf hfit hheap happ hpre
  obtain ⟨b, xs, hP⟩ := lw_pre_spec hpre.2.2 hpre.2.1
  obtain ⟨k, o, h1, h2, h3, hQ⟩ := lw_walk l hflags b xs p e ha hc hk s m args below hf ((Spec.applies_iff_loose hf).mp happ).1 hP trivial
  exact ⟨k, o, h1, h2, h3, hQ⟩
theorem lw_frame {s t : State} {o : Outcome} {args : Array Value} (h : Framed s o t [] 601024 7293034) :
    Framed s o t (fieldLocs frame_1_writes args s ++ arrayLocs frame_1_arrays args s ++ staticLocs frame_1_statics s) 601024 7293034 := h
theorem lw_limb (L : Cond) (hL : ∀ (args : Array Value) (s t : State), L.after args s (.returned (some (.int 1))) t = true) :
    ArmFor flags0 classFile x code maxLocals ret World_1 tables_1 room_1 Calls_1 rest_1 Pre_1
      (fun tb e a s o t => postC L tb e a s o t ∧ Framed s o t (fieldLocs frame_1_writes a s ++ arrayLocs frame_1_arrays a s ++ staticLocs frame_1_statics s) 601024 7293034) := by
  intro l hflags _ _ p e ha hc hk s m args below hf hfit hheap happ hpre
  obtain ⟨k, o, h1, h2, h3, rfl, hF⟩ := lw_comes l hflags p e ha hc hk s m args below hf hfit hheap happ hpre
  exact ⟨k, _, h1, h2, h3, hL args s _, lw_frame hF⟩
theorem i_vc : Claimed_1_1 ∧ Claimed_1_2 := ⟨lw_limb limb_1_1 (fun args s t => by simp [limb_1_1, Cond.after, Cond.holds, Cond.value]), lw_limb limb_1_2 (fun args s t => Cond.after_iff.mpr (by
  first | (rw [show limb_1_2 = Cond.eq .result (.int 1) from rfl, Cond.eq_ints (x := 1) (y := 1) rfl rfl]; simp; done) | (simp [limb_1_2, Cond.value, Term.eval]; done)))⟩
