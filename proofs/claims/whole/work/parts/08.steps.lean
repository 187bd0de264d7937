/-! ===== switches, copies, calls, ends ===== -/
theorem me_cp1 : Cond.native arraycopyName ∈ me_TG := List.mem_filter.mpr ⟨List.mem_of_getElem? (i := 499) (by decide +kernel), rfl⟩
theorem me_cp2 : Cond.static arraycopyName ∈ me_TG := List.mem_filter.mpr ⟨List.mem_of_getElem? (i := 498) (by decide +kernel), rfl⟩
theorem me_cp3 : Cond.initialized "java/lang/System" ∈ me_TG := List.mem_filter.mpr ⟨List.mem_of_getElem? (i := 68) (by decide +kernel), rfl⟩
theorem me_mn1 : Cond.static Lib.Math.min.name ∈ me_TG := List.mem_filter.mpr ⟨List.mem_of_getElem? (i := 495) (by decide +kernel), rfl⟩
theorem me_mn2 : Cond.initialized "java/lang/Math" ∈ me_TG := List.mem_filter.mpr ⟨List.mem_of_getElem? (i := 67) (by decide +kernel), rfl⟩
theorem me_mn3 : Cond.code Lib.Math.min.name Lib.Math.min.code 2 (some .int) ∈ me_TG := List.mem_filter.mpr ⟨List.mem_of_getElem? (i := 496) (by rfl), rfl⟩
theorem me_TG_good {w : Cond} (h : w ∈ me_TG) : (w.onTables && w.keeps) = true ∨ ∃ ty, w = .arrayClass ty := good_of_word (List.mem_filter.mp h).2
theorem me_TG_in {hd : Cond} (h : hd ∈ me_TG) : GoodIn me_TG (hd :: me_TG) := fun w hw => by
  rcases List.mem_cons.mp hw with rfl | hw
  · exact ⟨h, me_TG_good h⟩
  · exact ⟨hw, me_TG_good hw⟩
theorem me_code_TG {y : MethodName} {b : ByteArray} {n : Nat} {r : Option FieldType} (h : Cond.code y b n r ∈ lw_tbl) : Cond.code y b n r ∈ me_TG := List.mem_filter.mpr ⟨h, rfl⟩
theorem me_codeW_TG {y : MethodName} {b : ByteArray} {n : Nat} {r : Option FieldType} {hh : List (Nat × Nat × Nat × Nat)} (h : Cond.codeWith y b n r hh ∈ lw_tbl) : Cond.codeWith y b n r hh ∈ me_TG := List.mem_filter.mpr ⟨h, rfl⟩
theorem me_tb_at {x : Int32} {J : Nat → Prop} : ∀ (ts : List Nat) (lo j t : Nat), me_tb x J lo ts → ts[j]? = some t → x = nI (lo + j) → J t
  | [], lo, j, t, _, h, _ => by simp at h
  | u :: ts, lo, 0, t, hb, h, hx => by
    have : u = t := by simpa using h
    subst this
    exact hb.1 hx
  | u :: ts, lo, j + 1, t, hb, h, hx => me_tb_at ts (lo + 1) j t hb.2 (by simpa using h) (by rw [hx]; congr 1; omega)
theorem me_lu_at {x : Int32} {J : Nat → Prop} {pc : Nat} {d : Int} : ∀ (ps : List (Int × Int)) (ts : List Nat), me_lu x J ts → ps.flatMap (fun z => [z.1, (pc : Int) + z.2]) ++ [(pc : Int) + d] = ts.map (fun (t : Nat) => (t : Int)) → (∀ z ∈ ps, z.1 < 2 ^ 31) → ∃ tgt : Nat, (pc : Int) + Op.lookupswitch.offset ps d x.toInt = (tgt : Int) ∧ J tgt
  | [], ts, hl, he, _ => by
    rcases ts with _ | ⟨t, _ | ⟨t2, ts⟩⟩
    · simp at he
    · simp only [List.flatMap_nil, List.nil_append, List.map_cons, List.map_nil, List.cons.injEq, and_true] at he
      exact ⟨t, he, hl⟩
    · simp at he
  | (z, o) :: ps, ts, hl, he, hz => by
    rcases ts with _ | ⟨t, _ | ⟨t2, ts⟩⟩
    · simp at he
    · simp only [List.flatMap_cons, List.cons_append, List.nil_append, List.map_cons, List.map_nil, List.cons.injEq] at he
      exact absurd he.2 (by simp)
    · simp only [List.flatMap_cons, List.cons_append, List.nil_append, List.map_cons, List.cons.injEq] at he
      obtain ⟨e1, e2, e3⟩ := he
      obtain ⟨h1, h2⟩ := hl
      have hz1 : z < 2 ^ 31 := hz _ List.mem_cons_self
      have ht : t < 2 ^ 31 := by omega
      rw [lookupswitch.offset_cons]
      by_cases hx : x = nI t
      · refine ⟨t2, ?_, h1 hx⟩
        rw [if_pos (by rw [hx, nI_toInt ht]; exact e1)]
        exact e2
      · obtain ⟨tgt, g1, g2⟩ := me_lu_at ps ts (h2 hx) e3 (fun q hq => hz q (List.mem_cons_of_mem _ hq))
        refine ⟨tgt, ?_, g2⟩
        rw [if_neg (fun q => hx (Int32.toInt_inj.mp (by rw [nI_toInt ht, ← e1, q])))]
        exact g1
section STE
variable {nm : Nat → MethodName} {p : Program} {l : Launch} {e : Env} {R : Room} {s : State} {m : MethodId} {args : Array Value} {below : List Frame} {meth : Method} {c : Code} {Q : State → Prop} {C : me_C} {cc : ByteArray} {nL c0 s0 : Nat} {own : String} {ret : Option FieldType} {cl9 : List Nat}
variable {pc a b len ix pp k : Nat} {ts : List Nat} {L : me_L} {st : List me_S} {v : me_V} {w : me_U} {nx : Nat → me_L → List me_S → me_V → me_U → Prop}
theorem me_s17 {cs : Nat → Nat × me_P} {J : Nat → Nat → me_L → List me_S → me_V → me_U → Prop} {KR : me_K} {KX : Nat → Nat → me_L → Nat → me_V → me_U → Prop} {km : Nat} {sx : me_Sc} (F : me_Fx p s m args c C cc nL own) (hck : me_ck nm own cc nL ret cl9 pc a b ts len ix pp 17 = true)  (hj : ∀ pc k L st v w, J pc k L st v w → me_at p l e R s m args below meth c Q C nL c0 s0 pc k L st v w)  (h : me_op cs J KR KX km sx pc a b ts k L v w nx st 17) : me_at p l e R s m args below meth c Q C nL c0 s0 pc k L st v w := by
  simp only [me_op] at h
  obtain ⟨x, st1, rfl, h1, h2⟩ := me_tI_inv h
  clear h
  intro H locs ls hP hD hS hl
  obtain ⟨hx, hb, hml, hown, hts, hW, hB⟩ := F
  simp only [me_ck] at hck
  split at hck
  · rename_i d lo hi offs ln hd
    simp only [Bool.and_eq_true, decide_eq_true_eq] at hck
    obtain ⟨rfl, rfl, hsz, hlt, hmap⟩ := hck
    rcases ts with _ | ⟨t0, ts⟩
    · simp at hmap
    · simp only [List.map_cons, List.cons.injEq] at hmap
      obtain ⟨e0, e1⟩ := hmap
      have hlen : ts.length = offs.size := by
        have := congrArg List.length e1
        simpa using this.symm
      simp only [List.tail_cons, List.headD_cons, List.length_cons] at h1 h2
      by_cases hout : x.toInt < (a : Int) ∨ (a : Int) + (offs.size : Int) - 1 < x.toInt
      · refine lv_tableOut hx hb hd hout e0 (hj _ _ _ _ _ _ (h2 ?_) H locs ls hP hD hS hl)
        rcases hout with q | q
        · left
          rw [Int32.lt_iff_toInt_lt, nI_toInt (by omega)]
          exact q
        · right
          rw [Int32.lt_iff_toInt_lt, nI_toInt (by omega)]
          omega
      · have q1 : ¬ x.toInt < (a : Int) := fun z => hout (Or.inl z)
        have q2 : ¬ (a : Int) + (offs.size : Int) - 1 < x.toInt := fun z => hout (Or.inr z)
        obtain ⟨j, hjx⟩ : ∃ j : Nat, x.toInt - (a : Int) = (j : Int) := ⟨(x.toInt - (a : Int)).toNat, by omega⟩
        have hj1 : j < offs.size := by omega
        have hj2 : j < ts.length := by omega
        have e3 : offs[(x.toInt - (a : Int)).toNat]? = some offs[j] := by
          rw [hjx]
          simp [hj1]
        have e4 : (pc : Int) + offs[j] = ((ts[j] : Nat) : Int) := by
          have h9 := congrArg (fun z => z[j]?) e1
          simpa [hj1, hj2] using h9
        refine lv_tableIn hx hb hd q1 q2 e3 e4 (hj _ _ _ _ _ _ ?_ H locs ls hP hD hS hl)
        exact me_tb_at ts a j ts[j] h1 (by simp [hj2]) (Int32.toInt_inj.mp (by rw [nI_toInt (by omega)]; omega))
  · cases hck
theorem me_s18 {cs : Nat → Nat × me_P} {J : Nat → Nat → me_L → List me_S → me_V → me_U → Prop} {KR : me_K} {KX : Nat → Nat → me_L → Nat → me_V → me_U → Prop} {km : Nat} {sx : me_Sc} (F : me_Fx p s m args c C cc nL own) (hck : me_ck nm own cc nL ret cl9 pc a b ts len ix pp 18 = true)  (hj : ∀ pc k L st v w, J pc k L st v w → me_at p l e R s m args below meth c Q C nL c0 s0 pc k L st v w)  (h : me_op cs J KR KX km sx pc a b ts k L v w nx st 18) : me_at p l e R s m args below meth c Q C nL c0 s0 pc k L st v w := by
  simp only [me_op] at h
  obtain ⟨x, st1, rfl, h1⟩ := me_tI_inv h
  clear h
  intro H locs ls hP hD hS hl
  obtain ⟨hx, hb, hml, hown, hts, hW, hB⟩ := F
  simp only [me_ck] at hck
  split at hck
  · rename_i d ps ln hd
    simp only [Bool.and_eq_true] at hck
    obtain ⟨hp, he, hz⟩ := hck
    obtain ⟨tgt, g1, g2⟩ := me_lu_at (pc := pc) (d := d) ps.toList ts h1 (of_decide_eq_true he) (fun z hz2 => of_decide_eq_true (List.all_eq_true.mp hz z hz2))
    exact lv_lookup hx hb hd hp rfl g1 (hj _ _ _ _ _ _ g2 H locs ls hP hD hS hl)
  · cases hck
theorem me_s36 {cs : Nat → Nat × me_P} {J : Nat → Nat → me_L → List me_S → me_V → me_U → Prop} {KR : me_K} {KX : Nat → Nat → me_L → Nat → me_V → me_U → Prop} {km : Nat} {sx : me_Sc} (F : me_Fx p s m args c C cc nL own) (hck : me_ck nm own cc nL ret cl9 pc a b ts len ix pp 36 = true) (hn : ∀ k L st v w, nx k L st v w → me_at p l e R s m args below meth c Q C nL c0 s0 (pc + len) k L st v w)  (hR : 1 ≤ R.frames ∧ 60 ≤ R.locals) (h : me_op cs J KR KX km sx pc a b ts k L v w nx st 36) : me_at p l e R s m args below meth c Q C nL c0 s0 pc k L st v w := by
  simp only [me_op] at h
  obtain ⟨n, st1, rfl, g1⟩ := me_tI_inv h
  obtain ⟨dp, st2, rfl, g2⟩ := me_tI_inv g1
  obtain ⟨r1, st3, rfl, g3⟩ := me_tR_inv g2
  obtain ⟨sp, st4, rfl, g4⟩ := me_tI_inv g3
  obtain ⟨r0, st5, rfl, g5⟩ := me_tR_inv g4
  clear h g1 g2 g3 g4
  intro H locs ls hP hD hS hl
  obtain ⟨hx, hb, hml, hown, hts, hW, hB⟩ := F
  simp only [me_ck] at hck
  split at hck
  · rename_i i hd
    simp only [me_w1, Bool.and_eq_true, decide_eq_true_eq] at hck
    obtain ⟨rfl, hlk⟩ := hck
    split at g5
    · rename_i n0 n1 hal0 hal1
      obtain ⟨⟨z1, z2, z3, z4, z5, z6⟩, g6⟩ := g5
      have hlt0 := me_lt (me_al_sk hal0)
      have hlt1 := me_lt (me_al_sk hal1)
      have hw := me_ws9_ok (me_ad C) st5
      refine va_copyi hx hb (by rw [hml]; exact hl.1.symm) hown (hts _ (List.mem_filter.mpr ⟨List.mem_of_getElem? hlk, rfl⟩)) (hts _ me_cp1) (hts _ me_cp2) (hts _ me_cp3) hW.1 hP hD hS r0 r1 0 0 (ty := .int) (by rw [me_get C v w hlt0, me_enA0 C v w hal0]) (by rw [me_get C v w hlt1, me_enA0 C v w hal1]) rfl rfl rfl z1 z2 z3 z4 z5 (fun _ _ => rfl) hR.1 ?_ hd (fun H1 locs1 hP1 hD1 hS1 => ?_)
      · have hnf : nativeFrameWords "java/lang/System" "arraycopy" 5 = 7 := by decide
        rw [hnf]
        omega
      · rw [me_set C hlt1 (v2 := fun q => if q = r1 then va_cpy (v r0) (v r1) sp.toNatClampNeg dp.toNatClampNeg n.toNatClampNeg else v q) (w2 := w) (by rw [me_enA0 C _ _ hal1, if_pos rfl]) (fun j hj9 => me_en_congr C (if_neg hj9) rfl)] at hP1 hD1
        exact hn _ _ _ _ _ g6 H1 locs1 ls hP1 hD1 hS1 hl
    · exact g5.elim
  · cases hck
theorem me_s37 {cs : Nat → Nat × me_P} {J : Nat → Nat → me_L → List me_S → me_V → me_U → Prop} {KR : me_K} {KX : Nat → Nat → me_L → Nat → me_V → me_U → Prop} {km : Nat} {sx : me_Sc} (F : me_Fx p s m args c C cc nL own) (hck : me_ck nm own cc nL ret cl9 pc a b ts len ix pp 37 = true) (hn : ∀ k L st v w, nx k L st v w → me_at p l e R s m args below meth c Q C nL c0 s0 (pc + len) k L st v w)  (hR : 1 ≤ R.frames ∧ 60 ≤ R.locals) (hRc : c0 + km ≤ R.cells ∧ s0 + 6 * km ≤ R.slots) (h : me_op cs J KR KX km sx pc a b ts k L v w nx st 37) : me_at p l e R s m args below meth c Q C nL c0 s0 pc k L st v w := by
  simp only [me_op] at h
  obtain ⟨y, st1, rfl, g1⟩ := me_tI_inv h
  obtain ⟨x, st2, rfl, ⟨hw0, hkm⟩, g2⟩ := me_tI_inv g1
  clear h g1
  intro H locs ls hP hD hS hl
  obtain ⟨hx, hb, hml, hown, hts, hW, hB⟩ := F
  simp only [me_ck] at hck
  split at hck
  · rename_i i hd
    simp only [me_w1, Bool.and_eq_true, decide_eq_true_eq] at hck
    obtain ⟨rfl, hlk⟩ := hck
    have hw := me_ws9_ok (me_ad C) st2
    exact va_mmin hx hb (by rw [hml]; exact hl.1.symm) hown (hts _ (List.mem_filter.mpr ⟨List.mem_of_getElem? hlk, rfl⟩)) (hts _ me_mn1) (hts _ me_mn2) (hts _ me_mn3) hR.1 (by omega) (by omega) (by omega) hd (hn _ _ _ _ _ g2 H locs ls hP hD hS hl)
  · cases hck
theorem me_run {rest : List Value} {cells slots mc : Nat} {H : Heap} {locs : List Loc} {ls : Array Slot} {st0 : List Value} {aa : Array Value} {K : me_K} {X : me_X} (hr : vx_Run p l e R s m args below meth c H locs cells slots mc (6 * mc) (F0 m pc ls st0) rest (me_Qc C K aa) (me_XC C X) (me_A C)) (hS : va_S (me_A C) s.heap H locs)
    (kk : ∀ (r : Option me_S) (v : me_V) (w : me_U), K r v w → ∀ (H1 : Heap) (locs1 : List Loc), va_P C.1 me_cl (me_ws C v w) H1 → va_D (me_A C) (me_ws C v w) → va_S (me_A C) s.heap H1 locs1 → W p l e R s m args below meth c H1 locs1 (cells + mc) (slots + 6 * mc) Q (F0 m (pc + 3) ls ((r.map (me_vl (me_ad C))).toList ++ rest)))
    (kx : ∀ (x : Nat) (v : me_V) (w : me_U), x < 3 → X x v w → ∀ (H1 : Heap) (locs1 : List Loc) (q9 : Addr) (ce : Cell), va_P C.1 me_cl (me_ws C v w) H1 → va_D (me_A C) (me_ws C v w) → va_S (me_A C) s.heap H1 locs1 → H1[q9]? = some ce → ce.vm = .none → s.vm.findClass (me_xn x) = some ce.cls → vx_W p l e R s m args below meth c H1 locs1 (cells + mc) (slots + 6 * mc) Q (F0 m pc ls rest) q9) :
    W p l e R s m args below meth c H locs cells slots Q (F0 m pc ls st0) := by
  intro T hT X9
  rcases hr T hT X9 with ⟨v0, st₀, t, T', L9, h0, X', hL, e1, e2, ⟨⟨r, v, w, hv, hp, hW⟩, hF⟩, st⟩ | ⟨q, st₀, t, T', L9, E, ce, h0, X', hL, e1, e2, ⟨⟨x, v, w, rfl, hx3, hp, hW⟩, hF⟩, hce, hcv, hcl, st⟩
  · cases hv
    obtain ⟨k1, k2, k3⟩ := vx_keep h0 e1 hS (fun _ _ h => h) (fun _ h => h) hL hF
    obtain ⟨t2, a1, b1⟩ := kk r v w hp T'.heap (locs ++ L9) (by rw [e1]; exact hW.1) hW.2 k3 T' rfl X'
    exact ⟨t2, st t2 a1, b1⟩
  · obtain ⟨k1, k2, k3⟩ := vx_keep h0 e1 hS (fun _ _ h => h) (fun _ h => h) hL hF
    obtain ⟨t2, a1, b1⟩ := kx x v w hx3 hp T'.heap (locs ++ L9) q ce (by rw [e1]; exact hW.1) hW.2 k3 (by rw [e1]; exact hce) hcv hcl T' rfl X'
    exact ⟨t2, st.trans a1, b1⟩
def me_cal (nm : Nat → MethodName) (l : Launch) (R : Room) (a : Nat) (q : Nat × me_P) : Prop :=
  ∃ (bytes : ByteArray) (maxL : Nat) (rt : Option FieldType) (fr lo : Nat), me_M l (nm a) (.code (nm a) bytes maxL rt) fr lo q.1 q.2 ∧ Cond.code (nm a) bytes maxL rt ∈ lw_tbl ∧ fr + 1 ≤ R.frames ∧ 8 + (maxL + 11) + lo ≤ R.locals ∧ Cond.initialized (nm a).cls ∈ lw_tbl ∧ (nm a).cls ≠ "java/lang/invoke/MethodHandle" ∧ (nm a).cls ≠ "java/lang/invoke/VarHandle"
def me_calW (nm : Nat → MethodName) (l : Launch) (R : Room) (a : Nat) (q : Nat × me_P) : Prop :=
  ∃ (bytes : ByteArray) (maxL : Nat) (rt : Option FieldType) (hh : List (Nat × Nat × Nat × Nat)) (fr lo : Nat), me_M l (nm a) (.codeWith (nm a) bytes maxL rt hh) fr lo q.1 q.2 ∧ Cond.codeWith (nm a) bytes maxL rt hh ∈ lw_tbl ∧ fr + 1 ≤ R.frames ∧ 8 + (maxL + 11) + lo ≤ R.locals ∧ Cond.initialized (nm a).cls ∈ lw_tbl ∧ (nm a).cls ≠ "java/lang/invoke/MethodHandle" ∧ (nm a).cls ≠ "java/lang/invoke/VarHandle"
theorem me_init_TG {x : String} (h : Cond.initialized x ∈ lw_tbl) : Cond.initialized x ∈ me_TG := List.mem_filter.mpr ⟨h, rfl⟩
theorem me_preW {H : Heap} {locs : List Loc} {U : State} (F : me_Fx p s m args c C cc nL own) (hP : va_P C.1 me_cl (me_ws C v w) H) (hD : va_D (me_A C) (me_ws C v w)) (hS : va_S (me_A C) s.heap H locs) (hU : U.heap = H) (hWm : s.WarmedH U.vm) : me_W C v w U := by
  obtain ⟨hx, hb, hml, hown, hts, hW, hB⟩ := F
  subst hU
  exact ⟨me_Wx_go hWm hW (fun q h1 h2 => hS.2.1 q h1 h2), hP, hD, Nat.le_trans hB hS.1⟩
theorem me_blind (av : List Value) : FrameBlind (va_Pc av (me_W C v w)) := fun _ _ g mk q => ⟨q.1, me_W_blind g mk _ q.2⟩
theorem me_ps_map (ad : Nat → Nat) (r : Option me_S) (st : List me_S) : (r.map (me_vl ad)).toList ++ st.map (me_vl ad) = (me_ps r st).map (me_vl ad) := by
  cases r <;> rfl
theorem me_s29 {cs : Nat → Nat × me_P} {J : Nat → Nat → me_L → List me_S → me_V → me_U → Prop} {KR : me_K} {KX : Nat → Nat → me_L → Nat → me_V → me_U → Prop} {km : Nat} {sx : me_Sc} (F : me_Fx p s m args c C cc nL own) (hck : me_ck nm own cc nL ret cl9 pc a b ts len ix pp 29 = true) (hn : ∀ k L st v w, nx k L st v w → me_at p l e R s m args below meth c Q C nL c0 s0 (pc + len) k L st v w)  (hkx : ∀ pc k L E v w, KX pc k L E v w → E < 3 → ∀ (H : Heap) (locs : List Loc) (ls : Array Slot) (rest : List Value) (q9 : Addr) (ce : Cell), va_P C.1 me_cl (me_ws C v w) H → va_D (me_A C) (me_ws C v w) → va_S (me_A C) s.heap H locs → lv_has ls nL (me_lm (me_ad C) L) → H[q9]? = some ce → ce.vm = .none → s.vm.findClass (me_xn E) = some ce.cls → vx_W p l e R s m args below meth c H locs (c0 + k) (s0 + 6 * k) Q (F0 m pc ls rest) q9) (hRc : c0 + km ≤ R.cells ∧ s0 + 6 * km ≤ R.slots) (hcs : ∀ a, a ∈ cl9 → me_cal nm l R a (cs a)) (h : me_op cs J KR KX km sx pc a b ts k L v w nx st 29) : me_at p l e R s m args below meth c Q C nL c0 s0 pc k L st v w := by
  simp only [me_op] at h
  obtain ⟨⟨hb1, hw9, hkm⟩, hrc, hsp⟩ := h
  obtain ⟨r0, st2, hdr, hoc⟩ := me_tR_inv hrc
  intro H locs ls hP hD hS hl
  have F0' := F
  obtain ⟨hx, hb, hml, hown, hts, hW, hB⟩ := F
  simp only [me_ck] at hck
  split at hck
  · rename_i i hd
    simp only [me_w1, Bool.and_eq_true, decide_eq_true_eq] at hck
    obtain ⟨rfl, hmem, hlk, hin, hsel, hcl, hpar⟩ := hck
    obtain ⟨bytes, maxL, rt, fr, lo, hM, hcode, hfr, hlo, hini, hy1, hy2⟩ := hcs a hmem
    have ed : st.drop (b + 1) = st2 := by rw [← List.drop_drop, hdr]; rfl
    have et : st.take (b + 1) = st.take b ++ [vR r0] := by
      rw [List.take_succ]
      congr 1
      have : st[b]? = some (vR r0) := by
        have h9 := congrArg (fun z => z[0]?) hdr
        simpa using h9
      rw [this]; rfl
    have er : (st.take (b + 1)).reverse = vR r0 :: (st.take b).reverse := by rw [et]; simp
    have es : st = st.take b ++ vR r0 :: st2 := by rw [← hdr]; exact (List.take_append_drop b st).symm
    rw [er] at hsp
    have hMM := hM C _ v w _ _ hsp
    obtain ⟨q, hq, hqc⟩ : ∃ q, me_cl[ts.headD 0]? = some q ∧ q.1 = (nm a).cls := by
      cases h9 : me_cl[ts.headD 0]? with
      | none => rw [h9] at hcl; cases hcl
      | some q => rw [h9] at hcl; exact ⟨q, rfl, Option.some.inj hcl⟩
    obtain ⟨fl, hsk⟩ := me_oc_sk hoc
    obtain ⟨cell, hc1, hc2, hc3⟩ := va_recv hW.1 hP hq (q0 := r0) (by rw [me_get C v w (me_lt hsk), me_enO C v w hsk])
    rw [hqc] at hc3
    have hst : st.map (me_vl (me_ad C)) = (((st.take b).reverse).map (me_vl (me_ad C))).reverse ++ .ref (me_ad C r0) :: st2.map (me_vl (me_ad C)) := by
      conv => lhs; rw [es]
      simp [me_vl]
    have hw := me_ws9_ok (me_ad C) st2
    rw [ed] at hw9
    have hlen : (((st.take b).reverse).map (me_vl (me_ad C))).length = b := by simp; omega
    have hrun := vx_runV (As := ((st.take b).reverse).map (me_vl (me_ad C))) (rest := st2.map (me_vl (me_ad C))) (own := own) (C := (nm a).cls) (b := me_ad C r0) (n := b) (g := F0 m pc ls (st.map (me_vl (me_ad C)))) (cells := c0 + k) (slots := s0 + 6 * k) (locs := locs) (H := H) (meth := meth) (below := below) (e := e)
      ⟨hx, hb, hml, hown, hts⟩ hMM ⟨callB_of b hts (me_TG_in (me_code_TG hcode)) rfl rfl rfl (hts _ (me_init_TG hini)) (hts _ (List.mem_filter.mpr ⟨List.mem_of_getElem? hlk, rfl⟩)) ⟨hy1, hy2, hpar⟩ ⟨hfr, hlo⟩, hts _ (List.mem_filter.mpr ⟨List.mem_of_getElem? hin, rfl⟩), hts _ (List.mem_filter.mpr ⟨List.mem_of_getElem? hsel, rfl⟩)⟩
      ⟨me_blind _, ⟨cell, hc1, hc2, hc3⟩, fun U hU hWm => ⟨rfl, me_preW F0' hP hD hS hU hWm⟩⟩ rfl hlen hl.1 hst (by rw [hw]; show 2 * 0 + _ ≤ 8; omega) hd ⟨by omega, by omega⟩
    rw [ed] at *
    exact me_run hrun hS (fun r v w hr H1 locs1 hP1 hD1 hS1 => by
      have h9 := hn _ _ _ _ _ hr H1 locs1 ls hP1 hD1 hS1 hl
      rw [me_ps_map]
      rw [show c0 + k + (cs a).1 = c0 + (k + (cs a).1) by omega, show s0 + 6 * k + 6 * (cs a).1 = s0 + 6 * (k + (cs a).1) by omega]
      exact h9) (fun x v w hx3 hxx H1 locs1 q9 ce hP1 hD1 hS1 hce hcv hcl => by
      have h9 := hkx _ _ _ _ _ _ hxx hx3 H1 locs1 ls (st2.map (me_vl (me_ad C))) q9 ce hP1 hD1 hS1 hl hce hcv hcl
      rw [show c0 + k + (cs a).1 = c0 + (k + (cs a).1) by omega, show s0 + 6 * k + 6 * (cs a).1 = s0 + 6 * (k + (cs a).1) by omega]
      exact h9)
  · cases hck
theorem me_s30 {cs : Nat → Nat × me_P} {J : Nat → Nat → me_L → List me_S → me_V → me_U → Prop} {KR : me_K} {KX : Nat → Nat → me_L → Nat → me_V → me_U → Prop} {km : Nat} {sx : me_Sc} (F : me_Fx p s m args c C cc nL own) (hck : me_ck nm own cc nL ret cl9 pc a b ts len ix pp 30 = true) (hn : ∀ k L st v w, nx k L st v w → me_at p l e R s m args below meth c Q C nL c0 s0 (pc + len) k L st v w)  (hkx : ∀ pc k L E v w, KX pc k L E v w → E < 3 → ∀ (H : Heap) (locs : List Loc) (ls : Array Slot) (rest : List Value) (q9 : Addr) (ce : Cell), va_P C.1 me_cl (me_ws C v w) H → va_D (me_A C) (me_ws C v w) → va_S (me_A C) s.heap H locs → lv_has ls nL (me_lm (me_ad C) L) → H[q9]? = some ce → ce.vm = .none → s.vm.findClass (me_xn E) = some ce.cls → vx_W p l e R s m args below meth c H locs (c0 + k) (s0 + 6 * k) Q (F0 m pc ls rest) q9) (hRc : c0 + km ≤ R.cells ∧ s0 + 6 * km ≤ R.slots) (hcs : ∀ a, a ∈ cl9 → me_cal nm l R a (cs a)) (h : me_op cs J KR KX km sx pc a b ts k L v w nx st 30) : me_at p l e R s m args below meth c Q C nL c0 s0 pc k L st v w := by
  simp only [me_op] at h
  obtain ⟨⟨hb1, hw9, hkm⟩, hsp⟩ := h
  intro H locs ls hP hD hS hl
  have F0' := F
  obtain ⟨hx, hb, hml, hown, hts, hW, hB⟩ := F
  simp only [me_ck] at hck
  split at hck
  · rename_i i hd
    simp only [me_w1, Bool.and_eq_true, decide_eq_true_eq] at hck
    obtain ⟨rfl, hmem, hlk, hstt, hpar⟩ := hck
    obtain ⟨bytes, maxL, rt, fr, lo, hM, hcode, hfr, hlo, hini, hy1, hy2⟩ := hcs a hmem
    have es : st = st.take b ++ st.drop b := (List.take_append_drop b st).symm
    have hMM := hM C _ v w _ _ hsp
    have hst : st.map (me_vl (me_ad C)) = (((st.take b).reverse).map (me_vl (me_ad C))).reverse ++ (st.drop b).map (me_vl (me_ad C)) := by
      conv => lhs; rw [es]
      simp
    have hw := me_ws9_ok (me_ad C) (st.drop b)
    have hlen : (((st.take b).reverse).map (me_vl (me_ad C))).length = b := by simp; omega
    have hrun := vx_runS (As := ((st.take b).reverse).map (me_vl (me_ad C))) (rest := (st.drop b).map (me_vl (me_ad C))) (own := own) (n := b) (g := F0 m pc ls (st.map (me_vl (me_ad C)))) (cells := c0 + k) (slots := s0 + 6 * k) (locs := locs) (H := H) (meth := meth) (below := below) (e := e)
      ⟨hx, hb, hml, hown, hts⟩ hMM (⟨callB_of b hts (me_TG_in (me_code_TG hcode)) rfl rfl rfl (hts _ (me_init_TG hini)) (hts _ (List.mem_filter.mpr ⟨List.mem_of_getElem? hlk, rfl⟩)) ⟨hy1, hy2, hpar⟩ ⟨hfr, hlo⟩, hts _ (List.mem_filter.mpr ⟨List.mem_of_getElem? hstt, rfl⟩)⟩)
      ⟨me_blind _, fun U hU hWm => ⟨rfl, me_preW F0' hP hD hS hU hWm⟩⟩ rfl hlen hl.1 hst (by rw [hw]; show 2 * 0 + _ ≤ 8; omega) hd ⟨by omega, by omega⟩
    exact me_run hrun hS (fun r v w hr H1 locs1 hP1 hD1 hS1 => by
      have h9 := hn _ _ _ _ _ hr H1 locs1 ls hP1 hD1 hS1 hl
      rw [me_ps_map]
      rw [show c0 + k + (cs a).1 = c0 + (k + (cs a).1) by omega, show s0 + 6 * k + 6 * (cs a).1 = s0 + 6 * (k + (cs a).1) by omega]
      exact h9) (fun x v w hx3 hxx H1 locs1 q9 ce hP1 hD1 hS1 hce hcv hcl => by
      have h9 := hkx _ _ _ _ _ _ hxx hx3 H1 locs1 ls ((st.drop b).map (me_vl (me_ad C))) q9 ce hP1 hD1 hS1 hl hce hcv hcl
      rw [show c0 + k + (cs a).1 = c0 + (k + (cs a).1) by omega, show s0 + 6 * k + 6 * (cs a).1 = s0 + 6 * (k + (cs a).1) by omega]
      exact h9)
  · cases hck
theorem me_s41 {cs : Nat → Nat × me_P} {J : Nat → Nat → me_L → List me_S → me_V → me_U → Prop} {KR : me_K} {KX : Nat → Nat → me_L → Nat → me_V → me_U → Prop} {km : Nat} {sx : me_Sc} (F : me_Fx p s m args c C cc nL own) (hck : me_ck nm own cc nL ret cl9 pc a b ts len ix pp 41 = true) (hn : ∀ k L st v w, nx k L st v w → me_at p l e R s m args below meth c Q C nL c0 s0 (pc + len) k L st v w)  (hkx : ∀ pc k L E v w, KX pc k L E v w → E < 3 → ∀ (H : Heap) (locs : List Loc) (ls : Array Slot) (rest : List Value) (q9 : Addr) (ce : Cell), va_P C.1 me_cl (me_ws C v w) H → va_D (me_A C) (me_ws C v w) → va_S (me_A C) s.heap H locs → lv_has ls nL (me_lm (me_ad C) L) → H[q9]? = some ce → ce.vm = .none → s.vm.findClass (me_xn E) = some ce.cls → vx_W p l e R s m args below meth c H locs (c0 + k) (s0 + 6 * k) Q (F0 m pc ls rest) q9) (hRc : c0 + km ≤ R.cells ∧ s0 + 6 * km ≤ R.slots) (hcs : ∀ a, a ∈ cl9 → me_cal nm l R a (cs a)) (h : me_op cs J KR KX km sx pc a b ts k L v w nx st 41) : me_at p l e R s m args below meth c Q C nL c0 s0 pc k L st v w := by
  simp only [me_op] at h
  obtain ⟨⟨hb1, hw9, hkm⟩, hsp⟩ := h
  intro H locs ls hP hD hS hl
  have F0' := F
  obtain ⟨hx, hb, hml, hown, hts, hW, hB⟩ := F
  simp only [me_ck] at hck
  split at hck
  · rename_i i hd
    simp only [me_w1, Bool.and_eq_true, decide_eq_true_eq] at hck
    obtain ⟨rfl, hmem, hlk, hstt, hpar⟩ := hck
    obtain ⟨bytes, maxL, rt, fr, lo, hM, hcode, hfr, hlo, hini, hy1, hy2⟩ := hcs a hmem
    obtain ⟨host, hlk2⟩ : ∃ host, lw_tbl[pp]? = some (.methodLinkNest own i (nm a) host) := by
      split at hlk
      · rename_i o2 i2 y2 host hq
        simp only [Bool.and_eq_true, decide_eq_true_eq] at hlk
        obtain ⟨rfl, rfl, rfl⟩ := hlk
        exact ⟨host, hq⟩
      · cases hlk
    have hNw : va_Nw (.methodLinkNest own i (nm a) host) s := hW.2.2.2.2.1 _ (List.mem_of_getElem? hlk2) rfl
    have es : st = st.take b ++ st.drop b := (List.take_append_drop b st).symm
    have hMM := hM C _ v w _ _ hsp
    have hst : st.map (me_vl (me_ad C)) = (((st.take b).reverse).map (me_vl (me_ad C))).reverse ++ (st.drop b).map (me_vl (me_ad C)) := by
      conv => lhs; rw [es]
      simp
    have hw := me_ws9_ok (me_ad C) (st.drop b)
    have hlen : (((st.take b).reverse).map (me_vl (me_ad C))).length = b := by simp; omega
    have hrun := vx_runSN (As := ((st.take b).reverse).map (me_vl (me_ad C))) (rest := (st.drop b).map (me_vl (me_ad C))) (own := own) (n := b) (g := F0 m pc ls (st.map (me_vl (me_ad C)))) (cells := c0 + k) (slots := s0 + 6 * k) (locs := locs) (H := H) (meth := meth) (below := below) (e := e)
      ⟨hx, hb, hml, hown, hts⟩ hMM (⟨va_cnB b hts (me_TG_in (me_code_TG hcode)) rfl rfl rfl hNw (hts _ (me_init_TG hini)) ⟨hy1, hy2, hpar⟩ ⟨hfr, hlo⟩, hts _ (List.mem_filter.mpr ⟨List.mem_of_getElem? hstt, rfl⟩), trivial⟩)
      ⟨me_blind _, fun U hU hWm => ⟨rfl, me_preW F0' hP hD hS hU hWm⟩⟩ rfl hlen hl.1 hst (by rw [hw]; show 2 * 0 + _ ≤ 8; omega) hd ⟨by omega, by omega⟩
    exact me_run hrun hS (fun r v w hr H1 locs1 hP1 hD1 hS1 => by
      have h9 := hn _ _ _ _ _ hr H1 locs1 ls hP1 hD1 hS1 hl
      rw [me_ps_map]
      rw [show c0 + k + (cs a).1 = c0 + (k + (cs a).1) by omega, show s0 + 6 * k + 6 * (cs a).1 = s0 + 6 * (k + (cs a).1) by omega]
      exact h9) (fun x v w hx3 hxx H1 locs1 q9 ce hP1 hD1 hS1 hce hcv hcl => by
      have h9 := hkx _ _ _ _ _ _ hxx hx3 H1 locs1 ls ((st.drop b).map (me_vl (me_ad C))) q9 ce hP1 hD1 hS1 hl hce hcv hcl
      rw [show c0 + k + (cs a).1 = c0 + (k + (cs a).1) by omega, show s0 + 6 * k + 6 * (cs a).1 = s0 + 6 * (k + (cs a).1) by omega]
      exact h9)
  · cases hck
theorem me_s38 {cs : Nat → Nat × me_P} {J : Nat → Nat → me_L → List me_S → me_V → me_U → Prop} {KR : me_K} {KX : Nat → Nat → me_L → Nat → me_V → me_U → Prop} {km : Nat} {sx : me_Sc} (F : me_Fx p s m args c C cc nL own) (hck : me_ck nm own cc nL ret cl9 pc a b ts len ix pp 38 = true) (hn : ∀ k L st v w, nx k L st v w → me_at p l e R s m args below meth c Q C nL c0 s0 (pc + len) k L st v w)   (hRc : c0 + km ≤ R.cells ∧ s0 + 6 * km ≤ R.slots) (hcs : ∀ a, a ∈ cl9 → me_calW nm l R a (cs a)) (h : me_op cs J KR KX km sx pc a b ts k L v w nx st 38) : me_at p l e R s m args below meth c Q C nL c0 s0 pc k L st v w := by
  simp only [me_op] at h
  obtain ⟨⟨hb1, hw9, hkm⟩, hsp⟩ := h
  intro H locs ls hP hD hS hl
  have F0' := F
  obtain ⟨hx, hb, hml, hown, hts, hW, hB⟩ := F
  simp only [me_ck] at hck
  split at hck
  · rename_i i hd
    simp only [me_w1, Bool.and_eq_true, decide_eq_true_eq] at hck
    obtain ⟨rfl, hmem, hlk, hstt, hpar⟩ := hck
    obtain ⟨bytes, maxL, rt, hh, fr, lo, hM, hcode, hfr, hlo, hini, hy1, hy2⟩ := hcs a hmem
    have hlk2 : Cond.methodLink own i (nm a) ∈ me_TG := List.mem_filter.mpr ⟨List.mem_of_getElem? hlk, rfl⟩
    have hst2 : Cond.static (nm a) ∈ me_TG := List.mem_filter.mpr ⟨List.mem_of_getElem? hstt, rfl⟩
    have hgi : GoodIn me_TG (va_wsS own i (nm a) (.codeWith (nm a) bytes maxL rt hh :: me_TG)) := by
      intro z hz
      have hzT : z ∈ me_TG := by
        unfold va_wsS at hz
        rcases List.mem_append.mp hz with hz | hz
        · simp only [List.mem_cons, List.not_mem_nil, or_false] at hz
          rcases hz with rfl | rfl | rfl
          · exact hlk2
          · exact hst2
          · exact me_init_TG hini
        · exact (me_TG_in (me_codeW_TG hcode) z hz).1
      exact ⟨hzT, me_TG_good hzT⟩
    have es : st = st.take b ++ st.drop b := (List.take_append_drop b st).symm
    have hMM := hM C _ v w _ _ hsp
    have hst : st.map (me_vl (me_ad C)) = (((st.take b).reverse).map (me_vl (me_ad C))).reverse ++ (st.drop b).map (me_vl (me_ad C)) := by
      conv => lhs; rw [es]
      simp
    have hw := me_ws9_ok (me_ad C) (st.drop b)
    have hlen : (((st.take b).reverse).map (me_vl (me_ad C))).length = b := by simp; omega
    have hrun := vx_runSX (As := ((st.take b).reverse).map (me_vl (me_ad C))) (rest := (st.drop b).map (me_vl (me_ad C))) (own := own) (n := b) (g := F0 m pc ls (st.map (me_vl (me_ad C)))) (cells := c0 + k) (slots := s0 + 6 * k) (locs := locs) (H := H) (meth := meth) (below := below) (e := e)
      ⟨hx, hb, hml, hown, hts⟩ hMM (vx_cwSW b hts hgi rfl rfl rfl ⟨hy1, hy2, hpar⟩ ⟨hfr, hlo⟩)
      ⟨me_blind _, fun U hU hWm => ⟨rfl, me_preW F0' hP hD hS hU hWm⟩⟩ rfl hlen hl.1 hst (by rw [hw]; show 2 * 0 + _ ≤ 8; omega) hd ⟨by omega, by omega⟩
    exact me_run hrun hS (fun r v w hr H1 locs1 hP1 hD1 hS1 => by
      have h9 := hn _ _ _ _ _ hr H1 locs1 ls hP1 hD1 hS1 hl
      rw [me_ps_map]
      rw [show c0 + k + (cs a).1 = c0 + (k + (cs a).1) by omega, show s0 + 6 * k + 6 * (cs a).1 = s0 + 6 * (k + (cs a).1) by omega]
      exact h9) (fun x v w hx3 hxx => hxx.elim)
  · cases hck
theorem me_s39 {cs : Nat → Nat × me_P} {J : Nat → Nat → me_L → List me_S → me_V → me_U → Prop} {KR : me_K} {KX : Nat → Nat → me_L → Nat → me_V → me_U → Prop} {km : Nat} {sx : me_Sc} (F : me_Fx p s m args c C cc nL own) (hck : me_ck nm own cc nL ret cl9 pc a b ts len ix pp 39 = true) (hn : ∀ k L st v w, nx k L st v w → me_at p l e R s m args below meth c Q C nL c0 s0 (pc + len) k L st v w)  (hX : va_X sx.1 sx.2.1 sx.2.2 s s.heap) (hbl : sx.1 < s.heap.size) (hbA : ¬ me_A C sx.1) (h : me_op cs J KR KX km sx pc a b ts k L v w nx st 39) : me_at p l e R s m args below meth c Q C nL c0 s0 pc k L st v w := by
  simp only [me_op] at h
  obtain ⟨i, st1, rfl, g1⟩ := me_tI_inv h
  obtain ⟨r, st2, rfl, rfl, hin, g2⟩ := me_tQ_inv g1
  clear h g1
  intro H locs ls hP hD hS hl
  obtain ⟨hx, hb, hml, hown, hts, hW, hB⟩ := F
  simp only [me_ck] at hck
  split at hck
  · rename_i hd
    simp only [decide_eq_true_eq] at hck
    subst hck
    exact va_sld hx hb hX hbl hbA hS hin hd (hn _ _ _ _ _ g2 H locs ls hP hD hS hl)
  · cases hck
theorem me_s40 {cs : Nat → Nat × me_P} {J : Nat → Nat → me_L → List me_S → me_V → me_U → Prop} {KR : me_K} {KX : Nat → Nat → me_L → Nat → me_V → me_U → Prop} {km : Nat} {sx : me_Sc} (F : me_Fx p s m args c C cc nL own) (hck : me_ck nm own cc nL ret cl9 pc a b ts len ix pp 40 = true) (hn : ∀ k L st v w, nx k L st v w → me_at p l e R s m args below meth c Q C nL c0 s0 (pc + len) k L st v w)  (hX : va_X sx.1 sx.2.1 sx.2.2 s s.heap) (hbl : sx.1 < s.heap.size) (hbA : ¬ me_A C sx.1) (h : me_op cs J KR KX km sx pc a b ts k L v w nx st 40) : me_at p l e R s m args below meth c Q C nL c0 s0 pc k L st v w := by
  simp only [me_op] at h
  obtain ⟨r, st2, rfl, rfl, g2⟩ := me_tQ_inv h
  clear h
  intro H locs ls hP hD hS hl
  obtain ⟨hx, hb, hml, hown, hts, hW, hB⟩ := F
  simp only [me_ck] at hck
  split at hck
  · rename_i hd
    simp only [decide_eq_true_eq] at hck
    subst hck
    exact va_slen hx hb hX hbl hbA hS hd (hn _ _ _ _ _ g2 H locs ls hP hD hS hl)
  · cases hck
end STE
