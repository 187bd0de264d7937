/-! ===== blocks, loops, whole methods ===== -/
/-- the check of an instruction: calls of methods with a table (500 on) apart; the script's rows where there is a script -/
def me_ck2 (nm : Nat → MethodName) (own : String) (cc : ByteArray) (nL : Nat) (ret : Option FieldType) (cl9 : List Nat) (us : Nat) (pc : Nat) (q : me_I) : Bool :=
  match q with
  | (o, a, b, ts, len, ix, pp) =>
    if o = 35 then me_ckT own cc pc a ts pp && decide (us = 2)
    else me_ck nm own cc nL ret cl9 pc a b ts len ix pp o && (if o = 29 ∨ o = 30 ∨ o = 41 then decide (a < 500) else if o = 38 then decide (500 ≤ a) else if o = 39 ∨ o = 40 then decide (us = 1) else true)
def me_bck (nm : Nat → MethodName) (own : String) (cc : ByteArray) (nL : Nat) (ret : Option FieldType) (cl9 : List Nat) (us : Nat) : List me_I → Nat → Bool
  | [], _ => true
  | q :: is, pc => me_ck2 nm own cc nL ret cl9 us pc q && me_bck nm own cc nL ret cl9 us is (pc + q.2.2.2.2.1)
def me_bk (bl : List (Nat × List me_I)) (pc : Nat) : List me_I := (bl.lookup pc).getD []
theorem me_bk_ck {nm : Nat → MethodName} {own : String} {cc : ByteArray} {nL : Nat} {ret : Option FieldType} {cl9 : List Nat} {us : Nat} : ∀ (bl : List (Nat × List me_I)), bl.all (fun q => me_bck nm own cc nL ret cl9 us q.2 q.1) = true → ∀ pc : Nat, me_bck nm own cc nL ret cl9 us (me_bk bl pc) pc = true
  | [], _, pc => rfl
  | q :: bl, h, pc => by
    simp only [List.all_cons, Bool.and_eq_true] at h
    have ih := me_bk_ck bl h.2 pc
    obtain ⟨i, is⟩ := q
    unfold me_bk at ih ⊢
    rw [List.lookup_cons]
    by_cases hi : pc = i
    · subst hi
      simpa using h.1
    · have : (pc == i) = false := by simpa using hi
      rw [this]
      exact ih
def me_go (cs : Nat → Nat × me_P) (KR : me_K) (kx : (Nat → Nat → me_L → List me_S → me_V → me_U → Prop) → Nat → Nat → me_L → Nat → me_V → me_U → Prop) (km : Nat) (sx : me_Sc) (bl : List (Nat × List me_I)) (hd : List Nat) (Inv : Nat → Nat → me_L → List me_S → me_V → me_U → Prop) : Nat → Nat → Nat → me_L → List me_S → me_V → me_U → Prop
  | 0, _, _, _, _, _, _ => False
  | n + 1, pc, k, L, st, v, w => if pc ∈ hd then Inv pc k L st v w else me_vb cs (me_go cs KR kx km sx bl hd Inv n) KR (kx (me_go cs KR kx km sx bl hd Inv n)) km sx (me_bk bl pc) pc k L st v w
def me_ag : Nat → List me_S → me_L
  | _, [] => []
  | i, x :: as => (i, x) :: me_ag (if me_wd x = 2 then i + 2 else i + 1) as
section MET
variable {nm : Nat → MethodName} {p : Program} {l : Launch} {e : Env} {R : Room} {s : State} {m : MethodId} {args : Array Value} {below : List Frame} {meth : Method} {c : Code} {Q : State → Prop} {C : me_C} {cc : ByteArray} {nL c0 s0 : Nat} {own : String} {ret : Option FieldType} {cl9 : List Nat} {us : Nat}
variable {cs : Nat → Nat × me_P} {KR : me_K} {km : Nat} {sx : me_Sc}
/-- what a walk may use of its surroundings, but for its ends -/
def me_En (nm : Nat → MethodName) (l : Launch) (R : Room) (s : State) (C : me_C) (cl9 : List Nat) (cs : Nat → Nat × me_P) (km c0 s0 : Nat) (us : Nat) (sx : me_Sc) : Prop :=
  (1 ≤ R.frames ∧ 60 ≤ R.locals) ∧ (c0 + km ≤ R.cells ∧ s0 + 6 * km ≤ R.slots) ∧ (∀ a, a ∈ cl9 → a < 500 → me_cal nm l R a (cs a)) ∧ (∀ a, a ∈ cl9 → 500 ≤ a → me_calW nm l R a (cs a)) ∧ (us = 1 → va_X sx.1 sx.2.1 sx.2.2 s s.heap ∧ sx.1 < s.heap.size ∧ ¬ me_A C sx.1)
def me_Kx (p : Program) (l : Launch) (e : Env) (R : Room) (s : State) (m : MethodId) (args : Array Value) (below : List Frame) (meth : Method) (c : Code) (Q : State → Prop) (C : me_C) (nL c0 s0 : Nat) (KX : Nat → Nat → me_L → Nat → me_V → me_U → Prop) : Prop :=
  ∀ pc k L E v w, KX pc k L E v w → E < 3 → ∀ (H : Heap) (locs : List Loc) (ls : Array Slot) (rest : List Value) (q9 : Addr) (ce : Cell), va_P C.1 me_cl (me_ws C v w) H → va_D (me_A C) (me_ws C v w) → va_S (me_A C) s.heap H locs → lv_has ls nL (me_lm (me_ad C) L) → H[q9]? = some ce → ce.vm = .none → s.vm.findClass (me_xn E) = some ce.cls → vx_W p l e R s m args below meth c H locs (c0 + k) (s0 + 6 * k) Q (F0 m pc ls rest) q9
theorem me_ckf29 {pc a b len ix pp : Nat} {ts : List Nat} {f : Nat → Bool} (ha : f a = true) (h : me_ck nm own cc nL ret cl9 pc a b ts len ix pp 29 = true) : me_ck nm own cc nL ret (cl9.filter f) pc a b ts len ix pp 29 = true := by
  simp only [me_ck] at h ⊢
  split at h
  · rename_i i hd
    rw [Bool.and_eq_true, Bool.and_eq_true] at h ⊢
    refine ⟨h.1, ?_, h.2.2⟩
    have h9 := of_decide_eq_true h.2.1
    exact decide_eq_true (List.mem_filter.mpr ⟨h9, ha⟩)
  · cases h
theorem me_ckf30 {pc a b len ix pp : Nat} {ts : List Nat} {f : Nat → Bool} (ha : f a = true) (h : me_ck nm own cc nL ret cl9 pc a b ts len ix pp 30 = true) : me_ck nm own cc nL ret (cl9.filter f) pc a b ts len ix pp 30 = true := by
  simp only [me_ck] at h ⊢
  split at h
  · rename_i i hd
    rw [Bool.and_eq_true, Bool.and_eq_true] at h ⊢
    refine ⟨h.1, ?_, h.2.2⟩
    have h9 := of_decide_eq_true h.2.1
    exact decide_eq_true (List.mem_filter.mpr ⟨h9, ha⟩)
  · cases h
theorem me_ckf38 {pc a b len ix pp : Nat} {ts : List Nat} {f : Nat → Bool} (ha : f a = true) (h : me_ck nm own cc nL ret cl9 pc a b ts len ix pp 38 = true) : me_ck nm own cc nL ret (cl9.filter f) pc a b ts len ix pp 38 = true := by
  simp only [me_ck] at h ⊢
  split at h
  · rename_i i hd
    rw [Bool.and_eq_true, Bool.and_eq_true] at h ⊢
    refine ⟨h.1, ?_, h.2.2⟩
    have h9 := of_decide_eq_true h.2.1
    exact decide_eq_true (List.mem_filter.mpr ⟨h9, ha⟩)
  · cases h
theorem me_ckf41 {pc a b len ix pp : Nat} {ts : List Nat} {f : Nat → Bool} (ha : f a = true) (h : me_ck nm own cc nL ret cl9 pc a b ts len ix pp 41 = true) : me_ck nm own cc nL ret (cl9.filter f) pc a b ts len ix pp 41 = true := by
  simp only [me_ck] at h ⊢
  split at h
  · rename_i i hd
    rw [Bool.and_eq_true, Bool.and_eq_true] at h ⊢
    refine ⟨h.1, ?_, h.2.2⟩
    have h9 := of_decide_eq_true h.2.1
    exact decide_eq_true (List.mem_filter.mpr ⟨h9, ha⟩)
  · cases h
theorem me_step {pc k : Nat} {L : me_L} {st : List me_S} {v : me_V} {w : me_U} {nx : Nat → me_L → List me_S → me_V → me_U → Prop} {J : Nat → Nat → me_L → List me_S → me_V → me_U → Prop} {KX : Nat → Nat → me_L → Nat → me_V → me_U → Prop} (F : me_Fx p s m args c C cc nL own) (En : me_En nm l R s C cl9 cs km c0 s0 us sx) (q : me_I) (hck : me_ck2 nm own cc nL ret cl9 us pc q = true)
    (hn : ∀ k L st v w, nx k L st v w → me_at p l e R s m args below meth c Q C nL c0 s0 (pc + q.2.2.2.2.1) k L st v w) (hj : ∀ pc k L st v w, J pc k L st v w → me_at p l e R s m args below meth c Q C nL c0 s0 pc k L st v w) (hkx : me_Kx p l e R s m args below meth c Q C nL c0 s0 KX)
    (hend : ∀ (o a b : Nat) (ts : List Nat) (len ix pp : Nat), 31 ≤ o → o ≤ 34 → me_ck nm own cc nL ret cl9 pc a b ts len ix pp o = true → me_op cs J KR KX km sx pc a b ts k L v w nx st o → me_at p l e R s m args below meth c Q C nL c0 s0 pc k L st v w)
    (hthr : ∀ (a b : Nat) (ts : List Nat) (pp : Nat), us = 2 → me_ckT own cc pc a ts pp = true → me_op cs J KR KX km sx pc a b ts k L v w nx st 35 → me_at p l e R s m args below meth c Q C nL c0 s0 pc k L st v w)
    (h : me_op cs J KR KX km sx pc q.2.1 q.2.2.1 q.2.2.2.1 k L v w nx st q.1) : me_at p l e R s m args below meth c Q C nL c0 s0 pc k L st v w := by
  obtain ⟨o, a, b, ts, len, ix, pp⟩ := q
  obtain ⟨hR, hRc, hcs, hcsW, hX⟩ := En
  unfold me_ck2 at hck
  dsimp only at hck hn h
  by_cases ho : o = 35
  · subst ho
    rw [if_pos rfl, Bool.and_eq_true] at hck
    exact hthr a b ts pp (of_decide_eq_true hck.2) hck.1 h
  · rw [if_neg ho, Bool.and_eq_true] at hck
    obtain ⟨hck, hck3⟩ := hck
    have hcsA : (o = 29 ∨ o = 30 ∨ o = 41) → a < 500 := fun z => by rw [if_pos z] at hck3; simpa using hck3
    match o, hck, h, ho, hck3, hcsA with
    | 0, hck, h, _, _, _ => exact me_s0 F hck hn h
    | 1, hck, h, _, _, _ => exact me_s1 F hck hn h
    | 2, hck, h, _, _, _ => exact me_s2 F hck hn h
    | 3, hck, h, _, _, _ => exact me_s3 F hck hn h
    | 4, hck, h, _, _, _ => exact me_s4 F hck hn h
    | 5, hck, h, _, _, _ => exact me_s5 F hck hn h
    | 6, hck, h, _, _, _ => exact me_s6 F hck hn h
    | 7, hck, h, _, _, _ => exact me_s7 F hck hn h
    | 8, hck, h, _, _, _ => exact me_s8 F hck hn h
    | 9, hck, h, _, _, _ => exact me_s9 F hck hn h
    | 10, hck, h, _, _, _ => exact me_s10 F hck hn h
    | 11, hck, h, _, _, _ => exact me_s11 F hck hn h
    | 12, hck, h, _, _, _ => exact me_s12 F hck hn h
    | 13, hck, h, _, _, _ => exact me_s13 F hck hn h
    | 14, hck, h, _, _, _ => exact me_s14 F hck hn hj h
    | 15, hck, h, _, _, _ => exact me_s15 F hck hn hj h
    | 16, hck, h, _, _, _ => exact me_s16 F hck hn hj h
    | 17, hck, h, _, _, _ => exact me_s17 F hck hj h
    | 18, hck, h, _, _, _ => exact me_s18 F hck hj h
    | 19, hck, h, _, _, _ => exact me_s19 F hck hn h
    | 20, hck, h, _, _, _ => exact me_s20 F hck hn h
    | 21, hck, h, _, _, _ => exact me_s21 F hck hn h
    | 22, hck, h, _, _, _ => exact me_s22 F hck hn h
    | 23, hck, h, _, _, _ => exact me_s23 F hck hn h
    | 24, hck, h, _, _, _ => exact me_s24 F hck hn h
    | 25, hck, h, _, _, _ => exact me_s25 F hck hn h
    | 26, hck, h, _, _, _ => exact me_s26 F hck hn h
    | 27, hck, h, _, _, _ => exact me_s27 F hck hn h
    | 28, hck, h, _, _, _ => exact me_s28 F hck hn h
    | 29, hck, h, _, _, hA => exact me_s29 (cl9 := cl9.filter (fun a => decide (a < 500))) F (me_ckf29 (by simpa using hA (Or.inl rfl)) hck) hn hkx hRc (fun a ha => hcs a (List.mem_filter.mp ha).1 (by simpa using (List.mem_filter.mp ha).2)) h
    | 30, hck, h, _, _, hA => exact me_s30 (cl9 := cl9.filter (fun a => decide (a < 500))) F (me_ckf30 (by simpa using hA (Or.inr (Or.inl rfl))) hck) hn hkx hRc (fun a ha => hcs a (List.mem_filter.mp ha).1 (by simpa using (List.mem_filter.mp ha).2)) h
    | 31, hck, h, _, _, _ => exact hend 31 a b ts len ix pp (by omega) (by omega) hck h
    | 32, hck, h, _, _, _ => exact hend 32 a b ts len ix pp (by omega) (by omega) hck h
    | 33, hck, h, _, _, _ => exact hend 33 a b ts len ix pp (by omega) (by omega) hck h
    | 34, hck, h, _, _, _ => exact hend 34 a b ts len ix pp (by omega) (by omega) hck h
    | 35, hck, h, ho, _, _ => exact absurd rfl ho
    | 36, hck, h, _, _, _ => exact me_s36 F hck hn hR h
    | 37, hck, h, _, _, _ => exact me_s37 F hck hn hR hRc h
    | 38, hck, h, _, h3, _ => exact me_s38 (cl9 := cl9.filter (fun a => decide (500 ≤ a))) F (me_ckf38 (by simpa using h3) hck) hn hRc (fun a ha => hcsW a (List.mem_filter.mp ha).1 (by simpa using (List.mem_filter.mp ha).2)) h
    | 39, hck, h, _, h3, _ => exact me_s39 F hck hn (hX (by simpa using h3)).1 (hX (by simpa using h3)).2.1 (hX (by simpa using h3)).2.2 h
    | 40, hck, h, _, h3, _ => exact me_s40 F hck hn (hX (by simpa using h3)).1 (hX (by simpa using h3)).2.1 (hX (by simpa using h3)).2.2 h
    | 41, hck, h, _, _, hA => exact me_s41 (cl9 := cl9.filter (fun a => decide (a < 500))) F (me_ckf41 (by simpa using hA (Or.inr (Or.inr rfl))) hck) hn hkx hRc (fun a ha => hcs a (List.mem_filter.mp ha).1 (by simpa using (List.mem_filter.mp ha).2)) h
    | n + 42, hck, h, _, _, _ => exact h.elim
/-- the ends of a walk: returns, throws -/
def me_Ed (nm : Nat → MethodName) (p : Program) (l : Launch) (e : Env) (R : Room) (s : State) (m : MethodId) (args : Array Value) (below : List Frame) (meth : Method) (c : Code) (Q : State → Prop) (C : me_C) (cc : ByteArray) (nL c0 s0 : Nat) (own : String) (ret : Option FieldType) (cl9 : List Nat) (cs : Nat → Nat × me_P) (KR : me_K) (KX : Nat → Nat → me_L → Nat → me_V → me_U → Prop) (km : Nat) (sx : me_Sc) (us : Nat) : Prop :=
  (∀ (J : Nat → Nat → me_L → List me_S → me_V → me_U → Prop) (nx : Nat → me_L → List me_S → me_V → me_U → Prop) (pc k : Nat) (L : me_L) (st : List me_S) (v : me_V) (w : me_U) (o a b : Nat) (ts : List Nat) (len ix pp : Nat), 31 ≤ o → o ≤ 34 → me_ck nm own cc nL ret cl9 pc a b ts len ix pp o = true → me_op cs J KR KX km sx pc a b ts k L v w nx st o → me_at p l e R s m args below meth c Q C nL c0 s0 pc k L st v w) ∧
  (∀ (J : Nat → Nat → me_L → List me_S → me_V → me_U → Prop) (nx : Nat → me_L → List me_S → me_V → me_U → Prop) (pc k : Nat) (L : me_L) (st : List me_S) (v : me_V) (w : me_U) (a b : Nat) (ts : List Nat) (pp : Nat), us = 2 → me_ckT own cc pc a ts pp = true → me_op cs J KR KX km sx pc a b ts k L v w nx st 35 → me_at p l e R s m args below meth c Q C nL c0 s0 pc k L st v w)
theorem me_vb_ok {J : Nat → Nat → me_L → List me_S → me_V → me_U → Prop} {KX : Nat → Nat → me_L → Nat → me_V → me_U → Prop} (F : me_Fx p s m args c C cc nL own) (En : me_En nm l R s C cl9 cs km c0 s0 us sx) (Ed : me_Ed nm p l e R s m args below meth c Q C cc nL c0 s0 own ret cl9 cs KR KX km sx us)
    (hj : ∀ pc k L st v w, J pc k L st v w → me_at p l e R s m args below meth c Q C nL c0 s0 pc k L st v w) (hkx : me_Kx p l e R s m args below meth c Q C nL c0 s0 KX) : ∀ (is : List me_I) (pc k : Nat) (L : me_L) (st : List me_S) (v : me_V) (w : me_U), me_bck nm own cc nL ret cl9 us is pc = true → me_vb cs J KR KX km sx is pc k L st v w → me_at p l e R s m args below meth c Q C nL c0 s0 pc k L st v w
  | [], pc, k, L, st, v, w, _, h => hj pc k L st v w h
  | q :: is, pc, k, L, st, v, w, hck, h => by
    simp only [me_bck, Bool.and_eq_true] at hck
    exact me_step F En q hck.1 (fun k L st v w h9 => me_vb_ok F En Ed hj hkx is _ k L st v w hck.2 h9) hj hkx (fun o a b ts len ix pp => Ed.1 J _ pc k L st v w o a b ts len ix pp) (fun a b ts pp => Ed.2 J _ pc k L st v w a b ts pp) h
theorem me_go_ok {kx : (Nat → Nat → me_L → List me_S → me_V → me_U → Prop) → Nat → Nat → me_L → Nat → me_V → me_U → Prop} {bl : List (Nat × List me_I)} {hd : List Nat} {Inv : Nat → Nat → me_L → List me_S → me_V → me_U → Prop} (F : me_Fx p s m args c C cc nL own) (En : me_En nm l R s C cl9 cs km c0 s0 us sx) (hbl : bl.all (fun q => me_bck nm own cc nL ret cl9 us q.2 q.1) = true)
    (hkx : ∀ J : Nat → Nat → me_L → List me_S → me_V → me_U → Prop, (∀ pc k L st v w, J pc k L st v w → me_at p l e R s m args below meth c Q C nL c0 s0 pc k L st v w) → me_Kx p l e R s m args below meth c Q C nL c0 s0 (kx J) ∧ me_Ed nm p l e R s m args below meth c Q C cc nL c0 s0 own ret cl9 cs KR (kx J) km sx us)
    (hI : ∀ pc k L st v w, pc ∈ hd → Inv pc k L st v w → me_at p l e R s m args below meth c Q C nL c0 s0 pc k L st v w) : ∀ (n pc k : Nat) (L : me_L) (st : List me_S) (v : me_V) (w : me_U), me_go cs KR kx km sx bl hd Inv n pc k L st v w → me_at p l e R s m args below meth c Q C nL c0 s0 pc k L st v w
  | 0, pc, k, L, st, v, w, h => h.elim
  | n + 1, pc, k, L, st, v, w, h => by
    unfold me_go at h
    split at h
    · rename_i hin
      exact hI pc k L st v w hin h
    · have ih := me_go_ok F En hbl hkx hI n
      obtain ⟨g1, g2⟩ := hkx _ ih
      exact me_vb_ok F En g2 ih g1 _ pc k L st v w (me_bk_ck bl hbl pc) h
/-- loops: an invariant with a measure at each head -/
theorem me_loop {kx : (Nat → Nat → me_L → List me_S → me_V → me_U → Prop) → Nat → Nat → me_L → Nat → me_V → me_U → Prop} {bl : List (Nat × List me_I)} {hd : List Nat} (F : me_Fx p s m args c C cc nL own) (En : me_En nm l R s C cl9 cs km c0 s0 us sx) (hbl : bl.all (fun q => me_bck nm own cc nL ret cl9 us q.2 q.1) = true)
    (hkx : ∀ J : Nat → Nat → me_L → List me_S → me_V → me_U → Prop, (∀ pc k L st v w, J pc k L st v w → me_at p l e R s m args below meth c Q C nL c0 s0 pc k L st v w) → me_Kx p l e R s m args below meth c Q C nL c0 s0 (kx J) ∧ me_Ed nm p l e R s m args below meth c Q C cc nL c0 s0 own ret cl9 cs KR (kx J) km sx us)
    (N : Nat) (I : Nat → Nat → Nat → me_L → List me_S → me_V → me_U → Prop) (hI : ∀ μ pc k L st v w, pc ∈ hd → I μ pc k L st v w → me_vb cs (me_go cs KR kx km sx bl hd (fun pc k L st v w => ∃ μ2, μ2 < μ ∧ I μ2 pc k L st v w) N) KR (kx (me_go cs KR kx km sx bl hd (fun pc k L st v w => ∃ μ2, μ2 < μ ∧ I μ2 pc k L st v w) N)) km sx (me_bk bl pc) pc k L st v w)
    {pc k : Nat} {L : me_L} {st : List me_S} {v : me_V} {w : me_U} (h : me_go cs KR kx km sx bl hd (fun pc k L st v w => ∃ μ, I μ pc k L st v w) N pc k L st v w) : me_at p l e R s m args below meth c Q C nL c0 s0 pc k L st v w := by
  have key : ∀ (μ : Nat) (pc k : Nat) (L : me_L) (st : List me_S) (v : me_V) (w : me_U), pc ∈ hd → I μ pc k L st v w → me_at p l e R s m args below meth c Q C nL c0 s0 pc k L st v w := by
    intro μ
    induction μ using Nat.strongRecOn with
    | ind μ ih =>
      intro pc k L st v w hin hI0
      have hgo := me_go_ok (KR := KR) (Inv := fun pc k L st v w => ∃ μ2, μ2 < μ ∧ I μ2 pc k L st v w) F En hbl hkx (fun pc k L st v w hin9 ⟨μ2, hlt, h2⟩ => ih μ2 hlt pc k L st v w hin9 h2) N
      obtain ⟨g1, g2⟩ := hkx _ hgo
      exact me_vb_ok F En g2 hgo g1 _ pc k L st v w (me_bk_ck bl hbl pc) (hI μ pc k L st v w hin hI0)
  exact me_go_ok F En hbl hkx (fun pc k L st v w hin ⟨μ, hμ⟩ => key μ pc k L st v w hin hμ) N pc k L st v w h
theorem me_lv_args (ad : Nat → Nat) : ∀ (as : List me_S) (i : Nat), lv_args i (as.map (me_vl ad)) = me_lm ad (me_ag i as)
  | [], i => rfl
  | x :: as, i => by
    simp only [List.map_cons, lv_args, me_ag, me_lm]
    rw [me_lv_args ad as]
    congr 2
    rw [me_wd_ok]
theorem me_sl_len (ad : Nat → Nat) : ∀ (as : List me_S), (lg_sl (as.map (me_vl ad))).length = me_ws9 as
  | [] => rfl
  | x :: as => by
    have ih := me_sl_len ad as
    unfold lg_sl at ih ⊢
    unfold me_ws9 at ih ⊢
    simp only [List.map_cons, List.flatMap_cons, List.length_append, List.sum_cons, me_wd_ok, ih]
    congr 1
    rcases x with x | x | x | x <;> rfl
/-- a method without handlers meets its contract where its code, walked in numbers alone, does -/
theorem me_meth {y : MethodName} {bl : List (Nat × List me_I)} {hd : List Nat} {fr lo mc : Nat} {sp : me_P} (hfl : l.stackTraces = false) (hy : plainName y.cls = true) (ho : y.cls = own) (hus : us ≠ 1) (hro : 1 ≤ fr ∧ 60 ≤ lo) (hT : us = 2 → 5 < fr ∧ 82 ≤ lo)
    (hbl : bl.all (fun q => me_bck nm own cc nL ret cl9 us q.2 q.1) = true) (hcs : ∀ a, a ∈ cl9 → me_cal nm l ({ frames := fr, cells := mc, slots := 6 * mc, locals := lo } : Room) a (cs a)) (h500 : ∀ a, a ∈ cl9 → a < 500) (sx : me_Sc)
    (hvc : ∀ (as : List me_S) (v : me_V) (w : me_U) (K : me_K) (X : me_X), sp as v w K X → me_ws9 as ≤ nL ∧ ∃ (N : Nat) (I : Nat → Nat → Nat → me_L → List me_S → me_V → me_U → Prop),
      me_go cs K (fun _ _ k _ E v w => k ≤ mc ∧ X E v w) mc sx bl hd (fun pc k L st v w => ∃ μ, I μ pc k L st v w) N 0 0 (me_ag 0 as) [] v w ∧
      ∀ μ pc k L st v w, pc ∈ hd → I μ pc k L st v w → me_vb cs (me_go cs K (fun _ _ k _ E v w => k ≤ mc ∧ X E v w) mc sx bl hd (fun pc k L st v w => ∃ μ2, μ2 < μ ∧ I μ2 pc k L st v w) N) K (fun _ k _ E v w => k ≤ mc ∧ X E v w) mc sx (me_bk bl pc) pc k L st v w) :
    me_M l y (.code y cc nL ret) fr lo mc sp := by
  intro C as v w K X hsp
  obtain ⟨hlen, N, I, hgo, hlo⟩ := hvc as v w K X hsp
  refine vx_ofW (cc := cc) (maxL := nL) (ret := ret) hy rfl ?_
  intro p e s m args below meth c s₁ B hml hnt hPc
  obtain ⟨rfl, hW, hP, hD, hB⟩ := hPc
  have hts := atoms_spec (ws := Cond.code y cc nL ret :: me_TG) B.pre
  have F : me_Fx p s m (as.map (me_vl (me_ad C))).toArray c C cc nL own := ⟨B.exec, B.bytes, hml, by rw [← ho]; exact findClass_of_methodNamed B.named, fun w hw => hts w (List.mem_cons_of_mem _ hw), hW, hB⟩
  have En : me_En nm l ({ frames := fr, cells := mc, slots := 6 * mc, locals := lo } : Room) s C cl9 cs mc 0 0 us sx := ⟨hro, ⟨by show 0 + mc ≤ mc; omega, by show 0 + 6 * mc ≤ 6 * mc; omega⟩, fun a ha _ => hcs a ha, fun a ha h5 => absurd (h500 a ha) (by omega), fun z => absurd z hus⟩
  have hl := lv_entry (as.map (me_vl (me_ad C))) (n := nL) (by rw [me_sl_len]; exact hlen)
  rw [lg_entry_eq]
  rw [me_lv_args] at hl
  have hmain := me_loop (p := p) (e := e) (below := below) (meth := meth) (Q := vx_MQ below (me_Qc C K) (me_XC C X) (as.map (me_vl (me_ad C))).toArray s mc (6 * mc) (me_A C)) (KR := K) (hd := hd) F En hbl (kx := fun _ _ k _ E v w => k ≤ mc ∧ X E v w) (fun J hJ => ⟨?_, ?_, ?_⟩) N I hlo hgo
  · exact hmain s.heap [] _ hP hD va_S.rf hl
  · intro pc k L E v w hx hE H locs ls rest q9 ce hP hD hS hl hce hcv hcl
    exact vx_out (fun x hx9 => (hnt x hx9).elim) B.notSynchronized hce hcv hcl (fun t ht hal => ⟨⟨E, v, w, rfl, hE, hx.2, ⟨by rw [ht]; exact hP, hD⟩⟩, hS.F ht⟩) hS.2.2 (by omega) (by omega)
  · intro J nx pc k L st v w o a b ts len ix pp h1 h2 hck h
    rcases (show o = 31 ∨ o = 32 ∨ o = 33 ∨ o = 34 by omega) with rfl | rfl | rfl | rfl
    · exact me_s31 F B.returns B.notSynchronized hck h
    · exact me_s32 F B.returns B.notSynchronized hck h
    · exact me_s33 F B.returns B.notSynchronized hck h
    · exact me_s34 F B.returns B.notSynchronized hck h
  · intro J nx pc k L st v w a b ts pp hu hck h
    exact me_s35 F B.notSynchronized hfl ⟨(hT hu).1, (hT hu).2, Nat.le_refl _, Nat.le_refl _⟩ hnt hck (fun _ _ _ _ _ z => z.2) h
end MET
