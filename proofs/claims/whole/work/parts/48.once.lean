/-! ===== what is asked once is answered once ===== -/
def rdt (R : ra_T) : Prop := ∀ k y G2 k' y' G2', R k y G2 → R k' y' G2' → k = k' ∧ (k = 0 → y = y') ∧ G2 = G2'
def ydt (Y : me_S → gs_T → Prop) : Prop := ∀ y G2 y' G2', Y y G2 → Y y' G2' → y = y' ∧ G2 = G2'
def udt {α : Type} (P : α → Prop) : Prop := ∀ a b, P a → P b → a = b
theorem rd_2 {A : Prop} {Y : me_S → gs_T → Prop} {G : gs_T} (hY : ydt Y) : rdt (ra_2 A Y G) := by
  intro k y G2 k' y' G2' h h'
  rcases h with ⟨a1, rfl, rfl⟩ | ⟨a1, rfl, h⟩ <;> rcases h' with ⟨b1, rfl, rfl⟩ | ⟨b1, rfl, h'⟩
  · exact ⟨rfl, fun z => absurd z (by omega), rfl⟩
  · exact absurd b1 a1
  · exact absurd a1 b1
  · obtain ⟨e1, e2⟩ := hY _ _ _ _ h h'
    exact ⟨rfl, fun _ => e1, e2⟩
theorem rd_3 {A B : Prop} {Y : me_S → gs_T → Prop} {G : gs_T} (hY : ydt Y) : rdt (ra_3 A B Y G) := by
  intro k y G2 k' y' G2' h h'
  rcases h with ⟨a1, rfl, rfl⟩ | ⟨a1, a2, rfl, rfl⟩ | ⟨a1, a2, rfl, h⟩ <;> rcases h' with ⟨b1, rfl, rfl⟩ | ⟨b1, b2, rfl, rfl⟩ | ⟨b1, b2, rfl, h'⟩
  · exact ⟨rfl, fun z => absurd z (by omega), rfl⟩
  · exact absurd b1 a1
  · exact absurd b1 a1
  · exact absurd a1 b1
  · exact ⟨rfl, fun z => absurd z (by omega), rfl⟩
  · exact absurd b2 a2
  · exact absurd a1 b1
  · exact absurd a2 b2
  · obtain ⟨e1, e2⟩ := hY _ _ _ _ h h'
    exact ⟨rfl, fun _ => e1, e2⟩
theorem rd_4 {A B C : Prop} {Y : me_S → gs_T → Prop} {G : gs_T} (hY : ydt Y) : rdt (ra_4 A B C Y G) := by
  intro k y G2 k' y' G2' h h'
  rcases h with ⟨a1, rfl, rfl⟩ | ⟨a1, a2, rfl, rfl⟩ | ⟨a1, a2, a3, rfl, rfl⟩ | ⟨a1, a2, a3, rfl, h⟩ <;> rcases h' with ⟨b1, rfl, rfl⟩ | ⟨b1, b2, rfl, rfl⟩ | ⟨b1, b2, b3, rfl, rfl⟩ | ⟨b1, b2, b3, rfl, h'⟩ <;> first
    | exact absurd a1 b1
    | exact absurd b1 a1
    | exact absurd a2 b2
    | exact absurd b2 a2
    | exact absurd a3 b3
    | exact absurd b3 a3
    | exact ⟨rfl, fun z => absurd z (by omega), rfl⟩
    | (obtain ⟨e1, e2⟩ := hY _ _ _ _ h h'
       exact ⟨rfl, fun _ => e1, e2⟩)
theorem yd_e {E : me_S} {F : gs_T} : ydt (fun y G2 => y = E ∧ G2 = F) := by
  rintro y G2 y' G2' ⟨rfl, rfl⟩ ⟨rfl, rfl⟩
  exact ⟨rfl, rfl⟩
theorem yd_I {P : Int32 → Prop} {F : gs_T} (hP : udt P) : ydt (fun y G2 => (∃ y0 : Int32, y = vI y0 ∧ P y0) ∧ G2 = F) := by
  rintro y G2 y' G2' ⟨⟨a, rfl, h⟩, rfl⟩ ⟨⟨b, rfl, h'⟩, rfl⟩
  exact ⟨by rw [hP a b h h'], rfl⟩
theorem yd_L {P : Int64 → Prop} {F : gs_T} (hP : udt P) : ydt (fun y G2 => (∃ y0 : Int64, y = vL y0 ∧ P y0) ∧ G2 = F) := by
  rintro y G2 y' G2' ⟨⟨a, rfl, h⟩, rfl⟩ ⟨⟨b, rfl, h'⟩, rfl⟩
  exact ⟨by rw [hP a b h h'], rfl⟩
theorem ix_u {p : Nat → Prop} {n : Nat} : udt (ix_of p n) := by
  rintro a b (⟨i, hi, pi, mi, rfl⟩ | ⟨h0, rfl⟩) (⟨j, hj, pj, mj, rfl⟩ | ⟨h1, rfl⟩)
  · rcases Nat.lt_trichotomy i j with h | h | h
    · exact absurd pi (mj i h)
    · rw [h]
    · exact absurd pj (mi j h)
  · exact absurd pi (h1 i hi)
  · exact absurd pj (h0 j hj)
  · rfl
theorem cb_u {C : List (Nat × Nat)} {X n m : Nat} (h : cb_of C X n) (h' : cb_of C X m) : n = m := by
  obtain ⟨a1, a2, a3⟩ := h
  obtain ⟨b1, b2, b3⟩ := h'
  rcases Nat.lt_trichotomy n m with h | h | h
  · have := b2 n h
    have := a3 (by omega)
    omega
  · exact h
  · have := a2 m h
    have := b3 (by omega)
    omega
theorem at_u {C : List (Nat × Nat)} {T X : Nat} : udt (at_of C T X) := by
  rintro a b (⟨h0, rfl⟩ | ⟨h0, n, a1, a2, a3, rfl⟩) (⟨h1, rfl⟩ | ⟨h1, m, b1, b2, b3, rfl⟩)
  · rfl
  · omega
  · omega
  · have e : n = m := by
      rcases Nat.lt_trichotomy n m with h | h | h
      · have := b2 n h
        have := a3 (by omega)
        omega
      · exact h
      · have := a2 m h
        have := b3 (by omega)
        omega
    rw [e]
theorem nc_u {C : List (Nat × Nat)} {m : Nat} : udt (nc_of C m) := by
  rintro a b ⟨n, h1, rfl⟩ ⟨k, h2, rfl⟩
  rw [cb_u h1 h2]
theorem cc_u {C : List (Nat × Nat)} {f t : Nat} : udt (cc_of C f t) := by
  rintro a b ⟨n, m, h1, h2, rfl⟩ ⟨n2, m2, h3, h4, rfl⟩
  rw [cb_u h1 h3, cb_u h2 h4]
theorem pt_u {P Q : List (Nat × Nat)} : udt (pt_of P Q) := by
  rintro a b (⟨i, i1, i2, pi, mi, rfl⟩ | ⟨h0, rfl⟩) (⟨j, j1, j2, pj, mj, rfl⟩ | ⟨h1, rfl⟩)
  · rcases Nat.lt_trichotomy i j with h | h | h
    · exact absurd (mj i h) pi
    · rw [h]
    · exact absurd (mi j h) pj
  · exact absurd (h1 i i1 i2) pi
  · exact absurd (h0 j j1 j2) pj
  · rfl
theorem mt_u {S : sc_T} {P Q : List (Nat × Nat)} : udt (mt_of S P Q) := by
  rintro a b (⟨i, k, i1, i2, pi, mi, rfl⟩ | ⟨h0, rfl⟩) (⟨j, m, j1, j2, pj, mj, rfl⟩ | ⟨h1, rfl⟩)
  · rcases Nat.lt_trichotomy i j with h | h | h
    · exact absurd pi (mj i k h i2)
    · rw [h]
    · exact absurd pj (mi j m h j2)
  · exact absurd pi (h1 i k i1 i2)
  · exact absurd pj (h0 j m j1 j2)
  · rfl
theorem pe_u {T : Nat → Nat} {m : Nat} : udt (pe_of T m) := by
  rintro a b (⟨i, i1, i2, pi, mi, rfl⟩ | ⟨h0, rfl⟩) (⟨j, j1, j2, pj, mj, rfl⟩ | ⟨h1, rfl⟩)
  · rcases Nat.lt_trichotomy i j with h | h | h
    · have := mj i i1 h
      omega
    · rw [h]
    · have := mi j j1 h
      omega
  · have := h1 i i1 i2
    omega
  · have := h0 j j1 j2
    omega
  · rfl
theorem yd_out {P : Prop} {F : gs_T} : ydt (fun y G2 => (P ∧ y = vI 1 ∨ ¬ P ∧ y = vI 0) ∧ G2 = F) := by
  rintro y G2 y' G2' ⟨⟨a1, rfl⟩ | ⟨a1, rfl⟩, rfl⟩ ⟨⟨b1, rfl⟩ | ⟨b1, rfl⟩, rfl⟩
  · exact ⟨rfl, rfl⟩
  · exact absurd a1 b1
  · exact absurd b1 a1
  · exact ⟨rfl, rfl⟩
theorem dt_undo (G : gs_T) : rdt (re_undo G) := by
  refine rd_2 ?_
  rintro y G2 y' G2' ⟨H, S, e1, rfl, rfl⟩ ⟨H', S', e2, rfl, rfl⟩
  have h := e1.symm.trans e2
  have h1 := List.append_inj_left' h rfl
  have h2 := List.append_inj_right' h rfl
  cases h2
  subst h1
  exact ⟨rfl, rfl⟩
theorem dt_load (G : gs_T) : rdt (re_load G) := by
  refine rd_2 ?_
  rintro y G2 y' G2' ⟨S, e1, rfl, rfl⟩ ⟨S', e2, rfl, rfl⟩
  have h := e1.symm.trans e2
  cases h
  exact ⟨rfl, rfl⟩
theorem dt_restore (G : gs_T) (s : Int32) : rdt (re_restore G s) := by
  refine rd_3 ?_
  rintro y G2 y' G2' ⟨S, e1, rfl, rfl⟩ ⟨S', e2, rfl, rfl⟩
  have h := e1.symm.trans e2
  cases h
  exact ⟨rfl, rfl⟩
theorem dt_clear (G : gs_T) : rdt (re_clear G) := by
  rintro k y G2 k' y' G2' ⟨rfl, rfl, rfl⟩ ⟨rfl, rfl, rfl⟩
  exact ⟨rfl, fun _ => rfl, rfl⟩
theorem dt_error (G : gs_T) : rdt (re_error G) := by
  rintro k y G2 k' y' G2' ⟨rfl, rfl, rfl⟩ ⟨rfl, rfl, rfl⟩
  exact ⟨rfl, fun _ => rfl, rfl⟩
theorem dt_append (G : gs_T) (x : Int32) : rdt (re_append G x) := rd_3 (yd_e)
theorem dt_about (G : gs_T) (x : Int32) : rdt (re_about G x) := rd_2 (yd_e)
theorem dt_bar (G : gs_T) (b x : Int32) : rdt (re_bar G b x) := rd_3 (yd_e)
theorem dt_stretch (G : gs_T) (b x : Int32) : rdt (re_stretch G b x) := rd_3 (yd_e)
theorem dt_section (G : gs_T) (s x : Int32) : rdt (re_section G s x) := rd_3 (yd_e)
theorem dt_places (G : gs_T) (x : Int32) : rdt (re_places G x) := rd_2 (yd_e)
theorem dt_place (G : gs_T) (x i k : Int32) : rdt (re_place G x i k) := rd_3 (yd_e)
theorem dt_begins (G : gs_T) (x i : Int32) : rdt (re_begins G x i) := rd_3 (yd_e)
theorem dt_find (G : gs_T) (x b q : Int32) : rdt (re_find G x b q) := rd_3 (yd_I ix_u)
theorem dt_at (G : gs_T) (x : Int32) (m : Int64) : rdt (re_at G x m) := rd_3 (yd_I at_u)
theorem dt_next (G : gs_T) (x : Int32) (m : Int64) : rdt (re_next G x m) := rd_3 (yd_L nc_u)
theorem dt_clicks (G : gs_T) (x : Int32) (f t : Int64) : rdt (re_clicks G x f t) := rd_3 (yd_I cc_u)
theorem dt_missed (G : gs_T) (x : Int32) : rdt (re_missed G x) := rd_2 (yd_e)
theorem dt_together (G : gs_T) (x z : Int32) : rdt (re_together G x z) := rd_2 (yd_e)
theorem dt_part (G : gs_T) (x z : Int32) : rdt (re_part G x z) := rd_2 (yd_I pt_u)
theorem dt_meet (G : gs_T) (x z : Int32) : rdt (re_meet G x z) := rd_2 (yd_L mt_u)
theorem dt_addBar (G : gs_T) (x : Int32) : rdt (re_addBar G x) := rd_3 (yd_e)
theorem dt_setTempo (G : gs_T) (b x : Int32) : rdt (re_setTempo G b x) := rd_3 (yd_e)
theorem dt_setStretch (G : gs_T) (b k x : Int32) : rdt (re_setStretch G b k x) := rd_3 (yd_e)
theorem dt_leaveOut (G : gs_T) (b q z : Int32) : rdt (re_leaveOut G b q z) := rd_3 (yd_out)
theorem dt_addSection (G : gs_T) (f l t : Int32) : rdt (re_addSection G f l t) := rd_4 (yd_e)
theorem dt_removeSection (G : gs_T) (s : Int32) : rdt (re_removeSection G s) := rd_2 (yd_e)
theorem dt_skip (G : gs_T) (x b z : Int32) : rdt (re_skip G x b z) := rd_2 (yd_e)
theorem dt_percentage (G : gs_T) (x : Int32) (m : Int64) : rdt (re_percentage G x m) := rd_3 (yd_I pe_u)
theorem dt_longest (G : gs_T) (x : Int32) : rdt (re_longest G x) := rd_2 (yd_e)
theorem dt_runScript (G : gs_T) (n : Int32) (x : Int64) : rdt (re_runScript G n x) := rd_2 (yd_e)
theorem dt_simulate (G : gs_T) (x : Int64) (m : Int32) : rdt (re_simulate G x m) := rd_2 (yd_e)
theorem dt_save (G : gs_T) (s : Int32) : rdt (re_save G s) := rd_2 (yd_e)
/-! ===== an answer's kind, by the method's descriptor ===== -/
def me_kk (d : Nat) (K : me_K) : me_K := fun r v w => (∀ y, r = some y → me_kd y = d) → K r v w
section KK
variable {nm : Nat → MethodName} {p : Program} {l : Launch} {e : Env} {R : Room} {s : State} {m : MethodId} {args : Array Value} {below : List Frame} {meth : Method} {c : Code} {Q : State → Prop} {C : me_C} {cc : ByteArray} {nL c0 s0 : Nat} {own : String} {ret : Option FieldType} {cl9 : List Nat} {us : Nat}
variable {cs : Nat → Nat × me_P} {KR : me_K} {km : Nat} {sx : me_Sc}
theorem me_kkc {d : Nat} {K : me_K} {J : Nat → Nat → me_L → List me_S → me_V → me_U → Prop} {KX : Nat → Nat → me_L → Nat → me_V → me_U → Prop} {nx : Nat → me_L → List me_S → me_V → me_U → Prop} {pc k : Nat} {L : me_L} {st : List me_S} {v : me_V} {w : me_U} {o a b : Nat} {ts : List Nat} {len ix pp : Nat} (hd : (d = 0 ∧ (ret = some .int ∨ ret = some .boolean)) ∨ (d = 1 ∧ ret = some .long)) (h1 : 31 ≤ o) (h2 : o ≤ 34) (hck : me_ck nm own cc nL ret cl9 pc a b ts len ix pp o = true)
    (h : me_op cs J (me_kk d K) KX km sx pc a b ts k L v w nx st o) : me_op cs J K KX km sx pc a b ts k L v w nx st o := by
  rcases (show o = 31 ∨ o = 32 ∨ o = 33 ∨ o = 34 by omega) with rfl | rfl | rfl | rfl
  · simp only [me_op] at h ⊢
    exact ⟨h.1, h.2.1, h.2.2 (fun y z => by cases z)⟩
  · simp only [me_op] at h
    simp only [me_ck] at hck
    split at hck
    · simp only [decide_eq_true_eq] at hck
      subst hck
      obtain ⟨x, st1, rfl, rfl, hkm, hK⟩ := me_tI_inv h
      rcases hd with ⟨rfl, -⟩ | ⟨-, hd⟩
      · exact ⟨rfl, hkm, hK (fun y z => by cases z; rfl)⟩
      · cases hd
    · cases hck
  · simp only [me_op] at h
    simp only [me_ck] at hck
    split at hck
    · simp only [decide_eq_true_eq] at hck
      subst hck
      obtain ⟨x, st1, rfl, rfl, hkm, hK⟩ := me_tL_inv h
      rcases hd with ⟨-, hd | hd⟩ | ⟨rfl, -⟩
      · cases hd
      · cases hd
      · exact ⟨rfl, hkm, hK (fun y z => by cases z; rfl)⟩
    · cases hck
  · simp only [me_op] at h
    simp only [me_ck] at hck
    split at hck
    · simp only [decide_eq_true_eq] at hck
      subst hck
      obtain ⟨x, st1, rfl, rfl, hkm, h01, hK⟩ := me_tI_inv h
      rcases hd with ⟨rfl, -⟩ | ⟨-, hd⟩
      · exact ⟨rfl, hkm, h01, hK (fun y z => by cases z; rfl)⟩
      · cases hd
    · cases hck
theorem me_methk {d : Nat} {y : MethodName} {bl : List (Nat × List me_I)} {hd : List Nat} {fr lo mc : Nat} {sp : me_P} (hret : (d = 0 ∧ (ret = some .int ∨ ret = some .boolean)) ∨ (d = 1 ∧ ret = some .long)) (hfl : l.stackTraces = false) (hy : plainName y.cls = true) (ho : y.cls = own) (hus : us ≠ 1) (hro : 1 ≤ fr ∧ 60 ≤ lo) (hT : us = 2 → 5 < fr ∧ 82 ≤ lo)
    (hbl : bl.all (fun q => me_bck nm own cc nL ret cl9 us q.2 q.1) = true) (hcs : ∀ a, a ∈ cl9 → me_cal nm l ({ frames := fr, cells := mc, slots := 6 * mc, locals := lo } : Room) a (cs a)) (h500 : ∀ a, a ∈ cl9 → a < 500) (sx : me_Sc)
    (hvc : ∀ (as : List me_S) (v : me_V) (w : me_U) (K : me_K) (X : me_X), sp as v w K X → me_ws9 as ≤ nL ∧ ∃ (N : Nat) (I : Nat → Nat → Nat → me_L → List me_S → me_V → me_U → Prop),
      me_go cs K (fun _ _ k _ E v w => k ≤ mc ∧ X E v w) mc sx bl hd (fun pc k L st v w => ∃ μ, I μ pc k L st v w) N 0 0 (me_ag 0 as) [] v w ∧
      ∀ μ pc k L st v w, pc ∈ hd → I μ pc k L st v w → me_vb cs (me_go cs K (fun _ _ k _ E v w => k ≤ mc ∧ X E v w) mc sx bl hd (fun pc k L st v w => ∃ μ2, μ2 < μ ∧ I μ2 pc k L st v w) N) K (fun _ k _ E v w => k ≤ mc ∧ X E v w) mc sx (me_bk bl pc) pc k L st v w) :
    me_M l y (.code y cc nL ret) fr lo mc (fun as v w K X => sp as v w (me_kk d K) X) := by
  intro C as v w K X hsp
  obtain ⟨hlen, N, I, hgo, hlo⟩ := hvc as v w (me_kk d K) X hsp
  refine vx_ofW (cc := cc) (maxL := nL) (ret := ret) hy rfl ?_
  intro p e s m args below meth c s₁ B hml hnt hPc
  obtain ⟨rfl, hW, hP, hD, hB⟩ := hPc
  have hts := atoms_spec (ws := Cond.code y cc nL ret :: me_TG) B.pre
  have F : me_Fx p s m (as.map (me_vl (me_ad C))).toArray c C cc nL own := ⟨B.exec, B.bytes, hml, by rw [← ho]; exact findClass_of_methodNamed B.named, fun w hw => hts w (List.mem_cons_of_mem _ hw), hW, hB⟩
  have En : me_En nm l ({ frames := fr, cells := mc, slots := 6 * mc, locals := lo } : Room) s C cl9 cs mc 0 0 us sx := ⟨hro, ⟨by show 0 + mc ≤ mc; omega, by show 0 + 6 * mc ≤ 6 * mc; omega⟩, fun a ha _ => hcs a ha, fun a ha h5 => absurd (h500 a ha) (by omega), fun z => absurd z hus⟩
  have hl := lv_entry (as.map (me_vl (me_ad C))) (n := nL) (by rw [me_sl_len]; exact hlen)
  rw [lg_entry_eq]
  rw [me_lv_args] at hl
  have hmain := me_loop (p := p) (e := e) (below := below) (meth := meth) (Q := vx_MQ below (me_Qc C K) (me_XC C X) (as.map (me_vl (me_ad C))).toArray s mc (6 * mc) (me_A C)) (KR := me_kk d K) (hd := hd) F En hbl (kx := fun _ _ k _ E v w => k ≤ mc ∧ X E v w) (fun J hJ => ⟨?_, ?_, ?_⟩) N I hlo hgo
  · exact hmain s.heap [] _ hP hD va_S.rf hl
  · intro pc k L E v w hx hE H locs ls rest q9 ce hP hD hS hl hce hcv hcl
    exact vx_out (fun x hx9 => (hnt x hx9).elim) B.notSynchronized hce hcv hcl (fun t ht hal => ⟨⟨E, v, w, rfl, hE, hx.2, ⟨by rw [ht]; exact hP, hD⟩⟩, hS.F ht⟩) hS.2.2 (by omega) (by omega)
  · intro J nx pc k L st v w o a b ts len ix pp h1 h2 hck h
    have h := me_kkc hret h1 h2 hck h
    rcases (show o = 31 ∨ o = 32 ∨ o = 33 ∨ o = 34 by omega) with rfl | rfl | rfl | rfl
    · exact me_s31 F B.returns B.notSynchronized hck h
    · exact me_s32 F B.returns B.notSynchronized hck h
    · exact me_s33 F B.returns B.notSynchronized hck h
    · exact me_s34 F B.returns B.notSynchronized hck h
  · intro J nx pc k L st v w a b ts pp hu hck h
    exact me_s35 (KX := fun _ k _ E v w => k ≤ mc ∧ X E v w) F B.notSynchronized hfl ⟨(hT hu).1, (hT hu).2, Nat.le_refl _, Nat.le_refl _⟩ hnt hck (fun _ _ _ _ _ z => z.2) (show me_op cs J K (fun _ k _ E v w => k ≤ mc ∧ X E v w) mc sx pc a b ts k L v w nx st 35 from h)
end KK
def sk_X7_append : me_P := fun as v w K X => sp_m_append as v w (me_kk 0 K) X
theorem ctk_X7_append {l : Launch} (hfl : l.stackTraces = false) : me_M l yX7_append (.code yX7_append cX7_append 2 (some .int)) 2 85 0 sk_X7_append := me_methk (d := 0) (Or.inl ⟨rfl, Or.inl rfl⟩) (us := 0) (bl := cd_X7_append) (cs := cs_X7_append) (hd := []) hfl (by decide +kernel) rfl (by decide) ⟨by decide, by decide⟩ (by decide) ck_X7_append (by
    intro a ha
    simp only [List.mem_cons, List.not_mem_nil, or_false] at ha
    rcases ha with rfl | rfl
    · exact cl_X7_refused (ct_X7_refused hfl) (by decide) (by decide)
    · exact cl_X7_in (ct_X7_in hfl) (by decide) (by decide)) (by decide) mv_sx vc_X7_append
def sk_X7_load : me_P := fun as v w K X => sp_m_load as v w (me_kk 0 K) X
theorem ctk_X7_load {l : Launch} (hfl : l.stackTraces = false) : me_M l yX7_load (.code yX7_load cX7_load 1 (some .int)) 6 176 0 sk_X7_load := me_methk (d := 0) (Or.inl ⟨rfl, Or.inl rfl⟩) (us := 0) (bl := cd_X7_load) (cs := cs_X7_load) (hd := []) hfl (by decide +kernel) rfl (by decide) ⟨by decide, by decide⟩ (by decide) ck_X7_load (by
    intro a ha
    simp only [List.mem_cons, List.not_mem_nil, or_false] at ha
    rcases ha with rfl | rfl | rfl
    · exact cl_X7_refused (ct_X7_refused hfl) (by decide) (by decide)
    · exact cl_X7_copy (ct_X7_copy hfl) (by decide) (by decide)
    · exact cl_X7_readText (ct_X7_readText hfl) (by decide) (by decide)) (by decide) mv_sx vc_X7_load
def sk_X7_about : me_P := fun as v w K X => sp_m_about as v w (me_kk 0 K) X
theorem ctk_X7_about {l : Launch} (hfl : l.stackTraces = false) : me_M l yX7_about (.code yX7_about cX7_about 7 (some .int)) 2 85 0 sk_X7_about := me_methk (d := 0) (Or.inl ⟨rfl, Or.inl rfl⟩) (us := 0) (bl := cd_X7_about) (cs := cs_X7_about) (hd := [36, 96]) hfl (by decide +kernel) rfl (by decide) ⟨by decide, by decide⟩ (by decide) ck_X7_about (by
    intro a ha
    simp only [List.mem_cons, List.not_mem_nil, or_false] at ha
    rcases ha with rfl | rfl | rfl
    · exact cl_X7_refused (ct_X7_refused hfl) (by decide) (by decide)
    · exact cl_X7_in (ct_X7_in hfl) (by decide) (by decide)
    · exact cl_X7_cell (ct_X7_cell hfl) (by decide) (by decide)) (by decide) mv_sx vc_X7_about
def sk_X7_bar : me_P := fun as v w K X => sp_m_bar as v w (me_kk 0 K) X
theorem ctk_X7_bar {l : Launch} (hfl : l.stackTraces = false) : me_M l yX7_bar (.code yX7_bar cX7_bar 3 (some .int)) 4 125 0 sk_X7_bar := me_methk (d := 0) (Or.inl ⟨rfl, Or.inl rfl⟩) (us := 0) (bl := cd_X7_bar) (cs := cs_X7_bar) (hd := []) hfl (by decide +kernel) rfl (by decide) ⟨by decide, by decide⟩ (by decide) ck_X7_bar (by
    intro a ha
    simp only [List.mem_cons, List.not_mem_nil, or_false] at ha
    rcases ha with rfl | rfl | rfl | rfl | rfl | rfl | rfl | rfl
    · exact cl_X7_refused (ct_X7_refused hfl) (by decide) (by decide)
    · exact cl_X7_in (ct_X7_in hfl) (by decide) (by decide)
    · exact cl_X7_cell (ct_X7_cell hfl) (by decide) (by decide)
    · exact cl_X7_tempo (ct_X7_tempo hfl) (by decide) (by decide)
    · exact cl_X7_beat (ct_X7_beat hfl) (by decide) (by decide)
    · exact cl_X7_stretches (ct_X7_stretches hfl) (by decide) (by decide)
    · exact cl_X7_sectionOf (ct_X7_sectionOf hfl) (by decide) (by decide)
    · exact cl_X7_isBar (ct_X7_isBar hfl) (by decide) (by decide)) (by decide) mv_sx vc_X7_bar
def sk_X7_stretch : me_P := fun as v w K X => sp_m_stretch as v w (me_kk 0 K) X
theorem ctk_X7_stretch {l : Launch} (hfl : l.stackTraces = false) : me_M l yX7_stretch (.code yX7_stretch cX7_stretch 3 (some .int)) 3 107 0 sk_X7_stretch := me_methk (d := 0) (Or.inl ⟨rfl, Or.inl rfl⟩) (us := 0) (bl := cd_X7_stretch) (cs := cs_X7_stretch) (hd := []) hfl (by decide +kernel) rfl (by decide) ⟨by decide, by decide⟩ (by decide) ck_X7_stretch (by
    intro a ha
    simp only [List.mem_cons, List.not_mem_nil, or_false] at ha
    rcases ha with rfl | rfl | rfl | rfl
    · exact cl_X7_refused (ct_X7_refused hfl) (by decide) (by decide)
    · exact cl_X7_cell (ct_X7_cell hfl) (by decide) (by decide)
    · exact cl_X7_isBar (ct_X7_isBar hfl) (by decide) (by decide)
    · exact cl_X7_isBeat (ct_X7_isBeat hfl) (by decide) (by decide)) (by decide) mv_sx vc_X7_stretch
def sk_X7_section : me_P := fun as v w K X => sp_m_section as v w (me_kk 0 K) X
theorem ctk_X7_section {l : Launch} (hfl : l.stackTraces = false) : me_M l yX7_section (.code yX7_section cX7_section 3 (some .int)) 3 106 0 sk_X7_section := me_methk (d := 0) (Or.inl ⟨rfl, Or.inl rfl⟩) (us := 0) (bl := cd_X7_section) (cs := cs_X7_section) (hd := []) hfl (by decide +kernel) rfl (by decide) ⟨by decide, by decide⟩ (by decide) ck_X7_section (by
    intro a ha
    simp only [List.mem_cons, List.not_mem_nil, or_false] at ha
    rcases ha with rfl | rfl | rfl
    · exact cl_X7_refused (ct_X7_refused hfl) (by decide) (by decide)
    · exact cl_X7_in (ct_X7_in hfl) (by decide) (by decide)
    · exact cl_X7_isPart (ct_X7_isPart hfl) (by decide) (by decide)) (by decide) mv_sx vc_X7_section
def sk_X7_places : me_P := fun as v w K X => sp_m_places as v w (me_kk 0 K) X
theorem ctk_X7_places {l : Launch} (hfl : l.stackTraces = false) : me_M l yX7_places (.code yX7_places cX7_places 2 (some .int)) 6 174 0 sk_X7_places := me_methk (d := 0) (Or.inl ⟨rfl, Or.inl rfl⟩) (us := 0) (bl := cd_X7_places) (cs := cs_X7_places) (hd := []) hfl (by decide +kernel) rfl (by decide) ⟨by decide, by decide⟩ (by decide) ck_X7_places (by
    intro a ha
    simp only [List.mem_cons, List.not_mem_nil, or_false] at ha
    rcases ha with rfl | rfl | rfl
    · exact cl_X7_refused (ct_X7_refused hfl) (by decide) (by decide)
    · exact cl_X7_layNow (ct_X7_layNow hfl) (by decide) (by decide)
    · exact cl_X7_isPlayer (ct_X7_isPlayer hfl) (by decide) (by decide)) (by decide) mv_sx vc_X7_places
def sk_X7_place : me_P := fun as v w K X => sp_m_place as v w (me_kk 0 K) X
theorem ctk_X7_place {l : Launch} (hfl : l.stackTraces = false) : me_M l yX7_place (.code yX7_place cX7_place 6 (some .int)) 6 174 0 sk_X7_place := me_methk (d := 0) (Or.inl ⟨rfl, Or.inl rfl⟩) (us := 0) (bl := cd_X7_place) (cs := cs_X7_place) (hd := [63]) hfl (by decide +kernel) rfl (by decide) ⟨by decide, by decide⟩ (by decide) ck_X7_place (by
    intro a ha
    simp only [List.mem_cons, List.not_mem_nil, or_false] at ha
    rcases ha with rfl | rfl | rfl | rfl
    · exact cl_X7_refused (ct_X7_refused hfl) (by decide) (by decide)
    · exact cl_X7_in (ct_X7_in hfl) (by decide) (by decide)
    · exact cl_X7_layNow (ct_X7_layNow hfl) (by decide) (by decide)
    · exact cl_X7_isPlayer (ct_X7_isPlayer hfl) (by decide) (by decide)) (by decide) mv_sx vc_X7_place
def sk_X7_begins : me_P := fun as v w K X => sp_m_begins as v w (me_kk 1 K) X
theorem ctk_X7_begins {l : Launch} (hfl : l.stackTraces = false) : me_M l yX7_begins (.code yX7_begins cX7_begins 3 (some .long)) 7 195 0 sk_X7_begins := me_methk (d := 1) (Or.inr ⟨rfl, rfl⟩) (us := 0) (bl := cd_X7_begins) (cs := cs_X7_begins) (hd := []) hfl (by decide +kernel) rfl (by decide) ⟨by decide, by decide⟩ (by decide) ck_X7_begins (by
    intro a ha
    simp only [List.mem_cons, List.not_mem_nil, or_false] at ha
    rcases ha with rfl | rfl | rfl | rfl
    · exact cl_X7_refused (ct_X7_refused hfl) (by decide) (by decide)
    · exact cl_X7_in (ct_X7_in hfl) (by decide) (by decide)
    · exact cl_X7_isPlayer (ct_X7_isPlayer hfl) (by decide) (by decide)
    · exact cl_X7_placesOf (ct_X7_placesOf hfl) (by decide) (by decide)) (by decide) mv_sx vc_X7_begins
def sk_X7_find : me_P := fun as v w K X => sp_m_find as v w (me_kk 0 K) X
theorem ctk_X7_find {l : Launch} (hfl : l.stackTraces = false) : me_M l yX7_find (.code yX7_find cX7_find 5 (some .int)) 6 174 0 sk_X7_find := me_methk (d := 0) (Or.inl ⟨rfl, Or.inl rfl⟩) (us := 0) (bl := cd_X7_find) (cs := cs_X7_find) (hd := [53]) hfl (by decide +kernel) rfl (by decide) ⟨by decide, by decide⟩ (by decide) ck_X7_find (by
    intro a ha
    simp only [List.mem_cons, List.not_mem_nil, or_false] at ha
    rcases ha with rfl | rfl | rfl | rfl | rfl
    · exact cl_X7_refused (ct_X7_refused hfl) (by decide) (by decide)
    · exact cl_X7_in (ct_X7_in hfl) (by decide) (by decide)
    · exact cl_X7_layNow (ct_X7_layNow hfl) (by decide) (by decide)
    · exact cl_X7_isBar (ct_X7_isBar hfl) (by decide) (by decide)
    · exact cl_X7_isPlayer (ct_X7_isPlayer hfl) (by decide) (by decide)) (by decide) mv_sx vc_X7_find
def sk_X7_at : me_P := fun as v w K X => sp_m_at as v w (me_kk 0 K) X
theorem ctk_X7_at {l : Launch} (hfl : l.stackTraces = false) : me_M l yX7_at (.code yX7_at cX7_at 8 (some .int)) 6 174 0 sk_X7_at := me_methk (d := 0) (Or.inl ⟨rfl, Or.inl rfl⟩) (us := 0) (bl := cd_X7_at) (cs := cs_X7_at) (hd := [56, 88]) hfl (by decide +kernel) rfl (by decide) ⟨by decide, by decide⟩ (by decide) ck_X7_at (by
    intro a ha
    simp only [List.mem_cons, List.not_mem_nil, or_false] at ha
    rcases ha with rfl | rfl | rfl | rfl | rfl
    · exact cl_X7_refused (ct_X7_refused hfl) (by decide) (by decide)
    · exact cl_X7_cell (ct_X7_cell hfl) (by decide) (by decide)
    · exact cl_X7_beat (ct_X7_beat hfl) (by decide) (by decide)
    · exact cl_X7_layNow (ct_X7_layNow hfl) (by decide) (by decide)
    · exact cl_X7_isPlayer (ct_X7_isPlayer hfl) (by decide) (by decide)) (by decide) mv_sx vc_X7_at
def sk_X7_nextClick : me_P := fun as v w K X => sp_m_next as v w (me_kk 1 K) X
theorem ctk_X7_nextClick {l : Launch} (hfl : l.stackTraces = false) : me_M l yX7_nextClick (.code yX7_nextClick cX7_nextClick 5 (some .long)) 6 174 0 sk_X7_nextClick := me_methk (d := 1) (Or.inr ⟨rfl, rfl⟩) (us := 0) (bl := cd_X7_nextClick) (cs := cs_X7_nextClick) (hd := [39]) hfl (by decide +kernel) rfl (by decide) ⟨by decide, by decide⟩ (by decide) ck_X7_nextClick (by
    intro a ha
    simp only [List.mem_cons, List.not_mem_nil, or_false] at ha
    rcases ha with rfl | rfl | rfl
    · exact cl_X7_refused (ct_X7_refused hfl) (by decide) (by decide)
    · exact cl_X7_layNow (ct_X7_layNow hfl) (by decide) (by decide)
    · exact cl_X7_isPlayer (ct_X7_isPlayer hfl) (by decide) (by decide)) (by decide) mv_sx vc_X7_nextClick
def sk_X7_clicks : me_P := fun as v w K X => sp_m_clicks as v w (me_kk 0 K) X
theorem ctk_X7_clicks {l : Launch} (hfl : l.stackTraces = false) : me_M l yX7_clicks (.code yX7_clicks cX7_clicks 8 (some .int)) 6 174 0 sk_X7_clicks := me_methk (d := 0) (Or.inl ⟨rfl, Or.inl rfl⟩) (us := 0) (bl := cd_X7_clicks) (cs := cs_X7_clicks) (hd := [49]) hfl (by decide +kernel) rfl (by decide) ⟨by decide, by decide⟩ (by decide) ck_X7_clicks (by
    intro a ha
    simp only [List.mem_cons, List.not_mem_nil, or_false] at ha
    rcases ha with rfl | rfl | rfl
    · exact cl_X7_refused (ct_X7_refused hfl) (by decide) (by decide)
    · exact cl_X7_layNow (ct_X7_layNow hfl) (by decide) (by decide)
    · exact cl_X7_isPlayer (ct_X7_isPlayer hfl) (by decide) (by decide)) (by decide) mv_sx vc_X7_clicks
def sk_X7_missed : me_P := fun as v w K X => sp_m_missed as v w (me_kk 0 K) X
theorem ctk_X7_missed {l : Launch} (hfl : l.stackTraces = false) : me_M l yX7_missed (.code yX7_missed cX7_missed 4 (some .int)) 7 195 0 sk_X7_missed := me_methk (d := 0) (Or.inl ⟨rfl, Or.inl rfl⟩) (us := 0) (bl := cd_X7_missed) (cs := cs_X7_missed) (hd := [25]) hfl (by decide +kernel) rfl (by decide) ⟨by decide, by decide⟩ (by decide) ck_X7_missed (by
    intro a ha
    simp only [List.mem_cons, List.not_mem_nil, or_false] at ha
    rcases ha with rfl | rfl | rfl | rfl
    · exact cl_X7_refused (ct_X7_refused hfl) (by decide) (by decide)
    · exact cl_X7_times (ct_X7_times hfl) (by decide) (by decide)
    · exact cl_X7_isPlayer (ct_X7_isPlayer hfl) (by decide) (by decide)
    · exact cl_X7_placesOf (ct_X7_placesOf hfl) (by decide) (by decide)) (by decide) mv_sx vc_X7_missed
def sk_X7_together : me_P := fun as v w K X => sp_m_together as v w (me_kk 0 K) X
theorem ctk_X7_together {l : Launch} (hfl : l.stackTraces = false) : me_M l yX7_together (.code yX7_together cX7_together 6 (some .int)) 6 177 0 sk_X7_together := me_methk (d := 0) (Or.inl ⟨rfl, Or.inl rfl⟩) (us := 0) (bl := cd_X7_together) (cs := cs_X7_together) (hd := [46, 55]) hfl (by decide +kernel) rfl (by decide) ⟨by decide, by decide⟩ (by decide) ck_X7_together (by
    intro a ha
    simp only [List.mem_cons, List.not_mem_nil, or_false] at ha
    rcases ha with rfl | rfl | rfl
    · exact cl_X7_refused (ct_X7_refused hfl) (by decide) (by decide)
    · exact cl_X7_layBoth (ct_X7_layBoth hfl) (by decide) (by decide)
    · exact cl_X7_isPlayer (ct_X7_isPlayer hfl) (by decide) (by decide)) (by decide) mv_sx vc_X7_together
def sk_X7_part : me_P := fun as v w K X => sp_m_part as v w (me_kk 0 K) X
theorem ctk_X7_part {l : Launch} (hfl : l.stackTraces = false) : me_M l yX7_part (.code yX7_part cX7_part 3 (some .int)) 7 201 0 sk_X7_part := me_methk (d := 0) (Or.inl ⟨rfl, Or.inl rfl⟩) (us := 0) (bl := cd_X7_part) (cs := cs_X7_part) (hd := []) hfl (by decide +kernel) rfl (by decide) ⟨by decide, by decide⟩ (by decide) ck_X7_part (by
    intro a ha
    simp only [List.mem_cons, List.not_mem_nil, or_false] at ha
    rcases ha with rfl | rfl | rfl
    · exact cl_X7_refused (ct_X7_refused hfl) (by decide) (by decide)
    · exact cl_X7_partOf (ct_X7_partOf hfl) (by decide) (by decide)
    · exact cl_X7_isPlayer (ct_X7_isPlayer hfl) (by decide) (by decide)) (by decide) mv_sx vc_X7_part
def sk_X7_meet : me_P := fun as v w K X => sp_m_meet as v w (me_kk 1 K) X
theorem ctk_X7_meet {l : Launch} (hfl : l.stackTraces = false) : me_M l yX7_meet (.code yX7_meet cX7_meet 5 (some .long)) 6 177 0 sk_X7_meet := me_methk (d := 1) (Or.inr ⟨rfl, rfl⟩) (us := 0) (bl := cd_X7_meet) (cs := cs_X7_meet) (hd := [40, 51]) hfl (by decide +kernel) rfl (by decide) ⟨by decide, by decide⟩ (by decide) ck_X7_meet (by
    intro a ha
    simp only [List.mem_cons, List.not_mem_nil, or_false] at ha
    rcases ha with rfl | rfl | rfl
    · exact cl_X7_refused (ct_X7_refused hfl) (by decide) (by decide)
    · exact cl_X7_layBoth (ct_X7_layBoth hfl) (by decide) (by decide)
    · exact cl_X7_isPlayer (ct_X7_isPlayer hfl) (by decide) (by decide)) (by decide) mv_sx vc_X7_meet
def sk_X7_addBar : me_P := fun as v w K X => sp_m_addBar as v w (me_kk 0 K) X
theorem ctk_X7_addBar {l : Launch} (hfl : l.stackTraces = false) : me_M l yX7_addBar (.code yX7_addBar cX7_addBar 2 (some .int)) 3 105 0 sk_X7_addBar := me_methk (d := 0) (Or.inl ⟨rfl, Or.inl rfl⟩) (us := 0) (bl := cd_X7_addBar) (cs := cs_X7_addBar) (hd := []) hfl (by decide +kernel) rfl (by decide) ⟨by decide, by decide⟩ (by decide) ck_X7_addBar (by
    intro a ha
    simp only [List.mem_cons, List.not_mem_nil, or_false] at ha
    rcases ha with rfl | rfl | rfl | rfl
    · exact cl_X7_refused (ct_X7_refused hfl) (by decide) (by decide)
    · exact cl_X7_in (ct_X7_in hfl) (by decide) (by decide)
    · exact cl_X7_note (ct_X7_note hfl) (by decide) (by decide)
    · exact cl_X7_addBarTo (ct_X7_addBarTo hfl) (by decide) (by decide)) (by decide) mv_sx vc_X7_addBar
def sk_X7_setTempo : me_P := fun as v w K X => sp_m_setTempo as v w (me_kk 0 K) X
theorem ctk_X7_setTempo {l : Launch} (hfl : l.stackTraces = false) : me_M l yX7_setTempo (.code yX7_setTempo cX7_setTempo 4 (some .int)) 3 106 0 sk_X7_setTempo := me_methk (d := 0) (Or.inl ⟨rfl, Or.inl rfl⟩) (us := 0) (bl := cd_X7_setTempo) (cs := cs_X7_setTempo) (hd := []) hfl (by decide +kernel) rfl (by decide) ⟨by decide, by decide⟩ (by decide) ck_X7_setTempo (by
    intro a ha
    simp only [List.mem_cons, List.not_mem_nil, or_false] at ha
    rcases ha with rfl | rfl | rfl | rfl | rfl | rfl
    · exact cl_X7_refused (ct_X7_refused hfl) (by decide) (by decide)
    · exact cl_X7_note (ct_X7_note hfl) (by decide) (by decide)
    · exact cl_X7_cell (ct_X7_cell hfl) (by decide) (by decide)
    · exact cl_X7_tempo (ct_X7_tempo hfl) (by decide) (by decide)
    · exact cl_X7_isBar (ct_X7_isBar hfl) (by decide) (by decide)
    · exact cl_X7_isTempo (ct_X7_isTempo hfl) (by decide) (by decide)) (by decide) mv_sx vc_X7_setTempo
def sk_X7_setStretch : me_P := fun as v w K X => sp_m_setStretch as v w (me_kk 0 K) X
theorem ctk_X7_setStretch {l : Launch} (hfl : l.stackTraces = false) : me_M l yX7_setStretch (.code yX7_setStretch cX7_setStretch 5 (some .int)) 3 107 0 sk_X7_setStretch := me_methk (d := 0) (Or.inl ⟨rfl, Or.inl rfl⟩) (us := 0) (bl := cd_X7_setStretch) (cs := cs_X7_setStretch) (hd := []) hfl (by decide +kernel) rfl (by decide) ⟨by decide, by decide⟩ (by decide) ck_X7_setStretch (by
    intro a ha
    simp only [List.mem_cons, List.not_mem_nil, or_false] at ha
    rcases ha with rfl | rfl | rfl | rfl | rfl | rfl
    · exact cl_X7_refused (ct_X7_refused hfl) (by decide) (by decide)
    · exact cl_X7_in (ct_X7_in hfl) (by decide) (by decide)
    · exact cl_X7_note (ct_X7_note hfl) (by decide) (by decide)
    · exact cl_X7_cell (ct_X7_cell hfl) (by decide) (by decide)
    · exact cl_X7_isBar (ct_X7_isBar hfl) (by decide) (by decide)
    · exact cl_X7_isBeat (ct_X7_isBeat hfl) (by decide) (by decide)) (by decide) mv_sx vc_X7_setStretch
def sk_X7_leaveOut : me_P := fun as v w K X => sp_m_leaveOut as v w (me_kk 0 K) X
theorem ctk_X7_leaveOut {l : Launch} (hfl : l.stackTraces = false) : me_M l yX7_leaveOut (.code yX7_leaveOut cX7_leaveOut 5 (some .boolean)) 3 106 0 sk_X7_leaveOut := me_methk (d := 0) (Or.inl ⟨rfl, Or.inr rfl⟩) (us := 0) (bl := cd_X7_leaveOut) (cs := cs_X7_leaveOut) (hd := []) hfl (by decide +kernel) rfl (by decide) ⟨by decide, by decide⟩ (by decide) ck_X7_leaveOut (by
    intro a ha
    simp only [List.mem_cons, List.not_mem_nil, or_false] at ha
    rcases ha with rfl | rfl | rfl | rfl | rfl | rfl | rfl
    · exact cl_X7_refused (ct_X7_refused hfl) (by decide) (by decide)
    · exact cl_X7_in (ct_X7_in hfl) (by decide) (by decide)
    · exact cl_X7_has (ct_X7_has hfl) (by decide) (by decide)
    · exact cl_X7_note (ct_X7_note hfl) (by decide) (by decide)
    · exact cl_X7_cell (ct_X7_cell hfl) (by decide) (by decide)
    · exact cl_X7_withBit (ct_X7_withBit hfl) (by decide) (by decide)
    · exact cl_X7_isBar (ct_X7_isBar hfl) (by decide) (by decide)) (by decide) mv_sx vc_X7_leaveOut
def sk_X7_addSection : me_P := fun as v w K X => sp_m_addSection as v w (me_kk 0 K) X
theorem ctk_X7_addSection {l : Launch} (hfl : l.stackTraces = false) : me_M l yX7_addSection (.code yX7_addSection cX7_addSection 5 (some .int)) 4 131 0 sk_X7_addSection := me_methk (d := 0) (Or.inl ⟨rfl, Or.inl rfl⟩) (us := 0) (bl := cd_X7_addSection) (cs := cs_X7_addSection) (hd := []) hfl (by decide +kernel) rfl (by decide) ⟨by decide, by decide⟩ (by decide) ck_X7_addSection (by
    intro a ha
    simp only [List.mem_cons, List.not_mem_nil, or_false] at ha
    rcases ha with rfl | rfl | rfl | rfl | rfl | rfl
    · exact cl_X7_refused (ct_X7_refused hfl) (by decide) (by decide)
    · exact cl_X7_in (ct_X7_in hfl) (by decide) (by decide)
    · exact cl_X7_note (ct_X7_note hfl) (by decide) (by decide)
    · exact cl_X7_addPart (ct_X7_addPart hfl) (by decide) (by decide)
    · exact cl_X7_isBar (ct_X7_isBar hfl) (by decide) (by decide)
    · exact cl_X7_isFree (ct_X7_isFree hfl) (by decide) (by decide)) (by decide) mv_sx vc_X7_addSection
def sk_X7_removeSection : me_P := fun as v w K X => sp_m_removeSection as v w (me_kk 0 K) X
theorem ctk_X7_removeSection {l : Launch} (hfl : l.stackTraces = false) : me_M l yX7_removeSection (.code yX7_removeSection cX7_removeSection 2 (some .int)) 3 106 0 sk_X7_removeSection := me_methk (d := 0) (Or.inl ⟨rfl, Or.inl rfl⟩) (us := 0) (bl := cd_X7_removeSection) (cs := cs_X7_removeSection) (hd := []) hfl (by decide +kernel) rfl (by decide) ⟨by decide, by decide⟩ (by decide) ck_X7_removeSection (by
    intro a ha
    simp only [List.mem_cons, List.not_mem_nil, or_false] at ha
    rcases ha with rfl | rfl | rfl | rfl
    · exact cl_X7_refused (ct_X7_refused hfl) (by decide) (by decide)
    · exact cl_X7_note (ct_X7_note hfl) (by decide) (by decide)
    · exact cl_X7_dropPart (ct_X7_dropPart hfl) (by decide) (by decide)
    · exact cl_X7_isPart (ct_X7_isPart hfl) (by decide) (by decide)) (by decide) mv_sx vc_X7_removeSection
def sk_X7_skip : me_P := fun as v w K X => sp_m_skip as v w (me_kk 0 K) X
theorem ctk_X7_skip {l : Launch} (hfl : l.stackTraces = false) : me_M l yX7_skip (.code yX7_skip cX7_skip 4 (some .int)) 3 106 0 sk_X7_skip := me_methk (d := 0) (Or.inl ⟨rfl, Or.inl rfl⟩) (us := 0) (bl := cd_X7_skip) (cs := cs_X7_skip) (hd := []) hfl (by decide +kernel) rfl (by decide) ⟨by decide, by decide⟩ (by decide) ck_X7_skip (by
    intro a ha
    simp only [List.mem_cons, List.not_mem_nil, or_false] at ha
    rcases ha with rfl | rfl | rfl | rfl | rfl | rfl
    · exact cl_X7_refused (ct_X7_refused hfl) (by decide) (by decide)
    · exact cl_X7_count (ct_X7_count hfl) (by decide) (by decide)
    · exact cl_X7_note (ct_X7_note hfl) (by decide) (by decide)
    · exact cl_X7_withBit (ct_X7_withBit hfl) (by decide) (by decide)
    · exact cl_X7_isBar (ct_X7_isBar hfl) (by decide) (by decide)
    · exact cl_X7_isPlayer (ct_X7_isPlayer hfl) (by decide) (by decide)) (by decide) mv_sx vc_X7_skip
def sk_X7_undo : me_P := fun as v w K X => sp_m_undo as v w (me_kk 0 K) X
theorem ctk_X7_undo {l : Launch} (hfl : l.stackTraces = false) : me_M l yX7_undo (.code yX7_undo cX7_undo 1 (some .int)) 2 85 0 sk_X7_undo := me_methk (d := 0) (Or.inl ⟨rfl, Or.inl rfl⟩) (us := 0) (bl := cd_X7_undo) (cs := cs_X7_undo) (hd := []) hfl (by decide +kernel) rfl (by decide) ⟨by decide, by decide⟩ (by decide) ck_X7_undo (by
    intro a ha
    simp only [List.mem_cons, List.not_mem_nil, or_false] at ha
    rcases ha with rfl | rfl
    · exact cl_X7_refused (ct_X7_refused hfl) (by decide) (by decide)
    · exact cl_X7_copy (ct_X7_copy hfl) (by decide) (by decide)) (by decide) mv_sx vc_X7_undo
def sk_X7_percentage : me_P := fun as v w K X => sp_m_percentage as v w (me_kk 0 K) X
theorem ctk_X7_percentage {l : Launch} (hfl : l.stackTraces = false) : me_M l yX7_percentage (.code yX7_percentage cX7_percentage 5 (some .int)) 5 153 0 sk_X7_percentage := me_methk (d := 0) (Or.inl ⟨rfl, Or.inl rfl⟩) (us := 0) (bl := cd_X7_percentage) (cs := cs_X7_percentage) (hd := [35]) hfl (by decide +kernel) rfl (by decide) ⟨by decide, by decide⟩ (by decide) ck_X7_percentage (by
    intro a ha
    simp only [List.mem_cons, List.not_mem_nil, or_false] at ha
    rcases ha with rfl | rfl | rfl
    · exact cl_X7_refused (ct_X7_refused hfl) (by decide) (by decide)
    · exact cl_X7_lay (ct_X7_lay hfl) (by decide) (by decide)
    · exact cl_X7_isPlayer (ct_X7_isPlayer hfl) (by decide) (by decide)) (by decide) mv_sx vc_X7_percentage
def sk_X7_longest : me_P := fun as v w K X => sp_m_longest as v w (me_kk 0 K) X
theorem ctk_X7_longest {l : Launch} (hfl : l.stackTraces = false) : me_M l yX7_longest (.code yX7_longest cX7_longest 9 (some .int)) 6 174 0 sk_X7_longest := me_methk (d := 0) (Or.inl ⟨rfl, Or.inl rfl⟩) (us := 0) (bl := cd_X7_longest) (cs := cs_X7_longest) (hd := [34, 51]) hfl (by decide +kernel) rfl (by decide) ⟨by decide, by decide⟩ (by decide) ck_X7_longest (by
    intro a ha
    simp only [List.mem_cons, List.not_mem_nil, or_false] at ha
    rcases ha with rfl | rfl | rfl
    · exact cl_X7_refused (ct_X7_refused hfl) (by decide) (by decide)
    · exact cl_X7_layNow (ct_X7_layNow hfl) (by decide) (by decide)
    · exact cl_X7_isPlayer (ct_X7_isPlayer hfl) (by decide) (by decide)) (by decide) mv_sx vc_X7_longest
def sk_X7_runScript : me_P := fun as v w K X => sp_m_runScript as v w (me_kk 0 K) X
theorem ctk_X7_runScript {l : Launch} (hfl : l.stackTraces = false) : me_M l yX7_runScript (.code yX7_runScript cX7_runScript 6 (some .int)) 8 230 0 sk_X7_runScript := me_methk (d := 0) (Or.inl ⟨rfl, Or.inl rfl⟩) (us := 0) (bl := cd_X7_runScript) (cs := cs_X7_runScript) (hd := [62]) hfl (by decide +kernel) rfl (by decide) ⟨by decide, by decide⟩ (by decide) ck_X7_runScript (by
    intro a ha
    simp only [List.mem_cons, List.not_mem_nil, or_false] at ha
    rcases ha with rfl | rfl | rfl | rfl | rfl
    · exact cl_X7_refused (ct_X7_refused hfl) (by decide) (by decide)
    · exact cl_X7_in (ct_X7_in hfl) (by decide) (by decide)
    · exact cl_X7_tenTo (ct_X7_tenTo hfl) (by decide) (by decide)
    · exact cl_X7_begin (ct_X7_begin hfl) (by decide) (by decide)
    · exact cl_X7_does (ct_X7_does hfl) (by decide) (by decide)) (by decide) mv_sx vc_X7_runScript
def sk_X7_simulate : me_P := fun as v w K X => sp_m_simulate as v w (me_kk 0 K) X
theorem ctk_X7_simulate {l : Launch} (hfl : l.stackTraces = false) : me_M l yX7_simulate (.code yX7_simulate cX7_simulate 10 (some .int)) 6 175 0 sk_X7_simulate := me_methk (d := 0) (Or.inl ⟨rfl, Or.inl rfl⟩) (us := 0) (bl := cd_X7_simulate) (cs := cs_X7_simulate) (hd := [35, 48]) hfl (by decide +kernel) rfl (by decide) ⟨by decide, by decide⟩ (by decide) ck_X7_simulate (by
    intro a ha
    simp only [List.mem_cons, List.not_mem_nil, or_false] at ha
    rcases ha with rfl | rfl | rfl | rfl
    · exact cl_X7_refused (ct_X7_refused hfl) (by decide) (by decide)
    · exact cl_X7_in (ct_X7_in hfl) (by decide) (by decide)
    · exact cl_X7_begin (ct_X7_begin hfl) (by decide) (by decide)
    · exact cl_X7_endOf (ct_X7_endOf hfl) (by decide) (by decide)) (by decide) mv_sx vc_X7_simulate
def sk_X7_save : me_P := fun as v w K X => sp_m_save as v w (me_kk 0 K) X
theorem ctk_X7_save {l : Launch} (hfl : l.stackTraces = false) : me_M l yX7_save (.code yX7_save cX7_save 2 (some .int)) 2 85 0 sk_X7_save := me_methk (d := 0) (Or.inl ⟨rfl, Or.inl rfl⟩) (us := 0) (bl := cd_X7_save) (cs := cs_X7_save) (hd := []) hfl (by decide +kernel) rfl (by decide) ⟨by decide, by decide⟩ (by decide) ck_X7_save (by
    intro a ha
    simp only [List.mem_cons, List.not_mem_nil, or_false] at ha
    rcases ha with rfl | rfl | rfl
    · exact cl_X7_refused (ct_X7_refused hfl) (by decide) (by decide)
    · exact cl_X7_in (ct_X7_in hfl) (by decide) (by decide)
    · exact cl_X7_copy (ct_X7_copy hfl) (by decide) (by decide)) (by decide) mv_sx vc_X7_save
def sk_X7_restore : me_P := fun as v w K X => sp_m_restore as v w (me_kk 0 K) X
theorem ctk_X7_restore {l : Launch} (hfl : l.stackTraces = false) : me_M l yX7_restore (.code yX7_restore cX7_restore 2 (some .int)) 2 85 0 sk_X7_restore := me_methk (d := 0) (Or.inl ⟨rfl, Or.inl rfl⟩) (us := 0) (bl := cd_X7_restore) (cs := cs_X7_restore) (hd := []) hfl (by decide +kernel) rfl (by decide) ⟨by decide, by decide⟩ (by decide) ck_X7_restore (by
    intro a ha
    simp only [List.mem_cons, List.not_mem_nil, or_false] at ha
    rcases ha with rfl | rfl | rfl
    · exact cl_X7_refused (ct_X7_refused hfl) (by decide) (by decide)
    · exact cl_X7_in (ct_X7_in hfl) (by decide) (by decide)
    · exact cl_X7_copy (ct_X7_copy hfl) (by decide) (by decide)) (by decide) mv_sx vc_X7_restore
def sk_X7_clearText : me_P := fun as v w K X => sp_m_clear as v w (me_kk 0 K) X
theorem ctk_X7_clearText {l : Launch} (hfl : l.stackTraces = false) : me_M l yX7_clearText (.code yX7_clearText cX7_clearText 2 (some .int)) 1 60 0 sk_X7_clearText := me_methk (d := 0) (Or.inl ⟨rfl, Or.inl rfl⟩) (us := 0) (bl := cd_X7_clearText) (cs := cs_X7_clearText) (hd := []) hfl (by decide +kernel) rfl (by decide) ⟨by decide, by decide⟩ (by decide) ck_X7_clearText (fun a ha => absurd ha List.not_mem_nil) (by decide) mv_sx vc_X7_clearText
def sk_X7_errorPosition : me_P := fun as v w K X => sp_m_error as v w (me_kk 0 K) X
theorem ctk_X7_errorPosition {l : Launch} (hfl : l.stackTraces = false) : me_M l yX7_errorPosition (.code yX7_errorPosition cX7_errorPosition 1 (some .int)) 6 176 0 sk_X7_errorPosition := me_methk (d := 0) (Or.inl ⟨rfl, Or.inl rfl⟩) (us := 0) (bl := cd_X7_errorPosition) (cs := cs_X7_errorPosition) (hd := []) hfl (by decide +kernel) rfl (by decide) ⟨by decide, by decide⟩ (by decide) ck_X7_errorPosition (by
    intro a ha
    simp only [List.mem_cons, List.not_mem_nil, or_false] at ha
    rcases ha with rfl
    · exact cl_X7_readText (ct_X7_readText hfl) (by decide) (by decide)) (by decide) mv_sx vc_X7_errorPosition
