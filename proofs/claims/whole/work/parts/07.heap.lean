/-! ===== the classes, the words of their fields ===== -/
theorem me_u0 : ∀ w ∈ u_ws RX0 TX0 3, w ∈ me_TG := by
  have h : u_ws RX0 TX0 3 = [180, 182, 184].filterMap (fun i => lw_tbl[i]?) := by decide +kernel
  have g : (u_ws RX0 TX0 3).all goodWord = true := by decide +kernel
  intro w hw
  have g2 := List.all_eq_true.mp g w hw
  rw [h] at hw
  obtain ⟨i, -, hi⟩ := List.mem_filterMap.mp hw
  exact List.mem_filter.mpr ⟨List.mem_of_getElem? hi, g2⟩
theorem me_u1 : ∀ w ∈ u_ws RX1 TX1 8, w ∈ me_TG := by
  have h : u_ws RX1 TX1 8 = [208, 210, 212, 214, 216, 218, 220, 222].filterMap (fun i => lw_tbl[i]?) := by decide +kernel
  have g : (u_ws RX1 TX1 8).all goodWord = true := by decide +kernel
  intro w hw
  have g2 := List.all_eq_true.mp g w hw
  rw [h] at hw
  obtain ⟨i, -, hi⟩ := List.mem_filterMap.mp hw
  exact List.mem_filter.mpr ⟨List.mem_of_getElem? hi, g2⟩
theorem me_u2 : ∀ w ∈ u_ws RX2 TX2 7, w ∈ me_TG := by
  have h : u_ws RX2 TX2 7 = [260, 262, 264, 266, 268, 270, 272].filterMap (fun i => lw_tbl[i]?) := by decide +kernel
  have g : (u_ws RX2 TX2 7).all goodWord = true := by decide +kernel
  intro w hw
  have g2 := List.all_eq_true.mp g w hw
  rw [h] at hw
  obtain ⟨i, -, hi⟩ := List.mem_filterMap.mp hw
  exact List.mem_filter.mpr ⟨List.mem_of_getElem? hi, g2⟩
theorem me_u3 : ∀ w ∈ u_ws RX3 TX3 10, w ∈ me_TG := by
  have h : u_ws RX3 TX3 10 = [122, 124, 126, 128, 130, 132, 134, 136, 138, 140].filterMap (fun i => lw_tbl[i]?) := by decide +kernel
  have g : (u_ws RX3 TX3 10).all goodWord = true := by decide +kernel
  intro w hw
  have g2 := List.all_eq_true.mp g w hw
  rw [h] at hw
  obtain ⟨i, -, hi⟩ := List.mem_filterMap.mp hw
  exact List.mem_filter.mpr ⟨List.mem_of_getElem? hi, g2⟩
theorem me_u4 : ∀ w ∈ u_ws RX4 TX4 6, w ∈ me_TG := by
  have h : u_ws RX4 TX4 6 = [152, 154, 156, 158, 160, 162].filterMap (fun i => lw_tbl[i]?) := by decide +kernel
  have g : (u_ws RX4 TX4 6).all goodWord = true := by decide +kernel
  intro w hw
  have g2 := List.all_eq_true.mp g w hw
  rw [h] at hw
  obtain ⟨i, -, hi⟩ := List.mem_filterMap.mp hw
  exact List.mem_filter.mpr ⟨List.mem_of_getElem? hi, g2⟩
theorem me_u5 : ∀ w ∈ u_ws RX5 TX5 3, w ∈ me_TG := by
  have h : u_ws RX5 TX5 3 = [236, 238, 240].filterMap (fun i => lw_tbl[i]?) := by decide +kernel
  have g : (u_ws RX5 TX5 3).all goodWord = true := by decide +kernel
  intro w hw
  have g2 := List.all_eq_true.mp g w hw
  rw [h] at hw
  obtain ⟨i, -, hi⟩ := List.mem_filterMap.mp hw
  exact List.mem_filter.mpr ⟨List.mem_of_getElem? hi, g2⟩
theorem me_u6 : ∀ w ∈ u_ws RX6 TX6 10, w ∈ me_TG := by
  have h : u_ws RX6 TX6 10 = [285, 287, 289, 291, 293, 295, 297, 299, 301, 303].filterMap (fun i => lw_tbl[i]?) := by decide +kernel
  have g : (u_ws RX6 TX6 10).all goodWord = true := by decide +kernel
  intro w hw
  have g2 := List.all_eq_true.mp g w hw
  rw [h] at hw
  obtain ⟨i, -, hi⟩ := List.mem_filterMap.mp hw
  exact List.mem_filter.mpr ⟨List.mem_of_getElem? hi, g2⟩
theorem me_u7 : ∀ w ∈ u_ws RX7 TX7 25, w ∈ me_TG := by
  have h : u_ws RX7 TX7 25 = [1068, 1070, 1072, 1074, 1076, 1078, 1080, 1082, 1084, 1086, 1088, 1090, 1092, 1094, 1096, 1098, 1100, 1102, 1104, 1106, 1108, 1110, 1112, 1114, 1116].filterMap (fun i => lw_tbl[i]?) := by decide +kernel
  have g : (u_ws RX7 TX7 25).all goodWord = true := by decide +kernel
  intro w hw
  have g2 := List.all_eq_true.mp g w hw
  rw [h] at hw
  obtain ⟨i, -, hi⟩ := List.mem_filterMap.mp hw
  exact List.mem_filter.mpr ⟨List.mem_of_getElem? hi, g2⟩
theorem me_clok {ci : Nat} {Cn : String} {T : u_T} {N : Nat} (h : me_cl[ci]? = some (Cn, T, N)) : (∀ w ∈ u_ws Cn T N, w ∈ me_TG) ∧ (∃ ty0 : Nat → FieldType, ∀ k, k < N → parseFieldDescriptor (T k).2.2.1 = some (ty0 k)) ∧ (∀ a, a < N → ∀ b, b < N → a ≠ b → (T a).2.1 ≠ (T b).2.1) := by
  match ci, h with
  | 0, h => cases h; exact ⟨me_u0, ⟨tyX0, tyX0_ok⟩, nmX0⟩
  | 1, h => cases h; exact ⟨me_u1, ⟨tyX1, tyX1_ok⟩, nmX1⟩
  | 2, h => cases h; exact ⟨me_u2, ⟨tyX2, tyX2_ok⟩, nmX2⟩
  | 3, h => cases h; exact ⟨me_u3, ⟨tyX3, tyX3_ok⟩, nmX3⟩
  | 4, h => cases h; exact ⟨me_u4, ⟨tyX4, tyX4_ok⟩, nmX4⟩
  | 5, h => cases h; exact ⟨me_u5, ⟨tyX5, tyX5_ok⟩, nmX5⟩
  | 6, h => cases h; exact ⟨me_u6, ⟨tyX6, tyX6_ok⟩, nmX6⟩
  | 7, h => cases h; exact ⟨me_u7, ⟨tyX7, tyX7_ok⟩, nmX7⟩
  | n + 8, h => simp [me_cl] at h
def me_kt (d : Nat) : String := match d with
  | 0 => "I"
  | 1 => "J"
  | _ => "Z"
def me_skok (q : (Nat × Nat) ⊕ (Nat × List (Nat ⊕ Nat))) : Bool := match q with
  | .inl _ => true
  | .inr (c, fl) => match me_cl[c]? with
    | some (_, T, N) => decide (fl.length = N) && (List.range fl.length).all (fun j => match fl[j]? with
      | some (.inl d) => decide (d < 3) && decide ((T j).2.2.1 = me_kt d)
      | _ => true)
    | none => false
theorem me_skok_all : me_skl.all me_skok = true := by decide +kernel
theorem me_skty {k c j d : Nat} {fl : List (Nat ⊕ Nat)} {Cn : String} {T : u_T} {N : Nat} (h : me_sk k = some (.inr (c, fl))) (hc : me_cl[c]? = some (Cn, T, N)) (hj : fl[j]? = some (.inl d)) : (T j).2.2.1 = me_kt d := by
  have h1 := List.all_eq_true.mp me_skok_all _ (List.mem_of_getElem? h)
  simp only [me_skok, hc, Bool.and_eq_true, List.all_eq_true, decide_eq_true_eq] at h1
  have hl : j < fl.length := (List.getElem?_eq_some_iff.mp hj).1
  have h2 := h1.2 j (List.mem_range.mpr hl)
  rw [hj] at h2
  simp only [Bool.and_eq_true, decide_eq_true_eq] at h2
  exact h2.2
section HEA
variable {nm : Nat → MethodName} {p : Program} {l : Launch} {e : Env} {R : Room} {s : State} {m : MethodId} {args : Array Value} {below : List Frame} {meth : Method} {c : Code} {Q : State → Prop} {C : me_C} {cc : ByteArray} {nL c0 s0 : Nat} {own : String} {ret : Option FieldType} {cl9 : List Nat}
variable {pc a b len ix pp k : Nat} {ts : List Nat} {L : me_L} {st : List me_S} {v : me_V} {w : me_U} {nx : Nat → me_L → List me_S → me_V → me_U → Prop}
theorem me_fl_ok {own : String} {i a b pp : Nat} (h : me_fl own i a b pp = true) : ∃ (Cn : String) (T : u_T) (N : Nat), me_cl[a]? = some (Cn, T, N) ∧ b < N ∧ Cond.fieldLink own i Cn (T b).2.1 (T b).2.2.1 ∈ me_TG ∧ (T b).1 = Cn := by
  unfold me_fl at h
  split at h
  · rename_i Cn T N hc
    simp only [me_w1, Bool.and_eq_true, decide_eq_true_eq] at h
    exact ⟨Cn, T, N, hc, h.1, List.mem_filter.mpr ⟨List.mem_of_getElem? h.2.1, rfl⟩, h.2.2⟩
  · cases h
theorem me_gets {H : Heap} {locs : List Loc} {ls : Array Slot} {rest : List Value} {cells slots : Nat} (F : me_Fx p s m args c C cc nL own) {i : Nat} (hd : decode cc pc = .ok (.getfield i, 3)) (hfl : me_fl own i a b pp = true) (hP : va_P C.1 me_cl (me_ws C v w) H) {r : Nat} {q : Nat ⊕ Nat} (hg : me_gf r a b = some q)
    (kk : W p l e R s m args below meth c H locs cells slots Q (F0 m (pc + 3) ls (me_fv (me_ad C) v w r b q :: rest))) : W p l e R s m args below meth c H locs cells slots Q (F0 m pc ls (.ref (me_ad C r) :: rest)) := by
  obtain ⟨hx, hb, hml, hown, hts, hW, hB⟩ := F
  obtain ⟨Cn, T, N, hc, hN, hlk, hT⟩ := me_fl_ok hfl
  obtain ⟨fl, hsk, hq⟩ := me_gf_sk hg
  obtain ⟨hin, -, -⟩ := me_clok hc
  refine va_get (D := C.1) (ci := a) (C := Cn) (T := T) (N := N) hx hb hts hin hown hW.1 hP r (fs := me_fs (me_ad C) v w r 0 fl) ?_ hc b hN (hts _ hlk) (fun _ h9 => by rw [hT] at h9; exact h9) ?_ hd kk
  · rw [me_get C v w (me_lt hsk), me_enO C v w hsk]
  · rw [me_fs_get, hq, Nat.zero_add]
    rfl
theorem me_s19 {cs : Nat → Nat × me_P} {J : Nat → Nat → me_L → List me_S → me_V → me_U → Prop} {KR : me_K} {KX : Nat → Nat → me_L → Nat → me_V → me_U → Prop} {km : Nat} {sx : me_Sc} (F : me_Fx p s m args c C cc nL own) (hck : me_ck nm own cc nL ret cl9 pc a b ts len ix pp 19 = true) (hn : ∀ k L st v w, nx k L st v w → me_at p l e R s m args below meth c Q C nL c0 s0 (pc + len) k L st v w) (h : me_op cs J KR KX km sx pc a b ts k L v w nx st 19) : me_at p l e R s m args below meth c Q C nL c0 s0 pc k L st v w := by
  simp only [me_op] at h
  obtain ⟨r, st1, rfl, g1⟩ := me_tR_inv h
  clear h
  intro H locs ls hP hD hS hl
  simp only [me_ck] at hck
  split at hck
  · rename_i i hd
    simp only [Bool.and_eq_true, decide_eq_true_eq] at hck
    obtain ⟨rfl, hfl⟩ := hck
    split at g1
    · rename_i hg
      exact me_gets F hd hfl hP hg (hn _ _ _ _ _ g1 H locs ls hP hD hS hl)
    · rename_i n hne hg
      refine me_gets F hd hfl hP hg ?_
      have e1 : me_fv (me_ad C) v w r b (.inl n) = .int (v r b) := by
        unfold me_fv
        split
        · rename_i e; exact absurd (Sum.inl.inj e) hne
        · rfl
        · rename_i e; cases e
      rw [e1]
      exact hn _ _ _ _ _ g1 H locs ls hP hD hS hl
    · rename_i t hg
      exact me_gets F hd hfl hP hg (hn _ _ _ _ _ g1 H locs ls hP hD hS hl)
    · exact g1.elim
  · cases hck

theorem me_puts {H : Heap} {locs : List Loc} {ls : Array Slot} {rest : List Value} {cells slots : Nat} (F : me_Fx p s m args c C cc nL own) {i : Nat} (hd : decode cc pc = .ok (.putfield i, 3)) (hfl : me_fl own i a b pp = true) (hfin : (match me_cl[a]? with | some (_, T, _) => decide ((T b).2.2.2 = false) | none => false) = true)
    (hP : va_P C.1 me_cl (me_ws C v w) H) (hD : va_D (me_A C) (me_ws C v w)) (hS : va_S (me_A C) s.heap H locs) {r d : Nat} (hg : me_gf r a b = some (.inl d)) {x : Value} {ty : FieldType} (ht : parseFieldDescriptor (me_kt d) = some ty) (hn : narrow ty x = x) (hfit : fits ty x = true)
    {v2 : me_V} {w2 : me_U} (hset : ∀ fl : List (Nat ⊕ Nat), fl[b]? = some (.inl d) → (me_fs (me_ad C) v w r 0 fl).set b x = me_fs (me_ad C) v2 w2 r 0 fl) (ho : ∀ j : Nat, j ≠ r → me_en C v2 w2 j = me_en C v w j)
    (kk : ∀ (H1 : Heap) (locs1 : List Loc), va_P C.1 me_cl (me_ws C v2 w2) H1 → va_D (me_A C) (me_ws C v2 w2) → va_S (me_A C) s.heap H1 locs1 → W p l e R s m args below meth c H1 locs1 cells slots Q (F0 m (pc + 3) ls rest)) : W p l e R s m args below meth c H locs cells slots Q (F0 m pc ls (x :: .ref (me_ad C r) :: rest)) := by
  obtain ⟨hx, hb, hml, hown, hts, hW, hB⟩ := F
  obtain ⟨Cn, T, N, hc, hN, hlk, hT⟩ := me_fl_ok hfl
  obtain ⟨fl, hsk, hq⟩ := me_gf_sk hg
  obtain ⟨hin, ⟨ty0, hty0⟩, hnm⟩ := me_clok hc
  rw [hc] at hfin
  have hlt := me_lt hsk
  have hws : (me_ws C v w).set r (me_ad C r, .inr (a, (me_fs (me_ad C) v w r 0 fl).set b x)) = me_ws C v2 w2 := by
    refine me_set C hlt ?_ ho
    rw [me_enO C v2 w2 hsk, hset fl hq]
  refine va_put (D := C.1) (ci := a) (C := Cn) (T := T) (N := N) (ty := ty) hx hb hts hin ty0 hty0 hnm hown hW.1 hP hD hS r (fs := me_fs (me_ad C) v w r 0 fl) ?_ hc b hN (hts _ hlk) (fun _ h9 => by rw [hT] at h9; exact h9) (by simpa using hfin) ?_ hn hfit ?_ hd (fun H1 locs1 hP1 hD1 hS1 => ?_)
  · rw [me_get C v w hlt, me_enO C v w hsk]
  · rw [me_skty hsk hc hq]; exact ht
  · rw [me_fs_len]; exact (List.getElem?_eq_some_iff.mp hq).1
  · rw [hws] at hP1 hD1
    exact kk H1 locs1 hP1 hD1 hS1
theorem me_s20 {cs : Nat → Nat × me_P} {J : Nat → Nat → me_L → List me_S → me_V → me_U → Prop} {KR : me_K} {KX : Nat → Nat → me_L → Nat → me_V → me_U → Prop} {km : Nat} {sx : me_Sc} (F : me_Fx p s m args c C cc nL own) (hck : me_ck nm own cc nL ret cl9 pc a b ts len ix pp 20 = true) (hn : ∀ k L st v w, nx k L st v w → me_at p l e R s m args below meth c Q C nL c0 s0 (pc + len) k L st v w) (h : me_op cs J KR KX km sx pc a b ts k L v w nx st 20) : me_at p l e R s m args below meth c Q C nL c0 s0 pc k L st v w := by
  simp only [me_op] at h
  obtain ⟨x, st1, rfl, g1⟩ := me_t1_inv h
  obtain ⟨r, st2, rfl, g2⟩ := me_tR_inv g1
  clear h g1
  intro H locs ls hP hD hS hl
  simp only [me_ck] at hck
  split at hck
  · rename_i i hd
    simp only [Bool.and_eq_true, decide_eq_true_eq] at hck
    obtain ⟨rfl, hfl, hfin⟩ := hck
    split at g2
    · rename_i i hg
      exact me_puts F hd hfl hfin hP hD hS hg (ty := .int) rfl rfl rfl (fun fl hfl => me_fs_set0 (me_ad C) v w r b _ (by decide) fl 0 b (Nat.zero_add b) hfl) (me_oth C v w b _) (fun H1 locs1 hP1 hD1 hS1 => hn _ _ _ _ _ g2 H1 locs1 ls hP1 hD1 hS1 hl)
    · rename_i i hg
      exact me_puts F hd hfl hfin hP hD hS hg (ty := .long) rfl rfl rfl (fun fl hfl => me_fs_set1 (me_ad C) v w r b _ fl 0 b (Nat.zero_add b) hfl) (me_othL C v w b _) (fun H1 locs1 hP1 hD1 hS1 => hn _ _ _ _ _ g2 H1 locs1 ls hP1 hD1 hS1 hl)
    · rename_i i hg
      obtain ⟨h01, g3⟩ := g2
      have hz : narrow .boolean (.int i) = .int i ∧ fits .boolean (.int i) = true := by rcases h01 with rfl | rfl <;> exact ⟨rfl, rfl⟩
      exact me_puts F hd hfl hfin hP hD hS hg (ty := .boolean) rfl hz.1 hz.2 (fun fl hfl => me_fs_set0 (me_ad C) v w r b _ (by decide) fl 0 b (Nat.zero_add b) hfl) (me_oth C v w b _) (fun H1 locs1 hP1 hD1 hS1 => hn _ _ _ _ _ g3 H1 locs1 ls hP1 hD1 hS1 hl)
    · exact g2.elim
  · cases hck

theorem me_s21 {cs : Nat → Nat × me_P} {J : Nat → Nat → me_L → List me_S → me_V → me_U → Prop} {KR : me_K} {KX : Nat → Nat → me_L → Nat → me_V → me_U → Prop} {km : Nat} {sx : me_Sc} (F : me_Fx p s m args c C cc nL own) (hck : me_ck nm own cc nL ret cl9 pc a b ts len ix pp 21 = true) (hn : ∀ k L st v w, nx k L st v w → me_at p l e R s m args below meth c Q C nL c0 s0 (pc + len) k L st v w) (h : me_op cs J KR KX km sx pc a b ts k L v w nx st 21) : me_at p l e R s m args below meth c Q C nL c0 s0 pc k L st v w := by
  simp only [me_op] at h
  obtain ⟨i, st1, rfl, g1⟩ := me_tI_inv h
  obtain ⟨r, st2, rfl, g2⟩ := me_tR_inv g1
  clear h g1
  intro H locs ls hP hD hS hl
  obtain ⟨hx, hb, hml, hown, hts, hW, hB⟩ := F
  simp only [me_ck] at hck
  split at hck
  · rename_i hd
    simp only [decide_eq_true_eq] at hck
    subst hck
    split at g2
    · rename_i n hal
      obtain ⟨hin, g3⟩ := g2
      exact va_iald hx hb hW.1 hP r 0 (by rw [me_get C v w (me_lt (me_al_sk hal)), me_enA0 C v w hal]) rfl hin hd (hn _ _ _ _ _ g3 H locs ls hP hD hS hl)
    · exact g2.elim
  · cases hck

theorem me_s22 {cs : Nat → Nat × me_P} {J : Nat → Nat → me_L → List me_S → me_V → me_U → Prop} {KR : me_K} {KX : Nat → Nat → me_L → Nat → me_V → me_U → Prop} {km : Nat} {sx : me_Sc} (F : me_Fx p s m args c C cc nL own) (hck : me_ck nm own cc nL ret cl9 pc a b ts len ix pp 22 = true) (hn : ∀ k L st v w, nx k L st v w → me_at p l e R s m args below meth c Q C nL c0 s0 (pc + len) k L st v w) (h : me_op cs J KR KX km sx pc a b ts k L v w nx st 22) : me_at p l e R s m args below meth c Q C nL c0 s0 pc k L st v w := by
  simp only [me_op] at h
  obtain ⟨x, st0, rfl, g0⟩ := me_tI_inv h
  obtain ⟨i, st1, rfl, g1⟩ := me_tI_inv g0
  obtain ⟨r, st2, rfl, g2⟩ := me_tR_inv g1
  clear h g0 g1
  intro H locs ls hP hD hS hl
  obtain ⟨hx, hb, hml, hown, hts, hW, hB⟩ := F
  simp only [me_ck] at hck
  split at hck
  · rename_i hd
    simp only [decide_eq_true_eq] at hck
    subst hck
    split at g2
    · rename_i n hal
      obtain ⟨hin, g3⟩ := g2
      have hlt := me_lt (me_al_sk hal)
      refine va_iast hx hb hW.1 hP hD hS r 0 (by rw [me_get C v w hlt, me_enA0 C v w hal]) rfl hin hd (fun H1 locs1 hP1 hD1 hS1 => ?_)
      rw [me_set C hlt (v2 := me_up v r i.toNatClampNeg x) (w2 := w) (by rw [me_enA0 C _ _ hal, me_up_s]) (me_oth C v w _ _)] at hP1 hD1
      exact hn _ _ _ _ _ g3 H1 locs1 ls hP1 hD1 hS1 hl
    · exact g2.elim
  · cases hck

theorem me_s23 {cs : Nat → Nat × me_P} {J : Nat → Nat → me_L → List me_S → me_V → me_U → Prop} {KR : me_K} {KX : Nat → Nat → me_L → Nat → me_V → me_U → Prop} {km : Nat} {sx : me_Sc} (F : me_Fx p s m args c C cc nL own) (hck : me_ck nm own cc nL ret cl9 pc a b ts len ix pp 23 = true) (hn : ∀ k L st v w, nx k L st v w → me_at p l e R s m args below meth c Q C nL c0 s0 (pc + len) k L st v w) (h : me_op cs J KR KX km sx pc a b ts k L v w nx st 23) : me_at p l e R s m args below meth c Q C nL c0 s0 pc k L st v w := by
  simp only [me_op] at h
  obtain ⟨i, st1, rfl, g1⟩ := me_tI_inv h
  obtain ⟨r, st2, rfl, g2⟩ := me_tR_inv g1
  clear h g1
  intro H locs ls hP hD hS hl
  obtain ⟨hx, hb, hml, hown, hts, hW, hB⟩ := F
  simp only [me_ck] at hck
  split at hck
  · rename_i hd
    simp only [decide_eq_true_eq] at hck
    subst hck
    split at g2
    · rename_i n hal
      obtain ⟨hin, g3⟩ := g2
      exact va_lald hx hb hW.1 hP r 1 (by rw [me_get C v w (me_lt (me_al_sk hal)), me_enA1 C v w hal]) rfl hin hd (hn _ _ _ _ _ g3 H locs ls hP hD hS hl)
    · exact g2.elim
  · cases hck

theorem me_s24 {cs : Nat → Nat × me_P} {J : Nat → Nat → me_L → List me_S → me_V → me_U → Prop} {KR : me_K} {KX : Nat → Nat → me_L → Nat → me_V → me_U → Prop} {km : Nat} {sx : me_Sc} (F : me_Fx p s m args c C cc nL own) (hck : me_ck nm own cc nL ret cl9 pc a b ts len ix pp 24 = true) (hn : ∀ k L st v w, nx k L st v w → me_at p l e R s m args below meth c Q C nL c0 s0 (pc + len) k L st v w) (h : me_op cs J KR KX km sx pc a b ts k L v w nx st 24) : me_at p l e R s m args below meth c Q C nL c0 s0 pc k L st v w := by
  simp only [me_op] at h
  obtain ⟨x, st0, rfl, g0⟩ := me_tL_inv h
  obtain ⟨i, st1, rfl, g1⟩ := me_tI_inv g0
  obtain ⟨r, st2, rfl, g2⟩ := me_tR_inv g1
  clear h g0 g1
  intro H locs ls hP hD hS hl
  obtain ⟨hx, hb, hml, hown, hts, hW, hB⟩ := F
  simp only [me_ck] at hck
  split at hck
  · rename_i hd
    simp only [decide_eq_true_eq] at hck
    subst hck
    split at g2
    · rename_i n hal
      obtain ⟨hin, g3⟩ := g2
      have hlt := me_lt (me_al_sk hal)
      refine va_last hx hb hW.1 hP hD hS r 1 (by rw [me_get C v w hlt, me_enA1 C v w hal]) rfl hin hd (fun H1 locs1 hP1 hD1 hS1 => ?_)
      rw [me_set C hlt (v2 := v) (w2 := me_ul w r i.toNatClampNeg x) (by rw [me_enA1 C _ _ hal, me_ul_s]) (me_othL C v w _ _)] at hP1 hD1
      exact hn _ _ _ _ _ g3 H1 locs1 ls hP1 hD1 hS1 hl
    · exact g2.elim
  · cases hck

theorem me_s25 {cs : Nat → Nat × me_P} {J : Nat → Nat → me_L → List me_S → me_V → me_U → Prop} {KR : me_K} {KX : Nat → Nat → me_L → Nat → me_V → me_U → Prop} {km : Nat} {sx : me_Sc} (F : me_Fx p s m args c C cc nL own) (hck : me_ck nm own cc nL ret cl9 pc a b ts len ix pp 25 = true) (hn : ∀ k L st v w, nx k L st v w → me_at p l e R s m args below meth c Q C nL c0 s0 (pc + len) k L st v w) (h : me_op cs J KR KX km sx pc a b ts k L v w nx st 25) : me_at p l e R s m args below meth c Q C nL c0 s0 pc k L st v w := by
  simp only [me_op] at h
  obtain ⟨i, st1, rfl, g1⟩ := me_tI_inv h
  obtain ⟨r, st2, rfl, g2⟩ := me_tR_inv g1
  clear h g1
  intro H locs ls hP hD hS hl
  obtain ⟨hx, hb, hml, hown, hts, hW, hB⟩ := F
  simp only [me_ck] at hck
  split at hck
  · rename_i hd
    simp only [decide_eq_true_eq] at hck
    subst hck
    split at g2
    · rename_i n hal
      obtain ⟨hin, g3⟩ := g2
      exact va_zald hx hb hW.1 hP r 2 (by rw [me_get C v w (me_lt (me_al_sk hal)), me_enA2 C v w hal]) rfl hin hd (hn _ _ _ _ _ g3 H locs ls hP hD hS hl)
    · exact g2.elim
  · cases hck

theorem me_s26 {cs : Nat → Nat × me_P} {J : Nat → Nat → me_L → List me_S → me_V → me_U → Prop} {KR : me_K} {KX : Nat → Nat → me_L → Nat → me_V → me_U → Prop} {km : Nat} {sx : me_Sc} (F : me_Fx p s m args c C cc nL own) (hck : me_ck nm own cc nL ret cl9 pc a b ts len ix pp 26 = true) (hn : ∀ k L st v w, nx k L st v w → me_at p l e R s m args below meth c Q C nL c0 s0 (pc + len) k L st v w) (h : me_op cs J KR KX km sx pc a b ts k L v w nx st 26) : me_at p l e R s m args below meth c Q C nL c0 s0 pc k L st v w := by
  simp only [me_op] at h
  obtain ⟨x, st0, rfl, g0⟩ := me_tI_inv h
  obtain ⟨i, st1, rfl, g1⟩ := me_tI_inv g0
  obtain ⟨r, st2, rfl, g2⟩ := me_tR_inv g1
  clear h g0 g1
  intro H locs ls hP hD hS hl
  obtain ⟨hx, hb, hml, hown, hts, hW, hB⟩ := F
  simp only [me_ck] at hck
  split at hck
  · rename_i hd
    simp only [decide_eq_true_eq] at hck
    subst hck
    split at g2
    · rename_i n hal
      obtain ⟨h01, hin, g3⟩ := g2
      have hlt := me_lt (me_al_sk hal)
      refine va_zast hx hb hW.1 hP hD hS r 2 (by rw [me_get C v w hlt, me_enA2 C v w hal]) rfl hin hd (fun H1 locs1 hP1 hD1 hS1 => ?_)
      rw [me_set C hlt (v2 := me_up v r i.toNatClampNeg x) (w2 := w) (by rw [me_enA2 C _ _ hal, me_up_s]; rcases h01 with rfl | rfl <;> rfl) (me_oth C v w _ _)] at hP1 hD1
      exact hn _ _ _ _ _ g3 H1 locs1 ls hP1 hD1 hS1 hl
    · exact g2.elim
  · cases hck

theorem me_s27 {cs : Nat → Nat × me_P} {J : Nat → Nat → me_L → List me_S → me_V → me_U → Prop} {KR : me_K} {KX : Nat → Nat → me_L → Nat → me_V → me_U → Prop} {km : Nat} {sx : me_Sc} (F : me_Fx p s m args c C cc nL own) (hck : me_ck nm own cc nL ret cl9 pc a b ts len ix pp 27 = true) (hn : ∀ k L st v w, nx k L st v w → me_at p l e R s m args below meth c Q C nL c0 s0 (pc + len) k L st v w) (h : me_op cs J KR KX km sx pc a b ts k L v w nx st 27) : me_at p l e R s m args below meth c Q C nL c0 s0 pc k L st v w := by
  simp only [me_op] at h
  obtain ⟨i, st1, rfl, g1⟩ := me_tI_inv h
  obtain ⟨r, st2, rfl, g2⟩ := me_tR_inv g1
  clear h g1
  intro H locs ls hP hD hS hl
  obtain ⟨hx, hb, hml, hown, hts, hW, hB⟩ := F
  simp only [me_ck] at hck
  split at hck
  · rename_i hd
    simp only [decide_eq_true_eq] at hck
    subst hck
    split at g2
    · rename_i n hal
      obtain ⟨hin, g3⟩ := g2
      refine va_aldq hx hb hW.1 hP r 3 (by rw [me_get C v w (me_lt (me_al_sk hal)), me_enA3 C v w hal]) rfl hin hd ?_
      have hlt : i.toNatClampNeg < n := Nat.not_le.mp fun q => hin (Or.inr q)
      rw [if_pos hlt]
      exact hn _ _ _ _ _ g3 H locs ls hP hD hS hl
    · exact g2.elim
  · cases hck
theorem me_s28 {cs : Nat → Nat × me_P} {J : Nat → Nat → me_L → List me_S → me_V → me_U → Prop} {KR : me_K} {KX : Nat → Nat → me_L → Nat → me_V → me_U → Prop} {km : Nat} {sx : me_Sc} (F : me_Fx p s m args c C cc nL own) (hck : me_ck nm own cc nL ret cl9 pc a b ts len ix pp 28 = true) (hn : ∀ k L st v w, nx k L st v w → me_at p l e R s m args below meth c Q C nL c0 s0 (pc + len) k L st v w) (h : me_op cs J KR KX km sx pc a b ts k L v w nx st 28) : me_at p l e R s m args below meth c Q C nL c0 s0 pc k L st v w := by
  simp only [me_op] at h
  obtain ⟨r, st1, rfl, g1⟩ := me_tR_inv h
  clear h
  intro H locs ls hP hD hS hl
  obtain ⟨hx, hb, hml, hown, hts, hW, hB⟩ := F
  simp only [me_ck] at hck
  split at hck
  · rename_i hd
    simp only [decide_eq_true_eq] at hck
    subst hck
    split at g1
    · rename_i kd n hal
      have h1 := hn _ _ _ _ _ g1 H locs ls hP hD hS hl
      have hlt := me_lt (me_al_sk hal)
      rcases kd with _ | _ | _ | kd
      · exact va_alen (x := (n, Sum.inl (v r))) (v := nI n) hx hb hW.1 hP r 0 (by rw [me_get C v w hlt, me_enA0 C v w hal]) rfl rfl hd h1
      · exact va_alen (x := (n, Sum.inr (Sum.inl (w r)))) (v := nI n) hx hb hW.1 hP r 1 (by rw [me_get C v w hlt, me_enA1 C v w hal]) rfl rfl hd h1
      · exact va_alen (x := (n, Sum.inl (v r))) (v := nI n) hx hb hW.1 hP r 2 (by rw [me_get C v w hlt, me_enA2 C v w hal]) rfl rfl hd h1
      · have hen : me_en C v w r = .inl (C.2.2.2.2.2.1, n, .inr (.inr (.inr (.inr (fun j => if j < n then some (me_ad C (me_tg r j)) else none))))) := by
          simp only [me_en, me_al_sk hal]
        exact va_alen (x := (n, Sum.inr (Sum.inr (Sum.inr (Sum.inr (fun j => if j < n then some (me_ad C (me_tg r j)) else none)))))) (v := nI n) hx hb hW.1 hP r 3 (by rw [me_get C v w hlt, hen]) rfl rfl hd h1
    · exact g1.elim
  · cases hck
end HEA
