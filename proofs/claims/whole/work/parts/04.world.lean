/-! ===== values, memory, the skeleton of the objects ===== -/
abbrev me_S : Type := Int32 ⊕ (Int64 ⊕ (Nat ⊕ Nat))
abbrev vI (x : Int32) : me_S := Sum.inl x
abbrev vL (x : Int64) : me_S := Sum.inr (Sum.inl x)
abbrev vR (k : Nat) : me_S := Sum.inr (Sum.inr (Sum.inl k))
abbrev vQ (q : Nat) : me_S := Sum.inr (Sum.inr (Sum.inr q))
abbrev me_V : Type := Nat → Nat → Int32
abbrev me_U : Type := Nat → Nat → Int64
abbrev me_L : Type := List (Nat × me_S)
abbrev me_K : Type := Option me_S → me_V → me_U → Prop
abbrev me_X : Type := Nat → me_V → me_U → Prop
abbrev me_P : Type := List me_S → me_V → me_U → me_K → me_X → Prop
def me_vl (ad : Nat → Nat) : me_S → Value
  | .inl x => .int x
  | .inr (.inl x) => .long x
  | .inr (.inr (.inl k)) => .ref (ad k)
  | .inr (.inr (.inr q)) => .ref q
def me_wd : me_S → Nat
  | .inr (.inl _) => 2
  | _ => 1
def me_kd : me_S → Nat
  | .inl _ => 0
  | .inr (.inl _) => 1
  | _ => 2
theorem me_wd_ok (ad : Nat → Nat) (x : me_S) : (me_vl ad x).category = me_wd x := by
  rcases x with x | x | x | x <;> rfl
def me_ws9 (l : List me_S) : Nat := (l.map me_wd).sum
theorem me_ws9_ok (ad : Nat → Nat) (l : List me_S) : ((l.map (me_vl ad)).map fun v => v.category).sum = me_ws9 l := by
  unfold me_ws9
  rw [List.map_map]
  congr 1
  apply List.map_congr_left
  intro x _
  exact me_wd_ok ad x
/-- the cells: an array (kind, length), or an object (class, its fields: .inl kind, .inr cell) -/
def me_skS (b : Nat) : List ((Nat × Nat) ⊕ (Nat × List (Nat ⊕ Nat))) :=
  [.inr (3, [.inl 0, .inl 0, .inr (b + 1), .inr (b + 2), .inr (b + 3), .inr (b + 4), .inr (b + 5), .inr (b + 6), .inr (b + 7), .inr (b + 8)]),
   .inl (0, 24), .inl (0, 24), .inl (0, 216), .inl (0, 24), .inl (0, 4), .inl (0, 4), .inl (0, 4), .inl (0, 3)]
def me_skR (b : Nat) : List ((Nat × Nat) ⊕ (Nat × List (Nat ⊕ Nat))) :=
  [.inr (1, [.inl 0, .inl 1, .inr (b + 1), .inr (b + 2), .inr (b + 3), .inl 0, .inr (b + 4), .inr (b + 5)]),
   .inl (0, 96), .inl (0, 96), .inl (1, 96), .inl (1, 864), .inl (0, 864)]
def me_skM : List ((Nat × Nat) ⊕ (Nat × List (Nat ⊕ Nat))) :=
  [.inr (7, [.inl 0, .inr 208, .inl 0, .inl 0, .inl 2, .inl 0, .inr 209, .inr 210, .inr 211, .inr 212, .inl 0, .inr 213, .inr 214, .inr 215, .inr 216, .inr 217, .inl 0, .inr 218, .inl 0, .inr 219, .inr 220, .inr 221, .inl 0, .inr 222, .inl 0]),
   .inl (0, 160), .inl (0, 305), .inl (0, 305), .inl (0, 305), .inl (0, 4270), .inl (0, 610), .inl (2, 2), .inl (0, 96), .inl (0, 96), .inl (1, 97), .inl (1, 864), .inl (0, 96), .inl (0, 96), .inl (1, 97), .inl (1, 864), .inl (1, 1)]
def me_skl : List ((Nat × Nat) ⊕ (Nat × List (Nat ⊕ Nat))) :=
  [.inr (6, [.inr 1, .inr 12, .inr 21, .inr 149, .inr 150, .inr 151, .inr 157, .inr 163, .inr 166, .inr 188])]
  ++ ([.inr (4, [.inr 2, .inl 0, .inl 2, .inl 0, .inl 0, .inr 3]), .inl (0, 160)] ++ (me_skS 3 ++ (me_skS 12
  ++ ([.inr (0, [.inr 22, .inl 0, .inl 0]), .inl (3, 14)] ++ (me_skS 23 ++ (me_skS 32 ++ (me_skS 41 ++ (me_skS 50 ++ (me_skS 59 ++ (me_skS 68 ++ (me_skS 77 ++ (me_skS 86 ++ (me_skS 95 ++ (me_skS 104 ++ (me_skS 113 ++ (me_skS 122 ++ (me_skS 131 ++ (me_skS 140
  ++ ([.inl (3, 2), .inl (2, 2)] ++ (me_skR 151 ++ (me_skR 157 ++ ([.inr (5, [.inl 0, .inr 164, .inr 165]), .inl (0, 24), .inl (0, 24)]
  ++ ([.inr (2, [.inr 167, .inr 176, .inr 182, .inl 0, .inl 0, .inl 0, .inl 0])] ++ (me_skS 167 ++ (me_skR 176 ++ (me_skR 182 ++ ([.inl (0, 3)] ++ (me_skS 189 ++ (me_skS 198
  ++ me_skM)))))))))))))))))))))))))))))
def me_NC : Nat := 224
theorem me_skl_len : me_skl.length = me_NC := by decide +kernel
def me_sk (k : Nat) : Option ((Nat × Nat) ⊕ (Nat × List (Nat ⊕ Nat))) := me_skl[k]?
/-- the kind of a field: class c, slot j of the object k -/
def me_gf (k c j : Nat) : Option (Nat ⊕ Nat) := match me_sk k with
  | some (.inr (c2, fl)) => if c2 = c then fl[j]? else none
  | _ => none
def me_al (k : Nat) : Option (Nat × Nat) := match me_sk k with
  | some (.inl p) => some p
  | _ => none
def me_oc (k : Nat) : Option Nat := match me_sk k with
  | some (.inr (c, _)) => some c
  | _ => none
def me_tg (k j : Nat) : Nat := if k = 22 then 23 + 9 * j else 189 + 9 * j
def me_fv (ad : Nat → Nat) (v : me_V) (w : me_U) (k j : Nat) : Nat ⊕ Nat → Value
  | .inl 1 => .long (w k j)
  | .inl _ => .int (v k j)
  | .inr t => .ref (ad t)
def me_fs (ad : Nat → Nat) (v : me_V) (w : me_U) (k : Nat) : Nat → List (Nat ⊕ Nat) → List Value
  | _, [] => []
  | j, c :: l => me_fv ad v w k j c :: me_fs ad v w k (j + 1) l
theorem me_fs_get (ad : Nat → Nat) (v : me_V) (w : me_U) (k : Nat) : ∀ (l : List (Nat ⊕ Nat)) (i j : Nat), (me_fs ad v w k i l)[j]? = (l[j]?).map (me_fv ad v w k (i + j))
  | [], i, j => by simp [me_fs]
  | c :: l, i, 0 => by simp [me_fs]
  | c :: l, i, j + 1 => by
    have h := me_fs_get ad v w k l (i + 1) j
    simp only [me_fs, List.getElem?_cons_succ, h]
    rw [show i + 1 + j = i + (j + 1) by omega]
theorem me_fs_len (ad : Nat → Nat) (v : me_V) (w : me_U) (k : Nat) : ∀ (l : List (Nat ⊕ Nat)) (i : Nat), (me_fs ad v w k i l).length = l.length
  | [], i => rfl
  | c :: l, i => by simp [me_fs, me_fs_len ad v w k l (i + 1)]
def me_up (v : me_V) (k j : Nat) (x : Int32) : me_V := fun a => if a = k then upd (v k) j x else v a
def me_ul (w : me_U) (k j : Nat) (x : Int64) : me_U := fun a => if a = k then vp_updL (w k) j x else w a
theorem me_up_s (v : me_V) (k j : Nat) (x : Int32) : me_up v k j x k = upd (v k) j x := by simp [me_up]
theorem me_up_n (v : me_V) {k a : Nat} (j : Nat) (x : Int32) (h : a ≠ k) : me_up v k j x a = v a := by simp [me_up, h]
theorem me_ul_s (w : me_U) (k j : Nat) (x : Int64) : me_ul w k j x k = vp_updL (w k) j x := by simp [me_ul]
theorem me_ul_n (w : me_U) {k a : Nat} (j : Nat) (x : Int64) (h : a ≠ k) : me_ul w k j x a = w a := by simp [me_ul, h]
/-- what the walk's worlds need beside the numbers: the tables' classes, the addresses, the array classes (int, long, boolean, State), where the worlds begin -/
abbrev me_C : Type := va_G × (Nat → Nat) × ClassId × ClassId × ClassId × ClassId × Nat
abbrev me_ad (C : me_C) : Nat → Nat := C.2.1
abbrev me_B (C : me_C) : Nat := C.2.2.2.2.2.2
def me_A (C : me_C) : Nat → Prop := fun q => me_B C ≤ q
def me_en (C : me_C) (v : me_V) (w : me_U) (k : Nat) : va_E := match me_sk k with
  | some (.inl (0, n)) => .inl (C.2.2.1, n, .inl (v k))
  | some (.inl (1, n)) => .inl (C.2.2.2.1, n, .inr (.inl (w k)))
  | some (.inl (2, n)) => .inl (C.2.2.2.2.1, n, .inl (v k))
  | some (.inl (_, n)) => .inl (C.2.2.2.2.2.1, n, .inr (.inr (.inr (.inr (fun j => if j < n then some (me_ad C (me_tg k j)) else none)))))
  | some (.inr (c, l)) => .inr (c, me_fs (me_ad C) v w k 0 l)
  | none => .inr (99, [])
def me_ws (C : me_C) (v : me_V) (w : me_U) : va_W := (List.range me_NC).map (fun k => (me_ad C k, me_en C v w k))
theorem me_sk_lt {k : Nat} (h : (me_sk k).isSome = true) : k < me_NC := by
  rw [← me_skl_len]
  unfold me_sk at h
  rcases Nat.lt_or_ge k me_skl.length with q | q
  · exact q
  · rw [List.getElem?_eq_none q] at h
    cases h
theorem me_get (C : me_C) (v : me_V) (w : me_U) {k : Nat} (h : k < me_NC) : (me_ws C v w)[k]? = some (me_ad C k, me_en C v w k) := by
  unfold me_ws
  rw [List.getElem?_map, List.getElem?_range h]
  rfl
theorem me_set (C : me_C) {v v2 : me_V} {w w2 : me_U} {k : Nat} {e : va_E} (h : k < me_NC) (he : me_en C v2 w2 k = e) (ho : ∀ j : Nat, j ≠ k → me_en C v2 w2 j = me_en C v w j) : (me_ws C v w).set k (me_ad C k, e) = me_ws C v2 w2 := by
  have hl : k < (me_ws C v w).length := by unfold me_ws; rw [List.length_map, List.length_range]; exact h
  apply List.ext_getElem?
  intro j
  by_cases hj : j = k
  · subst hj
    rw [List.getElem?_set_self hl, me_get C v2 w2 h, he]
  · rw [List.getElem?_set_ne (Ne.symm hj)]
    unfold me_ws
    rw [List.getElem?_map, List.getElem?_map]
    rcases Nat.lt_or_ge j me_NC with q | q
    · rw [List.getElem?_range q]
      show some (me_ad C j, me_en C v w j) = some (me_ad C j, me_en C v2 w2 j)
      rw [ho j hj]
    · rw [List.getElem?_eq_none (by rw [List.length_range]; exact q)]
      rfl
theorem me_fv_congr {ad : Nat → Nat} {v v2 : me_V} {w w2 : me_U} {k j : Nat} (hv : v2 k j = v k j) (hw : w2 k j = w k j) (c : Nat ⊕ Nat) : me_fv ad v2 w2 k j c = me_fv ad v w k j c := by
  rcases c with n | t
  · unfold me_fv
    split <;> simp_all
  · rfl
theorem me_fs_congr {ad : Nat → Nat} {v v2 : me_V} {w w2 : me_U} {k : Nat} (hv : v2 k = v k) (hw : w2 k = w k) : ∀ (l : List (Nat ⊕ Nat)) (i : Nat), me_fs ad v2 w2 k i l = me_fs ad v w k i l
  | [], i => rfl
  | c :: l, i => by
    simp only [me_fs]
    rw [me_fs_congr hv hw l (i + 1), me_fv_congr (by rw [hv]) (by rw [hw])]
theorem me_en_congr (C : me_C) {v v2 : me_V} {w w2 : me_U} {k : Nat} (hv : v2 k = v k) (hw : w2 k = w k) : me_en C v2 w2 k = me_en C v w k := by
  unfold me_en
  split
  · rw [hv]
  · rw [hw]
  · rw [hv]
  · rfl
  · rw [me_fs_congr hv hw]
  · rfl
theorem me_oth (C : me_C) (v : me_V) (w : me_U) {k : Nat} (i : Nat) (x : Int32) (j : Nat) (h : j ≠ k) : me_en C (me_up v k i x) w j = me_en C v w j := me_en_congr C (me_up_n v i x h) rfl
theorem me_othL (C : me_C) (v : me_V) (w : me_U) {k : Nat} (i : Nat) (x : Int64) (j : Nat) (h : j ≠ k) : me_en C v (me_ul w k i x) j = me_en C v w j := me_en_congr C rfl (me_ul_n w i x h)
theorem me_al_sk {k : Nat} {p : Nat × Nat} (h : me_al k = some p) : me_sk k = some (.inl p) := by
  unfold me_al at h
  split at h
  · rename_i hs; rw [hs]; cases h; rfl
  · cases h
theorem me_gf_sk {k c j : Nat} {q : Nat ⊕ Nat} (h : me_gf k c j = some q) : ∃ fl : List (Nat ⊕ Nat), me_sk k = some (.inr (c, fl)) ∧ fl[j]? = some q := by
  unfold me_gf at h
  split at h
  · rename_i c2 fl hs
    split at h
    · rename_i hc
      subst hc
      exact ⟨fl, hs, h⟩
    · cases h
  · cases h
theorem me_oc_sk {k c : Nat} (h : me_oc k = some c) : ∃ fl : List (Nat ⊕ Nat), me_sk k = some (.inr (c, fl)) := by
  unfold me_oc at h
  split at h
  · rename_i c2 fl hs; cases h; exact ⟨fl, hs⟩
  · cases h
theorem me_lt {k : Nat} {q : (Nat × Nat) ⊕ (Nat × List (Nat ⊕ Nat))} (h : me_sk k = some q) : k < me_NC := me_sk_lt (by rw [h]; rfl)
theorem me_fs_up (ad : Nat → Nat) (v : me_V) (w : me_U) (k j : Nat) (x : Int32) : ∀ (l : List (Nat ⊕ Nat)) (i : Nat), j < i → me_fs ad (me_up v k j x) w k i l = me_fs ad v w k i l
  | [], i, _ => rfl
  | d :: l, i, h => by
    have h1 := me_fs_up ad v w k j x l (i + 1) (by omega)
    have h2 : me_up v k j x k i = v k i := by rw [me_up_s]; unfold upd; rw [if_neg (by omega)]
    simp only [me_fs]
    rw [h1, me_fv_congr h2 rfl d]
theorem me_fs_upL (ad : Nat → Nat) (v : me_V) (w : me_U) (k j : Nat) (x : Int64) : ∀ (l : List (Nat ⊕ Nat)) (i : Nat), j < i → me_fs ad v (me_ul w k j x) k i l = me_fs ad v w k i l
  | [], i, _ => rfl
  | d :: l, i, h => by
    have h1 := me_fs_upL ad v w k j x l (i + 1) (by omega)
    have h2 : me_ul w k j x k i = w k i := by rw [me_ul_s]; unfold vp_updL; rw [if_neg (by omega)]
    simp only [me_fs]
    rw [h1, me_fv_congr rfl h2 d]
/-- a field of an object set -/
theorem me_fs_set0 (ad : Nat → Nat) (v : me_V) (w : me_U) (k j : Nat) (x : Int32) {c : Nat} (hc : c ≠ 1) : ∀ (l : List (Nat ⊕ Nat)) (i n : Nat), i + n = j → l[n]? = some (.inl c) → (me_fs ad v w k i l).set n (.int x) = me_fs ad (me_up v k j x) w k i l
  | [], i, n, _, h => by simp at h
  | d :: l, i, 0, hj, h => by
    have hd : d = .inl c := by simpa using h
    subst hd
    have hij : j = i := by omega
    subst hij
    have h2 : me_up v k j x k j = x := by rw [me_up_s]; unfold upd; rw [if_pos rfl]
    have e1 : me_fv ad (me_up v k j x) w k j (.inl c) = .int x := by
      unfold me_fv
      split
      · rename_i e; exact absurd (Sum.inl.inj e) hc
      · rw [h2]
      · rename_i e; cases e
    simp only [me_fs, List.set_cons_zero]
    rw [e1, me_fs_up ad v w k j x l (j + 1) (by omega)]
  | d :: l, i, n + 1, hj, h => by
    have h1 := me_fs_set0 ad v w k j x hc l (i + 1) n (by omega) (by simpa using h)
    have h2 : me_up v k j x k i = v k i := by rw [me_up_s]; unfold upd; rw [if_neg (by omega)]
    simp only [me_fs, List.set_cons_succ]
    rw [h1, me_fv_congr h2 rfl d]
theorem me_fs_set1 (ad : Nat → Nat) (v : me_V) (w : me_U) (k j : Nat) (x : Int64) : ∀ (l : List (Nat ⊕ Nat)) (i n : Nat), i + n = j → l[n]? = some (.inl 1) → (me_fs ad v w k i l).set n (.long x) = me_fs ad v (me_ul w k j x) k i l
  | [], i, n, _, h => by simp at h
  | d :: l, i, 0, hj, h => by
    have hd : d = .inl 1 := by simpa using h
    subst hd
    have hij : j = i := by omega
    subst hij
    have h2 : me_ul w k j x k j = x := by rw [me_ul_s]; unfold vp_updL; rw [if_pos rfl]
    have e1 : me_fv ad v (me_ul w k j x) k j (.inl 1) = .long x := by
      show Value.long (me_ul w k j x k j) = .long x
      rw [h2]
    simp only [me_fs, List.set_cons_zero]
    rw [e1, me_fs_upL ad v w k j x l (j + 1) (by omega)]
  | d :: l, i, n + 1, hj, h => by
    have h1 := me_fs_set1 ad v w k j x l (i + 1) n (by omega) (by simpa using h)
    have h2 : me_ul w k j x k i = w k i := by rw [me_ul_s]; unfold vp_updL; rw [if_neg (by omega)]
    simp only [me_fs, List.set_cons_succ]
    rw [h1, me_fv_congr rfl h2 d]
theorem me_enA0 (C : me_C) (v : me_V) (w : me_U) {k n : Nat} (h : me_al k = some (0, n)) : me_en C v w k = .inl (C.2.2.1, n, .inl (v k)) := by simp only [me_en, me_al_sk h]
theorem me_enA1 (C : me_C) (v : me_V) (w : me_U) {k n : Nat} (h : me_al k = some (1, n)) : me_en C v w k = .inl (C.2.2.2.1, n, .inr (.inl (w k))) := by simp only [me_en, me_al_sk h]
theorem me_enA2 (C : me_C) (v : me_V) (w : me_U) {k n : Nat} (h : me_al k = some (2, n)) : me_en C v w k = .inl (C.2.2.2.2.1, n, .inl (v k)) := by simp only [me_en, me_al_sk h]
theorem me_enA3 (C : me_C) (v : me_V) (w : me_U) {k n : Nat} (h : me_al k = some (3, n)) : me_en C v w k = .inl (C.2.2.2.2.2.1, n, .inr (.inr (.inr (.inr (fun j => if j < n then some (me_ad C (me_tg k j)) else none))))) := by simp only [me_en, me_al_sk h]
theorem me_enO (C : me_C) (v : me_V) (w : me_U) {k c : Nat} {fl : List (Nat ⊕ Nat)} (h : me_sk k = some (.inr (c, fl))) : me_en C v w k = .inr (c, me_fs (me_ad C) v w k 0 fl) := by simp only [me_en, h]
/-- the array classes, the classes -/
def me_ty (C : me_C) : List (ClassId × FieldType) := [(C.2.2.1, .int), (C.2.2.2.1, .long), (C.2.2.2.2.1, .boolean), (C.2.2.2.2.2.1, .object "ClickTrack$State")]
def me_cl : List vw_C := [(RX0, TX0, 3), (RX1, TX1, 8), (RX2, TX2, 7), (RX3, TX3, 10), (RX4, TX4, 6), (RX5, TX5, 3), (RX6, TX6, 10), (RX7, TX7, 25)]
