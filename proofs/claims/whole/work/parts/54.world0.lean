/-! ===== the world that the law has made ===== -/
abbrev sgC (D : va_G) (B cI cJ cZ cS : Nat) : me_C := (D, (fun k => B + k), cI, cJ, cZ, cS, B)
def sgv : me_V := me_up (fun _ _ => 0) 207 5 (-(nI 9))
def sgw : me_U := fun _ _ => 0
theorem sgv0 {c : Nat} (h : c ≠ 207) : sgv c = fun _ => 0 := me_up_n _ _ _ h
def me_sg (C : me_C) (b n : Nat) : va_W := (List.range' b n).map (fun k => (me_ad C k, me_en C sgv sgw k))
theorem me_sg_app {C : me_C} (b n m : Nat) : me_sg C b (n + m) = me_sg C b n ++ me_sg C (b + n) m := by
  unfold me_sg
  rw [← List.map_append, ← List.range'_append_1]
theorem me_sg_all {C : me_C} : me_ws C sgv sgw = me_sg C 0 224 := by
  unfold me_ws me_sg me_NC
  rw [List.range_eq_range']
section SG
variable {D : va_G} {B cI cJ cZ cS : Nat}
theorem sg_0 {k n : Nat} (h : me_al k = some (0, n)) (hk : k ≠ 207) : me_sg (sgC D B cI cJ cZ cS) k 1 = [(B + k, .inl (cI, n, .inl (fun _ => 0)))] := by
  show [(B + k, me_en (sgC D B cI cJ cZ cS) sgv sgw k)] = _
  rw [me_enA0 _ _ _ h, sgv0 hk]
theorem sg_1 {k n : Nat} (h : me_al k = some (1, n)) : me_sg (sgC D B cI cJ cZ cS) k 1 = [(B + k, .inl (cJ, n, .inr (.inl (fun _ => 0))))] := by
  show [(B + k, me_en (sgC D B cI cJ cZ cS) sgv sgw k)] = _
  rw [me_enA1 _ _ _ h]
  rfl
theorem sg_2 {k n : Nat} (h : me_al k = some (2, n)) (hk : k ≠ 207) : me_sg (sgC D B cI cJ cZ cS) k 1 = [(B + k, .inl (cZ, n, .inl (fun _ => 0)))] := by
  show [(B + k, me_en (sgC D B cI cJ cZ cS) sgv sgw k)] = _
  rw [me_enA2 _ _ _ h, sgv0 hk]
theorem sg_3 {k n : Nat} (h : me_al k = some (3, n)) : me_sg (sgC D B cI cJ cZ cS) k 1 = [(B + k, .inl (cS, n, .inr (.inr (.inr (.inr (fun j => if j < n then some (B + me_tg k j) else none))))))] := by
  show [(B + k, me_en (sgC D B cI cJ cZ cS) sgv sgw k)] = _
  rw [me_enA3 _ _ _ h]
theorem sg_o {k c : Nat} {fl : List (Nat ⊕ Nat)} (h : me_sk k = some (.inr (c, fl))) : me_sg (sgC D B cI cJ cZ cS) k 1 = [(B + k, .inr (c, me_fs (fun i => B + i) sgv sgw k 0 fl))] := by
  show [(B + k, me_en (sgC D B cI cJ cZ cS) sgv sgw k)] = _
  rw [me_enO _ _ _ h]
def sk_S (b : Nat) : Prop := me_sk b = some (.inr (3, [.inl 0, .inl 0, .inr (b + 1), .inr (b + 2), .inr (b + 3), .inr (b + 4), .inr (b + 5), .inr (b + 6), .inr (b + 7), .inr (b + 8)])) ∧ me_al (b + 1) = some (0, 24) ∧ me_al (b + 2) = some (0, 24) ∧ me_al (b + 3) = some (0, 216) ∧ me_al (b + 4) = some (0, 24) ∧ me_al (b + 5) = some (0, 4) ∧ me_al (b + 6) = some (0, 4) ∧ me_al (b + 7) = some (0, 4) ∧ me_al (b + 8) = some (0, 3) ∧ b + 9 ≤ 207
def sk_R (b : Nat) : Prop := me_sk b = some (.inr (1, [.inl 0, .inl 1, .inr (b + 1), .inr (b + 2), .inr (b + 3), .inl 0, .inr (b + 4), .inr (b + 5)])) ∧ me_al (b + 1) = some (0, 96) ∧ me_al (b + 2) = some (0, 96) ∧ me_al (b + 3) = some (1, 96) ∧ me_al (b + 4) = some (1, 864) ∧ me_al (b + 5) = some (0, 864) ∧ b + 6 ≤ 207
theorem sg_ov {k : Nat} (hk : k ≠ 207) (ad : Nat → Nat) : ∀ (fl : List (Nat ⊕ Nat)) (i : Nat), me_fs ad sgv sgw k i fl = fl.map (fun q => match q with | .inl 1 => Value.long 0 | .inl _ => Value.int 0 | .inr t => Value.ref (ad t))
  | [], _ => rfl
  | q :: fl, i => by
    unfold me_fs
    rw [sg_ov hk ad fl (i + 1), List.map_cons]
    congr 1
    unfold me_fv
    rcases q with n | n
    · have h : sgv k i = 0 := by rw [sgv0 hk]
      rcases n with _ | _ | n
      · show Value.int _ = Value.int _
        rw [h]
      · rfl
      · show Value.int _ = Value.int _
        rw [h]
    · rfl
theorem sg_S {b : Nat} (h : sk_S b) : cw_S (sgC D B cI cJ cZ cS) (B + b) = me_sg (sgC D B cI cJ cZ cS) b 9 := by
  obtain ⟨h0, h1, h2, h3, h4, h5, h6, h7, h8, hb⟩ := h
  rw [show (9 : Nat) = 1 + (1 + (1 + (1 + (1 + (1 + (1 + (1 + 1))))))) from rfl, me_sg_app, me_sg_app, me_sg_app, me_sg_app, me_sg_app, me_sg_app, me_sg_app, me_sg_app]
  rw [sg_o h0, sg_0 (k := b + 1) h1 (by omega), sg_0 (k := b + 1 + 1) h2 (by omega), sg_0 (k := b + 1 + 1 + 1) h3 (by omega), sg_0 (k := b + 1 + 1 + 1 + 1) h4 (by omega), sg_0 (k := b + 1 + 1 + 1 + 1 + 1) h5 (by omega), sg_0 (k := b + 1 + 1 + 1 + 1 + 1 + 1) h6 (by omega), sg_0 (k := b + 1 + 1 + 1 + 1 + 1 + 1 + 1) h7 (by omega), sg_0 (k := b + 1 + 1 + 1 + 1 + 1 + 1 + 1 + 1) h8 (by omega), sg_ov (by omega)]
  rfl
theorem sg_R {b : Nat} (h : sk_R b) : cw_R (sgC D B cI cJ cZ cS) (B + b) = me_sg (sgC D B cI cJ cZ cS) b 6 := by
  obtain ⟨h0, h1, h2, h3, h4, h5, hb⟩ := h
  rw [show (6 : Nat) = 1 + (1 + (1 + (1 + (1 + 1)))) from rfl, me_sg_app, me_sg_app, me_sg_app, me_sg_app, me_sg_app]
  rw [sg_o h0, sg_0 (k := b + 1) h1 (by omega), sg_0 (k := b + 1 + 1) h2 (by omega), sg_1 (k := b + 1 + 1 + 1) h3, sg_1 (k := b + 1 + 1 + 1 + 1) h4, sg_0 (k := b + 1 + 1 + 1 + 1 + 1) h5 (by omega), sg_ov (by omega)]
  rfl
theorem sk_h : ∀ i, i < 14 → sk_S (23 + 9 * i) := by
  intro i hi
  match i, hi with
  | 0, _ => unfold sk_S; decide +kernel
  | 1, _ => unfold sk_S; decide +kernel
  | 2, _ => unfold sk_S; decide +kernel
  | 3, _ => unfold sk_S; decide +kernel
  | 4, _ => unfold sk_S; decide +kernel
  | 5, _ => unfold sk_S; decide +kernel
  | 6, _ => unfold sk_S; decide +kernel
  | 7, _ => unfold sk_S; decide +kernel
  | 8, _ => unfold sk_S; decide +kernel
  | 9, _ => unfold sk_S; decide +kernel
  | 10, _ => unfold sk_S; decide +kernel
  | 11, _ => unfold sk_S; decide +kernel
  | 12, _ => unfold sk_S; decide +kernel
  | 13, _ => unfold sk_S; decide +kernel
theorem sk_s : ∀ i, i < 2 → sk_S (189 + 9 * i) := by
  intro i hi
  match i, hi with
  | 0, _ => unfold sk_S; decide +kernel
  | 1, _ => unfold sk_S; decide +kernel
theorem sg_fl {b c : Nat} (hc : c ≤ b) : ∀ n, (∀ i, i < n → sk_S (b + 9 * i)) → (List.range n).flatMap (fun i => cw_S (sgC D B cI cJ cZ cS) (B + (b - c) + (c + 9 * i))) = me_sg (sgC D B cI cJ cZ cS) b (9 * n)
  | 0, _ => rfl
  | n + 1, h => by
    rw [List.range_succ, List.flatMap_append, List.flatMap_singleton, sg_fl hc n (fun i hi => h i (by omega)), show 9 * (n + 1) = 9 * n + 9 by omega, me_sg_app, ← sg_S (h n (by omega)), show B + (b - c) + (c + 9 * n) = B + (b + 9 * n) by omega]
theorem sg_T : cw_T (sgC D B cI cJ cZ cS) (B + 1) = me_sg (sgC D B cI cJ cZ cS) 1 11 := by
  rw [show (11 : Nat) = 1 + (1 + 9) from rfl, me_sg_app, me_sg_app, sg_o (k := 1) (c := 4) (fl := [.inr 2, .inl 0, .inl 2, .inl 0, .inl 0, .inr 3]) (by decide +kernel), sg_0 (k := 1 + 1) (n := 160) (by decide +kernel) (by omega), sg_ov (by omega), ← sg_S (b := 1 + 1 + 1) (by unfold sk_S; decide +kernel)]
  rfl
theorem sg_O : cw_O (sgC D B cI cJ cZ cS) (B + 163) = me_sg (sgC D B cI cJ cZ cS) 163 3 := by
  rw [show (3 : Nat) = 1 + (1 + 1) from rfl, me_sg_app, me_sg_app, sg_o (k := 163) (c := 5) (fl := [.inl 0, .inr 164, .inr 165]) (by decide +kernel), sg_0 (k := 163 + 1) (n := 24) (by decide +kernel) (by omega), sg_0 (k := 163 + 1 + 1) (n := 24) (by decide +kernel) (by omega), sg_ov (by omega)]
  rfl
theorem sg_J : cw_J (sgC D B cI cJ cZ cS) (B + 166) = me_sg (sgC D B cI cJ cZ cS) 166 22 := by
  rw [show (22 : Nat) = 1 + (9 + (6 + 6)) from rfl, me_sg_app, me_sg_app, me_sg_app, sg_o (k := 166) (c := 2) (fl := [.inr 167, .inr 176, .inr 182, .inl 0, .inl 0, .inl 0, .inl 0]) (by decide +kernel), sg_ov (by omega), ← sg_S (b := 166 + 1) (by unfold sk_S; decide +kernel), ← sg_R (b := 166 + 1 + 9) (by unfold sk_R; decide +kernel), ← sg_R (b := 166 + 1 + 9 + 6) (by unfold sk_R; decide +kernel)]
  unfold cw_J
  simp only [List.append_assoc, List.cons_append, List.nil_append]
  rfl
theorem sg_cf {q k n c b : Nat} {f : Nat → Option Nat} (hf : f = fun i => if i < n then some (B + (b - c) + (c + 9 * i)) else none) (hc : c ≤ b) (ht : ∀ i, me_tg k i = b + 9 * i) : f = fun j => if j < n then some (B + me_tg k j) else none := by
  rw [hf]
  funext i
  rw [ht i, show B + (b - c) + (c + 9 * i) = B + (b + 9 * i) by omega]
theorem sg_H : cw_H (sgC D B cI cJ cZ cS) (B + 21) = me_sg (sgC D B cI cJ cZ cS) 21 128 := by
  rw [show (128 : Nat) = 1 + (1 + 9 * 14) from rfl, me_sg_app, me_sg_app, sg_o (k := 21) (c := 0) (fl := [.inr 22, .inl 0, .inl 0]) (by decide +kernel), sg_ov (by omega), sg_3 (k := 21 + 1) (n := 14) (by decide +kernel), ← sg_fl (b := 21 + 1 + 1) (c := 2) (by omega) 14 sk_h, ← sg_cf (q := 0) (B := B) (k := 21 + 1) (n := 14) (c := 2) (b := 23) (f := cf_H (B + 21) 14) rfl (by omega) (fun i => rfl)]
  rfl
theorem sg_M0 : me_sg (sgC D B cI cJ cZ cS) 207 1 = [(B + 207, .inr (7, [.int 0, .ref (B + 208), .int 0, .int 0, .int 0, .int (-(nI 9)), .ref (B + 209), .ref (B + 210), .ref (B + 211), .ref (B + 212), .int 0, .ref (B + 213), .ref (B + 214), .ref (B + 215), .ref (B + 216), .ref (B + 217), .int 0, .ref (B + 218), .int 0, .ref (B + 219), .ref (B + 220), .ref (B + 221), .int 0, .ref (B + 222), .int 0]))] := by
  rw [sg_o (k := 207) (c := 7) (fl := [.inl 0, .inr 208, .inl 0, .inl 0, .inl 2, .inl 0, .inr 209, .inr 210, .inr 211, .inr 212, .inl 0, .inr 213, .inr 214, .inr 215, .inr 216, .inr 217, .inl 0, .inr 218, .inl 0, .inr 219, .inr 220, .inr 221, .inl 0, .inr 222, .inl 0]) (by decide +kernel)]
  have e : sgv 207 = upd (fun _ => 0) 5 (-(nI 9)) := me_up_s _ _ _ _
  simp only [me_fs, me_fv, e]
  rfl
theorem sg_M : cw_M (sgC D B cI cJ cZ cS) (B + 207) = me_sg (sgC D B cI cJ cZ cS) 207 16 := by
  rw [(show me_sg (sgC D B cI cJ cZ cS) 207 16 = me_sg (sgC D B cI cJ cZ cS) 207 1 ++ me_sg (sgC D B cI cJ cZ cS) 208 15 from me_sg_app 207 1 15), (show me_sg (sgC D B cI cJ cZ cS) 208 15 = me_sg (sgC D B cI cJ cZ cS) 208 1 ++ me_sg (sgC D B cI cJ cZ cS) 209 14 from me_sg_app 208 1 14), (show me_sg (sgC D B cI cJ cZ cS) 209 14 = me_sg (sgC D B cI cJ cZ cS) 209 1 ++ me_sg (sgC D B cI cJ cZ cS) 210 13 from me_sg_app 209 1 13), (show me_sg (sgC D B cI cJ cZ cS) 210 13 = me_sg (sgC D B cI cJ cZ cS) 210 1 ++ me_sg (sgC D B cI cJ cZ cS) 211 12 from me_sg_app 210 1 12), (show me_sg (sgC D B cI cJ cZ cS) 211 12 = me_sg (sgC D B cI cJ cZ cS) 211 1 ++ me_sg (sgC D B cI cJ cZ cS) 212 11 from me_sg_app 211 1 11), (show me_sg (sgC D B cI cJ cZ cS) 212 11 = me_sg (sgC D B cI cJ cZ cS) 212 1 ++ me_sg (sgC D B cI cJ cZ cS) 213 10 from me_sg_app 212 1 10), (show me_sg (sgC D B cI cJ cZ cS) 213 10 = me_sg (sgC D B cI cJ cZ cS) 213 1 ++ me_sg (sgC D B cI cJ cZ cS) 214 9 from me_sg_app 213 1 9), (show me_sg (sgC D B cI cJ cZ cS) 214 9 = me_sg (sgC D B cI cJ cZ cS) 214 1 ++ me_sg (sgC D B cI cJ cZ cS) 215 8 from me_sg_app 214 1 8), (show me_sg (sgC D B cI cJ cZ cS) 215 8 = me_sg (sgC D B cI cJ cZ cS) 215 1 ++ me_sg (sgC D B cI cJ cZ cS) 216 7 from me_sg_app 215 1 7), (show me_sg (sgC D B cI cJ cZ cS) 216 7 = me_sg (sgC D B cI cJ cZ cS) 216 1 ++ me_sg (sgC D B cI cJ cZ cS) 217 6 from me_sg_app 216 1 6), (show me_sg (sgC D B cI cJ cZ cS) 217 6 = me_sg (sgC D B cI cJ cZ cS) 217 1 ++ me_sg (sgC D B cI cJ cZ cS) 218 5 from me_sg_app 217 1 5), (show me_sg (sgC D B cI cJ cZ cS) 218 5 = me_sg (sgC D B cI cJ cZ cS) 218 1 ++ me_sg (sgC D B cI cJ cZ cS) 219 4 from me_sg_app 218 1 4), (show me_sg (sgC D B cI cJ cZ cS) 219 4 = me_sg (sgC D B cI cJ cZ cS) 219 1 ++ me_sg (sgC D B cI cJ cZ cS) 220 3 from me_sg_app 219 1 3), (show me_sg (sgC D B cI cJ cZ cS) 220 3 = me_sg (sgC D B cI cJ cZ cS) 220 1 ++ me_sg (sgC D B cI cJ cZ cS) 221 2 from me_sg_app 220 1 2), (show me_sg (sgC D B cI cJ cZ cS) 221 2 = me_sg (sgC D B cI cJ cZ cS) 221 1 ++ me_sg (sgC D B cI cJ cZ cS) 222 1 from me_sg_app 221 1 1), sg_M0, sg_0 (k := 208) (n := 160) (by decide +kernel) (by omega), sg_0 (k := 209) (n := 305) (by decide +kernel) (by omega), sg_0 (k := 210) (n := 305) (by decide +kernel) (by omega), sg_0 (k := 211) (n := 305) (by decide +kernel) (by omega), sg_0 (k := 212) (n := 4270) (by decide +kernel) (by omega), sg_0 (k := 213) (n := 610) (by decide +kernel) (by omega), sg_2 (k := 214) (n := 2) (by decide +kernel) (by omega), sg_0 (k := 215) (n := 96) (by decide +kernel) (by omega), sg_0 (k := 216) (n := 96) (by decide +kernel) (by omega), sg_1 (k := 217) (n := 97) (by decide +kernel), sg_1 (k := 218) (n := 864) (by decide +kernel), sg_0 (k := 219) (n := 96) (by decide +kernel) (by omega), sg_0 (k := 220) (n := 96) (by decide +kernel) (by omega), sg_1 (k := 221) (n := 97) (by decide +kernel), sg_1 (k := 222) (n := 864) (by decide +kernel)]
  unfold cw_M
  simp only [List.append_assoc, List.cons_append, List.nil_append]
theorem sg_C : cw_C (sgC D B cI cJ cZ cS) (B + 0) = me_sg (sgC D B cI cJ cZ cS) 0 207 := by
  rw [(show me_sg (sgC D B cI cJ cZ cS) 0 207 = me_sg (sgC D B cI cJ cZ cS) 0 1 ++ me_sg (sgC D B cI cJ cZ cS) 1 206 from me_sg_app 0 1 206), (show me_sg (sgC D B cI cJ cZ cS) 1 206 = me_sg (sgC D B cI cJ cZ cS) 1 11 ++ me_sg (sgC D B cI cJ cZ cS) 12 195 from me_sg_app 1 11 195), (show me_sg (sgC D B cI cJ cZ cS) 12 195 = me_sg (sgC D B cI cJ cZ cS) 12 9 ++ me_sg (sgC D B cI cJ cZ cS) 21 186 from me_sg_app 12 9 186), (show me_sg (sgC D B cI cJ cZ cS) 21 186 = me_sg (sgC D B cI cJ cZ cS) 21 128 ++ me_sg (sgC D B cI cJ cZ cS) 149 58 from me_sg_app 21 128 58), (show me_sg (sgC D B cI cJ cZ cS) 149 58 = me_sg (sgC D B cI cJ cZ cS) 149 1 ++ me_sg (sgC D B cI cJ cZ cS) 150 57 from me_sg_app 149 1 57), (show me_sg (sgC D B cI cJ cZ cS) 150 57 = me_sg (sgC D B cI cJ cZ cS) 150 1 ++ me_sg (sgC D B cI cJ cZ cS) 151 56 from me_sg_app 150 1 56), (show me_sg (sgC D B cI cJ cZ cS) 151 56 = me_sg (sgC D B cI cJ cZ cS) 151 6 ++ me_sg (sgC D B cI cJ cZ cS) 157 50 from me_sg_app 151 6 50), (show me_sg (sgC D B cI cJ cZ cS) 157 50 = me_sg (sgC D B cI cJ cZ cS) 157 6 ++ me_sg (sgC D B cI cJ cZ cS) 163 44 from me_sg_app 157 6 44), (show me_sg (sgC D B cI cJ cZ cS) 163 44 = me_sg (sgC D B cI cJ cZ cS) 163 3 ++ me_sg (sgC D B cI cJ cZ cS) 166 41 from me_sg_app 163 3 41), (show me_sg (sgC D B cI cJ cZ cS) 166 41 = me_sg (sgC D B cI cJ cZ cS) 166 22 ++ me_sg (sgC D B cI cJ cZ cS) 188 19 from me_sg_app 166 22 19), (show me_sg (sgC D B cI cJ cZ cS) 188 19 = me_sg (sgC D B cI cJ cZ cS) 188 1 ++ me_sg (sgC D B cI cJ cZ cS) 189 18 from me_sg_app 188 1 18), ← sg_T, ← sg_S (b := 12) (by unfold sk_S; decide +kernel), ← sg_H, ← sg_R (b := 151) (by unfold sk_R; decide +kernel), ← sg_R (b := 157) (by unfold sk_R; decide +kernel), ← sg_O, ← sg_J, sg_o (k := 0) (c := 6) (fl := [.inr 1, .inr 12, .inr 21, .inr 149, .inr 150, .inr 151, .inr 157, .inr 163, .inr 166, .inr 188]) (by decide +kernel), sg_ov (by omega), sg_3 (k := 149) (n := 2) (by decide +kernel), sg_2 (k := 150) (n := 2) (by decide +kernel) (by omega), sg_0 (k := 188) (n := 3) (by decide +kernel) (by omega), (show me_sg (sgC D B cI cJ cZ cS) 189 18 = me_sg (sgC D B cI cJ cZ cS) 189 (9 * 2) from rfl), ← sg_fl (b := 189) (c := 189) (by omega) 2 sk_s, ← sg_cf (q := 0) (B := B) (k := 149) (n := 2) (c := 189) (b := 189) (f := cf_C (B + 0) 2) rfl (by omega) (fun i => rfl)]
  unfold cw_C cv_C
  simp only [List.append_assoc, List.cons_append, List.nil_append]
  rfl
theorem sg_W : ([] ++ cw_C (sgC D B cI cJ cZ cS) B ++ cw_M (sgC D B cI cJ cZ cS) (B + 207)) ++ [(B + 223, .inl (cJ, 1, .inr (.inl (fun _ => 0))))] = me_ws (sgC D B cI cJ cZ cS) sgv sgw := by
  rw [me_sg_all, (show me_sg (sgC D B cI cJ cZ cS) 0 224 = me_sg (sgC D B cI cJ cZ cS) 0 207 ++ me_sg (sgC D B cI cJ cZ cS) 207 17 from me_sg_app 0 207 17), (show me_sg (sgC D B cI cJ cZ cS) 207 17 = me_sg (sgC D B cI cJ cZ cS) 207 16 ++ me_sg (sgC D B cI cJ cZ cS) 223 1 from me_sg_app 207 16 1), ← sg_M, sg_1 (k := 223) (n := 1) (by decide +kernel), ← sg_C, List.nil_append, List.append_assoc]
  rfl
end SG
/-! ===== what the law's two sides hold at first ===== -/
def sgG : gs_T := (0, fun _ => 0, rd_S0, [], fun _ => none)
theorem sg_wf : sc_wf rd_S0 := ⟨by show 0 ≤ 24; omega, by show 0 ≤ 4; omega, fun j hj => absurd hj (Nat.not_lt_zero j), fun s hs => absurd hs (Nat.not_lt_zero s), fun s hs => absurd hs (Nat.not_lt_zero _), fun p hp => by show 0 < 16777216; omega⟩
theorem sg_cl : cl_at sgv sgG := by
  refine ⟨⟨?_, by show 0 ≤ 160; omega, fun k hk => absurd hk (Nat.not_lt_zero k)⟩, ⟨⟨?_, ?_, fun j hj => absurd hj (Nat.not_lt_zero j), fun s hs => absurd hs (Nat.not_lt_zero s), fun p hp => ?_⟩, sg_wf⟩, ⟨0, by omega, ?_, ?_, by show 0 ≤ 14; omega, fun i hi => absurd hi (Nat.not_lt_zero i), fun i hi => absurd hi (Nat.not_lt_zero i)⟩, fun s hs => ⟨fun _ => ?_, fun T hT => by cases hT⟩⟩
  all_goals (first | (rw [sgv0 (by decide)]; done) | (rw [sgv0 (by decide)]; rfl))
theorem sg_md : md_at sgv sgG := by
  refine ⟨⟨?_, by show 0 ≤ 160; omega, fun k hk => absurd hk (Nat.not_lt_zero k)⟩, ⟨⟨?_, ?_, fun p hp => ?_, fun s hs => absurd hs (Nat.not_lt_zero s), fun j hj => absurd hj (Nat.not_lt_zero j)⟩, sg_wf⟩, ⟨?_, by show 0 ≤ 14; omega, fun i hi => absurd hi (Nat.not_lt_zero i)⟩, fun s hs => ⟨fun _ => ?_, fun T hT => by cases hT⟩⟩
  · exact up_o (by decide)
  · (first | (rw [sgv0 (by decide)]; done) | (rw [sgv0 (by decide)]; rfl))
  · (first | (rw [sgv0 (by decide)]; done) | (rw [sgv0 (by decide)]; rfl))
  · (first | (rw [sgv0 (by decide)]; done) | (rw [sgv0 (by decide)]; rfl))
  · exact up_o (by decide)
  · (first | (rw [sgv0 (by decide)]; done) | (rw [sgv0 (by decide)]; rfl))
