def cd_X3_tempoOf : List (Nat × List me_I) := [(0, [(2, 1, 0, [], 1, 0, 0), (3, 2, 0, [], 1, 0, 0)]),
  (2, [(2, 2, 0, [], 1, 0, 0), (14, 28, 2, [], 3, 0, 0), (2, 0, 2, [], 1, 0, 0), (19, 3, 3, [], 3, 0, 104), (2, 2, 0, [], 1, 0, 0), (21, 0, 0, [], 1, 0, 0), (14, 22, 0, [], 3, 0, 0), (2, 0, 2, [], 1, 0, 0), (19, 3, 3, [], 3, 0, 104), (2, 2, 0, [], 1, 0, 0), (21, 0, 0, [], 1, 0, 0), (32, 0, 0, [], 1, 0, 0)]),
  (22, [(13, 2, 1, [1], 3, 0, 0), (16, 2, 0, [], 3, 0, 0)]),
  (28, [(0, 120, 0, [], 2, 0, 0), (32, 0, 0, [], 1, 0, 0)])]
theorem ck_X3_tempoOf : cd_X3_tempoOf.all (fun q => me_bck mt_nm RX3 cX3_tempoOf 3 (some .int) [] 0 q.2 q.1) = true := by decide +kernel
def isSt (b : Nat) : Prop := (∀ j : Nat, j < 2 → me_gf b 3 j = some (.inl 0)) ∧ (∀ j : Nat, j < 8 → me_gf b 3 (j + 2) = some (.inr (b + 1 + j))) ∧ me_al (b + 1) = some (0, 24) ∧ me_al (b + 2) = some (0, 24) ∧ me_al (b + 3) = some (0, 216) ∧ me_al (b + 4) = some (0, 24) ∧ me_al (b + 5) = some (0, 4) ∧ me_al (b + 6) = some (0, 4) ∧ me_al (b + 7) = some (0, 4) ∧ me_al (b + 8) = some (0, 3)
def tempoV (f : Nat → Int32) : Nat → Int32
  | 0 => if f 0 = 0 then 120 else f 0
  | n + 1 => if f (n + 1) = 0 then tempoV f n else f (n + 1)
def sp_tempoOf : me_P := fun as v w K _ => ∃ b j : Nat, as = [vR b, vI (nI j)] ∧ isSt b ∧ j < 24 ∧ K (some (vI (tempoV (v (b + 2)) j))) v w
theorem zz_1 (b j : Nat) (hb : isSt b) (hj : j < 24) (v : me_V) (w : me_U) (K : me_K) (X : me_X) (hK : K (some (vI (tempoV (v (b + 2)) j))) v w) (cs : Nat → Nat × me_P) (sx : me_Sc)
  (h3 : me_gf b 3 3 = some (.inr (b + 2))) (h4 : me_al (b + 2) = some (0, 24)) : me_vb cs (fun _ _ _ _ _ _ => False) K (fun _ k _ E v w => k ≤ 0 ∧ X E v w) 0 sx (me_bk cd_X3_tempoOf 2) 2 0 [(2, vI (nI j)), (0, vR b), (1, vI (nI j))] [] v w := by
  simp only [me_bk, cd_X3_tempoOf, List.lookup_cons, Nat.reduceBEq, Option.getD_some, me_vb, me_op, me_lk, Nat.reduceEqDiff, if_true, if_false, reduceCtorEq, me_kd, true_and, me_tI, me_tR, h3, h4, me_cd, me_t1, me_c]
  sorry
