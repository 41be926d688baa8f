/-! THE CONSTRUCTOR: the model -/
def mdF0 : List (Int × Int) := [(0, 7), (3, 191), (6, 192), (7, 193), (8, 194), (9, 195), (10, 196), (11, 197), (12, 198), (13, 199), (15, 200), (16, 201), (17, 202), (18, 203), (20, 204), (21, 205), (22, -1), (23, 206), (24, 207), (25, 208), (26, 209), (27, 210), (28, 211), (29, 212), (30, 213), (31, 214), (33, 215), (34, 216), (37, 217)]
def mdT (j : Int) : Int := (mdF0.lookup j).getD 0
theorem mdT_z : ([1, 2, 4, 5, 14, 19, 32, 35, 36] : List Int).all (fun j => decide (mdT j = 0)) = true := by decide +kernel
set_option maxHeartbeats 8000000 in
theorem l_md {N : Mem} {Q : Post} (hd : N 190 13 = 199) (hQ : ∀ M', (∀ b, b ≠ 199 → M' b = N b) → (∀ j : Nat, j < 40 → M' 199 (j : Int) = -1) → Q none 218 M') (kk : Nat × Nat) :
    ∀ (n j : Nat) (Ni : Mem), j + n = 40 → (∀ b, b ≠ 199 → Ni b = N b) → (∀ i : Nat, i < j → Ni 199 (i : Int) = -1) → WP 156 kk 235 [(2, 190), (0, (j : Int))] [] 218 Ni Q := by
  intro n
  induction n with
  | zero =>
    intro j Ni hj hF hA
    obtain rfl : j = 40 := by omega
    have nx := hQ Ni hF hA
    refine WP.run [(156, 235)] [] 60 ?_
    simp only [bk156_0, bk156_235, bk156_241, bk156_254, U_aload_n, U_oinit, U_bipush, U_putfield, U_newarray, U_sipush, U_iconst, U_ldc, U_istore_n, U_iload_n, U_icmp_ge, U_getfield, U_iast, U_iinc, U_goto, U_return, UN_cc, UN_cn, UN_nc, UN_nn, UJ, lget, lset, lset2, entL, wsm, wcat, Option.toList_some, Option.toList_none, List.cons_append, List.nil_append, List.mem_cons, List.not_mem_nil, Prod.mk.injEq, or_false, false_or, or_true, true_or, and_true, true_and, and_false, false_and, and_self, ne_eq, not_false_eq_true, not_true_eq_false, forall_const, true_implies, false_implies, Nat.add_zero, Nat.zero_add, Nat.le_refl, Nat.zero_le, List.set_cons_zero, List.set_cons_succ, List.set_nil, ↓reduceIte, Nat.reduceAdd, Nat.reduceSub, Nat.reduceEqDiff, Nat.reduceLeDiff, Int.reduceEq, Int.reduceNe, Int.reduceNeg, reduceCtorEq]
    repeat' (first | refine And.intro (by omega) ?_ | refine And.intro (rr (by omega)) ?_ | refine And.intro (r3 (by omega)) ?_ | refine And.intro (r6 (by omega)) ?_ | ((fail_if_success (show WP _ _ _ _ _ _ _ _)); (first | refine And.intro ?_ ?_ | intro _)))
    all_goals first | (exfalso; omega) | exact nx
  | succ n ih =>
    intro j Ni hj hF hA
    have hd' : Ni 190 13 = 199 := by rw [hF 190 (by decide)]; exact hd
    have nx : WP 156 kk 235 [(2, 190), (0, ((j + 1 : Nat) : Int))] [] 218 (ust Ni 199 (j : Int) (-1)) Q := ih (j + 1) _ (by omega) (fun b hb => by rw [ust_ne hb]; exact hF b hb) (fun i hi => by
      rw [ust_at]
      by_cases c : i = j
      · rw [if_pos (by omega)]
      · rw [if_neg (by omega)]; exact hA i (by omega))
    refine WP.run [(156, 235)] [] 60 ?_
    simp only [bk156_0, bk156_235, bk156_241, bk156_254, U_aload_n, U_oinit, U_bipush, U_putfield, U_newarray, U_sipush, U_iconst, U_ldc, U_istore_n, U_iload_n, U_icmp_ge, U_getfield, U_iast, U_iinc, U_goto, U_return, UN_cc, UN_cn, UN_nc, UN_nn, UJ, lget, lset, lset2, entL, wsm, wcat, Option.toList_some, Option.toList_none, List.cons_append, List.nil_append, List.mem_cons, List.not_mem_nil, Prod.mk.injEq, or_false, false_or, or_true, true_or, and_true, true_and, and_false, false_and, and_self, ne_eq, not_false_eq_true, not_true_eq_false, forall_const, true_implies, false_implies, Nat.add_zero, Nat.zero_add, Nat.le_refl, Nat.zero_le, List.set_cons_zero, List.set_cons_succ, List.set_nil, ↓reduceIte, Nat.reduceAdd, Nat.reduceSub, Nat.reduceEqDiff, Nat.reduceLeDiff, Int.reduceEq, Int.reduceNe, Int.reduceNeg, reduceCtorEq, kd190, kd199, ln199, hd']
    repeat' (first | refine And.intro (by omega) ?_ | refine And.intro (rr (by omega)) ?_ | refine And.intro (r3 (by omega)) ?_ | refine And.intro (r6 (by omega)) ?_ | ((fail_if_success (show WP _ _ _ _ _ _ _ _)); (first | refine And.intro ?_ ?_ | intro _)))
    all_goals first | (exfalso; omega) | exact nx
theorem l_md2 {M M1 : Mem} {Q : Post} {kk : Nat × Nat} (f1 : ∀ b, b < 190 → M1 b = M b) (o1 : ∀ q ∈ mdF0, M1 190 q.1 = q.2) (o2 : ∀ j ∈ ([1, 2, 4, 5, 14, 19, 32, 35, 36] : List Int), M1 190 j = 0) (z1 : ∀ b, 191 ≤ b → b < 218 → ∀ j, M1 b j = 0) (hQ : ∀ M', (∀ b, b < 190 → M' b = M b) → (∀ q ∈ mdF0, M' 190 q.1 = q.2) → (∀ j ∈ ([1, 2, 4, 5, 14, 19, 32, 35, 36] : List Int), M' 190 j = 0) → (∀ b, 191 ≤ b → b < 218 → b ≠ 199 → ∀ j, M' b j = 0) → (∀ j : Nat, j < 40 → M' 199 (j : Int) = -1) → Q none 218 M') : WP 156 kk 235 [(2, 190), (0, 0)] [] 218 M1 Q :=
  l_md (o1 (13, 199) (by simp [mdF0])) (fun M' hF hA => hQ M' (fun b hb => by rw [hF b (by omega)]; exact f1 b hb) (fun q hq => by rw [hF 190 (by decide)]; exact o1 q hq) (fun j hj => by rw [hF 190 (by decide)]; exact o2 j hj) (fun b h1 h2 h3 j => by rw [hF b h3]; exact z1 b h1 h2 j) hA) kk 40 0 M1 (by omega) (fun _ _ => rfl) (fun i hi => absurd hi (Nat.not_lt_zero i))
set_option maxRecDepth 100000 in
set_option maxHeartbeats 64000000 in
theorem i_MD {M : Mem} {Q : Post} (hM : ∀ j, M 190 j = 0) (hQ : ∀ M', (∀ b, b < 190 → M' b = M b) → (∀ q ∈ mdF0, M' 190 q.1 = q.2) → (∀ j ∈ ([1, 2, 4, 5, 14, 19, 32, 35, 36] : List Int), M' 190 j = 0) → (∀ b, 191 ≤ b → b < 218 → b ≠ 199 → ∀ j, M' b j = 0) → (∀ j : Nat, j < 40 → M' 199 (j : Int) = -1) → Q none 218 M') : CL 156 [(2, 190), (9, 0)] 191 M Q := by
  have k1 : ∀ n : Int, 190 < n → kd n 190 = 22 := fun n h => kd_lt rfl h
  refine WP.run [(156, 235)] [] 200 ?_
  simp only [bk156_0, bk156_235, bk156_241, bk156_254, U_aload_n, U_oinit, U_bipush, U_putfield, U_newarray, U_sipush, U_iconst, U_ldc, U_istore_n, U_iload_n, U_icmp_ge, U_getfield, U_iast, U_iinc, U_goto, U_return, UN_cc, UN_cn, UN_nc, UN_nn, UJ, lget, lset, lset2, entL, wsm, wcat, Option.toList_some, Option.toList_none, List.cons_append, List.nil_append, List.mem_cons, List.not_mem_nil, Prod.mk.injEq, or_false, false_or, or_true, true_or, and_true, true_and, and_false, false_and, and_self, ne_eq, not_false_eq_true, not_true_eq_false, forall_const, true_implies, false_implies, Nat.add_zero, Nat.zero_add, Nat.le_refl, Nat.zero_le, List.set_cons_zero, List.set_cons_succ, List.set_nil, ↓reduceIte, Nat.reduceAdd, Nat.reduceSub, Nat.reduceEqDiff, Nat.reduceLeDiff, Int.reduceEq, Int.reduceNe, Int.reduceNeg, reduceCtorEq, k1, Int.reduceLT, Int.reduceAdd]
  repeat (first | refine And.intro (by decide) ?_ | refine And.intro (rr (by omega)) ?_)
  refine l_md2 (M := M) (fun b hb => ?_) ?_ ?_ (fun b h1 h2 => ?_) hQ
  · repeat (first | rw [ust_ne (by omega)] | rw [zro_o (by omega)])
  · simp [mdF0, ust, zro, hM]
  · simp [ust, zro, hM]
  · have : b = 191 ∨ b = 192 ∨ b = 193 ∨ b = 194 ∨ b = 195 ∨ b = 196 ∨ b = 197 ∨ b = 198 ∨ b = 199 ∨ b = 200 ∨ b = 201 ∨ b = 202 ∨ b = 203 ∨ b = 204 ∨ b = 205 ∨ b = 206 ∨ b = 207 ∨ b = 208 ∨ b = 209 ∨ b = 210 ∨ b = 211 ∨ b = 212 ∨ b = 213 ∨ b = 214 ∨ b = 215 ∨ b = 216 ∨ b = 217 := by omega
    rcases this with rfl | rfl | rfl | rfl | rfl | rfl | rfl | rfl | rfl | rfl | rfl | rfl | rfl | rfl | rfl | rfl | rfl | rfl | rfl | rfl | rfl | rfl | rfl | rfl | rfl | rfl | rfl
    all_goals (intro j; simp [ust, zro])
