/-! THE CONSTRUCTOR: the class; printed by gen_init2.py -/
/-- the class as it begins: counters 1 to 190 -/
def In0 (M : Mem) : Prop := (∀ b, 1 ≤ b → b < 190 → FzC b M) ∧ M 2 0 = 7 ∧ (∀ u : Int, 0 < u → u < 7 → invG 7 M u) ∧ M 1 2 = 0 ∧ M 21 3 = 0 ∧ (∀ r : Nat, r < 6 → M (58 + 5 * (r : Int) + 1) 1 = 0 ∧ (∀ j : Int, 0 ≤ j → j < 8 → M (58 + 5 * (r : Int) + 2) j = if j = 0 then 1 else 0) ∧ M (58 + 5 * (r : Int) + 3) 1 = -1 ∧ ∀ j, M (58 + 5 * (r : Int) + 4) j = 0) ∧ M 88 3 = 0 ∧ M 94 6 = 0 ∧ (∀ j, M 109 j = 0) ∧ M 120 9 = 0 ∧ M 120 13 = -1 ∧ (∀ j, M 121 j = 0) ∧ M 182 4 = 0 ∧ ∀ j, M 189 j = 0
theorem ust_l {M : Mem} {a i v b j : Int} (h : b ≠ a ∨ j ≠ i) : ust M a i v b j = M b j := by show (if b = a ∧ j = i then v else M b j) = M b j; rw [if_neg (by omega)]
theorem ust_s {M : Mem} {a i v : Int} : ust M a i v a i = v := by show (if a = a ∧ i = i then v else M a i) = v; rw [if_pos ⟨rfl, rfl⟩]
/-- a fresh pair, one and nought -/
def FrP (M : Mem) (a : Int) : Prop := M a 0 = a + 1 ∧ M a 1 = a + 3 ∧ M (a + 1) 0 = a + 2 ∧ M (a + 1) 1 = 0 ∧ (∀ j : Int, 0 ≤ j → j < 8 → M (a + 2) j = if j = 0 then 1 else 0) ∧ M (a + 3) 0 = a + 4 ∧ M (a + 3) 1 = -1 ∧ ∀ j, M (a + 4) j = 0
theorem FrP.fx {M M' : Mem} {a : Int} (h : FrP M a) (e : ∀ b, a ≤ b → b ≤ a + 4 → M' b = M b) : FrP M' a := by
  unfold FrP
  rw [e a (by omega) (by omega), e (a + 1) (by omega) (by omega), e (a + 2) (by omega) (by omega), e (a + 3) (by omega) (by omega), e (a + 4) (by omega) (by omega)]
  exact h
theorem FrP.fz {M : Mem} {a : Int} (h : FrP M a) (k0 : KD a = 16) (k1 : KD (a + 1) = 18) (k2 : KD (a + 2) = 1) (k3 : KD (a + 3) = 18) (k4 : KD (a + 4) = 1) : ∀ b, a ≤ b → b ≤ a + 4 → FzC b M := fun b h1 h2 => by
  have : b = a ∨ b = a + 1 ∨ b = a + 2 ∨ b = a + 3 ∨ b = a + 4 := by omega
  rcases this with rfl | rfl | rfl | rfl | rfl
  · exact fzC_pair k0 h.1 h.2.1
  · exact fzC_row k1 (by rw [h.2.2.1]; omega)
  · exact fzC_arr (Or.inl k2)
  · exact fzC_row k3 (by rw [h.2.2.2.2.2.1]; omega)
  · exact fzC_arr (Or.inl k4)
set_option maxHeartbeats 64000000 in
theorem i_CR {M : Mem} {Q : Post} (hM : ∀ j, M 1 j = 0) (hQ : ∀ M', (∀ b, b < 1 → M' b = M b) → In0 M' → Q none 190 M') : CL 115 [(2, 1), (9, 0)] 2 M Q := by
  have k1 : ∀ n : Int, 1 < n → kd n 1 = 21 := fun n h => kd_lt rfl h
  have k57 : ∀ n : Int, 57 < n → kd n 57 = 3 := fun n h => kd_lt rfl h
  have l57 : LN 57 = 6 := rfl
  refine WP.run [] [] 200 ?_
  simp only [bk115_0, bk115_84, bk115_90, bk115_109, U_aload_n, U_oinit, U_new, U_dup, U_invokespecial0, U_putfield, U_bipush, U_newarray, U_iconst, U_getfield, U_invokespecial1, U_invokespecial2, U_anewarray, U_istore_n, U_iload_n, U_icmp_ge, U_aast, U_iinc, U_goto, U_return, UN_cc, UN_cn, UN_nc, UN_nn, UJ, lget, lset, lset2, entL, wsm, wcat, Option.toList_some, Option.toList_none, List.cons_append, List.nil_append, List.mem_cons, List.not_mem_nil, Prod.mk.injEq, or_false, false_or, or_true, true_or, and_true, true_and, and_false, false_and, and_self, ne_eq, not_false_eq_true, not_true_eq_false, forall_const, true_implies, false_implies, Nat.add_zero, Nat.zero_add, Nat.le_refl, Nat.zero_le, List.set_cons_zero, List.set_cons_succ, List.set_nil, ↓reduceIte, Nat.reduceAdd, Nat.reduceSub, Nat.reduceEqDiff, Nat.reduceLeDiff, Int.reduceEq, Int.reduceNe, Int.reduceNeg, reduceCtorEq, k1, k57, l57, Int.reduceLT, Int.reduceAdd, ust_l, ust_s, zro_o, prM_o, hM]
  repeat (first | refine And.intro (by decide) ?_ | refine And.intro (rr (by omega)) ?_)
  refine i_rows (fun j => zro_z _ _ _) fun M1 f1 z1 p1 v1 => ?_
  have o1 : ∀ j, M1 1 j = 0 := fun j => by rw [f1 1 (by decide)]; simp [zro, hM]
  simp only [bk115_0, bk115_84, bk115_90, bk115_109, U_aload_n, U_oinit, U_new, U_dup, U_invokespecial0, U_putfield, U_bipush, U_newarray, U_iconst, U_getfield, U_invokespecial1, U_invokespecial2, U_anewarray, U_istore_n, U_iload_n, U_icmp_ge, U_aast, U_iinc, U_goto, U_return, UN_cc, UN_cn, UN_nc, UN_nn, UJ, lget, lset, lset2, entL, wsm, wcat, Option.toList_some, Option.toList_none, List.cons_append, List.nil_append, List.mem_cons, List.not_mem_nil, Prod.mk.injEq, or_false, false_or, or_true, true_or, and_true, true_and, and_false, false_and, and_self, ne_eq, not_false_eq_true, not_true_eq_false, forall_const, true_implies, false_implies, Nat.add_zero, Nat.zero_add, Nat.le_refl, Nat.zero_le, List.set_cons_zero, List.set_cons_succ, List.set_nil, ↓reduceIte, Nat.reduceAdd, Nat.reduceSub, Nat.reduceEqDiff, Nat.reduceLeDiff, Int.reduceEq, Int.reduceNe, Int.reduceNeg, reduceCtorEq, k1, k57, l57, Int.reduceLT, Int.reduceAdd, ust_l, ust_s, zro_o, prM_o, o1]
  repeat (first | refine And.intro (by decide) ?_ | refine And.intro (rr (by omega)) ?_)
  refine i_row (a := 19) (by decide) rfl rfl rfl ?_
  simp only [bk115_0, bk115_84, bk115_90, bk115_109, U_aload_n, U_oinit, U_new, U_dup, U_invokespecial0, U_putfield, U_bipush, U_newarray, U_iconst, U_getfield, U_invokespecial1, U_invokespecial2, U_anewarray, U_istore_n, U_iload_n, U_icmp_ge, U_aast, U_iinc, U_goto, U_return, UN_cc, UN_cn, UN_nc, UN_nn, UJ, lget, lset, lset2, entL, wsm, wcat, Option.toList_some, Option.toList_none, List.cons_append, List.nil_append, List.mem_cons, List.not_mem_nil, Prod.mk.injEq, or_false, false_or, or_true, true_or, and_true, true_and, and_false, false_and, and_self, ne_eq, not_false_eq_true, not_true_eq_false, forall_const, true_implies, false_implies, Nat.add_zero, Nat.zero_add, Nat.le_refl, Nat.zero_le, List.set_cons_zero, List.set_cons_succ, List.set_nil, ↓reduceIte, Nat.reduceAdd, Nat.reduceSub, Nat.reduceEqDiff, Nat.reduceLeDiff, Int.reduceEq, Int.reduceNe, Int.reduceNeg, reduceCtorEq, k1, k57, l57, Int.reduceLT, Int.reduceAdd, ust_l, ust_s, zro_o, prM_o, o1]
  repeat (first | refine And.intro (by decide) ?_ | refine And.intro (rr (by omega)) ?_)
  refine i_Curve_init' (by simp [ust, zro, prM_o, o1]) (fun j => zro_z _ _ _) fun M2 f2 z2 p2 => ?_
  have o2 : ∀ j, M2 1 j = if j = 3 then 19 else if j = 2 then 0 else if j = 1 then 18 else if j = 0 then 2 else 0 := fun j => by rw [f2 1 (by decide)]; simp [ust, zro, prM_o, o1]
  have g2 : ∀ b, 2 ≤ b → b < 18 → M2 b = M1 b := fun b h1 h2 => by
    rw [f2 b (by omega)]
    repeat (first | rw [ust_ne (by omega)] | rw [zro_o (by omega)] | rw [prM_o (by omega)])
  have z2' : ∀ b, 18 ≤ b → b < 21 → FzC b M2 := fun b h1 h2 => by
    have : b = 18 ∨ b = 19 ∨ b = 20 := by omega
    rcases this with rfl | rfl | rfl
    · exact fzC_arr (Or.inl rfl)
    · refine fzC_row rfl ?_; rw [f2 19 (by decide)]; simp [ust, zro]
    · exact fzC_arr (Or.inl rfl)
  simp only [bk115_0, bk115_84, bk115_90, bk115_109, U_aload_n, U_oinit, U_new, U_dup, U_invokespecial0, U_putfield, U_bipush, U_newarray, U_iconst, U_getfield, U_invokespecial1, U_invokespecial2, U_anewarray, U_istore_n, U_iload_n, U_icmp_ge, U_aast, U_iinc, U_goto, U_return, UN_cc, UN_cn, UN_nc, UN_nn, UJ, lget, lset, lset2, entL, wsm, wcat, Option.toList_some, Option.toList_none, List.cons_append, List.nil_append, List.mem_cons, List.not_mem_nil, Prod.mk.injEq, or_false, false_or, or_true, true_or, and_true, true_and, and_false, false_and, and_self, ne_eq, not_false_eq_true, not_true_eq_false, forall_const, true_implies, false_implies, Nat.add_zero, Nat.zero_add, Nat.le_refl, Nat.zero_le, List.set_cons_zero, List.set_cons_succ, List.set_nil, ↓reduceIte, Nat.reduceAdd, Nat.reduceSub, Nat.reduceEqDiff, Nat.reduceLeDiff, Int.reduceEq, Int.reduceNe, Int.reduceNeg, reduceCtorEq, k1, k57, l57, Int.reduceLT, Int.reduceAdd, ust_l, ust_s, zro_o, prM_o, o2]
  repeat (first | refine And.intro (by decide) ?_ | refine And.intro (rr (by omega)) ?_)
  refine i_Adder_init' (by simp [ust, zro, prM_o, o2]) (by simp [ust, zro, prM_o, o2]) (fun j => zro_z _ _ _) fun M3 f3 z3  => ?_
  have o3 : ∀ j, M3 1 j = if j = 4 then 21 else if j = 3 then 19 else if j = 2 then 0 else if j = 1 then 18 else if j = 0 then 2 else 0 := fun j => by rw [f3 1 (by decide)]; simp [ust, zro, prM_o, o2]
  have g3 : ∀ b, 2 ≤ b → b < 32 → M3 b = M2 b := fun b h1 h2 => by
    rw [f3 b (by omega)]
    repeat (first | rw [ust_ne (by omega)] | rw [zro_o (by omega)] | rw [prM_o (by omega)])
  simp only [bk115_0, bk115_84, bk115_90, bk115_109, U_aload_n, U_oinit, U_new, U_dup, U_invokespecial0, U_putfield, U_bipush, U_newarray, U_iconst, U_getfield, U_invokespecial1, U_invokespecial2, U_anewarray, U_istore_n, U_iload_n, U_icmp_ge, U_aast, U_iinc, U_goto, U_return, UN_cc, UN_cn, UN_nc, UN_nn, UJ, lget, lset, lset2, entL, wsm, wcat, Option.toList_some, Option.toList_none, List.cons_append, List.nil_append, List.mem_cons, List.not_mem_nil, Prod.mk.injEq, or_false, false_or, or_true, true_or, and_true, true_and, and_false, false_and, and_self, ne_eq, not_false_eq_true, not_true_eq_false, forall_const, true_implies, false_implies, Nat.add_zero, Nat.zero_add, Nat.le_refl, Nat.zero_le, List.set_cons_zero, List.set_cons_succ, List.set_nil, ↓reduceIte, Nat.reduceAdd, Nat.reduceSub, Nat.reduceEqDiff, Nat.reduceLeDiff, Int.reduceEq, Int.reduceNe, Int.reduceNeg, reduceCtorEq, k1, k57, l57, Int.reduceLT, Int.reduceAdd, ust_l, ust_s, zro_o, prM_o, o3]
  repeat (first | refine And.intro (by decide) ?_ | refine And.intro (rr (by omega)) ?_)
  refine i_pair (a := 58) (by decide) rfl rfl rfl rfl rfl rfl rfl ?_
  simp only [bk115_0, bk115_84, bk115_90, bk115_109, U_aload_n, U_oinit, U_new, U_dup, U_invokespecial0, U_putfield, U_bipush, U_newarray, U_iconst, U_getfield, U_invokespecial1, U_invokespecial2, U_anewarray, U_istore_n, U_iload_n, U_icmp_ge, U_aast, U_iinc, U_goto, U_return, UN_cc, UN_cn, UN_nc, UN_nn, UJ, lget, lset, lset2, entL, wsm, wcat, Option.toList_some, Option.toList_none, List.cons_append, List.nil_append, List.mem_cons, List.not_mem_nil, Prod.mk.injEq, or_false, false_or, or_true, true_or, and_true, true_and, and_false, false_and, and_self, ne_eq, not_false_eq_true, not_true_eq_false, forall_const, true_implies, false_implies, Nat.add_zero, Nat.zero_add, Nat.le_refl, Nat.zero_le, List.set_cons_zero, List.set_cons_succ, List.set_nil, ↓reduceIte, Nat.reduceAdd, Nat.reduceSub, Nat.reduceEqDiff, Nat.reduceLeDiff, Int.reduceEq, Int.reduceNe, Int.reduceNeg, reduceCtorEq, k1, k57, l57, Int.reduceLT, Int.reduceAdd, ust_l, ust_s, zro_o, prM_o, o3]
  repeat (first | refine And.intro (by decide) ?_ | refine And.intro (rr (by omega)) ?_)
  refine i_pair (a := 63) (by decide) rfl rfl rfl rfl rfl rfl rfl ?_
  simp only [bk115_0, bk115_84, bk115_90, bk115_109, U_aload_n, U_oinit, U_new, U_dup, U_invokespecial0, U_putfield, U_bipush, U_newarray, U_iconst, U_getfield, U_invokespecial1, U_invokespecial2, U_anewarray, U_istore_n, U_iload_n, U_icmp_ge, U_aast, U_iinc, U_goto, U_return, UN_cc, UN_cn, UN_nc, UN_nn, UJ, lget, lset, lset2, entL, wsm, wcat, Option.toList_some, Option.toList_none, List.cons_append, List.nil_append, List.mem_cons, List.not_mem_nil, Prod.mk.injEq, or_false, false_or, or_true, true_or, and_true, true_and, and_false, false_and, and_self, ne_eq, not_false_eq_true, not_true_eq_false, forall_const, true_implies, false_implies, Nat.add_zero, Nat.zero_add, Nat.le_refl, Nat.zero_le, List.set_cons_zero, List.set_cons_succ, List.set_nil, ↓reduceIte, Nat.reduceAdd, Nat.reduceSub, Nat.reduceEqDiff, Nat.reduceLeDiff, Int.reduceEq, Int.reduceNe, Int.reduceNeg, reduceCtorEq, k1, k57, l57, Int.reduceLT, Int.reduceAdd, ust_l, ust_s, zro_o, prM_o, o3]
  repeat (first | refine And.intro (by decide) ?_ | refine And.intro (rr (by omega)) ?_)
  refine i_pair (a := 68) (by decide) rfl rfl rfl rfl rfl rfl rfl ?_
  simp only [bk115_0, bk115_84, bk115_90, bk115_109, U_aload_n, U_oinit, U_new, U_dup, U_invokespecial0, U_putfield, U_bipush, U_newarray, U_iconst, U_getfield, U_invokespecial1, U_invokespecial2, U_anewarray, U_istore_n, U_iload_n, U_icmp_ge, U_aast, U_iinc, U_goto, U_return, UN_cc, UN_cn, UN_nc, UN_nn, UJ, lget, lset, lset2, entL, wsm, wcat, Option.toList_some, Option.toList_none, List.cons_append, List.nil_append, List.mem_cons, List.not_mem_nil, Prod.mk.injEq, or_false, false_or, or_true, true_or, and_true, true_and, and_false, false_and, and_self, ne_eq, not_false_eq_true, not_true_eq_false, forall_const, true_implies, false_implies, Nat.add_zero, Nat.zero_add, Nat.le_refl, Nat.zero_le, List.set_cons_zero, List.set_cons_succ, List.set_nil, ↓reduceIte, Nat.reduceAdd, Nat.reduceSub, Nat.reduceEqDiff, Nat.reduceLeDiff, Int.reduceEq, Int.reduceNe, Int.reduceNeg, reduceCtorEq, k1, k57, l57, Int.reduceLT, Int.reduceAdd, ust_l, ust_s, zro_o, prM_o, o3]
  repeat (first | refine And.intro (by decide) ?_ | refine And.intro (rr (by omega)) ?_)
  refine i_pair (a := 73) (by decide) rfl rfl rfl rfl rfl rfl rfl ?_
  simp only [bk115_0, bk115_84, bk115_90, bk115_109, U_aload_n, U_oinit, U_new, U_dup, U_invokespecial0, U_putfield, U_bipush, U_newarray, U_iconst, U_getfield, U_invokespecial1, U_invokespecial2, U_anewarray, U_istore_n, U_iload_n, U_icmp_ge, U_aast, U_iinc, U_goto, U_return, UN_cc, UN_cn, UN_nc, UN_nn, UJ, lget, lset, lset2, entL, wsm, wcat, Option.toList_some, Option.toList_none, List.cons_append, List.nil_append, List.mem_cons, List.not_mem_nil, Prod.mk.injEq, or_false, false_or, or_true, true_or, and_true, true_and, and_false, false_and, and_self, ne_eq, not_false_eq_true, not_true_eq_false, forall_const, true_implies, false_implies, Nat.add_zero, Nat.zero_add, Nat.le_refl, Nat.zero_le, List.set_cons_zero, List.set_cons_succ, List.set_nil, ↓reduceIte, Nat.reduceAdd, Nat.reduceSub, Nat.reduceEqDiff, Nat.reduceLeDiff, Int.reduceEq, Int.reduceNe, Int.reduceNeg, reduceCtorEq, k1, k57, l57, Int.reduceLT, Int.reduceAdd, ust_l, ust_s, zro_o, prM_o, o3]
  repeat (first | refine And.intro (by decide) ?_ | refine And.intro (rr (by omega)) ?_)
  refine i_pair (a := 78) (by decide) rfl rfl rfl rfl rfl rfl rfl ?_
  simp only [bk115_0, bk115_84, bk115_90, bk115_109, U_aload_n, U_oinit, U_new, U_dup, U_invokespecial0, U_putfield, U_bipush, U_newarray, U_iconst, U_getfield, U_invokespecial1, U_invokespecial2, U_anewarray, U_istore_n, U_iload_n, U_icmp_ge, U_aast, U_iinc, U_goto, U_return, UN_cc, UN_cn, UN_nc, UN_nn, UJ, lget, lset, lset2, entL, wsm, wcat, Option.toList_some, Option.toList_none, List.cons_append, List.nil_append, List.mem_cons, List.not_mem_nil, Prod.mk.injEq, or_false, false_or, or_true, true_or, and_true, true_and, and_false, false_and, and_self, ne_eq, not_false_eq_true, not_true_eq_false, forall_const, true_implies, false_implies, Nat.add_zero, Nat.zero_add, Nat.le_refl, Nat.zero_le, List.set_cons_zero, List.set_cons_succ, List.set_nil, ↓reduceIte, Nat.reduceAdd, Nat.reduceSub, Nat.reduceEqDiff, Nat.reduceLeDiff, Int.reduceEq, Int.reduceNe, Int.reduceNeg, reduceCtorEq, k1, k57, l57, Int.reduceLT, Int.reduceAdd, ust_l, ust_s, zro_o, prM_o, o3]
  repeat (first | refine And.intro (by decide) ?_ | refine And.intro (rr (by omega)) ?_)
  refine i_pair (a := 83) (by decide) rfl rfl rfl rfl rfl rfl rfl ?_
  simp only [bk115_0, bk115_84, bk115_90, bk115_109, U_aload_n, U_oinit, U_new, U_dup, U_invokespecial0, U_putfield, U_bipush, U_newarray, U_iconst, U_getfield, U_invokespecial1, U_invokespecial2, U_anewarray, U_istore_n, U_iload_n, U_icmp_ge, U_aast, U_iinc, U_goto, U_return, UN_cc, UN_cn, UN_nc, UN_nn, UJ, lget, lset, lset2, entL, wsm, wcat, Option.toList_some, Option.toList_none, List.cons_append, List.nil_append, List.mem_cons, List.not_mem_nil, Prod.mk.injEq, or_false, false_or, or_true, true_or, and_true, true_and, and_false, false_and, and_self, ne_eq, not_false_eq_true, not_true_eq_false, forall_const, true_implies, false_implies, Nat.add_zero, Nat.zero_add, Nat.le_refl, Nat.zero_le, List.set_cons_zero, List.set_cons_succ, List.set_nil, ↓reduceIte, Nat.reduceAdd, Nat.reduceSub, Nat.reduceEqDiff, Nat.reduceLeDiff, Int.reduceEq, Int.reduceNe, Int.reduceNeg, reduceCtorEq, k1, k57, l57, Int.reduceLT, Int.reduceAdd, ust_l, ust_s, zro_o, prM_o, o3]
  repeat (first | refine And.intro (by decide) ?_ | refine And.intro (rr (by omega)) ?_)
  refine i_Listing_init' (by simp [ust, zro, prM_o, o3]) (by simp [ust, zro, prM_o, o3]) (fun j => zro_z _ _ _) fun M4 f4 z4 p4 => ?_
  have o4 : ∀ j, M4 1 j = if j = 6 then 57 else if j = 5 then 32 else if j = 4 then 21 else if j = 3 then 19 else if j = 2 then 0 else if j = 1 then 18 else if j = 0 then 2 else 0 := fun j => by rw [f4 1 (by decide)]; simp [ust, zro, prM_o, o3]
  have g4 : ∀ b, 2 ≤ b → b < 57 → M4 b = M3 b := fun b h1 h2 => by
    rw [f4 b (by omega)]
    repeat (first | rw [ust_ne (by omega)] | rw [zro_o (by omega)] | rw [prM_o (by omega)])
  have z4' : FzC 57 M4 := by
    refine fzC_of ?_
    rw [show (fzL.lookup 57).getD [] = [(0, 58), (1, 63), (2, 68), (3, 73), (4, 78), (5, 83)] from rfl, f4 57 (by decide)]
    simp [ust, zro, prM_o]
  have pr0 : FrP M4 58 := FrP.fx (M := prM (zro (ust (zro (ust M3 1 5 32) 57) 1 6 57) 58) 58) (prM_is _ _) fun b h1 h2 => by
    rw [f4 b (by omega)]
    repeat (first | rw [ust_ne (by omega)] | rw [zro_o (by omega)] | rw [prM_o (by omega)])
  have pr1 : FrP M4 63 := FrP.fx (M := prM (zro (ust (prM (zro (ust (zro (ust M3 1 5 32) 57) 1 6 57) 58) 58) 57 0 58) 63) 63) (prM_is _ _) fun b h1 h2 => by
    rw [f4 b (by omega)]
    repeat (first | rw [ust_ne (by omega)] | rw [zro_o (by omega)] | rw [prM_o (by omega)])
  have pr2 : FrP M4 68 := FrP.fx (M := prM (zro (ust (prM (zro (ust (prM (zro (ust (zro (ust M3 1 5 32) 57) 1 6 57) 58) 58) 57 0 58) 63) 63) 57 1 63) 68) 68) (prM_is _ _) fun b h1 h2 => by
    rw [f4 b (by omega)]
    repeat (first | rw [ust_ne (by omega)] | rw [zro_o (by omega)] | rw [prM_o (by omega)])
  have pr3 : FrP M4 73 := FrP.fx (M := prM (zro (ust (prM (zro (ust (prM (zro (ust (prM (zro (ust (zro (ust M3 1 5 32) 57) 1 6 57) 58) 58) 57 0 58) 63) 63) 57 1 63) 68) 68) 57 2 68) 73) 73) (prM_is _ _) fun b h1 h2 => by
    rw [f4 b (by omega)]
    repeat (first | rw [ust_ne (by omega)] | rw [zro_o (by omega)] | rw [prM_o (by omega)])
  have pr4 : FrP M4 78 := FrP.fx (M := prM (zro (ust (prM (zro (ust (prM (zro (ust (prM (zro (ust (prM (zro (ust (zro (ust M3 1 5 32) 57) 1 6 57) 58) 58) 57 0 58) 63) 63) 57 1 63) 68) 68) 57 2 68) 73) 73) 57 3 73) 78) 78) (prM_is _ _) fun b h1 h2 => by
    rw [f4 b (by omega)]
    repeat (first | rw [ust_ne (by omega)] | rw [zro_o (by omega)] | rw [prM_o (by omega)])
  have pr5 : FrP M4 83 := FrP.fx (M := prM (zro (ust (prM (zro (ust (prM (zro (ust (prM (zro (ust (prM (zro (ust (prM (zro (ust (zro (ust M3 1 5 32) 57) 1 6 57) 58) 58) 57 0 58) 63) 63) 57 1 63) 68) 68) 57 2 68) 73) 73) 57 3 73) 78) 78) 57 4 78) 83) 83) (prM_is _ _) fun b h1 h2 => by
    rw [f4 b (by omega)]
    repeat (first | rw [ust_ne (by omega)] | rw [zro_o (by omega)] | rw [prM_o (by omega)])
  simp only [bk115_0, bk115_84, bk115_90, bk115_109, U_aload_n, U_oinit, U_new, U_dup, U_invokespecial0, U_putfield, U_bipush, U_newarray, U_iconst, U_getfield, U_invokespecial1, U_invokespecial2, U_anewarray, U_istore_n, U_iload_n, U_icmp_ge, U_aast, U_iinc, U_goto, U_return, UN_cc, UN_cn, UN_nc, UN_nn, UJ, lget, lset, lset2, entL, wsm, wcat, Option.toList_some, Option.toList_none, List.cons_append, List.nil_append, List.mem_cons, List.not_mem_nil, Prod.mk.injEq, or_false, false_or, or_true, true_or, and_true, true_and, and_false, false_and, and_self, ne_eq, not_false_eq_true, not_true_eq_false, forall_const, true_implies, false_implies, Nat.add_zero, Nat.zero_add, Nat.le_refl, Nat.zero_le, List.set_cons_zero, List.set_cons_succ, List.set_nil, ↓reduceIte, Nat.reduceAdd, Nat.reduceSub, Nat.reduceEqDiff, Nat.reduceLeDiff, Int.reduceEq, Int.reduceNe, Int.reduceNeg, reduceCtorEq, k1, k57, l57, Int.reduceLT, Int.reduceAdd, ust_l, ust_s, zro_o, prM_o, o4]
  repeat (first | refine And.intro (by decide) ?_ | refine And.intro (rr (by omega)) ?_)
  refine i_Group_init' (by simp [ust, zro, prM_o, o4]) (by simp [ust, zro, prM_o, o4]) (fun j => zro_z _ _ _) fun M5 f5 z5 p5 => ?_
  have o5 : ∀ j, M5 1 j = if j = 7 then 88 else if j = 6 then 57 else if j = 5 then 32 else if j = 4 then 21 else if j = 3 then 19 else if j = 2 then 0 else if j = 1 then 18 else if j = 0 then 2 else 0 := fun j => by rw [f5 1 (by decide)]; simp [ust, zro, prM_o, o4]
  have g5 : ∀ b, 2 ≤ b → b < 94 → M5 b = M4 b := fun b h1 h2 => by
    rw [f5 b (by omega)]
    repeat (first | rw [ust_ne (by omega)] | rw [zro_o (by omega)] | rw [prM_o (by omega)])
  simp only [bk115_0, bk115_84, bk115_90, bk115_109, U_aload_n, U_oinit, U_new, U_dup, U_invokespecial0, U_putfield, U_bipush, U_newarray, U_iconst, U_getfield, U_invokespecial1, U_invokespecial2, U_anewarray, U_istore_n, U_iload_n, U_icmp_ge, U_aast, U_iinc, U_goto, U_return, UN_cc, UN_cn, UN_nc, UN_nn, UJ, lget, lset, lset2, entL, wsm, wcat, Option.toList_some, Option.toList_none, List.cons_append, List.nil_append, List.mem_cons, List.not_mem_nil, Prod.mk.injEq, or_false, false_or, or_true, true_or, and_true, true_and, and_false, false_and, and_self, ne_eq, not_false_eq_true, not_true_eq_false, forall_const, true_implies, false_implies, Nat.add_zero, Nat.zero_add, Nat.le_refl, Nat.zero_le, List.set_cons_zero, List.set_cons_succ, List.set_nil, ↓reduceIte, Nat.reduceAdd, Nat.reduceSub, Nat.reduceEqDiff, Nat.reduceLeDiff, Int.reduceEq, Int.reduceNe, Int.reduceNeg, reduceCtorEq, k1, k57, l57, Int.reduceLT, Int.reduceAdd, ust_l, ust_s, zro_o, prM_o, o5]
  repeat (first | refine And.intro (by decide) ?_ | refine And.intro (rr (by omega)) ?_)
  refine i_Room_init' (by simp [ust, zro, prM_o, o5]) (by simp [ust, zro, prM_o, o5]) (fun j => zro_z _ _ _) fun M6 f6 z6 p6 => ?_
  have o6 : ∀ j, M6 1 j = if j = 8 then 94 else if j = 7 then 88 else if j = 6 then 57 else if j = 5 then 32 else if j = 4 then 21 else if j = 3 then 19 else if j = 2 then 0 else if j = 1 then 18 else if j = 0 then 2 else 0 := fun j => by rw [f6 1 (by decide)]; simp [ust, zro, prM_o, o5]
  have g6 : ∀ b, 2 ≤ b → b < 108 → M6 b = M5 b := fun b h1 h2 => by
    rw [f6 b (by omega)]
    repeat (first | rw [ust_ne (by omega)] | rw [zro_o (by omega)] | rw [prM_o (by omega)])
  simp only [bk115_0, bk115_84, bk115_90, bk115_109, U_aload_n, U_oinit, U_new, U_dup, U_invokespecial0, U_putfield, U_bipush, U_newarray, U_iconst, U_getfield, U_invokespecial1, U_invokespecial2, U_anewarray, U_istore_n, U_iload_n, U_icmp_ge, U_aast, U_iinc, U_goto, U_return, UN_cc, UN_cn, UN_nc, UN_nn, UJ, lget, lset, lset2, entL, wsm, wcat, Option.toList_some, Option.toList_none, List.cons_append, List.nil_append, List.mem_cons, List.not_mem_nil, Prod.mk.injEq, or_false, false_or, or_true, true_or, and_true, true_and, and_false, false_and, and_self, ne_eq, not_false_eq_true, not_true_eq_false, forall_const, true_implies, false_implies, Nat.add_zero, Nat.zero_add, Nat.le_refl, Nat.zero_le, List.set_cons_zero, List.set_cons_succ, List.set_nil, ↓reduceIte, Nat.reduceAdd, Nat.reduceSub, Nat.reduceEqDiff, Nat.reduceLeDiff, Int.reduceEq, Int.reduceNe, Int.reduceNeg, reduceCtorEq, k1, k57, l57, Int.reduceLT, Int.reduceAdd, ust_l, ust_s, zro_o, prM_o, o6]
  repeat (first | refine And.intro (by decide) ?_ | refine And.intro (rr (by omega)) ?_)
  refine i_Code_init' (by simp [ust, zro, prM_o, o6]) (by simp [ust, zro, prM_o, o6]) (fun j => zro_z _ _ _) fun M7 f7 z7 p7 q7 r7 => ?_
  have o7 : ∀ j, M7 1 j = if j = 9 then 108 else if j = 8 then 94 else if j = 7 then 88 else if j = 6 then 57 else if j = 5 then 32 else if j = 4 then 21 else if j = 3 then 19 else if j = 2 then 0 else if j = 1 then 18 else if j = 0 then 2 else 0 := fun j => by rw [f7 1 (by decide)]; simp [ust, zro, prM_o, o6]
  have g7 : ∀ b, 2 ≤ b → b < 120 → M7 b = M6 b := fun b h1 h2 => by
    rw [f7 b (by omega)]
    repeat (first | rw [ust_ne (by omega)] | rw [zro_o (by omega)] | rw [prM_o (by omega)])
  simp only [bk115_0, bk115_84, bk115_90, bk115_109, U_aload_n, U_oinit, U_new, U_dup, U_invokespecial0, U_putfield, U_bipush, U_newarray, U_iconst, U_getfield, U_invokespecial1, U_invokespecial2, U_anewarray, U_istore_n, U_iload_n, U_icmp_ge, U_aast, U_iinc, U_goto, U_return, UN_cc, UN_cn, UN_nc, UN_nn, UJ, lget, lset, lset2, entL, wsm, wcat, Option.toList_some, Option.toList_none, List.cons_append, List.nil_append, List.mem_cons, List.not_mem_nil, Prod.mk.injEq, or_false, false_or, or_true, true_or, and_true, true_and, and_false, false_and, and_self, ne_eq, not_false_eq_true, not_true_eq_false, forall_const, true_implies, false_implies, Nat.add_zero, Nat.zero_add, Nat.le_refl, Nat.zero_le, List.set_cons_zero, List.set_cons_succ, List.set_nil, ↓reduceIte, Nat.reduceAdd, Nat.reduceSub, Nat.reduceEqDiff, Nat.reduceLeDiff, Int.reduceEq, Int.reduceNe, Int.reduceNeg, reduceCtorEq, k1, k57, l57, Int.reduceLT, Int.reduceAdd, ust_l, ust_s, zro_o, prM_o, o7]
  repeat (first | refine And.intro (by decide) ?_ | refine And.intro (rr (by omega)) ?_)
  refine i_Turns_init' (by simp [ust, zro, prM_o, o7]) (by simp [ust, zro, prM_o, o7]) (fun j => zro_z _ _ _) fun M8 f8 z8 p8 => ?_
  have o8 : ∀ j, M8 1 j = if j = 10 then 120 else if j = 9 then 108 else if j = 8 then 94 else if j = 7 then 88 else if j = 6 then 57 else if j = 5 then 32 else if j = 4 then 21 else if j = 3 then 19 else if j = 2 then 0 else if j = 1 then 18 else if j = 0 then 2 else 0 := fun j => by rw [f8 1 (by decide)]; simp [ust, zro, prM_o, o7]
  have g8 : ∀ b, 2 ≤ b → b < 182 → M8 b = M7 b := fun b h1 h2 => by
    rw [f8 b (by omega)]
    repeat (first | rw [ust_ne (by omega)] | rw [zro_o (by omega)] | rw [prM_o (by omega)])
  simp only [bk115_0, bk115_84, bk115_90, bk115_109, U_aload_n, U_oinit, U_new, U_dup, U_invokespecial0, U_putfield, U_bipush, U_newarray, U_iconst, U_getfield, U_invokespecial1, U_invokespecial2, U_anewarray, U_istore_n, U_iload_n, U_icmp_ge, U_aast, U_iinc, U_goto, U_return, UN_cc, UN_cn, UN_nc, UN_nn, UJ, lget, lset, lset2, entL, wsm, wcat, Option.toList_some, Option.toList_none, List.cons_append, List.nil_append, List.mem_cons, List.not_mem_nil, Prod.mk.injEq, or_false, false_or, or_true, true_or, and_true, true_and, and_false, false_and, and_self, ne_eq, not_false_eq_true, not_true_eq_false, forall_const, true_implies, false_implies, Nat.add_zero, Nat.zero_add, Nat.le_refl, Nat.zero_le, List.set_cons_zero, List.set_cons_succ, List.set_nil, ↓reduceIte, Nat.reduceAdd, Nat.reduceSub, Nat.reduceEqDiff, Nat.reduceLeDiff, Int.reduceEq, Int.reduceNe, Int.reduceNeg, reduceCtorEq, k1, k57, l57, Int.reduceLT, Int.reduceAdd, ust_l, ust_s, zro_o, prM_o, o8]
  repeat (first | refine And.intro (by decide) ?_ | refine And.intro (rr (by omega)) ?_)
  refine i_Cover_init (fun j => zro_z _ _ _) fun M9 f9 z9 p9 => ?_
  have o9 : ∀ j, M9 1 j = if j = 11 then 182 else if j = 10 then 120 else if j = 9 then 108 else if j = 8 then 94 else if j = 7 then 88 else if j = 6 then 57 else if j = 5 then 32 else if j = 4 then 21 else if j = 3 then 19 else if j = 2 then 0 else if j = 1 then 18 else if j = 0 then 2 else 0 := fun j => by rw [f9 1 (by decide)]; simp [ust, zro, prM_o, o8]
  have g9 : ∀ b, 2 ≤ b → b < 188 → M9 b = M8 b := fun b h1 h2 => by
    rw [f9 b (by omega)]
    repeat (first | rw [ust_ne (by omega)] | rw [zro_o (by omega)] | rw [prM_o (by omega)])
  simp only [bk115_0, bk115_84, bk115_90, bk115_109, U_aload_n, U_oinit, U_new, U_dup, U_invokespecial0, U_putfield, U_bipush, U_newarray, U_iconst, U_getfield, U_invokespecial1, U_invokespecial2, U_anewarray, U_istore_n, U_iload_n, U_icmp_ge, U_aast, U_iinc, U_goto, U_return, UN_cc, UN_cn, UN_nc, UN_nn, UJ, lget, lset, lset2, entL, wsm, wcat, Option.toList_some, Option.toList_none, List.cons_append, List.nil_append, List.mem_cons, List.not_mem_nil, Prod.mk.injEq, or_false, false_or, or_true, true_or, and_true, true_and, and_false, false_and, and_self, ne_eq, not_false_eq_true, not_true_eq_false, forall_const, true_implies, false_implies, Nat.add_zero, Nat.zero_add, Nat.le_refl, Nat.zero_le, List.set_cons_zero, List.set_cons_succ, List.set_nil, ↓reduceIte, Nat.reduceAdd, Nat.reduceSub, Nat.reduceEqDiff, Nat.reduceLeDiff, Int.reduceEq, Int.reduceNe, Int.reduceNeg, reduceCtorEq, k1, k57, l57, Int.reduceLT, Int.reduceAdd, ust_l, ust_s, zro_o, prM_o, o9]
  repeat (first | refine And.intro (by decide) ?_ | refine And.intro (rr (by omega)) ?_)
  have e9 : ∀ b, 2 ≤ b → b < 190 → ust M9 1 12 188 b = M9 b := fun b h1 _ => ust_ne (by omega)
  have e8 : ∀ b, 2 ≤ b → b < 188 → ust M9 1 12 188 b = M8 b := fun b h1 h2 => (e9 b h1 (by omega)).trans (g9 b h1 h2)
  have e7 : ∀ b, 2 ≤ b → b < 182 → ust M9 1 12 188 b = M7 b := fun b h1 h2 => (e8 b h1 (by omega)).trans (g8 b h1 h2)
  have e6 : ∀ b, 2 ≤ b → b < 120 → ust M9 1 12 188 b = M6 b := fun b h1 h2 => (e7 b h1 (by omega)).trans (g7 b h1 h2)
  have e5 : ∀ b, 2 ≤ b → b < 108 → ust M9 1 12 188 b = M5 b := fun b h1 h2 => (e6 b h1 (by omega)).trans (g6 b h1 h2)
  have e4 : ∀ b, 2 ≤ b → b < 94 → ust M9 1 12 188 b = M4 b := fun b h1 h2 => (e5 b h1 (by omega)).trans (g5 b h1 h2)
  have e3 : ∀ b, 2 ≤ b → b < 57 → ust M9 1 12 188 b = M3 b := fun b h1 h2 => (e4 b h1 (by omega)).trans (g4 b h1 h2)
  have e2 : ∀ b, 2 ≤ b → b < 32 → ust M9 1 12 188 b = M2 b := fun b h1 h2 => (e3 b h1 (by omega)).trans (g3 b h1 h2)
  have e1 : ∀ b, 2 ≤ b → b < 18 → ust M9 1 12 188 b = M1 b := fun b h1 h2 => (e2 b h1 (by omega)).trans (g2 b h1 h2)
  have pz : ∀ r : Nat, r < 6 → FrP M4 (58 + 5 * (r : Int)) := fun r hr => by
    have : r = 0 ∨ r = 1 ∨ r = 2 ∨ r = 3 ∨ r = 4 ∨ r = 5 := by omega
    rcases this with rfl | rfl | rfl | rfl | rfl | rfl
    · exact pr0
    · exact pr1
    · exact pr2
    · exact pr3
    · exact pr4
    · exact pr5
  refine hQ _ (fun b hb => ?_) ⟨fun b h1 h2 => ?_, ?_, fun u h1 h2 => ?_, ?_, ?_, fun r hr => ?_, ?_, ?_, fun j => ?_, ?_, ?_, fun j => ?_, ?_, fun j => ?_⟩
  · rw [ust_ne (by omega), f9 b (by omega)]
    repeat (first | rw [ust_ne (by omega)] | rw [zro_o (by omega)] | rw [prM_o (by omega)] | rw [f8 b (by omega)] | rw [f7 b (by omega)] | rw [f6 b (by omega)] | rw [f5 b (by omega)] | rw [f4 b (by omega)] | rw [f3 b (by omega)] | rw [f2 b (by omega)] | rw [f1 b (by omega)])
  · by_cases c1 : b = 1
    · subst c1
      refine fzC_of ?_
      rw [show (fzL.lookup 1).getD [] = [(0, 2), (1, 18), (3, 19), (4, 21), (5, 32), (6, 57), (7, 88), (8, 94), (9, 108), (10, 120), (11, 182), (12, 188)] from rfl]
      simp [ust, o9]
    · by_cases c2 : b < 18
      · exact (z1 b (by omega) c2).fx (e1 b (by omega) c2)
      · by_cases c3 : b < 21
        · exact (z2' b (by omega) c3).fx (e2 b (by omega) (by omega))
        · by_cases d2 : b < 32
          · exact (z2 b (by omega) d2).fx (e2 b (by omega) (by omega))
          · by_cases d3 : b < 57
            · exact (z3 b (by omega) d3).fx (e3 b (by omega) (by omega))
            · by_cases d57 : b = 57
              · subst d57; exact z4'.fx (e4 57 (by decide) (by decide))
              · by_cases d88 : b < 88
                · refine FzC.fx ?_ (e4 b (by omega) (by omega))
                  by_cases x0 : b < 63
                  · exact pr0.fz rfl rfl rfl rfl rfl b (by omega) (by omega)
                  by_cases x1 : b < 68
                  · exact pr1.fz rfl rfl rfl rfl rfl b (by omega) (by omega)
                  by_cases x2 : b < 73
                  · exact pr2.fz rfl rfl rfl rfl rfl b (by omega) (by omega)
                  by_cases x3 : b < 78
                  · exact pr3.fz rfl rfl rfl rfl rfl b (by omega) (by omega)
                  by_cases x4 : b < 83
                  · exact pr4.fz rfl rfl rfl rfl rfl b (by omega) (by omega)
                  exact pr5.fz rfl rfl rfl rfl rfl b (by omega) (by omega)
                · by_cases d4 : b < 94
                  · exact (z4 b (by omega) d4).fx (e4 b (by omega) (by omega))
                  · by_cases d5 : b < 108
                    · exact (z5 b (by omega) d5).fx (e5 b (by omega) (by omega))
                    · by_cases d6 : b < 120
                      · exact (z6 b (by omega) d6).fx (e6 b (by omega) (by omega))
                      · by_cases d7 : b < 182
                        · exact (z7 b (by omega) d7).fx (e7 b (by omega) (by omega))
                        · by_cases d8 : b < 188
                          · exact (z8 b (by omega) d8).fx (e8 b (by omega) (by omega))
                          · exact (z9 b (by omega) h2).fx (e9 b (by omega) (by omega))
  · rw [e1 2 (by decide) (by decide)]; exact p1
  · have := v1 u h1 h2
    unfold invG at this ⊢
    rw [e1 3 (by decide) (by decide)]; exact this
  · simp [ust, o9]
  · rw [e2 21 (by decide) (by decide)]; exact p2
  · rw [e4 (58 + 5 * (r : Int) + 1) (by omega) (by omega), e4 (58 + 5 * (r : Int) + 2) (by omega) (by omega), e4 (58 + 5 * (r : Int) + 3) (by omega) (by omega), e4 (58 + 5 * (r : Int) + 4) (by omega) (by omega)]
    have := pz r hr
    exact ⟨this.2.2.2.1, this.2.2.2.2.1, this.2.2.2.2.2.2.1, this.2.2.2.2.2.2.2⟩
  · rw [e4 88 (by decide) (by decide)]; exact p4
  · rw [e5 94 (by decide) (by decide)]; exact p5
  · rw [e6 109 (by decide) (by decide)]; exact p6 j
  · rw [e7 120 (by decide) (by decide)]; exact p7
  · rw [e7 120 (by decide) (by decide)]; exact q7
  · rw [e7 121 (by decide) (by decide)]; exact r7 j
  · rw [e8 182 (by decide) (by decide)]; exact p8
  · rw [e9 189 (by decide) (by decide)]; exact p9 j
