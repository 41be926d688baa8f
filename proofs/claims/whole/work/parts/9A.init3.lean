/-! THE CONSTRUCTOR: the objects of the class; printed by gen_init.py -/
theorem mna_o {M : Mem} {n a b : Int} (h : b < n ∨ (n < b ∧ n + a < b)) : mna M n a b = M b := by
  funext j; show (if b = n then (if 0 ≤ j ∧ j < a then n + 1 + j else 0) else if n < b ∧ b ≤ n + a then 0 else M b j) = M b j
  rw [if_neg (by omega), if_neg (by omega)]
theorem prM_0 {M : Mem} {a b : Int} (h : b = a) : prM M a b 0 = a + 1 := by rw [h]; exact (prM_is M a).1
theorem prM_1 {M : Mem} {a b : Int} (h : b = a) : prM M a b 1 = a + 3 := by rw [h]; exact (prM_is M a).2.1
theorem prM_u {M : Mem} {a b : Int} (h : b = a + 1) : prM M a b 0 = a + 2 := by rw [h]; exact (prM_is M a).2.2.1
theorem prM_v {M : Mem} {a b : Int} (h : b = a + 3) : prM M a b 0 = a + 4 := by rw [h]; exact (prM_is M a).2.2.2.2.2.1
set_option maxHeartbeats 16000000 in
theorem i_Curve_init {M : Mem} {Q : Post} (hM : ∀ j, M 21 j = 0) (hQ : ∀ M', (∀ b, b < 21 → M' b = M b) → (∀ b, 21 ≤ b → b < 32 → FzC b M') → (M' 21 3 = 0) → Q none 32 M') : CL 60 [(2, 21), (2, 2)] 22 M Q := by
  have k1 : ∀ n : Int, 21 < n → kd n 21 = KD 21 := fun n h => kd_lt rfl h
  rw [show KD 21 = 13 from rfl] at k1
  refine WP.run [] [] 90 ?_
  simp only [bk60_0, U_aload_n, U_oinit, U_new, U_dup, U_invokespecial0, U_putfield, U_iconst, U_bipush, U_newarray, U_sipush, U_return, UN_cc, UN_cn, UN_nc, UN_nn, UJ, lget, lset, lset2, entL, wsm, wcat, Option.toList_some, Option.toList_none, List.cons_append, List.nil_append, List.mem_cons, List.not_mem_nil, Prod.mk.injEq, or_false, false_or, or_true, true_or, and_true, true_and, and_false, false_and, and_self, ne_eq, not_false_eq_true, not_true_eq_false, forall_const, true_implies, false_implies, Nat.add_zero, Nat.zero_add, Nat.le_refl, Nat.zero_le, List.set_cons_zero, List.set_cons_succ, List.set_nil, ↓reduceIte, Nat.reduceAdd, Nat.reduceSub, Nat.reduceEqDiff, Nat.reduceLeDiff, Int.reduceEq, Int.reduceNe, Int.reduceNeg, reduceCtorEq, k1, Int.reduceLT, Int.reduceAdd]
  repeat (refine And.intro (by decide) ?_)
  refine i_row (a := 22) (by decide) rfl rfl rfl ?_
  simp only [bk60_0, U_aload_n, U_oinit, U_new, U_dup, U_invokespecial0, U_putfield, U_iconst, U_bipush, U_newarray, U_sipush, U_return, UN_cc, UN_cn, UN_nc, UN_nn, UJ, lget, lset, lset2, entL, wsm, wcat, Option.toList_some, Option.toList_none, List.cons_append, List.nil_append, List.mem_cons, List.not_mem_nil, Prod.mk.injEq, or_false, false_or, or_true, true_or, and_true, true_and, and_false, false_and, and_self, ne_eq, not_false_eq_true, not_true_eq_false, forall_const, true_implies, false_implies, Nat.add_zero, Nat.zero_add, Nat.le_refl, Nat.zero_le, List.set_cons_zero, List.set_cons_succ, List.set_nil, ↓reduceIte, Nat.reduceAdd, Nat.reduceSub, Nat.reduceEqDiff, Nat.reduceLeDiff, Int.reduceEq, Int.reduceNe, Int.reduceNeg, reduceCtorEq, k1, Int.reduceLT, Int.reduceAdd]
  repeat (refine And.intro (by decide) ?_)
  refine i_row (a := 24) (by decide) rfl rfl rfl ?_
  simp only [bk60_0, U_aload_n, U_oinit, U_new, U_dup, U_invokespecial0, U_putfield, U_iconst, U_bipush, U_newarray, U_sipush, U_return, UN_cc, UN_cn, UN_nc, UN_nn, UJ, lget, lset, lset2, entL, wsm, wcat, Option.toList_some, Option.toList_none, List.cons_append, List.nil_append, List.mem_cons, List.not_mem_nil, Prod.mk.injEq, or_false, false_or, or_true, true_or, and_true, true_and, and_false, false_and, and_self, ne_eq, not_false_eq_true, not_true_eq_false, forall_const, true_implies, false_implies, Nat.add_zero, Nat.zero_add, Nat.le_refl, Nat.zero_le, List.set_cons_zero, List.set_cons_succ, List.set_nil, ↓reduceIte, Nat.reduceAdd, Nat.reduceSub, Nat.reduceEqDiff, Nat.reduceLeDiff, Int.reduceEq, Int.reduceNe, Int.reduceNeg, reduceCtorEq, k1, Int.reduceLT, Int.reduceAdd]
  repeat (refine And.intro (by decide) ?_)
  refine hQ _ (fun b hb => ?_) (fun b h1 h2 => ?_) ?_
  · repeat (first | rw [ust_ne (by omega)] | rw [zro_o (by omega)] | rw [prM_o (by omega)] | rw [mna_o (by omega)])
  · have : b = 21 ∨ b = 22 ∨ b = 24 ∨ b = 23 ∨ b = 25 ∨ b = 26 ∨ b = 27 ∨ b = 28 ∨ b = 29 ∨ b = 30 ∨ b = 31 := by omega
    rcases this with rfl | rfl | rfl | rfl | rfl | rfl | rfl | rfl | rfl | rfl | rfl
    · refine fzC_of ?_
      rw [show (fzL.lookup 21).getD [] = [(0, 2), (1, 22), (2, 24), (5, 26), (6, 27), (8, 28), (10, 29), (11, 30), (12, 31)] from rfl]
      simp [ust, zro, mna, prM_o, hM]
    all_goals first | exact fzC_arr (Or.inl rfl) | exact fzC_arr (Or.inr rfl) | (refine fzC_pair rfl ?_ ?_ <;> simp [ust, zro, mna, prM_o, prM_0, prM_1, prM_u, prM_v]) | (refine fzC_row rfl ?_; simp [ust, zro, mna, prM_o, prM_0, prM_1, prM_u, prM_v])
  · simp [ust, zro, mna, prM_o]
theorem i_Curve_init' {M : Mem} {Q : Post} {x0 : Int} (hx0 : x0 = 2) (hM : ∀ j, M 21 j = 0) (hQ : ∀ M', (∀ b, b < 21 → M' b = M b) → (∀ b, 21 ≤ b → b < 32 → FzC b M') → (M' 21 3 = 0) → Q none 32 M') : CL 60 [(2, 21), (2, x0)] 22 M Q := by
  subst hx0; exact i_Curve_init hM hQ
set_option maxHeartbeats 16000000 in
theorem i_Adder_init {M : Mem} {Q : Post} (hM : ∀ j, M 32 j = 0) (hQ : ∀ M', (∀ b, b < 32 → M' b = M b) → (∀ b, 32 ≤ b → b < 57 → FzC b M') → Q none 57 M') : CL 7 [(2, 32), (2, 2), (2, 21)] 33 M Q := by
  have k1 : ∀ n : Int, 32 < n → kd n 32 = KD 32 := fun n h => kd_lt rfl h
  rw [show KD 32 = 10 from rfl] at k1
  refine WP.run [] [] 90 ?_
  simp only [bk7_0, U_aload_n, U_oinit, U_new, U_dup, U_invokespecial0, U_putfield, U_return, UN_cc, UN_cn, UN_nc, UN_nn, UJ, lget, lset, lset2, entL, wsm, wcat, Option.toList_some, Option.toList_none, List.cons_append, List.nil_append, List.mem_cons, List.not_mem_nil, Prod.mk.injEq, or_false, false_or, or_true, true_or, and_true, true_and, and_false, false_and, and_self, ne_eq, not_false_eq_true, not_true_eq_false, forall_const, true_implies, false_implies, Nat.add_zero, Nat.zero_add, Nat.le_refl, Nat.zero_le, List.set_cons_zero, List.set_cons_succ, List.set_nil, ↓reduceIte, Nat.reduceAdd, Nat.reduceSub, Nat.reduceEqDiff, Nat.reduceLeDiff, Int.reduceEq, Int.reduceNe, Int.reduceNeg, reduceCtorEq, k1, Int.reduceLT, Int.reduceAdd]
  repeat (refine And.intro (by decide) ?_)
  refine i_row (a := 33) (by decide) rfl rfl rfl ?_
  simp only [bk7_0, U_aload_n, U_oinit, U_new, U_dup, U_invokespecial0, U_putfield, U_return, UN_cc, UN_cn, UN_nc, UN_nn, UJ, lget, lset, lset2, entL, wsm, wcat, Option.toList_some, Option.toList_none, List.cons_append, List.nil_append, List.mem_cons, List.not_mem_nil, Prod.mk.injEq, or_false, false_or, or_true, true_or, and_true, true_and, and_false, false_and, and_self, ne_eq, not_false_eq_true, not_true_eq_false, forall_const, true_implies, false_implies, Nat.add_zero, Nat.zero_add, Nat.le_refl, Nat.zero_le, List.set_cons_zero, List.set_cons_succ, List.set_nil, ↓reduceIte, Nat.reduceAdd, Nat.reduceSub, Nat.reduceEqDiff, Nat.reduceLeDiff, Int.reduceEq, Int.reduceNe, Int.reduceNeg, reduceCtorEq, k1, Int.reduceLT, Int.reduceAdd]
  repeat (refine And.intro (by decide) ?_)
  refine i_row (a := 35) (by decide) rfl rfl rfl ?_
  simp only [bk7_0, U_aload_n, U_oinit, U_new, U_dup, U_invokespecial0, U_putfield, U_return, UN_cc, UN_cn, UN_nc, UN_nn, UJ, lget, lset, lset2, entL, wsm, wcat, Option.toList_some, Option.toList_none, List.cons_append, List.nil_append, List.mem_cons, List.not_mem_nil, Prod.mk.injEq, or_false, false_or, or_true, true_or, and_true, true_and, and_false, false_and, and_self, ne_eq, not_false_eq_true, not_true_eq_false, forall_const, true_implies, false_implies, Nat.add_zero, Nat.zero_add, Nat.le_refl, Nat.zero_le, List.set_cons_zero, List.set_cons_succ, List.set_nil, ↓reduceIte, Nat.reduceAdd, Nat.reduceSub, Nat.reduceEqDiff, Nat.reduceLeDiff, Int.reduceEq, Int.reduceNe, Int.reduceNeg, reduceCtorEq, k1, Int.reduceLT, Int.reduceAdd]
  repeat (refine And.intro (by decide) ?_)
  refine i_row (a := 37) (by decide) rfl rfl rfl ?_
  simp only [bk7_0, U_aload_n, U_oinit, U_new, U_dup, U_invokespecial0, U_putfield, U_return, UN_cc, UN_cn, UN_nc, UN_nn, UJ, lget, lset, lset2, entL, wsm, wcat, Option.toList_some, Option.toList_none, List.cons_append, List.nil_append, List.mem_cons, List.not_mem_nil, Prod.mk.injEq, or_false, false_or, or_true, true_or, and_true, true_and, and_false, false_and, and_self, ne_eq, not_false_eq_true, not_true_eq_false, forall_const, true_implies, false_implies, Nat.add_zero, Nat.zero_add, Nat.le_refl, Nat.zero_le, List.set_cons_zero, List.set_cons_succ, List.set_nil, ↓reduceIte, Nat.reduceAdd, Nat.reduceSub, Nat.reduceEqDiff, Nat.reduceLeDiff, Int.reduceEq, Int.reduceNe, Int.reduceNeg, reduceCtorEq, k1, Int.reduceLT, Int.reduceAdd]
  repeat (refine And.intro (by decide) ?_)
  refine i_row (a := 39) (by decide) rfl rfl rfl ?_
  simp only [bk7_0, U_aload_n, U_oinit, U_new, U_dup, U_invokespecial0, U_putfield, U_return, UN_cc, UN_cn, UN_nc, UN_nn, UJ, lget, lset, lset2, entL, wsm, wcat, Option.toList_some, Option.toList_none, List.cons_append, List.nil_append, List.mem_cons, List.not_mem_nil, Prod.mk.injEq, or_false, false_or, or_true, true_or, and_true, true_and, and_false, false_and, and_self, ne_eq, not_false_eq_true, not_true_eq_false, forall_const, true_implies, false_implies, Nat.add_zero, Nat.zero_add, Nat.le_refl, Nat.zero_le, List.set_cons_zero, List.set_cons_succ, List.set_nil, ↓reduceIte, Nat.reduceAdd, Nat.reduceSub, Nat.reduceEqDiff, Nat.reduceLeDiff, Int.reduceEq, Int.reduceNe, Int.reduceNeg, reduceCtorEq, k1, Int.reduceLT, Int.reduceAdd]
  repeat (refine And.intro (by decide) ?_)
  refine i_row (a := 41) (by decide) rfl rfl rfl ?_
  simp only [bk7_0, U_aload_n, U_oinit, U_new, U_dup, U_invokespecial0, U_putfield, U_return, UN_cc, UN_cn, UN_nc, UN_nn, UJ, lget, lset, lset2, entL, wsm, wcat, Option.toList_some, Option.toList_none, List.cons_append, List.nil_append, List.mem_cons, List.not_mem_nil, Prod.mk.injEq, or_false, false_or, or_true, true_or, and_true, true_and, and_false, false_and, and_self, ne_eq, not_false_eq_true, not_true_eq_false, forall_const, true_implies, false_implies, Nat.add_zero, Nat.zero_add, Nat.le_refl, Nat.zero_le, List.set_cons_zero, List.set_cons_succ, List.set_nil, ↓reduceIte, Nat.reduceAdd, Nat.reduceSub, Nat.reduceEqDiff, Nat.reduceLeDiff, Int.reduceEq, Int.reduceNe, Int.reduceNeg, reduceCtorEq, k1, Int.reduceLT, Int.reduceAdd]
  repeat (refine And.intro (by decide) ?_)
  refine i_row (a := 43) (by decide) rfl rfl rfl ?_
  simp only [bk7_0, U_aload_n, U_oinit, U_new, U_dup, U_invokespecial0, U_putfield, U_return, UN_cc, UN_cn, UN_nc, UN_nn, UJ, lget, lset, lset2, entL, wsm, wcat, Option.toList_some, Option.toList_none, List.cons_append, List.nil_append, List.mem_cons, List.not_mem_nil, Prod.mk.injEq, or_false, false_or, or_true, true_or, and_true, true_and, and_false, false_and, and_self, ne_eq, not_false_eq_true, not_true_eq_false, forall_const, true_implies, false_implies, Nat.add_zero, Nat.zero_add, Nat.le_refl, Nat.zero_le, List.set_cons_zero, List.set_cons_succ, List.set_nil, ↓reduceIte, Nat.reduceAdd, Nat.reduceSub, Nat.reduceEqDiff, Nat.reduceLeDiff, Int.reduceEq, Int.reduceNe, Int.reduceNeg, reduceCtorEq, k1, Int.reduceLT, Int.reduceAdd]
  repeat (refine And.intro (by decide) ?_)
  refine i_row (a := 45) (by decide) rfl rfl rfl ?_
  simp only [bk7_0, U_aload_n, U_oinit, U_new, U_dup, U_invokespecial0, U_putfield, U_return, UN_cc, UN_cn, UN_nc, UN_nn, UJ, lget, lset, lset2, entL, wsm, wcat, Option.toList_some, Option.toList_none, List.cons_append, List.nil_append, List.mem_cons, List.not_mem_nil, Prod.mk.injEq, or_false, false_or, or_true, true_or, and_true, true_and, and_false, false_and, and_self, ne_eq, not_false_eq_true, not_true_eq_false, forall_const, true_implies, false_implies, Nat.add_zero, Nat.zero_add, Nat.le_refl, Nat.zero_le, List.set_cons_zero, List.set_cons_succ, List.set_nil, ↓reduceIte, Nat.reduceAdd, Nat.reduceSub, Nat.reduceEqDiff, Nat.reduceLeDiff, Int.reduceEq, Int.reduceNe, Int.reduceNeg, reduceCtorEq, k1, Int.reduceLT, Int.reduceAdd]
  repeat (refine And.intro (by decide) ?_)
  refine i_pair (a := 47) (by decide) rfl rfl rfl rfl rfl rfl rfl ?_
  simp only [bk7_0, U_aload_n, U_oinit, U_new, U_dup, U_invokespecial0, U_putfield, U_return, UN_cc, UN_cn, UN_nc, UN_nn, UJ, lget, lset, lset2, entL, wsm, wcat, Option.toList_some, Option.toList_none, List.cons_append, List.nil_append, List.mem_cons, List.not_mem_nil, Prod.mk.injEq, or_false, false_or, or_true, true_or, and_true, true_and, and_false, false_and, and_self, ne_eq, not_false_eq_true, not_true_eq_false, forall_const, true_implies, false_implies, Nat.add_zero, Nat.zero_add, Nat.le_refl, Nat.zero_le, List.set_cons_zero, List.set_cons_succ, List.set_nil, ↓reduceIte, Nat.reduceAdd, Nat.reduceSub, Nat.reduceEqDiff, Nat.reduceLeDiff, Int.reduceEq, Int.reduceNe, Int.reduceNeg, reduceCtorEq, k1, Int.reduceLT, Int.reduceAdd]
  repeat (refine And.intro (by decide) ?_)
  refine i_pair (a := 52) (by decide) rfl rfl rfl rfl rfl rfl rfl ?_
  simp only [bk7_0, U_aload_n, U_oinit, U_new, U_dup, U_invokespecial0, U_putfield, U_return, UN_cc, UN_cn, UN_nc, UN_nn, UJ, lget, lset, lset2, entL, wsm, wcat, Option.toList_some, Option.toList_none, List.cons_append, List.nil_append, List.mem_cons, List.not_mem_nil, Prod.mk.injEq, or_false, false_or, or_true, true_or, and_true, true_and, and_false, false_and, and_self, ne_eq, not_false_eq_true, not_true_eq_false, forall_const, true_implies, false_implies, Nat.add_zero, Nat.zero_add, Nat.le_refl, Nat.zero_le, List.set_cons_zero, List.set_cons_succ, List.set_nil, ↓reduceIte, Nat.reduceAdd, Nat.reduceSub, Nat.reduceEqDiff, Nat.reduceLeDiff, Int.reduceEq, Int.reduceNe, Int.reduceNeg, reduceCtorEq, k1, Int.reduceLT, Int.reduceAdd]
  repeat (refine And.intro (by decide) ?_)
  refine hQ _ (fun b hb => ?_) (fun b h1 h2 => ?_)
  · repeat (first | rw [ust_ne (by omega)] | rw [zro_o (by omega)] | rw [prM_o (by omega)] | rw [mna_o (by omega)])
  · have : b = 32 ∨ b = 47 ∨ b = 52 ∨ b = 33 ∨ b = 35 ∨ b = 37 ∨ b = 39 ∨ b = 41 ∨ b = 43 ∨ b = 45 ∨ b = 48 ∨ b = 50 ∨ b = 53 ∨ b = 55 ∨ b = 34 ∨ b = 36 ∨ b = 38 ∨ b = 40 ∨ b = 42 ∨ b = 44 ∨ b = 46 ∨ b = 49 ∨ b = 51 ∨ b = 54 ∨ b = 56 := by omega
    rcases this with rfl | rfl | rfl | rfl | rfl | rfl | rfl | rfl | rfl | rfl | rfl | rfl | rfl | rfl | rfl | rfl | rfl | rfl | rfl | rfl | rfl | rfl | rfl | rfl | rfl
    · refine fzC_of ?_
      rw [show (fzL.lookup 32).getD [] = [(0, 2), (1, 21), (2, 33), (3, 35), (4, 37), (5, 39), (6, 41), (7, 43), (8, 45), (9, 47), (10, 52)] from rfl]
      simp [ust, zro, mna, prM_o, hM]
    all_goals first | exact fzC_arr (Or.inl rfl) | exact fzC_arr (Or.inr rfl) | (refine fzC_pair rfl ?_ ?_ <;> simp [ust, zro, mna, prM_o, prM_0, prM_1, prM_u, prM_v]) | (refine fzC_row rfl ?_; simp [ust, zro, mna, prM_o, prM_0, prM_1, prM_u, prM_v])
theorem i_Adder_init' {M : Mem} {Q : Post} {x0 x1 : Int} (hx0 : x0 = 2) (hx1 : x1 = 21) (hM : ∀ j, M 32 j = 0) (hQ : ∀ M', (∀ b, b < 32 → M' b = M b) → (∀ b, 32 ≤ b → b < 57 → FzC b M') → Q none 57 M') : CL 7 [(2, 32), (2, x0), (2, x1)] 33 M Q := by
  subst hx0 hx1; exact i_Adder_init hM hQ
set_option maxHeartbeats 16000000 in
theorem i_Listing_init {M : Mem} {Q : Post} (hM : ∀ j, M 88 j = 0) (hQ : ∀ M', (∀ b, b < 88 → M' b = M b) → (∀ b, 88 ≤ b → b < 94 → FzC b M') → (M' 88 3 = 0) → Q none 94 M') : CL 90 [(2, 88), (2, 2), (2, 21)] 89 M Q := by
  have k1 : ∀ n : Int, 88 < n → kd n 88 = KD 88 := fun n h => kd_lt rfl h
  rw [show KD 88 = 15 from rfl] at k1
  refine WP.run [] [] 90 ?_
  simp only [bk90_0, U_aload_n, U_oinit, U_sipush, U_newarray, U_putfield, U_iconst, U_new, U_dup, U_invokespecial0, U_return, UN_cc, UN_cn, UN_nc, UN_nn, UJ, lget, lset, lset2, entL, wsm, wcat, Option.toList_some, Option.toList_none, List.cons_append, List.nil_append, List.mem_cons, List.not_mem_nil, Prod.mk.injEq, or_false, false_or, or_true, true_or, and_true, true_and, and_false, false_and, and_self, ne_eq, not_false_eq_true, not_true_eq_false, forall_const, true_implies, false_implies, Nat.add_zero, Nat.zero_add, Nat.le_refl, Nat.zero_le, List.set_cons_zero, List.set_cons_succ, List.set_nil, ↓reduceIte, Nat.reduceAdd, Nat.reduceSub, Nat.reduceEqDiff, Nat.reduceLeDiff, Int.reduceEq, Int.reduceNe, Int.reduceNeg, reduceCtorEq, k1, Int.reduceLT, Int.reduceAdd]
  repeat (refine And.intro (by decide) ?_)
  refine i_row (a := 90) (by decide) rfl rfl rfl ?_
  simp only [bk90_0, U_aload_n, U_oinit, U_sipush, U_newarray, U_putfield, U_iconst, U_new, U_dup, U_invokespecial0, U_return, UN_cc, UN_cn, UN_nc, UN_nn, UJ, lget, lset, lset2, entL, wsm, wcat, Option.toList_some, Option.toList_none, List.cons_append, List.nil_append, List.mem_cons, List.not_mem_nil, Prod.mk.injEq, or_false, false_or, or_true, true_or, and_true, true_and, and_false, false_and, and_self, ne_eq, not_false_eq_true, not_true_eq_false, forall_const, true_implies, false_implies, Nat.add_zero, Nat.zero_add, Nat.le_refl, Nat.zero_le, List.set_cons_zero, List.set_cons_succ, List.set_nil, ↓reduceIte, Nat.reduceAdd, Nat.reduceSub, Nat.reduceEqDiff, Nat.reduceLeDiff, Int.reduceEq, Int.reduceNe, Int.reduceNeg, reduceCtorEq, k1, Int.reduceLT, Int.reduceAdd]
  repeat (refine And.intro (by decide) ?_)
  refine i_row (a := 92) (by decide) rfl rfl rfl ?_
  simp only [bk90_0, U_aload_n, U_oinit, U_sipush, U_newarray, U_putfield, U_iconst, U_new, U_dup, U_invokespecial0, U_return, UN_cc, UN_cn, UN_nc, UN_nn, UJ, lget, lset, lset2, entL, wsm, wcat, Option.toList_some, Option.toList_none, List.cons_append, List.nil_append, List.mem_cons, List.not_mem_nil, Prod.mk.injEq, or_false, false_or, or_true, true_or, and_true, true_and, and_false, false_and, and_self, ne_eq, not_false_eq_true, not_true_eq_false, forall_const, true_implies, false_implies, Nat.add_zero, Nat.zero_add, Nat.le_refl, Nat.zero_le, List.set_cons_zero, List.set_cons_succ, List.set_nil, ↓reduceIte, Nat.reduceAdd, Nat.reduceSub, Nat.reduceEqDiff, Nat.reduceLeDiff, Int.reduceEq, Int.reduceNe, Int.reduceNeg, reduceCtorEq, k1, Int.reduceLT, Int.reduceAdd]
  repeat (refine And.intro (by decide) ?_)
  refine hQ _ (fun b hb => ?_) (fun b h1 h2 => ?_) ?_
  · repeat (first | rw [ust_ne (by omega)] | rw [zro_o (by omega)] | rw [prM_o (by omega)] | rw [mna_o (by omega)])
  · have : b = 88 ∨ b = 90 ∨ b = 92 ∨ b = 89 ∨ b = 91 ∨ b = 93 := by omega
    rcases this with rfl | rfl | rfl | rfl | rfl | rfl
    · refine fzC_of ?_
      rw [show (fzL.lookup 88).getD [] = [(0, 2), (1, 21), (2, 89), (4, 90), (5, 92)] from rfl]
      simp [ust, zro, mna, prM_o, hM]
    all_goals first | exact fzC_arr (Or.inl rfl) | exact fzC_arr (Or.inr rfl) | (refine fzC_pair rfl ?_ ?_ <;> simp [ust, zro, mna, prM_o, prM_0, prM_1, prM_u, prM_v]) | (refine fzC_row rfl ?_; simp [ust, zro, mna, prM_o, prM_0, prM_1, prM_u, prM_v])
  · simp [ust, zro, mna, prM_o]
theorem i_Listing_init' {M : Mem} {Q : Post} {x0 x1 : Int} (hx0 : x0 = 2) (hx1 : x1 = 21) (hM : ∀ j, M 88 j = 0) (hQ : ∀ M', (∀ b, b < 88 → M' b = M b) → (∀ b, 88 ≤ b → b < 94 → FzC b M') → (M' 88 3 = 0) → Q none 94 M') : CL 90 [(2, 88), (2, x0), (2, x1)] 89 M Q := by
  subst hx0 hx1; exact i_Listing_init hM hQ
set_option maxHeartbeats 16000000 in
theorem i_Group_init {M : Mem} {Q : Post} (hM : ∀ j, M 94 j = 0) (hQ : ∀ M', (∀ b, b < 94 → M' b = M b) → (∀ b, 94 ≤ b → b < 108 → FzC b M') → (M' 94 6 = 0) → Q none 108 M') : CL 79 [(2, 94), (2, 32), (2, 88)] 95 M Q := by
  have k1 : ∀ n : Int, 94 < n → kd n 94 = KD 94 := fun n h => kd_lt rfl h
  rw [show KD 94 = 14 from rfl] at k1
  refine WP.run [] [] 90 ?_
  simp only [bk79_0, U_aload_n, U_oinit, U_sipush, U_newarray, U_putfield, U_bipush, U_iconst, U_new, U_dup, U_invokespecial0, U_return, UN_cc, UN_cn, UN_nc, UN_nn, UJ, lget, lset, lset2, entL, wsm, wcat, Option.toList_some, Option.toList_none, List.cons_append, List.nil_append, List.mem_cons, List.not_mem_nil, Prod.mk.injEq, or_false, false_or, or_true, true_or, and_true, true_and, and_false, false_and, and_self, ne_eq, not_false_eq_true, not_true_eq_false, forall_const, true_implies, false_implies, Nat.add_zero, Nat.zero_add, Nat.le_refl, Nat.zero_le, List.set_cons_zero, List.set_cons_succ, List.set_nil, ↓reduceIte, Nat.reduceAdd, Nat.reduceSub, Nat.reduceEqDiff, Nat.reduceLeDiff, Int.reduceEq, Int.reduceNe, Int.reduceNeg, reduceCtorEq, k1, Int.reduceLT, Int.reduceAdd]
  repeat (refine And.intro (by decide) ?_)
  refine i_pair (a := 98) (by decide) rfl rfl rfl rfl rfl rfl rfl ?_
  simp only [bk79_0, U_aload_n, U_oinit, U_sipush, U_newarray, U_putfield, U_bipush, U_iconst, U_new, U_dup, U_invokespecial0, U_return, UN_cc, UN_cn, UN_nc, UN_nn, UJ, lget, lset, lset2, entL, wsm, wcat, Option.toList_some, Option.toList_none, List.cons_append, List.nil_append, List.mem_cons, List.not_mem_nil, Prod.mk.injEq, or_false, false_or, or_true, true_or, and_true, true_and, and_false, false_and, and_self, ne_eq, not_false_eq_true, not_true_eq_false, forall_const, true_implies, false_implies, Nat.add_zero, Nat.zero_add, Nat.le_refl, Nat.zero_le, List.set_cons_zero, List.set_cons_succ, List.set_nil, ↓reduceIte, Nat.reduceAdd, Nat.reduceSub, Nat.reduceEqDiff, Nat.reduceLeDiff, Int.reduceEq, Int.reduceNe, Int.reduceNeg, reduceCtorEq, k1, Int.reduceLT, Int.reduceAdd]
  repeat (refine And.intro (by decide) ?_)
  refine i_pair (a := 103) (by decide) rfl rfl rfl rfl rfl rfl rfl ?_
  simp only [bk79_0, U_aload_n, U_oinit, U_sipush, U_newarray, U_putfield, U_bipush, U_iconst, U_new, U_dup, U_invokespecial0, U_return, UN_cc, UN_cn, UN_nc, UN_nn, UJ, lget, lset, lset2, entL, wsm, wcat, Option.toList_some, Option.toList_none, List.cons_append, List.nil_append, List.mem_cons, List.not_mem_nil, Prod.mk.injEq, or_false, false_or, or_true, true_or, and_true, true_and, and_false, false_and, and_self, ne_eq, not_false_eq_true, not_true_eq_false, forall_const, true_implies, false_implies, Nat.add_zero, Nat.zero_add, Nat.le_refl, Nat.zero_le, List.set_cons_zero, List.set_cons_succ, List.set_nil, ↓reduceIte, Nat.reduceAdd, Nat.reduceSub, Nat.reduceEqDiff, Nat.reduceLeDiff, Int.reduceEq, Int.reduceNe, Int.reduceNeg, reduceCtorEq, k1, Int.reduceLT, Int.reduceAdd]
  repeat (refine And.intro (by decide) ?_)
  refine hQ _ (fun b hb => ?_) (fun b h1 h2 => ?_) ?_
  · repeat (first | rw [ust_ne (by omega)] | rw [zro_o (by omega)] | rw [prM_o (by omega)] | rw [mna_o (by omega)])
  · have : b = 94 ∨ b = 98 ∨ b = 103 ∨ b = 99 ∨ b = 101 ∨ b = 104 ∨ b = 106 ∨ b = 95 ∨ b = 96 ∨ b = 97 ∨ b = 100 ∨ b = 102 ∨ b = 105 ∨ b = 107 := by omega
    rcases this with rfl | rfl | rfl | rfl | rfl | rfl | rfl | rfl | rfl | rfl | rfl | rfl | rfl | rfl
    · refine fzC_of ?_
      rw [show (fzL.lookup 94).getD [] = [(0, 32), (1, 88), (2, 95), (3, 96), (4, 97), (7, 98), (8, 103)] from rfl]
      simp [ust, zro, mna, prM_o, hM]
    all_goals first | exact fzC_arr (Or.inl rfl) | exact fzC_arr (Or.inr rfl) | (refine fzC_pair rfl ?_ ?_ <;> simp [ust, zro, mna, prM_o, prM_0, prM_1, prM_u, prM_v]) | (refine fzC_row rfl ?_; simp [ust, zro, mna, prM_o, prM_0, prM_1, prM_u, prM_v])
  · simp [ust, zro, mna, prM_o]
theorem i_Group_init' {M : Mem} {Q : Post} {x0 x1 : Int} (hx0 : x0 = 32) (hx1 : x1 = 88) (hM : ∀ j, M 94 j = 0) (hQ : ∀ M', (∀ b, b < 94 → M' b = M b) → (∀ b, 94 ≤ b → b < 108 → FzC b M') → (M' 94 6 = 0) → Q none 108 M') : CL 79 [(2, 94), (2, x0), (2, x1)] 95 M Q := by
  subst hx0 hx1; exact i_Group_init hM hQ
set_option maxHeartbeats 16000000 in
theorem i_Room_init {M : Mem} {Q : Post} (hM : ∀ j, M 108 j = 0) (hQ : ∀ M', (∀ b, b < 108 → M' b = M b) → (∀ b, 108 ≤ b → b < 120 → FzC b M') → (∀ j, M' 109 j = 0) → Q none 120 M') : CL 97 [(2, 108), (2, 32), (2, 21)] 109 M Q := by
  have k1 : ∀ n : Int, 108 < n → kd n 108 = KD 108 := fun n h => kd_lt rfl h
  rw [show KD 108 = 17 from rfl] at k1
  refine WP.run [] [] 90 ?_
  simp only [bk97_0, U_aload_n, U_oinit, U_bipush, U_newarray, U_putfield, U_new, U_dup, U_invokespecial0, U_return, UN_cc, UN_cn, UN_nc, UN_nn, UJ, lget, lset, lset2, entL, wsm, wcat, Option.toList_some, Option.toList_none, List.cons_append, List.nil_append, List.mem_cons, List.not_mem_nil, Prod.mk.injEq, or_false, false_or, or_true, true_or, and_true, true_and, and_false, false_and, and_self, ne_eq, not_false_eq_true, not_true_eq_false, forall_const, true_implies, false_implies, Nat.add_zero, Nat.zero_add, Nat.le_refl, Nat.zero_le, List.set_cons_zero, List.set_cons_succ, List.set_nil, ↓reduceIte, Nat.reduceAdd, Nat.reduceSub, Nat.reduceEqDiff, Nat.reduceLeDiff, Int.reduceEq, Int.reduceNe, Int.reduceNeg, reduceCtorEq, k1, Int.reduceLT, Int.reduceAdd]
  repeat (refine And.intro (by decide) ?_)
  refine i_pair (a := 110) (by decide) rfl rfl rfl rfl rfl rfl rfl ?_
  simp only [bk97_0, U_aload_n, U_oinit, U_bipush, U_newarray, U_putfield, U_new, U_dup, U_invokespecial0, U_return, UN_cc, UN_cn, UN_nc, UN_nn, UJ, lget, lset, lset2, entL, wsm, wcat, Option.toList_some, Option.toList_none, List.cons_append, List.nil_append, List.mem_cons, List.not_mem_nil, Prod.mk.injEq, or_false, false_or, or_true, true_or, and_true, true_and, and_false, false_and, and_self, ne_eq, not_false_eq_true, not_true_eq_false, forall_const, true_implies, false_implies, Nat.add_zero, Nat.zero_add, Nat.le_refl, Nat.zero_le, List.set_cons_zero, List.set_cons_succ, List.set_nil, ↓reduceIte, Nat.reduceAdd, Nat.reduceSub, Nat.reduceEqDiff, Nat.reduceLeDiff, Int.reduceEq, Int.reduceNe, Int.reduceNeg, reduceCtorEq, k1, Int.reduceLT, Int.reduceAdd]
  repeat (refine And.intro (by decide) ?_)
  refine i_pair (a := 115) (by decide) rfl rfl rfl rfl rfl rfl rfl ?_
  simp only [bk97_0, U_aload_n, U_oinit, U_bipush, U_newarray, U_putfield, U_new, U_dup, U_invokespecial0, U_return, UN_cc, UN_cn, UN_nc, UN_nn, UJ, lget, lset, lset2, entL, wsm, wcat, Option.toList_some, Option.toList_none, List.cons_append, List.nil_append, List.mem_cons, List.not_mem_nil, Prod.mk.injEq, or_false, false_or, or_true, true_or, and_true, true_and, and_false, false_and, and_self, ne_eq, not_false_eq_true, not_true_eq_false, forall_const, true_implies, false_implies, Nat.add_zero, Nat.zero_add, Nat.le_refl, Nat.zero_le, List.set_cons_zero, List.set_cons_succ, List.set_nil, ↓reduceIte, Nat.reduceAdd, Nat.reduceSub, Nat.reduceEqDiff, Nat.reduceLeDiff, Int.reduceEq, Int.reduceNe, Int.reduceNeg, reduceCtorEq, k1, Int.reduceLT, Int.reduceAdd]
  repeat (refine And.intro (by decide) ?_)
  refine hQ _ (fun b hb => ?_) (fun b h1 h2 => ?_) (fun j => ?_)
  · repeat (first | rw [ust_ne (by omega)] | rw [zro_o (by omega)] | rw [prM_o (by omega)] | rw [mna_o (by omega)])
  · have : b = 108 ∨ b = 110 ∨ b = 115 ∨ b = 111 ∨ b = 113 ∨ b = 116 ∨ b = 118 ∨ b = 109 ∨ b = 112 ∨ b = 114 ∨ b = 117 ∨ b = 119 := by omega
    rcases this with rfl | rfl | rfl | rfl | rfl | rfl | rfl | rfl | rfl | rfl | rfl | rfl
    · refine fzC_of ?_
      rw [show (fzL.lookup 108).getD [] = [(0, 32), (1, 21), (2, 109), (3, 110), (4, 115)] from rfl]
      simp [ust, zro, mna, prM_o, hM]
    all_goals first | exact fzC_arr (Or.inl rfl) | exact fzC_arr (Or.inr rfl) | (refine fzC_pair rfl ?_ ?_ <;> simp [ust, zro, mna, prM_o, prM_0, prM_1, prM_u, prM_v]) | (refine fzC_row rfl ?_; simp [ust, zro, mna, prM_o, prM_0, prM_1, prM_u, prM_v])
  · simp [ust, zro, mna, prM_o]
theorem i_Room_init' {M : Mem} {Q : Post} {x0 x1 : Int} (hx0 : x0 = 32) (hx1 : x1 = 21) (hM : ∀ j, M 108 j = 0) (hQ : ∀ M', (∀ b, b < 108 → M' b = M b) → (∀ b, 108 ≤ b → b < 120 → FzC b M') → (∀ j, M' 109 j = 0) → Q none 120 M') : CL 97 [(2, 108), (2, x0), (2, x1)] 109 M Q := by
  subst hx0 hx1; exact i_Room_init hM hQ
set_option maxHeartbeats 16000000 in
theorem i_Code_init {M : Mem} {Q : Post} (hM : ∀ j, M 120 j = 0) (hQ : ∀ M', (∀ b, b < 120 → M' b = M b) → (∀ b, 120 ≤ b → b < 182 → FzC b M') → (M' 120 9 = 0) → (M' 120 13 = -1) → (∀ j, M' 121 j = 0) → Q none 182 M') : CL 34 [(2, 120), (2, 2), (2, 21)] 121 M Q := by
  have k1 : ∀ n : Int, 120 < n → kd n 120 = KD 120 := fun n h => kd_lt rfl h
  rw [show KD 120 = 11 from rfl] at k1
  refine WP.run [] [] 90 ?_
  simp only [bk34_0, U_aload_n, U_oinit, U_bipush, U_newarray, U_putfield, U_multi, U_iconst, U_return, UN_cc, UN_cn, UN_nc, UN_nn, UJ, lget, lset, lset2, entL, wsm, wcat, Option.toList_some, Option.toList_none, List.cons_append, List.nil_append, List.mem_cons, List.not_mem_nil, Prod.mk.injEq, or_false, false_or, or_true, true_or, and_true, true_and, and_false, false_and, and_self, ne_eq, not_false_eq_true, not_true_eq_false, forall_const, true_implies, false_implies, Nat.add_zero, Nat.zero_add, Nat.le_refl, Nat.zero_le, List.set_cons_zero, List.set_cons_succ, List.set_nil, ↓reduceIte, Nat.reduceAdd, Nat.reduceSub, Nat.reduceEqDiff, Nat.reduceLeDiff, Int.reduceEq, Int.reduceNe, Int.reduceNeg, reduceCtorEq, k1, Int.reduceLT, Int.reduceAdd]
  repeat (refine And.intro (by decide) ?_)
  refine hQ _ (fun b hb => ?_) (fun b h1 h2 => ?_) ?_ ?_ (fun j => ?_)
  · repeat (first | rw [ust_ne (by omega)] | rw [zro_o (by omega)] | rw [prM_o (by omega)] | rw [mna_o (by omega)])
  · have : b = 120 ∨ b = 122 ∨ b = 149 ∨ b = 121 ∨ b = 123 ∨ b = 124 ∨ b = 125 ∨ b = 126 ∨ b = 127 ∨ b = 128 ∨ b = 129 ∨ b = 130 ∨ b = 131 ∨ b = 132 ∨ b = 133 ∨ b = 134 ∨ b = 135 ∨ b = 136 ∨ b = 137 ∨ b = 138 ∨ b = 139 ∨ b = 140 ∨ b = 141 ∨ b = 142 ∨ b = 143 ∨ b = 144 ∨ b = 145 ∨ b = 146 ∨ b = 147 ∨ b = 148 ∨ b = 150 ∨ b = 151 ∨ b = 152 ∨ b = 153 ∨ b = 154 ∨ b = 155 ∨ b = 156 ∨ b = 157 ∨ b = 158 ∨ b = 159 ∨ b = 160 ∨ b = 161 ∨ b = 162 ∨ b = 163 ∨ b = 164 ∨ b = 165 ∨ b = 166 ∨ b = 167 ∨ b = 168 ∨ b = 169 ∨ b = 170 ∨ b = 171 ∨ b = 172 ∨ b = 173 ∨ b = 174 ∨ b = 175 ∨ b = 176 ∨ b = 177 ∨ b = 178 ∨ b = 179 ∨ b = 180 ∨ b = 181 := by omega
    rcases this with rfl | rfl | rfl | rfl | rfl | rfl | rfl | rfl | rfl | rfl | rfl | rfl | rfl | rfl | rfl | rfl | rfl | rfl | rfl | rfl | rfl | rfl | rfl | rfl | rfl | rfl | rfl | rfl | rfl | rfl | rfl | rfl | rfl | rfl | rfl | rfl | rfl | rfl | rfl | rfl | rfl | rfl | rfl | rfl | rfl | rfl | rfl | rfl | rfl | rfl | rfl | rfl | rfl | rfl | rfl | rfl | rfl | rfl | rfl | rfl | rfl | rfl
    · refine fzC_of ?_
      rw [show (fzL.lookup 120).getD [] = [(0, 2), (1, 21), (2, 121), (3, 122), (4, 149), (5, 176), (6, 177), (10, 178), (11, 179), (12, 180), (15, 181)] from rfl]
      simp [ust, zro, mna, prM_o, hM]
    · refine fzC_of ?_
      rw [show (fzL.lookup 122).getD [] = [(0, 123), (1, 124), (2, 125), (3, 126), (4, 127), (5, 128), (6, 129), (7, 130), (8, 131), (9, 132), (10, 133), (11, 134), (12, 135), (13, 136), (14, 137), (15, 138), (16, 139), (17, 140), (18, 141), (19, 142), (20, 143), (21, 144), (22, 145), (23, 146), (24, 147), (25, 148)] from rfl]
      simp [ust, zro, mna, prM_o]
    · refine fzC_of ?_
      rw [show (fzL.lookup 149).getD [] = [(0, 150), (1, 151), (2, 152), (3, 153), (4, 154), (5, 155), (6, 156), (7, 157), (8, 158), (9, 159), (10, 160), (11, 161), (12, 162), (13, 163), (14, 164), (15, 165), (16, 166), (17, 167), (18, 168), (19, 169), (20, 170), (21, 171), (22, 172), (23, 173), (24, 174), (25, 175)] from rfl]
      simp [ust, zro, mna, prM_o]
    all_goals first | exact fzC_arr (Or.inl rfl) | exact fzC_arr (Or.inr rfl) | (refine fzC_pair rfl ?_ ?_ <;> simp [ust, zro, mna, prM_o, prM_0, prM_1, prM_u, prM_v]) | (refine fzC_row rfl ?_; simp [ust, zro, mna, prM_o, prM_0, prM_1, prM_u, prM_v])
  · simp [ust, zro, mna, prM_o]
  · simp [ust, zro, mna, prM_o]
  · simp [ust, zro, mna, prM_o]
theorem i_Code_init' {M : Mem} {Q : Post} {x0 x1 : Int} (hx0 : x0 = 2) (hx1 : x1 = 21) (hM : ∀ j, M 120 j = 0) (hQ : ∀ M', (∀ b, b < 120 → M' b = M b) → (∀ b, 120 ≤ b → b < 182 → FzC b M') → (M' 120 9 = 0) → (M' 120 13 = -1) → (∀ j, M' 121 j = 0) → Q none 182 M') : CL 34 [(2, 120), (2, x0), (2, x1)] 121 M Q := by
  subst hx0 hx1; exact i_Code_init hM hQ
set_option maxHeartbeats 16000000 in
theorem i_Turns_init {M : Mem} {Q : Post} (hM : ∀ j, M 182 j = 0) (hQ : ∀ M', (∀ b, b < 182 → M' b = M b) → (∀ b, 182 ≤ b → b < 188 → FzC b M') → (M' 182 4 = 0) → Q none 188 M') : CL 108 [(2, 182), (2, 2), (2, 21)] 183 M Q := by
  have k1 : ∀ n : Int, 182 < n → kd n 182 = KD 182 := fun n h => kd_lt rfl h
  rw [show KD 182 = 20 from rfl] at k1
  refine WP.run [] [] 90 ?_
  simp only [bk108_0, U_aload_n, U_oinit, U_sipush, U_newarray, U_putfield, U_iconst, U_new, U_dup, U_invokespecial0, U_return, UN_cc, UN_cn, UN_nc, UN_nn, UJ, lget, lset, lset2, entL, wsm, wcat, Option.toList_some, Option.toList_none, List.cons_append, List.nil_append, List.mem_cons, List.not_mem_nil, Prod.mk.injEq, or_false, false_or, or_true, true_or, and_true, true_and, and_false, false_and, and_self, ne_eq, not_false_eq_true, not_true_eq_false, forall_const, true_implies, false_implies, Nat.add_zero, Nat.zero_add, Nat.le_refl, Nat.zero_le, List.set_cons_zero, List.set_cons_succ, List.set_nil, ↓reduceIte, Nat.reduceAdd, Nat.reduceSub, Nat.reduceEqDiff, Nat.reduceLeDiff, Int.reduceEq, Int.reduceNe, Int.reduceNeg, reduceCtorEq, k1, Int.reduceLT, Int.reduceAdd]
  repeat (refine And.intro (by decide) ?_)
  refine i_row (a := 184) (by decide) rfl rfl rfl ?_
  simp only [bk108_0, U_aload_n, U_oinit, U_sipush, U_newarray, U_putfield, U_iconst, U_new, U_dup, U_invokespecial0, U_return, UN_cc, UN_cn, UN_nc, UN_nn, UJ, lget, lset, lset2, entL, wsm, wcat, Option.toList_some, Option.toList_none, List.cons_append, List.nil_append, List.mem_cons, List.not_mem_nil, Prod.mk.injEq, or_false, false_or, or_true, true_or, and_true, true_and, and_false, false_and, and_self, ne_eq, not_false_eq_true, not_true_eq_false, forall_const, true_implies, false_implies, Nat.add_zero, Nat.zero_add, Nat.le_refl, Nat.zero_le, List.set_cons_zero, List.set_cons_succ, List.set_nil, ↓reduceIte, Nat.reduceAdd, Nat.reduceSub, Nat.reduceEqDiff, Nat.reduceLeDiff, Int.reduceEq, Int.reduceNe, Int.reduceNeg, reduceCtorEq, k1, Int.reduceLT, Int.reduceAdd]
  repeat (refine And.intro (by decide) ?_)
  refine i_row (a := 186) (by decide) rfl rfl rfl ?_
  simp only [bk108_0, U_aload_n, U_oinit, U_sipush, U_newarray, U_putfield, U_iconst, U_new, U_dup, U_invokespecial0, U_return, UN_cc, UN_cn, UN_nc, UN_nn, UJ, lget, lset, lset2, entL, wsm, wcat, Option.toList_some, Option.toList_none, List.cons_append, List.nil_append, List.mem_cons, List.not_mem_nil, Prod.mk.injEq, or_false, false_or, or_true, true_or, and_true, true_and, and_false, false_and, and_self, ne_eq, not_false_eq_true, not_true_eq_false, forall_const, true_implies, false_implies, Nat.add_zero, Nat.zero_add, Nat.le_refl, Nat.zero_le, List.set_cons_zero, List.set_cons_succ, List.set_nil, ↓reduceIte, Nat.reduceAdd, Nat.reduceSub, Nat.reduceEqDiff, Nat.reduceLeDiff, Int.reduceEq, Int.reduceNe, Int.reduceNeg, reduceCtorEq, k1, Int.reduceLT, Int.reduceAdd]
  repeat (refine And.intro (by decide) ?_)
  refine hQ _ (fun b hb => ?_) (fun b h1 h2 => ?_) ?_
  · repeat (first | rw [ust_ne (by omega)] | rw [zro_o (by omega)] | rw [prM_o (by omega)] | rw [mna_o (by omega)])
  · have : b = 182 ∨ b = 184 ∨ b = 186 ∨ b = 183 ∨ b = 185 ∨ b = 187 := by omega
    rcases this with rfl | rfl | rfl | rfl | rfl | rfl
    · refine fzC_of ?_
      rw [show (fzL.lookup 182).getD [] = [(0, 2), (1, 21), (2, 183), (5, 184), (6, 186)] from rfl]
      simp [ust, zro, mna, prM_o, hM]
    all_goals first | exact fzC_arr (Or.inl rfl) | exact fzC_arr (Or.inr rfl) | (refine fzC_pair rfl ?_ ?_ <;> simp [ust, zro, mna, prM_o, prM_0, prM_1, prM_u, prM_v]) | (refine fzC_row rfl ?_; simp [ust, zro, mna, prM_o, prM_0, prM_1, prM_u, prM_v])
  · simp [ust, zro, mna, prM_o]
theorem i_Turns_init' {M : Mem} {Q : Post} {x0 x1 : Int} (hx0 : x0 = 2) (hx1 : x1 = 21) (hM : ∀ j, M 182 j = 0) (hQ : ∀ M', (∀ b, b < 182 → M' b = M b) → (∀ b, 182 ≤ b → b < 188 → FzC b M') → (M' 182 4 = 0) → Q none 188 M') : CL 108 [(2, 182), (2, x0), (2, x1)] 183 M Q := by
  subst hx0 hx1; exact i_Turns_init hM hQ
set_option maxHeartbeats 16000000 in
theorem i_Cover_init {M : Mem} {Q : Post} (hM : ∀ j, M 188 j = 0) (hQ : ∀ M', (∀ b, b < 188 → M' b = M b) → (∀ b, 188 ≤ b → b < 190 → FzC b M') → (∀ j, M' 189 j = 0) → Q none 190 M') : CL 51 [(2, 188)] 189 M Q := by
  have k1 : ∀ n : Int, 188 < n → kd n 188 = KD 188 := fun n h => kd_lt rfl h
  rw [show KD 188 = 12 from rfl] at k1
  refine WP.run [] [] 90 ?_
  simp only [bk51_0, U_aload_n, U_oinit, U_bipush, U_newarray, U_putfield, U_return, UN_cc, UN_cn, UN_nc, UN_nn, UJ, lget, lset, lset2, entL, wsm, wcat, Option.toList_some, Option.toList_none, List.cons_append, List.nil_append, List.mem_cons, List.not_mem_nil, Prod.mk.injEq, or_false, false_or, or_true, true_or, and_true, true_and, and_false, false_and, and_self, ne_eq, not_false_eq_true, not_true_eq_false, forall_const, true_implies, false_implies, Nat.add_zero, Nat.zero_add, Nat.le_refl, Nat.zero_le, List.set_cons_zero, List.set_cons_succ, List.set_nil, ↓reduceIte, Nat.reduceAdd, Nat.reduceSub, Nat.reduceEqDiff, Nat.reduceLeDiff, Int.reduceEq, Int.reduceNe, Int.reduceNeg, reduceCtorEq, k1, Int.reduceLT, Int.reduceAdd]
  repeat (refine And.intro (by decide) ?_)
  refine hQ _ (fun b hb => ?_) (fun b h1 h2 => ?_) (fun j => ?_)
  · repeat (first | rw [ust_ne (by omega)] | rw [zro_o (by omega)] | rw [prM_o (by omega)] | rw [mna_o (by omega)])
  · have : b = 188 ∨ b = 189 := by omega
    rcases this with rfl | rfl
    · refine fzC_of ?_
      rw [show (fzL.lookup 188).getD [] = [(0, 189)] from rfl]
      simp [ust, zro, mna, prM_o, hM]
    all_goals first | exact fzC_arr (Or.inl rfl) | exact fzC_arr (Or.inr rfl) | (refine fzC_pair rfl ?_ ?_ <;> simp [ust, zro, mna, prM_o, prM_0, prM_1, prM_u, prM_v]) | (refine fzC_row rfl ?_; simp [ust, zro, mna, prM_o, prM_0, prM_1, prM_u, prM_v])
  · simp [ust, zro, mna, prM_o]
