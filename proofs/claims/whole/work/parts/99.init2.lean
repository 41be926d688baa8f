/-! THE CONSTRUCTOR: the frozen places, cell by cell; the Rows object -/
theorem zro_o {M : Mem} {a b : Int} (h : b ≠ a) : zro M a b = M b := by funext j; show (if b = a then 0 else M b j) = M b j; rw [if_neg h]
theorem zro_z (M : Mem) (a j : Int) : zro M a a j = 0 := by show (if a = a then 0 else _) = (0 : Int); rw [if_pos rfl]
theorem prM_o {M : Mem} {a b : Int} (h : b < a ∨ a + 4 < b) : prM M a b = M b := by
  unfold prM
  rw [ust_ne (by omega), ust_ne (by omega), ust_ne (by omega), fil_ne (by omega), ust_ne (by omega), rwM_o (by omega) (by omega), ust_ne (by omega), rwM_o (by omega) (by omega)]
theorem prM_is (M : Mem) (a : Int) : prM M a a 0 = a + 1 ∧ prM M a a 1 = a + 3 ∧ prM M a (a + 1) 0 = a + 2 ∧ prM M a (a + 1) 1 = 0 ∧ (∀ j : Int, 0 ≤ j → j < 8 → prM M a (a + 2) j = if j = 0 then 1 else 0) ∧ prM M a (a + 3) 0 = a + 4 ∧ prM M a (a + 3) 1 = -1 ∧ ∀ j, prM M a (a + 4) j = 0 := by
  unfold prM
  refine ⟨?_, ?_, ?_, ?_, fun j h0 h1 => ?_, ?_, ?_, fun j => ?_⟩
  · rw [ust_ne (by omega), ust_ne (by omega), ust_ne (by omega), fil_ne (by omega), ust_at, if_neg (by decide), rwM_o (by omega) (by omega), ust_at, if_pos rfl]
  · rw [ust_ne (by omega), ust_ne (by omega), ust_ne (by omega), fil_ne (by omega), ust_at, if_pos rfl]
  · rw [ust_at, if_neg (by decide), ust_ne (by omega), ust_at, if_neg (by decide), fil_ne (by omega), ust_ne (by omega), rwM_o (by omega) (by omega), ust_ne (by omega), rwM_0]; omega
  · rw [ust_at, if_pos rfl]
  · rw [ust_ne (by omega), ust_at]
    by_cases e : j = 0
    · rw [if_pos e, if_pos e]
    · rw [if_neg e, if_neg e, ust_ne (by omega), fil_in h0 h1]
  · rw [ust_ne (by omega), ust_ne (by omega), ust_ne (by omega), fil_ne (by omega), ust_ne (by omega), rwM_0]; omega
  · rw [ust_ne (by omega), ust_ne (by omega), ust_ne (by omega), fil_ne (by omega), ust_ne (by omega), rwM_1]
  · rw [ust_ne (by omega), ust_ne (by omega), ust_ne (by omega), fil_ne (by omega), ust_ne (by omega), show a + 4 = a + 3 + 1 by omega, rwM_c]
/-- its frozen places hold; and a row has the cells next to it -/
def FzC (b : Int) (M : Mem) : Prop := (∀ i v, fz b i = some v → M b i = v) ∧ (KD b = 18 → M b 0 = b + 1)
theorem fzC_arr {b : Int} {M : Mem} (h : KD b = 1 ∨ KD b = 2) : FzC b M := ⟨fun i v e => by (rw [fz_arr h] at e; cases e), fun e => by omega⟩
theorem fz_rw2 : (List.range 218).all (fun a => !decide (KD (a : Int) = 18) || ((fzL.lookup (a : Int)).getD []).all (fun q => decide (q.1 = 0 ∧ q.2 = (a : Int) + 1))) = true := by decide +kernel
theorem fzC_row {b : Int} {M : Mem} (h : KD b = 18) (h0 : M b 0 = b + 1) : FzC b M := ⟨fun i v e => by
  obtain ⟨n, hn, rfl⟩ := KD_lt (a := b) (by omega)
  have := List.all_eq_true.mp fz_rw2 n (List.mem_range.mpr hn)
  have h2 : ((fzL.lookup (n : Int)).getD []).all (fun q => decide (q.1 = 0 ∧ q.2 = (n : Int) + 1)) = true := by simpa [h] using this
  have := List.all_eq_true.mp h2 _ (lookup_in _ e)
  have h3 : i = 0 ∧ v = (n : Int) + 1 := by simpa using this
  rw [h3.1, h3.2]; exact h0, fun _ => h0⟩
theorem fz_pr2 : (List.range 218).all (fun a => !decide (KD (a : Int) = 16) || ((fzL.lookup (a : Int)).getD []).all (fun q => decide ((q.1 = 0 ∧ q.2 = (a : Int) + 1) ∨ (q.1 = 1 ∧ q.2 = (a : Int) + 3)))) = true := by decide +kernel
theorem fzC_pair {b : Int} {M : Mem} (h : KD b = 16) (h0 : M b 0 = b + 1) (h1 : M b 1 = b + 3) : FzC b M := ⟨fun i v e => by
  obtain ⟨n, hn, rfl⟩ := KD_lt (a := b) (by omega)
  have := List.all_eq_true.mp fz_pr2 n (List.mem_range.mpr hn)
  have h2 : ((fzL.lookup (n : Int)).getD []).all (fun q => decide ((q.1 = 0 ∧ q.2 = (n : Int) + 1) ∨ (q.1 = 1 ∧ q.2 = (n : Int) + 3))) = true := by simpa [h] using this
  have := List.all_eq_true.mp h2 _ (lookup_in _ e)
  have h3 : (i = 0 ∧ v = (n : Int) + 1) ∨ (i = 1 ∧ v = (n : Int) + 3) := by simpa using this
  rcases h3 with h3 | h3
  · rw [h3.1, h3.2]; exact h0
  · rw [h3.1, h3.2]; exact h1, fun e => by omega⟩
theorem fzC_of {b : Int} {M : Mem} (h : ∀ q ∈ (fzL.lookup b).getD [], M b q.1 = q.2) (hk : KD b ≠ 18 := by decide) : FzC b M := ⟨fun i v e => h _ (lookup_in _ e), fun e => absurd e hk⟩
theorem FzC.fx {b : Int} {M M' : Mem} (h : FzC b M) (e : M' b = M b) : FzC b M' := ⟨fun i v x => by rw [e]; exact h.1 i v x, fun x => by rw [e]; exact h.2 x⟩
set_option maxHeartbeats 16000000 in
theorem i_rows {M : Mem} {Q : Post} (hM : ∀ j, M 2 j = 0) (hQ : ∀ M', (∀ b, b < 2 → M' b = M b) → (∀ b, 2 ≤ b → b < 18 → FzC b M') → M' 2 0 = 7 → (∀ u : Int, 0 < u → u < 7 → invG 7 M' u) → Q none 18 M') : CL 107 [(2, 2)] 3 M Q := by
  have k2 : ∀ n : Int, 2 < n → kd n 2 = 19 := fun n h => kd_lt rfl h
  refine WP.run [] [] 80 ?_
  simp only [bk107_0, U_aload_n, U_oinit, U_bipush, U_putfield, U_newarray, U_new, U_dup, U_invokespecial0, U_invokevirtual1, U_return, UN_cc, UN_cn, UN_nc, UN_nn, UJ, lget, lset, lset2, entL, wsm, wcat, Option.toList_some, Option.toList_none, List.cons_append, List.nil_append, List.mem_cons, List.not_mem_nil, Prod.mk.injEq, or_false, false_or, or_true, true_or, and_true, true_and, and_false, false_and, and_self, ne_eq, not_false_eq_true, not_true_eq_false, forall_const, true_implies, false_implies, Nat.add_zero, Nat.zero_add, Nat.le_refl, Nat.zero_le, List.set_cons_zero, List.set_cons_succ, List.set_nil, ↓reduceIte, Nat.reduceAdd, Nat.reduceSub, Nat.reduceEqDiff, Nat.reduceLeDiff, Int.reduceEq, Int.reduceNe, Int.reduceNeg, reduceCtorEq, k2, Int.reduceLT, Int.reduceAdd]
  repeat (refine And.intro (by decide) ?_)
  refine i_row (a := 4) (by decide) rfl rfl rfl ?_
  simp only [bk107_0, U_aload_n, U_oinit, U_bipush, U_putfield, U_newarray, U_new, U_dup, U_invokespecial0, U_invokevirtual1, U_return, UN_cc, UN_cn, UN_nc, UN_nn, UJ, lget, lset, lset2, entL, wsm, wcat, Option.toList_some, Option.toList_none, List.cons_append, List.nil_append, List.mem_cons, List.not_mem_nil, Prod.mk.injEq, or_false, false_or, or_true, true_or, and_true, true_and, and_false, false_and, and_self, ne_eq, not_false_eq_true, not_true_eq_false, forall_const, true_implies, false_implies, Nat.add_zero, Nat.zero_add, Nat.le_refl, Nat.zero_le, List.set_cons_zero, List.set_cons_succ, List.set_nil, ↓reduceIte, Nat.reduceAdd, Nat.reduceSub, Nat.reduceEqDiff, Nat.reduceLeDiff, Int.reduceEq, Int.reduceNe, Int.reduceNeg, reduceCtorEq, k2, Int.reduceLT, Int.reduceAdd]
  repeat (refine And.intro (by decide) ?_)
  refine i_row (a := 6) (by decide) rfl rfl rfl ?_
  simp only [bk107_0, U_aload_n, U_oinit, U_bipush, U_putfield, U_newarray, U_new, U_dup, U_invokespecial0, U_invokevirtual1, U_return, UN_cc, UN_cn, UN_nc, UN_nn, UJ, lget, lset, lset2, entL, wsm, wcat, Option.toList_some, Option.toList_none, List.cons_append, List.nil_append, List.mem_cons, List.not_mem_nil, Prod.mk.injEq, or_false, false_or, or_true, true_or, and_true, true_and, and_false, false_and, and_self, ne_eq, not_false_eq_true, not_true_eq_false, forall_const, true_implies, false_implies, Nat.add_zero, Nat.zero_add, Nat.le_refl, Nat.zero_le, List.set_cons_zero, List.set_cons_succ, List.set_nil, ↓reduceIte, Nat.reduceAdd, Nat.reduceSub, Nat.reduceEqDiff, Nat.reduceLeDiff, Int.reduceEq, Int.reduceNe, Int.reduceNeg, reduceCtorEq, k2, Int.reduceLT, Int.reduceAdd]
  repeat (refine And.intro (by decide) ?_)
  refine i_row (a := 8) (by decide) rfl rfl rfl ?_
  simp only [bk107_0, U_aload_n, U_oinit, U_bipush, U_putfield, U_newarray, U_new, U_dup, U_invokespecial0, U_invokevirtual1, U_return, UN_cc, UN_cn, UN_nc, UN_nn, UJ, lget, lset, lset2, entL, wsm, wcat, Option.toList_some, Option.toList_none, List.cons_append, List.nil_append, List.mem_cons, List.not_mem_nil, Prod.mk.injEq, or_false, false_or, or_true, true_or, and_true, true_and, and_false, false_and, and_self, ne_eq, not_false_eq_true, not_true_eq_false, forall_const, true_implies, false_implies, Nat.add_zero, Nat.zero_add, Nat.le_refl, Nat.zero_le, List.set_cons_zero, List.set_cons_succ, List.set_nil, ↓reduceIte, Nat.reduceAdd, Nat.reduceSub, Nat.reduceEqDiff, Nat.reduceLeDiff, Int.reduceEq, Int.reduceNe, Int.reduceNeg, reduceCtorEq, k2, Int.reduceLT, Int.reduceAdd]
  repeat (refine And.intro (by decide) ?_)
  refine i_row (a := 10) (by decide) rfl rfl rfl ?_
  simp only [bk107_0, U_aload_n, U_oinit, U_bipush, U_putfield, U_newarray, U_new, U_dup, U_invokespecial0, U_invokevirtual1, U_return, UN_cc, UN_cn, UN_nc, UN_nn, UJ, lget, lset, lset2, entL, wsm, wcat, Option.toList_some, Option.toList_none, List.cons_append, List.nil_append, List.mem_cons, List.not_mem_nil, Prod.mk.injEq, or_false, false_or, or_true, true_or, and_true, true_and, and_false, false_and, and_self, ne_eq, not_false_eq_true, not_true_eq_false, forall_const, true_implies, false_implies, Nat.add_zero, Nat.zero_add, Nat.le_refl, Nat.zero_le, List.set_cons_zero, List.set_cons_succ, List.set_nil, ↓reduceIte, Nat.reduceAdd, Nat.reduceSub, Nat.reduceEqDiff, Nat.reduceLeDiff, Int.reduceEq, Int.reduceNe, Int.reduceNeg, reduceCtorEq, k2, Int.reduceLT, Int.reduceAdd]
  repeat (refine And.intro (by decide) ?_)
  refine i_row (a := 12) (by decide) rfl rfl rfl ?_
  simp only [bk107_0, U_aload_n, U_oinit, U_bipush, U_putfield, U_newarray, U_new, U_dup, U_invokespecial0, U_invokevirtual1, U_return, UN_cc, UN_cn, UN_nc, UN_nn, UJ, lget, lset, lset2, entL, wsm, wcat, Option.toList_some, Option.toList_none, List.cons_append, List.nil_append, List.mem_cons, List.not_mem_nil, Prod.mk.injEq, or_false, false_or, or_true, true_or, and_true, true_and, and_false, false_and, and_self, ne_eq, not_false_eq_true, not_true_eq_false, forall_const, true_implies, false_implies, Nat.add_zero, Nat.zero_add, Nat.le_refl, Nat.zero_le, List.set_cons_zero, List.set_cons_succ, List.set_nil, ↓reduceIte, Nat.reduceAdd, Nat.reduceSub, Nat.reduceEqDiff, Nat.reduceLeDiff, Int.reduceEq, Int.reduceNe, Int.reduceNeg, reduceCtorEq, k2, Int.reduceLT, Int.reduceAdd]
  repeat (refine And.intro (by decide) ?_)
  refine i_row (a := 14) (by decide) rfl rfl rfl ?_
  simp only [bk107_0, U_aload_n, U_oinit, U_bipush, U_putfield, U_newarray, U_new, U_dup, U_invokespecial0, U_invokevirtual1, U_return, UN_cc, UN_cn, UN_nc, UN_nn, UJ, lget, lset, lset2, entL, wsm, wcat, Option.toList_some, Option.toList_none, List.cons_append, List.nil_append, List.mem_cons, List.not_mem_nil, Prod.mk.injEq, or_false, false_or, or_true, true_or, and_true, true_and, and_false, false_and, and_self, ne_eq, not_false_eq_true, not_true_eq_false, forall_const, true_implies, false_implies, Nat.add_zero, Nat.zero_add, Nat.le_refl, Nat.zero_le, List.set_cons_zero, List.set_cons_succ, List.set_nil, ↓reduceIte, Nat.reduceAdd, Nat.reduceSub, Nat.reduceEqDiff, Nat.reduceLeDiff, Int.reduceEq, Int.reduceNe, Int.reduceNeg, reduceCtorEq, k2, Int.reduceLT, Int.reduceAdd]
  repeat (refine And.intro (by decide) ?_)
  refine i_row (a := 16) (by decide) rfl rfl rfl ?_
  simp only [bk107_0, U_aload_n, U_oinit, U_bipush, U_putfield, U_newarray, U_new, U_dup, U_invokespecial0, U_invokevirtual1, U_return, UN_cc, UN_cn, UN_nc, UN_nn, UJ, lget, lset, lset2, entL, wsm, wcat, Option.toList_some, Option.toList_none, List.cons_append, List.nil_append, List.mem_cons, List.not_mem_nil, Prod.mk.injEq, or_false, false_or, or_true, true_or, and_true, true_and, and_false, false_and, and_self, ne_eq, not_false_eq_true, not_true_eq_false, forall_const, true_implies, false_implies, Nat.add_zero, Nat.zero_add, Nat.le_refl, Nat.zero_le, List.set_cons_zero, List.set_cons_succ, List.set_nil, ↓reduceIte, Nat.reduceAdd, Nat.reduceSub, Nat.reduceEqDiff, Nat.reduceLeDiff, Int.reduceEq, Int.reduceNe, Int.reduceNeg, reduceCtorEq, k2, Int.reduceLT, Int.reduceAdd]
  repeat (refine And.intro (by decide) ?_)
  refine WP.run [(106, 19)] [] 60 ?_
  simp only [bk106_0, bk106_5, bk106_11, bk106_12, bk106_19, bk106_27, bk106_33, bk106_35, bk106_43, bk106_55, bk106_62, bk106_68, bk106_74, U_iload_n, U_iconst, U_icmp_lt, U_bipush, U_icmp_le, U_return, U_aload_n, U_putfield, U_istore_n, U_getfield, U_icmp_ge, U_imul, U_irem, U_icmp_ne, U_iast, U_iinc, U_goto, UN_cc, UN_cn, UN_nc, UN_nn, UJ, lget, lset, lset2, entL, wsm, wcat, Option.toList_some, Option.toList_none, List.cons_append, List.nil_append, List.mem_cons, List.not_mem_nil, Prod.mk.injEq, or_false, false_or, or_true, true_or, and_true, true_and, and_false, false_and, and_self, ne_eq, not_false_eq_true, not_true_eq_false, forall_const, true_implies, false_implies, Nat.add_zero, Nat.zero_add, Nat.le_refl, Nat.zero_le, List.set_cons_zero, List.set_cons_succ, List.set_nil, ↓reduceIte, Nat.reduceAdd, Nat.reduceSub, Nat.reduceEqDiff, Nat.reduceLeDiff, Int.reduceEq, Int.reduceNe, Int.reduceNeg, reduceCtorEq, k2, Int.reduceLT, Int.reduceAdd]
  refine ⟨rr (by omega), rr (by omega), ?_⟩
  refine l_tpV (q := 7) (Or.inr (Or.inr (Or.inl rfl))) (k2 18 (by decide)) (kd_lt rfl (by decide)) ?_ ?_ (fun N' g1 g2 => ?_) 6 1 _ _ rfl (by decide) (Fr.rf _ _) (fun u a b => by omega)
  · simp [ust, zro]
  · simp [ust, zro]
  · simp only [bk107_0, U_aload_n, U_oinit, U_bipush, U_putfield, U_newarray, U_new, U_dup, U_invokespecial0, U_invokevirtual1, U_return, UN_cc, UN_cn, UN_nc, UN_nn, UJ, lget, lset, lset2, entL, wsm, wcat, Option.toList_some, Option.toList_none, List.cons_append, List.nil_append, List.mem_cons, List.not_mem_nil, Prod.mk.injEq, or_false, false_or, or_true, true_or, and_true, true_and, and_false, false_and, and_self, ne_eq, not_false_eq_true, not_true_eq_false, forall_const, true_implies, false_implies, Nat.add_zero, Nat.zero_add, Nat.le_refl, Nat.zero_le, List.set_cons_zero, List.set_cons_succ, List.set_nil, ↓reduceIte, Nat.reduceAdd, Nat.reduceSub, Nat.reduceEqDiff, Nat.reduceLeDiff, Int.reduceEq, Int.reduceNe, Int.reduceNeg, reduceCtorEq]
    refine hQ N' (fun b hb => ?_) (fun b h1 h2 => ?_) ?_ g2
    · rw [g1 b (by simp; omega)]
      repeat (first | rw [ust_ne (by omega)] | rw [zro_o (by omega)])
    · have : b = 2 ∨ b = 4 ∨ b = 6 ∨ b = 8 ∨ b = 10 ∨ b = 12 ∨ b = 14 ∨ b = 16 ∨ b = 3 ∨ b = 5 ∨ b = 7 ∨ b = 9 ∨ b = 11 ∨ b = 13 ∨ b = 15 ∨ b = 17 := by omega
      rcases this with rfl | rfl | rfl | rfl | rfl | rfl | rfl | rfl | rfl | rfl | rfl | rfl | rfl | rfl | rfl | rfl
      · refine fzC_of ?_
        rw [show (fzL.lookup 2).getD [] = [(1, 3), (2, 4), (3, 6), (4, 8), (5, 10), (6, 12), (7, 14), (8, 16)] from rfl, g1 2 (by simp)]
        simp [ust, zro]
      all_goals first | exact fzC_arr (Or.inl rfl) | (refine fzC_row rfl ?_; rw [g1 _ (by simp)]; simp [ust, zro])
    · rw [g1 2 (by simp)]; simp [ust, zro]
