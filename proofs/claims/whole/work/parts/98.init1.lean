/-! THE CONSTRUCTOR: rows, pairs; any counter -/
set_option maxHeartbeats 4000000 in
theorem g_fillL {N : Mem} {Q : Post} {n0 a v : Int} (ha : kd n0 a = 1) (hQ : Q none n0 (fil N a (LN a) v)) : ∀ (n : Nat) (i : Int), i + n = LN a → 0 ≤ i → WP 1 (0, 0) 5 [(2, a), (0, v), (0, i), (0, LN a)] [] n0 (fil N a i v) Q := by
  have hln := LN_le a
  intro n
  induction n with
  | zero =>
    intro i h1 h2
    refine WP.run [(1, 5)] [] 30 ?_
    simp only [bk1_0, bk1_5, bk1_10, bk1_20, U_iconst, U_istore_n, U_aload_n, U_alen, U_iload_n, U_icmp_ge, U_iast, U_iinc, U_goto, U_return, UN_cc, UN_cn, UN_nc, UN_nn, UJ, lget, lset, lset2, entL, wsm, wcat, Option.toList_some, Option.toList_none, List.cons_append, List.nil_append, List.mem_cons, List.not_mem_nil, Prod.mk.injEq, or_false, false_or, or_true, true_or, and_true, true_and, and_false, false_and, and_self, ne_eq, not_false_eq_true, not_true_eq_false, forall_const, true_implies, false_implies, Nat.add_zero, Nat.zero_add, Nat.le_refl, Nat.zero_le, List.set_cons_zero, List.set_cons_succ, List.set_nil, ↓reduceIte, Nat.reduceAdd, Nat.reduceSub, Nat.reduceEqDiff, Nat.reduceLeDiff, Int.reduceEq, Int.reduceNe, Int.reduceNeg, reduceCtorEq, ha]
    refine ⟨rr (by omega), fun h => absurd h (by omega), fun _ => ?_⟩
    have e : i = LN a := by omega
    rw [e]; exact hQ
  | succ n ih =>
    intro i h1 h2
    refine WP.run [(1, 5)] [] 30 ?_
    simp only [bk1_0, bk1_5, bk1_10, bk1_20, U_iconst, U_istore_n, U_aload_n, U_alen, U_iload_n, U_icmp_ge, U_iast, U_iinc, U_goto, U_return, UN_cc, UN_cn, UN_nc, UN_nn, UJ, lget, lset, lset2, entL, wsm, wcat, Option.toList_some, Option.toList_none, List.cons_append, List.nil_append, List.mem_cons, List.not_mem_nil, Prod.mk.injEq, or_false, false_or, or_true, true_or, and_true, true_and, and_false, false_and, and_self, ne_eq, not_false_eq_true, not_true_eq_false, forall_const, true_implies, false_implies, Nat.add_zero, Nat.zero_add, Nat.le_refl, Nat.zero_le, List.set_cons_zero, List.set_cons_succ, List.set_nil, ↓reduceIte, Nat.reduceAdd, Nat.reduceSub, Nat.reduceEqDiff, Nat.reduceLeDiff, Int.reduceEq, Int.reduceNe, Int.reduceNeg, reduceCtorEq, ha]
    refine ⟨rr (by omega), fun h => ⟨h2, h, ?_⟩, fun h => absurd h (by omega)⟩
    rw [fil_s N a v h2]
    exact ih (i + 1) (by omega) (by omega)
set_option maxHeartbeats 4000000 in
theorem g_fill {N : Mem} {Q : Post} {n0 a v : Int} (ha : kd n0 a = 1) (hQ : Q none n0 (fil N a (LN a) v)) : CL 1 [(2, a), (0, v), (9, 0), (9, 0)] n0 N Q := by
  have hln := LN_le a
  refine WP.run [(1, 5)] [] 30 ?_
  simp only [bk1_0, bk1_5, bk1_10, bk1_20, U_iconst, U_istore_n, U_aload_n, U_alen, U_iload_n, U_icmp_ge, U_iast, U_iinc, U_goto, U_return, UN_cc, UN_cn, UN_nc, UN_nn, UJ, lget, lset, lset2, entL, wsm, wcat, Option.toList_some, Option.toList_none, List.cons_append, List.nil_append, List.mem_cons, List.not_mem_nil, Prod.mk.injEq, or_false, false_or, or_true, true_or, and_true, true_and, and_false, false_and, and_self, ne_eq, not_false_eq_true, not_true_eq_false, forall_const, true_implies, false_implies, Nat.add_zero, Nat.zero_add, Nat.le_refl, Nat.zero_le, List.set_cons_zero, List.set_cons_succ, List.set_nil, ↓reduceIte, Nat.reduceAdd, Nat.reduceSub, Nat.reduceEqDiff, Nat.reduceLeDiff, Int.reduceEq, Int.reduceNe, Int.reduceNeg, reduceCtorEq, ha]
  have := g_fillL (N := N) (v := v) ha hQ (LN a).toNat 0 (by omega) (by omega)
  rw [fil_0] at this
  exact this
set_option maxHeartbeats 8000000 in
theorem g_one {N : Mem} {Q : Post} {n0 r c : Int} (kr : kd n0 r = 18) (kc : kd n0 c = 1) (l8 : LN c = 8) (hc : N r 0 = c) (c0 : c ≠ 0) (hn : r ≠ c) (hQ : Q none n0 (ust (ust (ust (fil N c 8 0) r 1 (-1)) c 0 1) r 1 0)) : CL 5 [(2, r)] n0 N Q := by
  refine WP.run [] [] 30 ?_
  simp only [bk5_0, U_aload_n, U_invokevirtual0, U_iconst, U_invokevirtual2, U_return, UN_cc, UN_cn, UN_nc, UN_nn, UJ, lget, lset, lset2, entL, wsm, wcat, Option.toList_some, Option.toList_none, List.cons_append, List.nil_append, List.mem_cons, List.not_mem_nil, Prod.mk.injEq, or_false, false_or, or_true, true_or, and_true, true_and, and_false, false_and, and_self, ne_eq, not_false_eq_true, not_true_eq_false, forall_const, true_implies, false_implies, Nat.add_zero, Nat.zero_add, Nat.le_refl, Nat.zero_le, List.set_cons_zero, List.set_cons_succ, List.set_nil, ↓reduceIte, Nat.reduceAdd, Nat.reduceSub, Nat.reduceEqDiff, Nat.reduceLeDiff, Int.reduceEq, Int.reduceNe, Int.reduceNeg, reduceCtorEq, kr]
  refine WP.run [] [] 30 ?_
  simp only [bk2_0, U_aload_n, U_getfield, U_iconst, U_invokestatic2, U_putfield, U_return, UN_cc, UN_cn, UN_nc, UN_nn, UJ, lget, lset, lset2, entL, wsm, wcat, Option.toList_some, Option.toList_none, List.cons_append, List.nil_append, List.mem_cons, List.not_mem_nil, Prod.mk.injEq, or_false, false_or, or_true, true_or, and_true, true_and, and_false, false_and, and_self, ne_eq, not_false_eq_true, not_true_eq_false, forall_const, true_implies, false_implies, Nat.add_zero, Nat.zero_add, Nat.le_refl, Nat.zero_le, List.set_cons_zero, List.set_cons_succ, List.set_nil, ↓reduceIte, Nat.reduceAdd, Nat.reduceSub, Nat.reduceEqDiff, Nat.reduceLeDiff, Int.reduceEq, Int.reduceNe, Int.reduceNeg, reduceCtorEq, kr, hc, c0]
  refine g_fill kc ?_
  rw [l8]
  simp only [bk2_0, U_aload_n, U_getfield, U_iconst, U_invokestatic2, U_putfield, U_return, UN_cc, UN_cn, UN_nc, UN_nn, UJ, lget, lset, lset2, entL, wsm, wcat, Option.toList_some, Option.toList_none, List.cons_append, List.nil_append, List.mem_cons, List.not_mem_nil, Prod.mk.injEq, or_false, false_or, or_true, true_or, and_true, true_and, and_false, false_and, and_self, ne_eq, not_false_eq_true, not_true_eq_false, forall_const, true_implies, false_implies, Nat.add_zero, Nat.zero_add, Nat.le_refl, Nat.zero_le, List.set_cons_zero, List.set_cons_succ, List.set_nil, ↓reduceIte, Nat.reduceAdd, Nat.reduceSub, Nat.reduceEqDiff, Nat.reduceLeDiff, Int.reduceEq, Int.reduceNe, Int.reduceNeg, reduceCtorEq, kr]
  simp only [bk5_0, U_aload_n, U_invokevirtual0, U_iconst, U_invokevirtual2, U_return, UN_cc, UN_cn, UN_nc, UN_nn, UJ, lget, lset, lset2, entL, wsm, wcat, Option.toList_some, Option.toList_none, List.cons_append, List.nil_append, List.mem_cons, List.not_mem_nil, Prod.mk.injEq, or_false, false_or, or_true, true_or, and_true, true_and, and_false, false_and, and_self, ne_eq, not_false_eq_true, not_true_eq_false, forall_const, true_implies, false_implies, Nat.add_zero, Nat.zero_add, Nat.le_refl, Nat.zero_le, List.set_cons_zero, List.set_cons_succ, List.set_nil, ↓reduceIte, Nat.reduceAdd, Nat.reduceSub, Nat.reduceEqDiff, Nat.reduceLeDiff, Int.reduceEq, Int.reduceNe, Int.reduceNeg, reduceCtorEq, kr]
  have e1 : ust (fil N c 8 0) r 1 (-1) r 0 = c := by rw [ust_at, if_neg (by decide), fil_ne hn]; exact hc
  have e2 : ust (fil N c 8 0) r 1 (-1) r 1 = -1 := by rw [ust_at, if_pos rfl]
  refine WP.run [] [] 40 ?_
  simp only [bk4_0, bk4_4, bk4_10, bk4_11, U_iload_n, U_if_lt, U_bipush, U_icmp_lt, U_return, U_aload_n, U_getfield, U_iast, U_max, U_invokevirtual1, UN_cc, UN_cn, UN_nc, UN_nn, UJ, lget, lset, lset2, entL, wsm, wcat, Option.toList_some, Option.toList_none, List.cons_append, List.nil_append, List.mem_cons, List.not_mem_nil, Prod.mk.injEq, or_false, false_or, or_true, true_or, and_true, true_and, and_false, false_and, and_self, ne_eq, not_false_eq_true, not_true_eq_false, forall_const, true_implies, false_implies, Nat.add_zero, Nat.zero_add, Nat.le_refl, Nat.zero_le, List.set_cons_zero, List.set_cons_succ, List.set_nil, ↓reduceIte, Nat.reduceAdd, Nat.reduceSub, Nat.reduceEqDiff, Nat.reduceLeDiff, Int.reduceEq, Int.reduceNe, Int.reduceNeg, reduceCtorEq, kr, kc, l8, e1, c0]
  have e3 : ust (ust (fil N c 8 0) r 1 (-1)) c 0 1 r 1 = -1 := by rw [ust_ne hn]; exact e2
  have e4 : ust (ust (fil N c 8 0) r 1 (-1)) c 0 1 r 0 = c := by rw [ust_ne hn]; exact e1
  have e5 : ust (ust (fil N c 8 0) r 1 (-1)) c 0 1 c 0 = 1 := by rw [ust_at, if_pos rfl]
  simp only [e3]
  refine ⟨r3 (by omega), fun e => absurd e (by omega), fun _ => ⟨rr (by omega), fun _ => ?_, fun e => absurd (by omega) e⟩⟩
  refine ⟨by omega, by omega, r3 (by omega), r3 (by omega), ?_⟩
  rw [show max (-1 : Int) 0 = 0 from rfl]
  refine WP.run [(3, 13)] [] 40 ?_
  simp only [bk3_0, bk3_6, bk3_10, bk3_12, bk3_13, bk3_17, bk3_26, bk3_32, U_iload_n, U_bipush, U_icmp_ge, U_goto, U_istore_n, U_if_lt, U_aload_n, U_getfield, U_iald, U_if_ne, U_iinc, U_putfield, U_return, UN_cc, UN_cn, UN_nc, UN_nn, UJ, lget, lset, lset2, entL, wsm, wcat, Option.toList_some, Option.toList_none, List.cons_append, List.nil_append, List.mem_cons, List.not_mem_nil, Prod.mk.injEq, or_false, false_or, or_true, true_or, and_true, true_and, and_false, false_and, and_self, ne_eq, not_false_eq_true, not_true_eq_false, forall_const, true_implies, false_implies, Nat.add_zero, Nat.zero_add, Nat.le_refl, Nat.zero_le, List.set_cons_zero, List.set_cons_succ, List.set_nil, ↓reduceIte, Nat.reduceAdd, Nat.reduceSub, Nat.reduceEqDiff, Nat.reduceLeDiff, Int.reduceEq, Int.reduceNe, Int.reduceNeg, reduceCtorEq]
  have lp : ∀ Q' : Post, Q' none n0 (ust (ust (ust (fil N c 8 0) r 1 (-1)) c 0 1) r 1 0) → WP 3 (0, 0) 13 [(2, r), (0, 0), (0, 0)] [] n0 (ust (ust (fil N c 8 0) r 1 (-1)) c 0 1) Q' := fun Q' h' => by
    refine WP.run [(3, 13)] [] 40 ?_
    simp only [bk3_0, bk3_6, bk3_10, bk3_12, bk3_13, bk3_17, bk3_26, bk3_32, U_iload_n, U_bipush, U_icmp_ge, U_goto, U_istore_n, U_if_lt, U_aload_n, U_getfield, U_iald, U_if_ne, U_iinc, U_putfield, U_return, UN_cc, UN_cn, UN_nc, UN_nn, UJ, lget, lset, lset2, entL, wsm, wcat, Option.toList_some, Option.toList_none, List.cons_append, List.nil_append, List.mem_cons, List.not_mem_nil, Prod.mk.injEq, or_false, false_or, or_true, true_or, and_true, true_and, and_false, false_and, and_self, ne_eq, not_false_eq_true, not_true_eq_false, forall_const, true_implies, false_implies, Nat.add_zero, Nat.zero_add, Nat.le_refl, Nat.zero_le, List.set_cons_zero, List.set_cons_succ, List.set_nil, ↓reduceIte, Nat.reduceAdd, Nat.reduceSub, Nat.reduceEqDiff, Nat.reduceLeDiff, Int.reduceEq, Int.reduceNe, Int.reduceNeg, reduceCtorEq, kr, kc, l8, e4, e5, c0]
    refine ⟨r3 (by omega), fun e => absurd e (by omega), fun _ => ⟨by omega, by omega, r3 (by omega), h'⟩⟩
  refine ⟨rr (by omega), fun _ => lp _ ?_, fun e => absurd (by omega) e⟩
  simp only [bk4_0, bk4_4, bk4_10, bk4_11, U_iload_n, U_if_lt, U_bipush, U_icmp_lt, U_return, U_aload_n, U_getfield, U_iast, U_max, U_invokevirtual1, UN_cc, UN_cn, UN_nc, UN_nn, UJ, lget, lset, lset2, entL, wsm, wcat, Option.toList_some, Option.toList_none, List.cons_append, List.nil_append, List.mem_cons, List.not_mem_nil, Prod.mk.injEq, or_false, false_or, or_true, true_or, and_true, true_and, and_false, false_and, and_self, ne_eq, not_false_eq_true, not_true_eq_false, forall_const, true_implies, false_implies, Nat.add_zero, Nat.zero_add, Nat.le_refl, Nat.zero_le, List.set_cons_zero, List.set_cons_succ, List.set_nil, ↓reduceIte, Nat.reduceAdd, Nat.reduceSub, Nat.reduceEqDiff, Nat.reduceLeDiff, Int.reduceEq, Int.reduceNe, Int.reduceNeg, reduceCtorEq]
  exact hQ
theorem kd_lt {n a z : Int} (h : KD a = z) (hn : a < n) : kd n a = z := by unfold kd; rw [if_pos hn]; exact h
set_option maxHeartbeats 8000000 in
theorem i_row {M : Mem} {Q : Post} {a : Int} (ha : 0 < a) (ka : KD a = 18) (k1 : KD (a + 1) = 1) (l8 : LN (a + 1) = 8) (hQ : Q none (a + 1 + 1) (ust (ust (zro M (a + 1)) a 0 (a + 1)) a 1 (-1))) : CL 0 [(2, a)] (a + 1) M Q := by
  have e1 : kd (a + 1) a = 18 := kd_lt ka (by omega)
  have e2 : kd (a + 1 + 1) a = 18 := kd_lt ka (by omega)
  have n0 : ¬ (a + 1 = 0) := by omega
  refine WP.run [] [] 40 ?_
  simp only [bk0_0, U_aload_n, U_oinit, U_bipush, U_newarray, U_putfield, U_iconst, U_return, UN_cc, UN_cn, UN_nc, UN_nn, UJ, lget, lset, lset2, entL, wsm, wcat, Option.toList_some, Option.toList_none, List.cons_append, List.nil_append, List.mem_cons, List.not_mem_nil, Prod.mk.injEq, or_false, false_or, or_true, true_or, and_true, true_and, and_false, false_and, and_self, ne_eq, not_false_eq_true, not_true_eq_false, forall_const, true_implies, false_implies, Nat.add_zero, Nat.zero_add, Nat.le_refl, Nat.zero_le, List.set_cons_zero, List.set_cons_succ, List.set_nil, ↓reduceIte, Nat.reduceAdd, Nat.reduceSub, Nat.reduceEqDiff, Nat.reduceLeDiff, Int.reduceEq, Int.reduceNe, Int.reduceNeg, reduceCtorEq, e1, e2, k1, l8, n0]
  exact ⟨by omega, by omega, by decide, by decide, hQ⟩
def rwM (M : Mem) (a : Int) : Mem := ust (ust (zro (zro M a) (a + 1)) a 0 (a + 1)) a 1 (-1)
def prM (M : Mem) (a : Int) : Mem := ust (ust (ust (fil (ust (rwM (ust (rwM M (a + 1)) a 0 (a + 1)) (a + 3)) a 1 (a + 3)) (a + 2) 8 0) (a + 1) 1 (-1)) (a + 2) 0 1) (a + 1) 1 0
theorem rwM_o {M : Mem} {a b : Int} (h1 : b ≠ a) (h2 : b ≠ a + 1) : rwM M a b = M b := by
  unfold rwM
  rw [ust_ne h1, ust_ne h1]
  funext j; show (if b = a + 1 then 0 else (if b = a then 0 else M b j)) = M b j
  rw [if_neg h2, if_neg h1]
theorem rwM_0 (M : Mem) (a : Int) : rwM M a a 0 = a + 1 := by unfold rwM; rw [ust_at, if_neg (by decide), ust_at, if_pos rfl]
theorem rwM_1 (M : Mem) (a : Int) : rwM M a a 1 = -1 := by unfold rwM; rw [ust_at, if_pos rfl]
theorem rwM_c (M : Mem) (a j : Int) : rwM M a (a + 1) j = 0 := by
  unfold rwM; rw [ust_ne (by omega), ust_ne (by omega)]; show (if a + 1 = a + 1 then 0 else _) = (0 : Int); rw [if_pos rfl]
set_option maxHeartbeats 8000000 in
theorem i_pair {M : Mem} {Q : Post} {a : Int} (ha : 0 < a) (ka : KD a = 16) (k1 : KD (a + 1) = 18) (k2 : KD (a + 2) = 1) (k3 : KD (a + 3) = 18) (k4 : KD (a + 4) = 1) (l2 : LN (a + 2) = 8) (l4 : LN (a + 4) = 8) (hQ : Q none (a + 5) (prM M a)) : CL 6 [(2, a)] (a + 1) M Q := by
  have e1 : kd (a + 1) a = 16 := kd_lt ka (by omega)
  have e2 : kd (a + 1 + 1) (a + 1) = 18 := kd_lt k1 (by omega)
  have e3 : kd (a + 1 + 1 + 1) a = 16 := kd_lt ka (by omega)
  have n0 : ¬ (a + 1 = 0) := by omega
  have r1 : a + 1 + 1 + 1 = a + 3 := by omega
  refine WP.run [] [] 40 ?_
  simp only [bk6_0, U_aload_n, U_oinit, U_new, U_dup, U_invokespecial0, U_putfield, U_getfield, U_invokevirtual0, U_return, UN_cc, UN_cn, UN_nc, UN_nn, UJ, lget, lset, lset2, entL, wsm, wcat, Option.toList_some, Option.toList_none, List.cons_append, List.nil_append, List.mem_cons, List.not_mem_nil, Prod.mk.injEq, or_false, false_or, or_true, true_or, and_true, true_and, and_false, false_and, and_self, ne_eq, not_false_eq_true, not_true_eq_false, forall_const, true_implies, false_implies, Nat.add_zero, Nat.zero_add, Nat.le_refl, Nat.zero_le, List.set_cons_zero, List.set_cons_succ, List.set_nil, ↓reduceIte, Nat.reduceAdd, Nat.reduceSub, Nat.reduceEqDiff, Nat.reduceLeDiff, Int.reduceEq, Int.reduceNe, Int.reduceNeg, reduceCtorEq, e1, e2, k1, n0]
  refine ⟨by decide, by decide, ?_⟩
  refine i_row (by omega) k1 (by rw [show a + 1 + 1 = a + 2 by omega]; exact k2) (by rw [show a + 1 + 1 = a + 2 by omega]; exact l2) ?_
  have e4 : kd (a + 3 + 1) (a + 3) = 18 := kd_lt k3 (by omega)
  have e5 : kd (a + 3 + 1 + 1) a = 16 := kd_lt ka (by omega)
  have e6 : kd (a + 3) a = 16 := kd_lt ka (by omega)
  have e7 : kd (a + 3 + 1 + 1) (a + 1) = 18 := kd_lt k1 (by omega)
  have n3 : ¬ (a + 3 = 0) := by omega
  rw [r1]
  simp only [bk6_0, U_aload_n, U_oinit, U_new, U_dup, U_invokespecial0, U_putfield, U_getfield, U_invokevirtual0, U_return, UN_cc, UN_cn, UN_nc, UN_nn, UJ, lget, lset, lset2, entL, wsm, wcat, Option.toList_some, Option.toList_none, List.cons_append, List.nil_append, List.mem_cons, List.not_mem_nil, Prod.mk.injEq, or_false, false_or, or_true, true_or, and_true, true_and, and_false, false_and, and_self, ne_eq, not_false_eq_true, not_true_eq_false, forall_const, true_implies, false_implies, Nat.add_zero, Nat.zero_add, Nat.le_refl, Nat.zero_le, List.set_cons_zero, List.set_cons_succ, List.set_nil, ↓reduceIte, Nat.reduceAdd, Nat.reduceSub, Nat.reduceEqDiff, Nat.reduceLeDiff, Int.reduceEq, Int.reduceNe, Int.reduceNeg, reduceCtorEq, e1, e2, e3, e4, e6, k1, k3, n0]
  refine ⟨by decide, by decide, ?_⟩
  refine i_row (by omega) k3 (by rw [show a + 3 + 1 = a + 4 by omega]; exact k4) (by rw [show a + 3 + 1 = a + 4 by omega]; exact l4) ?_
  have eu : ust (rwM (ust (rwM M (a + 1)) a 0 (a + 1)) (a + 3)) a 1 (a + 3) a 0 = a + 1 := by rw [ust_at, if_neg (by decide), rwM_o (by omega) (by omega), ust_at, if_pos rfl]
  have ec : ust (rwM (ust (rwM M (a + 1)) a 0 (a + 1)) (a + 3)) a 1 (a + 3) (a + 1) 0 = a + 2 := by rw [ust_ne (by omega), rwM_o (by omega) (by omega), ust_ne (by omega), rwM_0]; omega
  have kc : kd (a + 3 + 1 + 1) (a + 2) = 1 := kd_lt k2 (by omega)
  unfold rwM at eu
  simp only [bk6_0, U_aload_n, U_oinit, U_new, U_dup, U_invokespecial0, U_putfield, U_getfield, U_invokevirtual0, U_return, UN_cc, UN_cn, UN_nc, UN_nn, UJ, lget, lset, lset2, entL, wsm, wcat, Option.toList_some, Option.toList_none, List.cons_append, List.nil_append, List.mem_cons, List.not_mem_nil, Prod.mk.injEq, or_false, false_or, or_true, true_or, and_true, true_and, and_false, false_and, and_self, ne_eq, not_false_eq_true, not_true_eq_false, forall_const, true_implies, false_implies, Nat.add_zero, Nat.zero_add, Nat.le_refl, Nat.zero_le, List.set_cons_zero, List.set_cons_succ, List.set_nil, ↓reduceIte, Nat.reduceAdd, Nat.reduceSub, Nat.reduceEqDiff, Nat.reduceLeDiff, Int.reduceEq, Int.reduceNe, Int.reduceNeg, reduceCtorEq, e5, n3, eu, e7, n0]
  refine g_one e7 kc l2 ec (by omega) (by omega) ?_
  simp only [bk6_0, U_aload_n, U_oinit, U_new, U_dup, U_invokespecial0, U_putfield, U_getfield, U_invokevirtual0, U_return, UN_cc, UN_cn, UN_nc, UN_nn, UJ, lget, lset, lset2, entL, wsm, wcat, Option.toList_some, Option.toList_none, List.cons_append, List.nil_append, List.mem_cons, List.not_mem_nil, Prod.mk.injEq, or_false, false_or, or_true, true_or, and_true, true_and, and_false, false_and, and_self, ne_eq, not_false_eq_true, not_true_eq_false, forall_const, true_implies, false_implies, Nat.add_zero, Nat.zero_add, Nat.le_refl, Nat.zero_le, List.set_cons_zero, List.set_cons_succ, List.set_nil, ↓reduceIte, Nat.reduceAdd, Nat.reduceSub, Nat.reduceEqDiff, Nat.reduceLeDiff, Int.reduceEq, Int.reduceNe, Int.reduceNeg, reduceCtorEq]
  rw [show a + 3 + 1 + 1 = a + 5 by omega]
  exact hQ
