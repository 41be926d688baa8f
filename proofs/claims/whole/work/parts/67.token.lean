/-! THE LIST OF CLASSES: the token of a pair -/
def dgs (p : Int) (a : Nat → Int) : Nat → Int → Int
  | 0, x => x
  | k + 1, x => dgs p a k (x * p + a k)
/-- token of a pair of rows -/
noncomputable def tkn {p : Int} (a : Pz p × Pz p) : Int := ((dg a.1 - 1 : Nat) : Int) * (p * p * p * p) + dgs p a.2.1 (dg a.1 - 1) (dgs p a.1.1 (dg a.1 - 1) 0)
set_option maxHeartbeats 8000000 in
theorem l_tk1 {p : Int} {N : Mem} {ρ : Int → Option (Pz p)} {Q : Post} {q d : Int} {a : Pz p × Pz p} (h : ST p N ρ) (hq : KD q = 16) (ha : PH ρ q a) :
    ∀ (k : Nat) (x : Int), k ≤ 8 → WP 84 (0, 0) 46 [(2, 88), (2, q), (0, d), (0, dgs p a.1.1 k x), (0, -1)] [] NN N Q → WP 84 (0, 0) 15 [(2, 88), (2, q), (0, d), (0, x), (0, (k : Int) - 1)] [] NN N Q := by
  obtain ⟨z1, z2, ku, kv, l, -⟩ := zpr h.1.1 hq
  have n1 : ¬ q + 1 = 0 := by omega
  intro k
  induction k with
  | zero =>
    intro x _ hQ
    refine WP.run [(84, 15), (84, 46)] [] 60 ?_
    simp only [bk84_0, bk84_15, bk84_20, bk84_46, bk84_51, bk84_56, bk84_82, U_aload_n, U_getfield, U_istore_n, U_iconst, U_iload_n, U_isub, U_istore, U_iload, U_if_lt, U_imul, U_invokevirtual1, U_iadd, U_iinc, U_goto, U_invokevirtual0, U_ireturn, UN_cc, UN_cn, UN_nc, UN_nn, UJ, lget, lset, lset2, entL, wsm, wcat, Option.toList_some, Option.toList_none, List.cons_append, List.nil_append, List.mem_cons, List.not_mem_nil, Prod.mk.injEq, or_false, false_or, or_true, true_or, and_true, true_and, and_false, false_and, and_self, ne_eq, not_false_eq_true, not_true_eq_false, forall_const, true_implies, false_implies, Nat.add_zero, Nat.zero_add, Nat.le_refl, Nat.zero_le, List.set_cons_zero, List.set_cons_succ, List.set_nil, ↓reduceIte, Nat.reduceAdd, Nat.reduceSub, Nat.reduceEqDiff, Nat.reduceLeDiff, Int.reduceEq, Int.reduceNe, Int.reduceNeg, reduceCtorEq]
    exact ⟨r3 (by omega), fun _ => hQ, fun e => absurd e (by omega)⟩
  | succ k ih =>
    intro x hk hQ
    have hu := h.rp ku ha.1
    refine WP.run [(84, 15), (84, 46)] [] 60 ?_
    simp only [bk84_0, bk84_15, bk84_20, bk84_46, bk84_51, bk84_56, bk84_82, U_aload_n, U_getfield, U_istore_n, U_iconst, U_iload_n, U_isub, U_istore, U_iload, U_if_lt, U_imul, U_invokevirtual1, U_iadd, U_iinc, U_goto, U_invokevirtual0, U_ireturn, UN_cc, UN_cn, UN_nc, UN_nn, UJ, lget, lset, lset2, entL, wsm, wcat, Option.toList_some, Option.toList_none, List.cons_append, List.nil_append, List.mem_cons, List.not_mem_nil, Prod.mk.injEq, or_false, false_or, or_true, true_or, and_true, true_and, and_false, false_and, and_self, ne_eq, not_false_eq_true, not_true_eq_false, forall_const, true_implies, false_implies, Nat.add_zero, Nat.zero_add, Nat.le_refl, Nat.zero_le, List.set_cons_zero, List.set_cons_succ, List.set_nil, ↓reduceIte, Nat.reduceAdd, Nat.reduceSub, Nat.reduceEqDiff, Nat.reduceLeDiff, Int.reduceEq, Int.reduceNe, Int.reduceNeg, reduceCtorEq, kd88, kd2, kd_of hq (by decide), kd_of ku (by decide), z1, n1, z88_0 h.1.1, h.1.2.2.1]
    refine ⟨r3 (by omega), fun e => absurd e (by omega), fun _ => ?_⟩
    refine c_get hu (r3 (by omega)) ?_
    rw [if_pos (by omega), show (((k + 1 : Nat) : Int) - 1).toNat = k by omega, show ((k + 1 : Nat) : Int) - 1 = (k : Int) by omega]
    simp only [bk84_0, bk84_15, bk84_20, bk84_46, bk84_51, bk84_56, bk84_82, U_aload_n, U_getfield, U_istore_n, U_iconst, U_iload_n, U_isub, U_istore, U_iload, U_if_lt, U_imul, U_invokevirtual1, U_iadd, U_iinc, U_goto, U_invokevirtual0, U_ireturn, UN_cc, UN_cn, UN_nc, UN_nn, UJ, lget, lset, lset2, entL, wsm, wcat, Option.toList_some, Option.toList_none, List.cons_append, List.nil_append, List.mem_cons, List.not_mem_nil, Prod.mk.injEq, or_false, false_or, or_true, true_or, and_true, true_and, and_false, false_and, and_self, ne_eq, not_false_eq_true, not_true_eq_false, forall_const, true_implies, false_implies, Nat.add_zero, Nat.zero_add, Nat.le_refl, Nat.zero_le, List.set_cons_zero, List.set_cons_succ, List.set_nil, ↓reduceIte, Nat.reduceAdd, Nat.reduceSub, Nat.reduceEqDiff, Nat.reduceLeDiff, Int.reduceEq, Int.reduceNe, Int.reduceNeg, reduceCtorEq]
    exact ih (x * p + a.1.1 k) (by omega) hQ
