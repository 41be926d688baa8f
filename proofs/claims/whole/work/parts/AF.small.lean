/-! THE MODEL'S SMALL CALLS -/
theorem lcm_lt {x y : Int} : (lcm3 x y < 0 ↔ x < y) ∧ (0 < lcm3 x y ↔ y < x) := by
  unfold lcm3
  constructor <;> (split <;> (try split) <;> omega)
theorem lcm_r (x y : Int) : R32 (lcm3 x y) := by unfold lcm3; split <;> (try split) <;> exact r3 (by omega)
set_option maxHeartbeats 4000000 in
theorem m_in {N : Mem} {Q : Post} {v a b : Int} (hv : R64 v) (ha : R64 a) (hb : R64 b) (hQ : Q (some (0, if a ≤ v ∧ v ≤ b then 1 else 0)) NN N) : CL 157 [(1, v), (9, 0), (1, a), (9, 0), (1, b), (9, 0)] NN N Q := by
  have l1 := lcm_lt (x := v) (y := a)
  have l2 := lcm_lt (x := v) (y := b)
  refine WP.run [] [] 40 ?_
  simp only [bk157_0, bk157_6, bk157_13, bk157_17, bk157_18, U_lload_n, U_lcmp, U_if_lt, U_lload, U_if_gt, U_iconst, U_goto, U_ireturn, UN_cc, UN_cn, UN_nc, UN_nn, UJ, lget, lset, lset2, entL, wsm, wcat, Option.toList_some, Option.toList_none, List.cons_append, List.nil_append, List.mem_cons, List.not_mem_nil, Prod.mk.injEq, or_false, false_or, or_true, true_or, and_true, true_and, and_false, false_and, and_self, ne_eq, not_false_eq_true, not_true_eq_false, forall_const, true_implies, false_implies, Nat.add_zero, Nat.zero_add, Nat.le_refl, Nat.zero_le, List.set_cons_zero, List.set_cons_succ, List.set_nil, ↓reduceIte, Nat.reduceAdd, Nat.reduceSub, Nat.reduceEqDiff, Nat.reduceLeDiff, Int.reduceEq, Int.reduceNe, Int.reduceNeg, reduceCtorEq]
  refine ⟨Or.inr ⟨hv, ha⟩, lcm_r _ _, fun e => ?_, fun e => ⟨Or.inr ⟨hv, hb⟩, lcm_r _ _, fun e2 => ?_, fun e2 => ?_⟩⟩
  · rw [if_neg (by omega)] at hQ; exact hQ
  · rw [if_neg (by omega)] at hQ; exact hQ
  · rw [if_pos (by omega)] at hQ; exact hQ
theorem r64 {x : Int} (h : -4611686018427387904 ≤ x ∧ x ≤ 4611686018427387904) : R64 x := ⟨by omega, by omega⟩
theorem R32.l {x : Int} (h : R32 x) : R64 x := by obtain ⟨a, b⟩ := h; exact ⟨by omega, by omega⟩
set_option maxHeartbeats 4000000 in
theorem m_isCurve {N : Mem} {Q : Post} (h : R32 (N 190 1)) (hQ : Q (some (0, if 0 < N 190 1 then 1 else 0)) NN N) : CL 161 [(2, 190)] NN N Q := by
  refine WP.run [] [] 40 ?_
  simp only [bk161_0, bk161_7, bk161_11, bk161_12, U_aload_n, U_getfield, U_if_le, U_iconst, U_goto, U_ireturn, UN_cc, UN_cn, UN_nc, UN_nn, UJ, lget, lset, lset2, entL, wsm, wcat, Option.toList_some, Option.toList_none, List.cons_append, List.nil_append, List.mem_cons, List.not_mem_nil, Prod.mk.injEq, or_false, false_or, or_true, true_or, and_true, true_and, and_false, false_and, and_self, ne_eq, not_false_eq_true, not_true_eq_false, forall_const, true_implies, false_implies, Nat.add_zero, Nat.zero_add, Nat.le_refl, Nat.zero_le, List.set_cons_zero, List.set_cons_succ, List.set_nil, ↓reduceIte, Nat.reduceAdd, Nat.reduceSub, Nat.reduceEqDiff, Nat.reduceLeDiff, Int.reduceEq, Int.reduceNe, Int.reduceNeg, reduceCtorEq, kd190]
  refine ⟨h, fun e => ?_, fun e => ?_⟩
  · rw [if_pos e] at hQ; exact hQ
  · rw [if_neg e] at hQ; exact hQ
set_option maxHeartbeats 4000000 in
theorem m_isReg {N : Mem} {Q : Post} {r : Int} (hr : R32 r) (hQ : Q (some (0, if 0 ≤ r ∧ r < 6 then 1 else 0)) NN N) : CL 200 [(0, r)] NN N Q := by
  refine WP.run [] [] 40 ?_
  simp only [bk200_0, U_iload_n, U_i2l, U_lconst, U_ldc2_w, U_invokestatic3, U_ireturn, UN_cc, UN_cn, UN_nc, UN_nn, UJ, lget, lset, lset2, entL, wsm, wcat, Option.toList_some, Option.toList_none, List.cons_append, List.nil_append, List.mem_cons, List.not_mem_nil, Prod.mk.injEq, or_false, false_or, or_true, true_or, and_true, true_and, and_false, false_and, and_self, ne_eq, not_false_eq_true, not_true_eq_false, forall_const, true_implies, false_implies, Nat.add_zero, Nat.zero_add, Nat.le_refl, Nat.zero_le, List.set_cons_zero, List.set_cons_succ, List.set_nil, ↓reduceIte, Nat.reduceAdd, Nat.reduceSub, Nat.reduceEqDiff, Nat.reduceLeDiff, Int.reduceEq, Int.reduceNe, Int.reduceNeg, reduceCtorEq]
  refine ⟨hr, m_in hr.l (r64 (by omega)) (r64 (by omega)) ?_⟩
  have e : (if 0 ≤ r ∧ r ≤ 5 then (1 : Int) else 0) = if 0 ≤ r ∧ r < 6 then 1 else 0 := by
    by_cases q : 0 ≤ r ∧ r < 6
    · rw [if_pos q, if_pos (by omega)]
    · rw [if_neg q, if_neg (by omega)]
  rw [e]
  simp only [bk200_0, U_iload_n, U_i2l, U_lconst, U_ldc2_w, U_invokestatic3, U_ireturn, UN_cc, UN_cn, UN_nc, UN_nn, UJ, lget, lset, lset2, entL, wsm, wcat, Option.toList_some, Option.toList_none, List.cons_append, List.nil_append, List.mem_cons, List.not_mem_nil, Prod.mk.injEq, or_false, false_or, or_true, true_or, and_true, true_and, and_false, false_and, and_self, ne_eq, not_false_eq_true, not_true_eq_false, forall_const, true_implies, false_implies, Nat.add_zero, Nat.zero_add, Nat.le_refl, Nat.zero_le, List.set_cons_zero, List.set_cons_succ, List.set_nil, ↓reduceIte, Nat.reduceAdd, Nat.reduceSub, Nat.reduceEqDiff, Nat.reduceLeDiff, Int.reduceEq, Int.reduceNe, Int.reduceNeg, reduceCtorEq]
  refine ⟨?_, hQ⟩
  split <;> simp
set_option maxHeartbeats 4000000 in
theorem m_isPole {N : Mem} {Q : Post} {r : Int} (hr : R32 r) (hQ : Q (some (0, if 0 ≤ r ∧ r ≤ 30 then 1 else 0)) NN N) : CL 228 [(0, r)] NN N Q := by
  refine WP.run [] [] 40 ?_
  simp only [bk228_0, U_iload_n, U_i2l, U_lconst, U_ldc2_w, U_invokestatic3, U_ireturn, UN_cc, UN_cn, UN_nc, UN_nn, UJ, lget, lset, lset2, entL, wsm, wcat, Option.toList_some, Option.toList_none, List.cons_append, List.nil_append, List.mem_cons, List.not_mem_nil, Prod.mk.injEq, or_false, false_or, or_true, true_or, and_true, true_and, and_false, false_and, and_self, ne_eq, not_false_eq_true, not_true_eq_false, forall_const, true_implies, false_implies, Nat.add_zero, Nat.zero_add, Nat.le_refl, Nat.zero_le, List.set_cons_zero, List.set_cons_succ, List.set_nil, ↓reduceIte, Nat.reduceAdd, Nat.reduceSub, Nat.reduceEqDiff, Nat.reduceLeDiff, Int.reduceEq, Int.reduceNe, Int.reduceNeg, reduceCtorEq]
  refine ⟨hr, m_in hr.l (r64 (by omega)) (r64 (by omega)) ?_⟩
  simp only [bk228_0, U_iload_n, U_i2l, U_lconst, U_ldc2_w, U_invokestatic3, U_ireturn, UN_cc, UN_cn, UN_nc, UN_nn, UJ, lget, lset, lset2, entL, wsm, wcat, Option.toList_some, Option.toList_none, List.cons_append, List.nil_append, List.mem_cons, List.not_mem_nil, Prod.mk.injEq, or_false, false_or, or_true, true_or, and_true, true_and, and_false, false_and, and_self, ne_eq, not_false_eq_true, not_true_eq_false, forall_const, true_implies, false_implies, Nat.add_zero, Nat.zero_add, Nat.le_refl, Nat.zero_le, List.set_cons_zero, List.set_cons_succ, List.set_nil, ↓reduceIte, Nat.reduceAdd, Nat.reduceSub, Nat.reduceEqDiff, Nat.reduceLeDiff, Int.reduceEq, Int.reduceNe, Int.reduceNeg, reduceCtorEq]
  refine ⟨?_, hQ⟩
  split <;> simp
set_option maxHeartbeats 4000000 in
theorem m_isPt {N : Mem} {Q : Post} {i : Int} {m : Nat} (hi : R32 i) (hm : N 190 5 = (m : Int)) (h30 : m ≤ 30) (hQ : Q (some (0, if 0 ≤ i ∧ i < m then 1 else 0)) NN N) : CL 177 [(2, 190), (0, i)] NN N Q := by
  refine WP.run [] [] 40 ?_
  simp only [bk177_0, U_iload_n, U_i2l, U_lconst, U_aload_n, U_getfield, U_iconst, U_isub, U_invokestatic3, U_ireturn, UN_cc, UN_cn, UN_nc, UN_nn, UJ, lget, lset, lset2, entL, wsm, wcat, Option.toList_some, Option.toList_none, List.cons_append, List.nil_append, List.mem_cons, List.not_mem_nil, Prod.mk.injEq, or_false, false_or, or_true, true_or, and_true, true_and, and_false, false_and, and_self, ne_eq, not_false_eq_true, not_true_eq_false, forall_const, true_implies, false_implies, Nat.add_zero, Nat.zero_add, Nat.le_refl, Nat.zero_le, List.set_cons_zero, List.set_cons_succ, List.set_nil, ↓reduceIte, Nat.reduceAdd, Nat.reduceSub, Nat.reduceEqDiff, Nat.reduceLeDiff, Int.reduceEq, Int.reduceNe, Int.reduceNeg, reduceCtorEq, kd190, hm]
  refine ⟨hi, r3 (by omega), m_in hi.l (r64 (by omega)) (r64 (by omega)) ?_⟩
  have e : (if 0 ≤ i ∧ i ≤ (m : Int) - 1 then (1 : Int) else 0) = if 0 ≤ i ∧ i < m then 1 else 0 := by
    by_cases q : 0 ≤ i ∧ i < (m : Int)
    · rw [if_pos q, if_pos (by omega)]
    · rw [if_neg q, if_neg (by omega)]
  rw [e]
  simp only [bk177_0, U_iload_n, U_i2l, U_lconst, U_aload_n, U_getfield, U_iconst, U_isub, U_invokestatic3, U_ireturn, UN_cc, UN_cn, UN_nc, UN_nn, UJ, lget, lset, lset2, entL, wsm, wcat, Option.toList_some, Option.toList_none, List.cons_append, List.nil_append, List.mem_cons, List.not_mem_nil, Prod.mk.injEq, or_false, false_or, or_true, true_or, and_true, true_and, and_false, false_and, and_self, ne_eq, not_false_eq_true, not_true_eq_false, forall_const, true_implies, false_implies, Nat.add_zero, Nat.zero_add, Nat.le_refl, Nat.zero_le, List.set_cons_zero, List.set_cons_succ, List.set_nil, ↓reduceIte, Nat.reduceAdd, Nat.reduceSub, Nat.reduceEqDiff, Nat.reduceLeDiff, Int.reduceEq, Int.reduceNe, Int.reduceNeg, reduceCtorEq]
  refine ⟨?_, hQ⟩
  split <;> simp
set_option maxHeartbeats 4000000 in
theorem l_bigPow {p : Int} {N : Mem} {Q : Post} {m : Nat} (h0 : N 190 0 = p) (hp : Pr p) (hm : (m : Int) ≤ 1000) (hQ : Q (some (1, p ^ m)) NN N) : ∀ (n k : Nat), k + n = m → WP 182 (0, 0) 5 [(2, 190), (0, (m : Int)), (1, p ^ k), (9, 0), (0, (k : Int))] [] NN N Q := by
  have hpp := hp.pos
  intro n
  induction n with
  | zero =>
    intro k hk
    obtain rfl : k = m := by omega
    refine WP.run [(182, 5)] [] 40 ?_
    simp only [bk182_0, bk182_5, bk182_11, bk182_25, U_lconst, U_lstore_n, U_iconst, U_istore, U_iload, U_iload_n, U_icmp_ge, U_lload_n, U_aload_n, U_getfield, U_i2l, U_lmul, U_iinc, U_goto, U_lreturn, UN_cc, UN_cn, UN_nc, UN_nn, UJ, lget, lset, lset2, entL, wsm, wcat, Option.toList_some, Option.toList_none, List.cons_append, List.nil_append, List.mem_cons, List.not_mem_nil, Prod.mk.injEq, or_false, false_or, or_true, true_or, and_true, true_and, and_false, false_and, and_self, ne_eq, not_false_eq_true, not_true_eq_false, forall_const, true_implies, false_implies, Nat.add_zero, Nat.zero_add, Nat.le_refl, Nat.zero_le, List.set_cons_zero, List.set_cons_succ, List.set_nil, ↓reduceIte, Nat.reduceAdd, Nat.reduceSub, Nat.reduceEqDiff, Nat.reduceLeDiff, Int.reduceEq, Int.reduceNe, Int.reduceNeg, reduceCtorEq]
    exact ⟨rr (by omega), fun e => absurd e (by omega), fun _ => hQ⟩
  | succ n ih =>
    intro k hk
    refine WP.run [(182, 5)] [] 40 ?_
    simp only [bk182_0, bk182_5, bk182_11, bk182_25, U_lconst, U_lstore_n, U_iconst, U_istore, U_iload, U_iload_n, U_icmp_ge, U_lload_n, U_aload_n, U_getfield, U_i2l, U_lmul, U_iinc, U_goto, U_lreturn, UN_cc, UN_cn, UN_nc, UN_nn, UJ, lget, lset, lset2, entL, wsm, wcat, Option.toList_some, Option.toList_none, List.cons_append, List.nil_append, List.mem_cons, List.not_mem_nil, Prod.mk.injEq, or_false, false_or, or_true, true_or, and_true, true_and, and_false, false_and, and_self, ne_eq, not_false_eq_true, not_true_eq_false, forall_const, true_implies, false_implies, Nat.add_zero, Nat.zero_add, Nat.le_refl, Nat.zero_le, List.set_cons_zero, List.set_cons_succ, List.set_nil, ↓reduceIte, Nat.reduceAdd, Nat.reduceSub, Nat.reduceEqDiff, Nat.reduceLeDiff, Int.reduceEq, Int.reduceNe, Int.reduceNeg, reduceCtorEq, kd190, h0]
    refine ⟨rr (by omega), fun _ => ⟨r3 (by omega), ?_⟩, fun e => absurd (by omega) e⟩
    rw [← Int.pow_succ]
    exact ih (k + 1) (by omega)
set_option maxHeartbeats 4000000 in
theorem m_bigPow {p : Int} {N : Mem} {Q : Post} {m : Nat} (h0 : N 190 0 = p) (hp : Pr p) (hm : (m : Int) ≤ 1000) (hQ : Q (some (1, p ^ m)) NN N) : CL 182 [(2, 190), (0, (m : Int)), (9, 0), (9, 0), (9, 0)] NN N Q := by
  refine WP.run [(182, 5)] [] 40 ?_
  simp only [bk182_0, bk182_5, bk182_11, bk182_25, U_lconst, U_lstore_n, U_iconst, U_istore, U_iload, U_iload_n, U_icmp_ge, U_lload_n, U_aload_n, U_getfield, U_i2l, U_lmul, U_iinc, U_goto, U_lreturn, UN_cc, UN_cn, UN_nc, UN_nn, UJ, lget, lset, lset2, entL, wsm, wcat, Option.toList_some, Option.toList_none, List.cons_append, List.nil_append, List.mem_cons, List.not_mem_nil, Prod.mk.injEq, or_false, false_or, or_true, true_or, and_true, true_and, and_false, false_and, and_self, ne_eq, not_false_eq_true, not_true_eq_false, forall_const, true_implies, false_implies, Nat.add_zero, Nat.zero_add, Nat.le_refl, Nat.zero_le, List.set_cons_zero, List.set_cons_succ, List.set_nil, ↓reduceIte, Nat.reduceAdd, Nat.reduceSub, Nat.reduceEqDiff, Nat.reduceLeDiff, Int.reduceEq, Int.reduceNe, Int.reduceNeg, reduceCtorEq]
  have := l_bigPow h0 hp hm hQ m 0 (by omega)
  rw [Int.pow_zero] at this
  exact this
