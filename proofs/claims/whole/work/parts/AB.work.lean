/-! THE MODEL'S PAIRS: moved from place to place; printed by gen_work.py -/
/-- five numbers from place a of cells s come to place t of cells c; nothing else changes -/
def Mvd (c s : Int) (t a : Nat) (N N' : Mem) : Prop := (∀ b, b ≠ c → N' b = N b) ∧ (∀ j : Nat, j < 5 → N' c (5 * (t : Int) + (j : Int)) = N s (5 * (a : Int) + (j : Int))) ∧ ∀ i, ¬ (5 * (t : Int) ≤ i ∧ i < 5 * (t : Int) + 5) → N' c i = N c i
set_option maxHeartbeats 4000000 in
theorem l_copyWork {N : Mem} {Q : Post} {t a : Nat} (ht : t < 8) (ha : a < 8) (hn : a ≠ t) (hQ : ∀ N', Mvd 204 204 t a N N' → Q none NN N') : ∀ (n k : Nat) (Ni : Mem), k + n = 5 → Fz Ni → (∀ b, b ≠ 204 → Ni b = N b) → (∀ j : Nat, j < k → Ni 204 (5 * (t : Int) + (j : Int)) = N 204 (5 * (a : Int) + (j : Int))) → (∀ i, ¬ (5 * (t : Int) ≤ i ∧ i < 5 * (t : Int) + k) → Ni 204 i = N 204 i) → WP 196 (0, 0) 2 [(2, 190), (0, (t : Int)), (0, (a : Int)), (0, (k : Int))] [] NN Ni Q := by
  intro n
  induction n with
  | zero =>
    intro k Ni hk hz h1 h2 h3
    obtain rfl : k = 5 := by omega
    refine WP.run [(196, 2)] [] 40 ?_
    simp only [bk196_0, bk196_2, bk196_7, bk196_33, U_iconst, U_istore_n, U_iload_n, U_icmp_ge, U_aload_n, U_getfield, U_imul, U_iadd, U_iald, U_iast, U_iinc, U_goto, U_return, UN_cc, UN_cn, UN_nc, UN_nn, UJ, lget, lset, lset2, entL, wsm, wcat, Option.toList_some, Option.toList_none, List.cons_append, List.nil_append, List.mem_cons, List.not_mem_nil, Prod.mk.injEq, or_false, false_or, or_true, true_or, and_true, true_and, and_false, false_and, and_self, ne_eq, not_false_eq_true, not_true_eq_false, forall_const, true_implies, false_implies, Nat.add_zero, Nat.zero_add, Nat.le_refl, Nat.zero_le, List.set_cons_zero, List.set_cons_succ, List.set_nil, ↓reduceIte, Nat.reduceAdd, Nat.reduceSub, Nat.reduceEqDiff, Nat.reduceLeDiff, Int.reduceEq, Int.reduceNe, Int.reduceNeg, reduceCtorEq]
    exact ⟨rr (by omega), fun e => absurd e (by omega), fun _ => hQ Ni ⟨h1, h2, h3⟩⟩
  | succ n ih =>
    intro k Ni hk hz h1 h2 h3
    have e : Ni 204 (5 * (a : Int) + (k : Int)) = N 204 (5 * (a : Int) + (k : Int)) := h3 _ (by omega)
    refine WP.run [(196, 2)] [] 40 ?_
    simp only [bk196_0, bk196_2, bk196_7, bk196_33, U_iconst, U_istore_n, U_iload_n, U_icmp_ge, U_aload_n, U_getfield, U_imul, U_iadd, U_iald, U_iast, U_iinc, U_goto, U_return, UN_cc, UN_cn, UN_nc, UN_nn, UJ, lget, lset, lset2, entL, wsm, wcat, Option.toList_some, Option.toList_none, List.cons_append, List.nil_append, List.mem_cons, List.not_mem_nil, Prod.mk.injEq, or_false, false_or, or_true, true_or, and_true, true_and, and_false, false_and, and_self, ne_eq, not_false_eq_true, not_true_eq_false, forall_const, true_implies, false_implies, Nat.add_zero, Nat.zero_add, Nat.le_refl, Nat.zero_le, List.set_cons_zero, List.set_cons_succ, List.set_nil, ↓reduceIte, Nat.reduceAdd, Nat.reduceSub, Nat.reduceEqDiff, Nat.reduceLeDiff, Int.reduceEq, Int.reduceNe, Int.reduceNeg, reduceCtorEq, kd190, kd204, ln204, z190_20 hz, e]
    refine ⟨rr (by omega), fun _ => ⟨by omega, by omega, by omega, by omega, ?_⟩, fun e => absurd (by omega) e⟩
    refine ih (k + 1) _ (by omega) (hz.ust (fz_arr (Or.inl rfl) _)) (fun b hb => by rw [ust_ne hb]; exact h1 b hb) (fun j hj => ?_) (fun i hi => ?_)
    · rw [ust_at]
      by_cases q : j = k
      · rw [if_pos (by omega), q]
      · rw [if_neg (by omega)]; exact h2 j (by omega)
    · rw [ust_at, if_neg (by omega)]; exact h3 i (by omega)
set_option maxHeartbeats 4000000 in
theorem m_copyWork {N : Mem} {Q : Post} {t a : Nat} (hz : Fz N) (ht : t < 8) (ha : a < 8) (hn : a ≠ t) (hQ : ∀ N', Mvd 204 204 t a N N' → Q none NN N') : CL 196 [(2, 190), (0, (t : Int)), (0, (a : Int)), (9, 0)] NN N Q := by
  refine WP.run [(196, 2)] [] 40 ?_
  simp only [bk196_0, bk196_2, bk196_7, bk196_33, U_iconst, U_istore_n, U_iload_n, U_icmp_ge, U_aload_n, U_getfield, U_imul, U_iadd, U_iald, U_iast, U_iinc, U_goto, U_return, UN_cc, UN_cn, UN_nc, UN_nn, UJ, lget, lset, lset2, entL, wsm, wcat, Option.toList_some, Option.toList_none, List.cons_append, List.nil_append, List.mem_cons, List.not_mem_nil, Prod.mk.injEq, or_false, false_or, or_true, true_or, and_true, true_and, and_false, false_and, and_self, ne_eq, not_false_eq_true, not_true_eq_false, forall_const, true_implies, false_implies, Nat.add_zero, Nat.zero_add, Nat.le_refl, Nat.zero_le, List.set_cons_zero, List.set_cons_succ, List.set_nil, ↓reduceIte, Nat.reduceAdd, Nat.reduceSub, Nat.reduceEqDiff, Nat.reduceLeDiff, Int.reduceEq, Int.reduceNe, Int.reduceNeg, reduceCtorEq]
  exact l_copyWork ht ha hn hQ 5 0 N rfl hz (fun _ _ => rfl) (fun j hj => by omega) (fun _ _ => rfl)
set_option maxHeartbeats 4000000 in
theorem l_fromRegister {N : Mem} {Q : Post} {t a : Nat} (ht : t < 8) (ha : a < 6) (hQ : ∀ N', Mvd 204 195 t a N N' → Q none NN N') : ∀ (n k : Nat) (Ni : Mem), k + n = 5 → Fz Ni → (∀ b, b ≠ 204 → Ni b = N b) → (∀ j : Nat, j < k → Ni 204 (5 * (t : Int) + (j : Int)) = N 195 (5 * (a : Int) + (j : Int))) → (∀ i, ¬ (5 * (t : Int) ≤ i ∧ i < 5 * (t : Int) + k) → Ni 204 i = N 204 i) → WP 201 (0, 0) 2 [(2, 190), (0, (t : Int)), (0, (a : Int)), (0, (k : Int))] [] NN Ni Q := by
  intro n
  induction n with
  | zero =>
    intro k Ni hk hz h1 h2 h3
    obtain rfl : k = 5 := by omega
    refine WP.run [(201, 2)] [] 40 ?_
    simp only [bk201_0, bk201_2, bk201_7, bk201_33, U_iconst, U_istore_n, U_iload_n, U_icmp_ge, U_aload_n, U_getfield, U_imul, U_iadd, U_iald, U_iast, U_iinc, U_goto, U_return, UN_cc, UN_cn, UN_nc, UN_nn, UJ, lget, lset, lset2, entL, wsm, wcat, Option.toList_some, Option.toList_none, List.cons_append, List.nil_append, List.mem_cons, List.not_mem_nil, Prod.mk.injEq, or_false, false_or, or_true, true_or, and_true, true_and, and_false, false_and, and_self, ne_eq, not_false_eq_true, not_true_eq_false, forall_const, true_implies, false_implies, Nat.add_zero, Nat.zero_add, Nat.le_refl, Nat.zero_le, List.set_cons_zero, List.set_cons_succ, List.set_nil, ↓reduceIte, Nat.reduceAdd, Nat.reduceSub, Nat.reduceEqDiff, Nat.reduceLeDiff, Int.reduceEq, Int.reduceNe, Int.reduceNeg, reduceCtorEq]
    exact ⟨rr (by omega), fun e => absurd e (by omega), fun _ => hQ Ni ⟨h1, h2, h3⟩⟩
  | succ n ih =>
    intro k Ni hk hz h1 h2 h3
    have e : Ni 195 (5 * (a : Int) + (k : Int)) = N 195 (5 * (a : Int) + (k : Int)) := by rw [h1 195 (by decide)]
    refine WP.run [(201, 2)] [] 40 ?_
    simp only [bk201_0, bk201_2, bk201_7, bk201_33, U_iconst, U_istore_n, U_iload_n, U_icmp_ge, U_aload_n, U_getfield, U_imul, U_iadd, U_iald, U_iast, U_iinc, U_goto, U_return, UN_cc, UN_cn, UN_nc, UN_nn, UJ, lget, lset, lset2, entL, wsm, wcat, Option.toList_some, Option.toList_none, List.cons_append, List.nil_append, List.mem_cons, List.not_mem_nil, Prod.mk.injEq, or_false, false_or, or_true, true_or, and_true, true_and, and_false, false_and, and_self, ne_eq, not_false_eq_true, not_true_eq_false, forall_const, true_implies, false_implies, Nat.add_zero, Nat.zero_add, Nat.le_refl, Nat.zero_le, List.set_cons_zero, List.set_cons_succ, List.set_nil, ↓reduceIte, Nat.reduceAdd, Nat.reduceSub, Nat.reduceEqDiff, Nat.reduceLeDiff, Int.reduceEq, Int.reduceNe, Int.reduceNeg, reduceCtorEq, kd190, kd204, ln204, kd195, ln195, z190_20 hz, z190_9 hz, e]
    refine ⟨rr (by omega), fun _ => ⟨by omega, by omega, by omega, by omega, ?_⟩, fun e => absurd (by omega) e⟩
    refine ih (k + 1) _ (by omega) (hz.ust (fz_arr (Or.inl rfl) _)) (fun b hb => by rw [ust_ne hb]; exact h1 b hb) (fun j hj => ?_) (fun i hi => ?_)
    · rw [ust_at]
      by_cases q : j = k
      · rw [if_pos (by omega), q]
      · rw [if_neg (by omega)]; exact h2 j (by omega)
    · rw [ust_at, if_neg (by omega)]; exact h3 i (by omega)
set_option maxHeartbeats 4000000 in
theorem m_fromRegister {N : Mem} {Q : Post} {t a : Nat} (hz : Fz N) (ht : t < 8) (ha : a < 6) (hQ : ∀ N', Mvd 204 195 t a N N' → Q none NN N') : CL 201 [(2, 190), (0, (t : Int)), (0, (a : Int)), (9, 0)] NN N Q := by
  refine WP.run [(201, 2)] [] 40 ?_
  simp only [bk201_0, bk201_2, bk201_7, bk201_33, U_iconst, U_istore_n, U_iload_n, U_icmp_ge, U_aload_n, U_getfield, U_imul, U_iadd, U_iald, U_iast, U_iinc, U_goto, U_return, UN_cc, UN_cn, UN_nc, UN_nn, UJ, lget, lset, lset2, entL, wsm, wcat, Option.toList_some, Option.toList_none, List.cons_append, List.nil_append, List.mem_cons, List.not_mem_nil, Prod.mk.injEq, or_false, false_or, or_true, true_or, and_true, true_and, and_false, false_and, and_self, ne_eq, not_false_eq_true, not_true_eq_false, forall_const, true_implies, false_implies, Nat.add_zero, Nat.zero_add, Nat.le_refl, Nat.zero_le, List.set_cons_zero, List.set_cons_succ, List.set_nil, ↓reduceIte, Nat.reduceAdd, Nat.reduceSub, Nat.reduceEqDiff, Nat.reduceLeDiff, Int.reduceEq, Int.reduceNe, Int.reduceNeg, reduceCtorEq]
  exact l_fromRegister ht ha  hQ 5 0 N rfl hz (fun _ _ => rfl) (fun j hj => by omega) (fun _ _ => rfl)
set_option maxHeartbeats 4000000 in
theorem l_toRegister {N : Mem} {Q : Post} {t a : Nat} (ht : t < 6) (ha : a < 8) (hQ : ∀ N', Mvd 195 204 t a N N' → Q none NN N') : ∀ (n k : Nat) (Ni : Mem), k + n = 5 → Fz Ni → (∀ b, b ≠ 195 → Ni b = N b) → (∀ j : Nat, j < k → Ni 195 (5 * (t : Int) + (j : Int)) = N 204 (5 * (a : Int) + (j : Int))) → (∀ i, ¬ (5 * (t : Int) ≤ i ∧ i < 5 * (t : Int) + k) → Ni 195 i = N 195 i) → WP 202 (0, 0) 2 [(2, 190), (0, (t : Int)), (0, (a : Int)), (0, (k : Int))] [] NN Ni Q := by
  intro n
  induction n with
  | zero =>
    intro k Ni hk hz h1 h2 h3
    obtain rfl : k = 5 := by omega
    refine WP.run [(202, 2)] [] 40 ?_
    simp only [bk202_0, bk202_2, bk202_7, bk202_33, U_iconst, U_istore_n, U_iload_n, U_icmp_ge, U_aload_n, U_getfield, U_imul, U_iadd, U_iald, U_iast, U_iinc, U_goto, U_return, UN_cc, UN_cn, UN_nc, UN_nn, UJ, lget, lset, lset2, entL, wsm, wcat, Option.toList_some, Option.toList_none, List.cons_append, List.nil_append, List.mem_cons, List.not_mem_nil, Prod.mk.injEq, or_false, false_or, or_true, true_or, and_true, true_and, and_false, false_and, and_self, ne_eq, not_false_eq_true, not_true_eq_false, forall_const, true_implies, false_implies, Nat.add_zero, Nat.zero_add, Nat.le_refl, Nat.zero_le, List.set_cons_zero, List.set_cons_succ, List.set_nil, ↓reduceIte, Nat.reduceAdd, Nat.reduceSub, Nat.reduceEqDiff, Nat.reduceLeDiff, Int.reduceEq, Int.reduceNe, Int.reduceNeg, reduceCtorEq]
    exact ⟨rr (by omega), fun e => absurd e (by omega), fun _ => hQ Ni ⟨h1, h2, h3⟩⟩
  | succ n ih =>
    intro k Ni hk hz h1 h2 h3
    have e : Ni 204 (5 * (a : Int) + (k : Int)) = N 204 (5 * (a : Int) + (k : Int)) := by rw [h1 204 (by decide)]
    refine WP.run [(202, 2)] [] 40 ?_
    simp only [bk202_0, bk202_2, bk202_7, bk202_33, U_iconst, U_istore_n, U_iload_n, U_icmp_ge, U_aload_n, U_getfield, U_imul, U_iadd, U_iald, U_iast, U_iinc, U_goto, U_return, UN_cc, UN_cn, UN_nc, UN_nn, UJ, lget, lset, lset2, entL, wsm, wcat, Option.toList_some, Option.toList_none, List.cons_append, List.nil_append, List.mem_cons, List.not_mem_nil, Prod.mk.injEq, or_false, false_or, or_true, true_or, and_true, true_and, and_false, false_and, and_self, ne_eq, not_false_eq_true, not_true_eq_false, forall_const, true_implies, false_implies, Nat.add_zero, Nat.zero_add, Nat.le_refl, Nat.zero_le, List.set_cons_zero, List.set_cons_succ, List.set_nil, ↓reduceIte, Nat.reduceAdd, Nat.reduceSub, Nat.reduceEqDiff, Nat.reduceLeDiff, Int.reduceEq, Int.reduceNe, Int.reduceNeg, reduceCtorEq, kd190, kd204, ln204, kd195, ln195, z190_20 hz, z190_9 hz, e]
    refine ⟨rr (by omega), fun _ => ⟨by omega, by omega, by omega, by omega, ?_⟩, fun e => absurd (by omega) e⟩
    refine ih (k + 1) _ (by omega) (hz.ust (fz_arr (Or.inl rfl) _)) (fun b hb => by rw [ust_ne hb]; exact h1 b hb) (fun j hj => ?_) (fun i hi => ?_)
    · rw [ust_at]
      by_cases q : j = k
      · rw [if_pos (by omega), q]
      · rw [if_neg (by omega)]; exact h2 j (by omega)
    · rw [ust_at, if_neg (by omega)]; exact h3 i (by omega)
set_option maxHeartbeats 4000000 in
theorem m_toRegister {N : Mem} {Q : Post} {t a : Nat} (hz : Fz N) (ht : t < 6) (ha : a < 8) (hQ : ∀ N', Mvd 195 204 t a N N' → Q none NN N') : CL 202 [(2, 190), (0, (t : Int)), (0, (a : Int)), (9, 0)] NN N Q := by
  refine WP.run [(202, 2)] [] 40 ?_
  simp only [bk202_0, bk202_2, bk202_7, bk202_33, U_iconst, U_istore_n, U_iload_n, U_icmp_ge, U_aload_n, U_getfield, U_imul, U_iadd, U_iald, U_iast, U_iinc, U_goto, U_return, UN_cc, UN_cn, UN_nc, UN_nn, UJ, lget, lset, lset2, entL, wsm, wcat, Option.toList_some, Option.toList_none, List.cons_append, List.nil_append, List.mem_cons, List.not_mem_nil, Prod.mk.injEq, or_false, false_or, or_true, true_or, and_true, true_and, and_false, false_and, and_self, ne_eq, not_false_eq_true, not_true_eq_false, forall_const, true_implies, false_implies, Nat.add_zero, Nat.zero_add, Nat.le_refl, Nat.zero_le, List.set_cons_zero, List.set_cons_succ, List.set_nil, ↓reduceIte, Nat.reduceAdd, Nat.reduceSub, Nat.reduceEqDiff, Nat.reduceLeDiff, Int.reduceEq, Int.reduceNe, Int.reduceNeg, reduceCtorEq]
  exact l_toRegister ht ha  hQ 5 0 N rfl hz (fun _ _ => rfl) (fun j hj => by omega) (fun _ _ => rfl)
set_option maxHeartbeats 4000000 in
theorem l_nought {N : Mem} {Q : Post} {t : Nat} (ht : t < 8) (hQ : ∀ N', (∀ b, b ≠ 204 → N' b = N b) → (∀ j : Nat, j < 5 → N' 204 (5 * (t : Int) + (j : Int)) = 0) → (∀ i, ¬ (5 * (t : Int) ≤ i ∧ i < 5 * (t : Int) + 5) → N' 204 i = N 204 i) → Q none NN N') : ∀ (n k : Nat) (Ni : Mem), k + n = 5 → Fz Ni → (∀ b, b ≠ 204 → Ni b = N b) → (∀ j : Nat, j < k → Ni 204 (5 * (t : Int) + (j : Int)) = 0) → (∀ i, ¬ (5 * (t : Int) ≤ i ∧ i < 5 * (t : Int) + k) → Ni 204 i = N 204 i) → WP 197 (0, 0) 2 [(2, 190), (0, (t : Int)), (0, (k : Int))] [] NN Ni Q := by
  intro n
  induction n with
  | zero =>
    intro k Ni hk hz h1 h2 h3
    obtain rfl : k = 5 := by omega
    refine WP.run [(197, 2)] [] 40 ?_
    simp only [bk197_0, bk197_2, bk197_7, bk197_24, U_iconst, U_istore_n, U_iload_n, U_icmp_ge, U_aload_n, U_getfield, U_imul, U_iadd, U_iast, U_iinc, U_goto, U_return, UN_cc, UN_cn, UN_nc, UN_nn, UJ, lget, lset, lset2, entL, wsm, wcat, Option.toList_some, Option.toList_none, List.cons_append, List.nil_append, List.mem_cons, List.not_mem_nil, Prod.mk.injEq, or_false, false_or, or_true, true_or, and_true, true_and, and_false, false_and, and_self, ne_eq, not_false_eq_true, not_true_eq_false, forall_const, true_implies, false_implies, Nat.add_zero, Nat.zero_add, Nat.le_refl, Nat.zero_le, List.set_cons_zero, List.set_cons_succ, List.set_nil, ↓reduceIte, Nat.reduceAdd, Nat.reduceSub, Nat.reduceEqDiff, Nat.reduceLeDiff, Int.reduceEq, Int.reduceNe, Int.reduceNeg, reduceCtorEq]
    exact ⟨rr (by omega), fun e => absurd e (by omega), fun _ => hQ Ni h1 h2 h3⟩
  | succ n ih =>
    intro k Ni hk hz h1 h2 h3
    refine WP.run [(197, 2)] [] 40 ?_
    simp only [bk197_0, bk197_2, bk197_7, bk197_24, U_iconst, U_istore_n, U_iload_n, U_icmp_ge, U_aload_n, U_getfield, U_imul, U_iadd, U_iast, U_iinc, U_goto, U_return, UN_cc, UN_cn, UN_nc, UN_nn, UJ, lget, lset, lset2, entL, wsm, wcat, Option.toList_some, Option.toList_none, List.cons_append, List.nil_append, List.mem_cons, List.not_mem_nil, Prod.mk.injEq, or_false, false_or, or_true, true_or, and_true, true_and, and_false, false_and, and_self, ne_eq, not_false_eq_true, not_true_eq_false, forall_const, true_implies, false_implies, Nat.add_zero, Nat.zero_add, Nat.le_refl, Nat.zero_le, List.set_cons_zero, List.set_cons_succ, List.set_nil, ↓reduceIte, Nat.reduceAdd, Nat.reduceSub, Nat.reduceEqDiff, Nat.reduceLeDiff, Int.reduceEq, Int.reduceNe, Int.reduceNeg, reduceCtorEq, kd190, kd204, ln204, z190_20 hz]
    refine ⟨rr (by omega), fun _ => ⟨by omega, by omega, ?_⟩, fun e => absurd (by omega) e⟩
    refine ih (k + 1) _ (by omega) (hz.ust (fz_arr (Or.inl rfl) _)) (fun b hb => by rw [ust_ne hb]; exact h1 b hb) (fun j hj => ?_) (fun i hi => ?_)
    · rw [ust_at]
      by_cases q : j = k
      · rw [if_pos (by omega)]
      · rw [if_neg (by omega)]; exact h2 j (by omega)
    · rw [ust_at, if_neg (by omega)]; exact h3 i (by omega)
set_option maxHeartbeats 4000000 in
theorem m_nought {N : Mem} {Q : Post} {t : Nat} (hz : Fz N) (ht : t < 8) (hQ : ∀ N', (∀ b, b ≠ 204 → N' b = N b) → (∀ j : Nat, j < 5 → N' 204 (5 * (t : Int) + (j : Int)) = 0) → (∀ i, ¬ (5 * (t : Int) ≤ i ∧ i < 5 * (t : Int) + 5) → N' 204 i = N 204 i) → Q none NN N') : CL 197 [(2, 190), (0, (t : Int)), (9, 0)] NN N Q := by
  refine WP.run [(197, 2)] [] 40 ?_
  simp only [bk197_0, bk197_2, bk197_7, bk197_24, U_iconst, U_istore_n, U_iload_n, U_icmp_ge, U_aload_n, U_getfield, U_imul, U_iadd, U_iast, U_iinc, U_goto, U_return, UN_cc, UN_cn, UN_nc, UN_nn, UJ, lget, lset, lset2, entL, wsm, wcat, Option.toList_some, Option.toList_none, List.cons_append, List.nil_append, List.mem_cons, List.not_mem_nil, Prod.mk.injEq, or_false, false_or, or_true, true_or, and_true, true_and, and_false, false_and, and_self, ne_eq, not_false_eq_true, not_true_eq_false, forall_const, true_implies, false_implies, Nat.add_zero, Nat.zero_add, Nat.le_refl, Nat.zero_le, List.set_cons_zero, List.set_cons_succ, List.set_nil, ↓reduceIte, Nat.reduceAdd, Nat.reduceSub, Nat.reduceEqDiff, Nat.reduceLeDiff, Int.reduceEq, Int.reduceNe, Int.reduceNeg, reduceCtorEq]
  exact l_nought ht hQ 5 0 N rfl hz (fun _ _ => rfl) (fun j hj => by omega) (fun _ _ => rfl)
