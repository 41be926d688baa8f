/-! THE MODEL'S SUM: whole; printed by gen_sum.py -/
theorem MT.op1 {p : Int} {N : Mem} {μ : Int → Option (Pz p)} {t : Int} {A : Pz p} (h : MT p N (upq μ t A)) : ∃ μ', MT p N μ' ∧ μ' t = some A ∧ ∀ r, r ≠ t → μ' r = μ r := ⟨_, h, upq_e _ _ _, fun _ hr => upq_n hr⟩
theorem MT.op2 {p : Int} {N : Mem} {μ : Int → Option (Pz p)} {s t : Int} {A B : Pz p} (hst : s ≠ t) (h : MT p N (upq (upq μ s A) t B)) : ∃ μ', MT p N μ' ∧ μ' s = some A ∧ μ' t = some B ∧ ∀ r, r ≠ s → r ≠ t → μ' r = μ r := ⟨_, h, (upq_n hst).trans (upq_e _ _ _), upq_e _ _ _, fun _ h1 h2 => (upq_n h2).trans (upq_n h1)⟩
set_option maxHeartbeats 64000000 in
theorem m_sumOf {p : Int} {N : Mem} {μ : Int → Option (Pz p)} {Q : Post} {f : Pz p} {g : Nat} {to ka kb : Nat} {a b : Pz p × Pz p} (h : MT p N μ) (hcv : Cv f g) (h0 : μ 0 = some f) (hg : N 190 2 = g) (hto : to < 8) (hka : ka < 8) (hkb : kb < 8) (wa : WK N 204 ka a) (wb : WK N 204 kb b) (ra : pRed f g a) (rb : pRed f g b)
    (hQ : ∀ N' μ' c, MT p N' μ' → μ' 0 = some f → pRed f g c → pSum f a b c → WK N' 204 to c → PW N N' → (∀ i, ¬ (5 * (to : Int) ≤ i ∧ i < 5 * (to : Int) + 5) → N' 204 i = N 204 i) → Q none NN N') : CL 195 [(2, 190), (0, (to : Int)), (0, (ka : Int)), (0, (kb : Int))] NN N Q := by
  have hp := h.2.1
  have E := Euc_Pz hp
  have hcv' := hcv
  obtain ⟨hg12, hdf, hfm, hsq⟩ := hcv
  have da1 : dg a.1 ≤ 3 := by have : dg a.1 ≤ g + 1 := ra.2.1; omega
  have db1 : dg b.1 ≤ 3 := by have : dg b.1 ≤ g + 1 := rb.2.1; omega
  have da2 : dg a.2 < dg a.1 := ra.2.2.1
  have db2 : dg b.2 < dg b.1 := rb.2.2.1
  have dfl : dg f ≤ 6 := by omega
  refine WP.run [(195, 251)] [] 300 ?_
  simp only [bk195_0, bk195_251, bk195_265, bk195_358, bk195_415, bk195_425, bk195_426, bk195_447, bk195_457, bk195_458, U_aload_n, U_iconst, U_iload_n, U_invokevirtual3, U_invokevirtual2, U_bipush, U_invokevirtual4, U_getfield, U_iald, U_icmp_le, U_invokevirtual1, U_goto, U_imul, U_iast, U_iadd, U_if_le, U_return, UN_cc, UN_cn, UN_nc, UN_nn, UJ, lget, lset, lset2, entL, wsm, wcat, Option.toList_some, Option.toList_none, List.cons_append, List.nil_append, List.mem_cons, List.not_mem_nil, Prod.mk.injEq, or_false, false_or, or_true, true_or, and_true, true_and, and_false, false_and, and_self, ne_eq, not_false_eq_true, not_true_eq_false, forall_const, true_implies, false_implies, Nat.add_zero, Nat.zero_add, Nat.le_refl, Nat.zero_le, List.set_cons_zero, List.set_cons_succ, List.set_nil, ↓reduceIte, Nat.reduceAdd, Nat.reduceSub, Nat.reduceEqDiff, Nat.reduceLeDiff, Int.reduceEq, Int.reduceNe, Int.reduceNeg, reduceCtorEq, kd190]
  refine m_layWork h (by omega) (by omega) (by decide) hka wa ra.1 da1 da2 fun N1 h1 f1 => ?_
  obtain ⟨μ1, h1, e1_1, e1_2, n1⟩ := MT.op2 (by decide) h1
  have e1_0 : μ1 0 = some f := (n1 0 (by decide) (by decide)).trans h0
  clear n1
  have F1 := f1
  simp only [bk195_0, bk195_251, bk195_265, bk195_358, bk195_415, bk195_425, bk195_426, bk195_447, bk195_457, bk195_458, U_aload_n, U_iconst, U_iload_n, U_invokevirtual3, U_invokevirtual2, U_bipush, U_invokevirtual4, U_getfield, U_iald, U_icmp_le, U_invokevirtual1, U_goto, U_imul, U_iast, U_iadd, U_if_le, U_return, UN_cc, UN_cn, UN_nc, UN_nn, UJ, lget, lset, lset2, entL, wsm, wcat, Option.toList_some, Option.toList_none, List.cons_append, List.nil_append, List.mem_cons, List.not_mem_nil, Prod.mk.injEq, or_false, false_or, or_true, true_or, and_true, true_and, and_false, false_and, and_self, ne_eq, not_false_eq_true, not_true_eq_false, forall_const, true_implies, false_implies, Nat.add_zero, Nat.zero_add, Nat.le_refl, Nat.zero_le, List.set_cons_zero, List.set_cons_succ, List.set_nil, ↓reduceIte, Nat.reduceAdd, Nat.reduceSub, Nat.reduceEqDiff, Nat.reduceLeDiff, Int.reduceEq, Int.reduceNe, Int.reduceNeg, reduceCtorEq, kd190]
  refine m_layWork h1 (by omega) (by omega) (by decide) hkb (wb.fx (f1 204 (by decide) (by decide))) rb.1 db1 db2 fun N2 h2 f2 => ?_
  obtain ⟨μ2, h2, e2_3, e2_4, n2⟩ := MT.op2 (by decide) h2
  have e2_0 : μ2 0 = some f := (n2 0 (by decide) (by decide)).trans e1_0
  have e2_1 : μ2 1 = some a.1 := (n2 1 (by decide) (by decide)).trans e1_1
  have e2_2 : μ2 2 = some a.2 := (n2 2 (by decide) (by decide)).trans e1_2
  clear n2
  have F2 := F1.tr f2
  simp only [bk195_0, bk195_251, bk195_265, bk195_358, bk195_415, bk195_425, bk195_426, bk195_447, bk195_457, bk195_458, U_aload_n, U_iconst, U_iload_n, U_invokevirtual3, U_invokevirtual2, U_bipush, U_invokevirtual4, U_getfield, U_iald, U_icmp_le, U_invokevirtual1, U_goto, U_imul, U_iast, U_iadd, U_if_le, U_return, UN_cc, UN_cn, UN_nc, UN_nn, UJ, lget, lset, lset2, entL, wsm, wcat, Option.toList_some, Option.toList_none, List.cons_append, List.nil_append, List.mem_cons, List.not_mem_nil, Prod.mk.injEq, or_false, false_or, or_true, true_or, and_true, true_and, and_false, false_and, and_self, ne_eq, not_false_eq_true, not_true_eq_false, forall_const, true_implies, false_implies, Nat.add_zero, Nat.zero_add, Nat.le_refl, Nat.zero_le, List.set_cons_zero, List.set_cons_succ, List.set_nil, ↓reduceIte, Nat.reduceAdd, Nat.reduceSub, Nat.reduceEqDiff, Nat.reduceLeDiff, Int.reduceEq, Int.reduceNe, Int.reduceNeg, reduceCtorEq, kd190]
  refine m_common h2 (by unfold mtm; omega) (by unfold mtm; omega) e2_1 e2_3 (by omega) (by omega) (by omega) fun N3 μ3 d1 l1 r1 h3 f3 n3 e3_20 e3_21 e3_22 bz => ?_
  obtain ⟨z1, z2, z3, z4, z5, z6⟩ := bz
  have e3_0 : μ3 0 = some f := (n3 0 (by unfold mtm; omega)).trans e2_0
  have e3_1 : μ3 1 = some a.1 := (n3 1 (by unfold mtm; omega)).trans e2_1
  have e3_2 : μ3 2 = some a.2 := (n3 2 (by unfold mtm; omega)).trans e2_2
  have e3_3 : μ3 3 = some b.1 := (n3 3 (by unfold mtm; omega)).trans e2_3
  have e3_4 : μ3 4 = some b.2 := (n3 4 (by unfold mtm; omega)).trans e2_4
  clear n3
  have F3 := F2.tr f3
  simp only [bk195_0, bk195_251, bk195_265, bk195_358, bk195_415, bk195_425, bk195_426, bk195_447, bk195_457, bk195_458, U_aload_n, U_iconst, U_iload_n, U_invokevirtual3, U_invokevirtual2, U_bipush, U_invokevirtual4, U_getfield, U_iald, U_icmp_le, U_invokevirtual1, U_goto, U_imul, U_iast, U_iadd, U_if_le, U_return, UN_cc, UN_cn, UN_nc, UN_nn, UJ, lget, lset, lset2, entL, wsm, wcat, Option.toList_some, Option.toList_none, List.cons_append, List.nil_append, List.mem_cons, List.not_mem_nil, Prod.mk.injEq, or_false, false_or, or_true, true_or, and_true, true_and, and_false, false_and, and_self, ne_eq, not_false_eq_true, not_true_eq_false, forall_const, true_implies, false_implies, Nat.add_zero, Nat.zero_add, Nat.le_refl, Nat.zero_le, List.set_cons_zero, List.set_cons_succ, List.set_nil, ↓reduceIte, Nat.reduceAdd, Nat.reduceSub, Nat.reduceEqDiff, Nat.reduceLeDiff, Int.reduceEq, Int.reduceNe, Int.reduceNeg, reduceCtorEq, kd190]
  have hd1 : dg d1 ≤ 3 := by
    obtain ⟨x, hx⟩ := z2
    replace hx : a.1 = pmul d1 x := hx
    by_cases x0 : dg x = 0
    · rw [dg_zero.mp x0, pmul_comm, pC_zero_mul] at hx
      have := dg_zero.mpr hx; omega
    · have := dg_mul hp d1 x z4.1 x0
      rw [← hx] at this; omega
  have w8 := dg_add a.2 b.2
  refine m_copy h3 (by omega) (by omega) (by decide) e3_20 fun N4 h4 f4 => ?_
  obtain ⟨μ4, h4, e4_5, n4⟩ := h4.op1
  have e4_0 : μ4 0 = some f := (n4 0 (by decide)).trans e3_0
  have e4_1 : μ4 1 = some a.1 := (n4 1 (by decide)).trans e3_1
  have e4_2 : μ4 2 = some a.2 := (n4 2 (by decide)).trans e3_2
  have e4_3 : μ4 3 = some b.1 := (n4 3 (by decide)).trans e3_3
  have e4_4 : μ4 4 = some b.2 := (n4 4 (by decide)).trans e3_4
  have e4_20 : μ4 20 = some d1 := (n4 20 (by decide)).trans e3_20
  have e4_21 : μ4 21 = some l1 := (n4 21 (by decide)).trans e3_21
  have e4_22 : μ4 22 = some r1 := (n4 22 (by decide)).trans e3_22
  clear n4
  have F4 := F3.tr f4
  simp only [bk195_0, bk195_251, bk195_265, bk195_358, bk195_415, bk195_425, bk195_426, bk195_447, bk195_457, bk195_458, U_aload_n, U_iconst, U_iload_n, U_invokevirtual3, U_invokevirtual2, U_bipush, U_invokevirtual4, U_getfield, U_iald, U_icmp_le, U_invokevirtual1, U_goto, U_imul, U_iast, U_iadd, U_if_le, U_return, UN_cc, UN_cn, UN_nc, UN_nn, UJ, lget, lset, lset2, entL, wsm, wcat, Option.toList_some, Option.toList_none, List.cons_append, List.nil_append, List.mem_cons, List.not_mem_nil, Prod.mk.injEq, or_false, false_or, or_true, true_or, and_true, true_and, and_false, false_and, and_self, ne_eq, not_false_eq_true, not_true_eq_false, forall_const, true_implies, false_implies, Nat.add_zero, Nat.zero_add, Nat.le_refl, Nat.zero_le, List.set_cons_zero, List.set_cons_succ, List.set_nil, ↓reduceIte, Nat.reduceAdd, Nat.reduceSub, Nat.reduceEqDiff, Nat.reduceLeDiff, Int.reduceEq, Int.reduceNe, Int.reduceNeg, reduceCtorEq, kd190]
  refine m_copy h4 (by omega) (by omega) (by decide) e4_21 fun N5 h5 f5 => ?_
  obtain ⟨μ5, h5, e5_6, n5⟩ := h5.op1
  have e5_0 : μ5 0 = some f := (n5 0 (by decide)).trans e4_0
  have e5_1 : μ5 1 = some a.1 := (n5 1 (by decide)).trans e4_1
  have e5_2 : μ5 2 = some a.2 := (n5 2 (by decide)).trans e4_2
  have e5_3 : μ5 3 = some b.1 := (n5 3 (by decide)).trans e4_3
  have e5_4 : μ5 4 = some b.2 := (n5 4 (by decide)).trans e4_4
  have e5_5 : μ5 5 = some d1 := (n5 5 (by decide)).trans e4_5
  have e5_20 : μ5 20 = some d1 := (n5 20 (by decide)).trans e4_20
  have e5_21 : μ5 21 = some l1 := (n5 21 (by decide)).trans e4_21
  have e5_22 : μ5 22 = some r1 := (n5 22 (by decide)).trans e4_22
  clear n5
  have F5 := F4.tr f5
  simp only [bk195_0, bk195_251, bk195_265, bk195_358, bk195_415, bk195_425, bk195_426, bk195_447, bk195_457, bk195_458, U_aload_n, U_iconst, U_iload_n, U_invokevirtual3, U_invokevirtual2, U_bipush, U_invokevirtual4, U_getfield, U_iald, U_icmp_le, U_invokevirtual1, U_goto, U_imul, U_iast, U_iadd, U_if_le, U_return, UN_cc, UN_cn, UN_nc, UN_nn, UJ, lget, lset, lset2, entL, wsm, wcat, Option.toList_some, Option.toList_none, List.cons_append, List.nil_append, List.mem_cons, List.not_mem_nil, Prod.mk.injEq, or_false, false_or, or_true, true_or, and_true, true_and, and_false, false_and, and_self, ne_eq, not_false_eq_true, not_true_eq_false, forall_const, true_implies, false_implies, Nat.add_zero, Nat.zero_add, Nat.le_refl, Nat.zero_le, List.set_cons_zero, List.set_cons_succ, List.set_nil, ↓reduceIte, Nat.reduceAdd, Nat.reduceSub, Nat.reduceEqDiff, Nat.reduceLeDiff, Int.reduceEq, Int.reduceNe, Int.reduceNeg, reduceCtorEq, kd190]
  refine m_copy h5 (by omega) (by omega) (by decide) e5_22 fun N6 h6 f6 => ?_
  obtain ⟨μ6, h6, e6_7, n6⟩ := h6.op1
  have e6_0 : μ6 0 = some f := (n6 0 (by decide)).trans e5_0
  have e6_1 : μ6 1 = some a.1 := (n6 1 (by decide)).trans e5_1
  have e6_2 : μ6 2 = some a.2 := (n6 2 (by decide)).trans e5_2
  have e6_3 : μ6 3 = some b.1 := (n6 3 (by decide)).trans e5_3
  have e6_4 : μ6 4 = some b.2 := (n6 4 (by decide)).trans e5_4
  have e6_5 : μ6 5 = some d1 := (n6 5 (by decide)).trans e5_5
  have e6_6 : μ6 6 = some l1 := (n6 6 (by decide)).trans e5_6
  have e6_20 : μ6 20 = some d1 := (n6 20 (by decide)).trans e5_20
  have e6_21 : μ6 21 = some l1 := (n6 21 (by decide)).trans e5_21
  have e6_22 : μ6 22 = some r1 := (n6 22 (by decide)).trans e5_22
  clear n6
  have F6 := F5.tr f6
  simp only [bk195_0, bk195_251, bk195_265, bk195_358, bk195_415, bk195_425, bk195_426, bk195_447, bk195_457, bk195_458, U_aload_n, U_iconst, U_iload_n, U_invokevirtual3, U_invokevirtual2, U_bipush, U_invokevirtual4, U_getfield, U_iald, U_icmp_le, U_invokevirtual1, U_goto, U_imul, U_iast, U_iadd, U_if_le, U_return, UN_cc, UN_cn, UN_nc, UN_nn, UJ, lget, lset, lset2, entL, wsm, wcat, Option.toList_some, Option.toList_none, List.cons_append, List.nil_append, List.mem_cons, List.not_mem_nil, Prod.mk.injEq, or_false, false_or, or_true, true_or, and_true, true_and, and_false, false_and, and_self, ne_eq, not_false_eq_true, not_true_eq_false, forall_const, true_implies, false_implies, Nat.add_zero, Nat.zero_add, Nat.le_refl, Nat.zero_le, List.set_cons_zero, List.set_cons_succ, List.set_nil, ↓reduceIte, Nat.reduceAdd, Nat.reduceSub, Nat.reduceEqDiff, Nat.reduceLeDiff, Int.reduceEq, Int.reduceNe, Int.reduceNeg, reduceCtorEq, kd190]
  refine m_add (padd a.2 b.2) h6 (by omega) (by omega) e6_2 e6_4 (by omega) (fun k => by rw [padd_c, Int.one_mul]) fun N7 h7 f7 => ?_
  obtain ⟨μ7, h7, e7_8, n7⟩ := h7.op1
  have e7_0 : μ7 0 = some f := (n7 0 (by decide)).trans e6_0
  have e7_1 : μ7 1 = some a.1 := (n7 1 (by decide)).trans e6_1
  have e7_2 : μ7 2 = some a.2 := (n7 2 (by decide)).trans e6_2
  have e7_3 : μ7 3 = some b.1 := (n7 3 (by decide)).trans e6_3
  have e7_4 : μ7 4 = some b.2 := (n7 4 (by decide)).trans e6_4
  have e7_5 : μ7 5 = some d1 := (n7 5 (by decide)).trans e6_5
  have e7_6 : μ7 6 = some l1 := (n7 6 (by decide)).trans e6_6
  have e7_7 : μ7 7 = some r1 := (n7 7 (by decide)).trans e6_7
  have e7_20 : μ7 20 = some d1 := (n7 20 (by decide)).trans e6_20
  have e7_21 : μ7 21 = some l1 := (n7 21 (by decide)).trans e6_21
  have e7_22 : μ7 22 = some r1 := (n7 22 (by decide)).trans e6_22
  clear n7
  have F7 := F6.tr f7
  simp only [bk195_0, bk195_251, bk195_265, bk195_358, bk195_415, bk195_425, bk195_426, bk195_447, bk195_457, bk195_458, U_aload_n, U_iconst, U_iload_n, U_invokevirtual3, U_invokevirtual2, U_bipush, U_invokevirtual4, U_getfield, U_iald, U_icmp_le, U_invokevirtual1, U_goto, U_imul, U_iast, U_iadd, U_if_le, U_return, UN_cc, UN_cn, UN_nc, UN_nn, UJ, lget, lset, lset2, entL, wsm, wcat, Option.toList_some, Option.toList_none, List.cons_append, List.nil_append, List.mem_cons, List.not_mem_nil, Prod.mk.injEq, or_false, false_or, or_true, true_or, and_true, true_and, and_false, false_and, and_self, ne_eq, not_false_eq_true, not_true_eq_false, forall_const, true_implies, false_implies, Nat.add_zero, Nat.zero_add, Nat.le_refl, Nat.zero_le, List.set_cons_zero, List.set_cons_succ, List.set_nil, ↓reduceIte, Nat.reduceAdd, Nat.reduceSub, Nat.reduceEqDiff, Nat.reduceLeDiff, Int.reduceEq, Int.reduceNe, Int.reduceNeg, reduceCtorEq, kd190]
  refine m_common h7 (by unfold mtm; omega) (by unfold mtm; omega) e7_5 e7_8 (by have := z4.1; omega) (by omega) (by omega) fun N8 μ8 d r2 l2 h8 f8 n8 e8_20 e8_21 e8_22 bz => ?_
  obtain ⟨y1, y2, y3, y4, y5, y6⟩ := bz
  have e8_0 : μ8 0 = some f := (n8 0 (by unfold mtm; omega)).trans e7_0
  have e8_1 : μ8 1 = some a.1 := (n8 1 (by unfold mtm; omega)).trans e7_1
  have e8_2 : μ8 2 = some a.2 := (n8 2 (by unfold mtm; omega)).trans e7_2
  have e8_3 : μ8 3 = some b.1 := (n8 3 (by unfold mtm; omega)).trans e7_3
  have e8_4 : μ8 4 = some b.2 := (n8 4 (by unfold mtm; omega)).trans e7_4
  have e8_5 : μ8 5 = some d1 := (n8 5 (by unfold mtm; omega)).trans e7_5
  have e8_6 : μ8 6 = some l1 := (n8 6 (by unfold mtm; omega)).trans e7_6
  have e8_7 : μ8 7 = some r1 := (n8 7 (by unfold mtm; omega)).trans e7_7
  have e8_8 : μ8 8 = some (padd a.2 b.2) := (n8 8 (by unfold mtm; omega)).trans e7_8
  clear n8
  have F8 := F7.tr f8
  simp only [bk195_0, bk195_251, bk195_265, bk195_358, bk195_415, bk195_425, bk195_426, bk195_447, bk195_457, bk195_458, U_aload_n, U_iconst, U_iload_n, U_invokevirtual3, U_invokevirtual2, U_bipush, U_invokevirtual4, U_getfield, U_iald, U_icmp_le, U_invokevirtual1, U_goto, U_imul, U_iast, U_iadd, U_if_le, U_return, UN_cc, UN_cn, UN_nc, UN_nn, UJ, lget, lset, lset2, entL, wsm, wcat, Option.toList_some, Option.toList_none, List.cons_append, List.nil_append, List.mem_cons, List.not_mem_nil, Prod.mk.injEq, or_false, false_or, or_true, true_or, and_true, true_and, and_false, false_and, and_self, ne_eq, not_false_eq_true, not_true_eq_false, forall_const, true_implies, false_implies, Nat.add_zero, Nat.zero_add, Nat.le_refl, Nat.zero_le, List.set_cons_zero, List.set_cons_succ, List.set_nil, ↓reduceIte, Nat.reduceAdd, Nat.reduceSub, Nat.reduceEqDiff, Nat.reduceLeDiff, Int.reduceEq, Int.reduceNe, Int.reduceNeg, reduceCtorEq, kd190]
  have hd : dg d ≤ 3 := by
    obtain ⟨x, hx⟩ := y2
    replace hx : d1 = pmul d x := hx
    by_cases x0 : dg x = 0
    · rw [dg_zero.mp x0, pmul_comm, pC_zero_mul] at hx
      have := dg_zero.mpr hx; have := z4.1; omega
    · have := dg_mul hp d x y4.1 x0
      rw [← hx] at this; omega
  have u5 : dg l1 ≤ 3 := by omega
  have u6 : dg r1 ≤ 3 := by omega
  have u3 : dg (padd a.2 b.2) ≤ 2 := by omega
  clear w8
  have u7 : dg r2 ≤ 3 := by omega
  have u8 : dg l2 ≤ 3 := by omega
  clear z5 z6 y5 y6
  have m1 : dg (pmul l1 r2) ≤ 5 := by have := dg_mul_le l1 r2; omega
  have m2 : dg (pmul r1 r2) ≤ 5 := by have := dg_mul_le r1 r2; omega
  have m3 : dg (pmul (pmul l1 r2) a.1) ≤ 7 := by have := dg_mul_le (pmul l1 r2) a.1; omega
  have m4 : dg (pmul (pmul (pmul l1 r2) a.1) b.2) ≤ 8 := by have := dg_mul_le (pmul (pmul l1 r2) a.1) b.2; omega
  have m5 : dg (pmul (pmul r1 r2) b.1) ≤ 7 := by have := dg_mul_le (pmul r1 r2) b.1; omega
  have m6 : dg (pmul (pmul (pmul r1 r2) b.1) a.2) ≤ 8 := by have := dg_mul_le (pmul (pmul r1 r2) b.1) a.2; omega
  have m7 : dg (pmul a.2 b.2) ≤ 3 := by have := dg_mul_le a.2 b.2; omega
  have m8 : dg (padd (pmul a.2 b.2) f) ≤ 6 := by have := dg_add (pmul a.2 b.2) f; omega
  have m9 : dg (pmul (padd (pmul a.2 b.2) f) l2) ≤ 8 := by have := dg_mul_le (padd (pmul a.2 b.2) f) l2; omega
  refine m_copy h8 (by omega) (by omega) (by decide) e8_20 fun N9 h9 f9 => ?_
  obtain ⟨μ9, h9, e9_9, n9⟩ := h9.op1
  have e9_0 : μ9 0 = some f := (n9 0 (by decide)).trans e8_0
  have e9_1 : μ9 1 = some a.1 := (n9 1 (by decide)).trans e8_1
  have e9_2 : μ9 2 = some a.2 := (n9 2 (by decide)).trans e8_2
  have e9_3 : μ9 3 = some b.1 := (n9 3 (by decide)).trans e8_3
  have e9_4 : μ9 4 = some b.2 := (n9 4 (by decide)).trans e8_4
  have e9_5 : μ9 5 = some d1 := (n9 5 (by decide)).trans e8_5
  have e9_6 : μ9 6 = some l1 := (n9 6 (by decide)).trans e8_6
  have e9_7 : μ9 7 = some r1 := (n9 7 (by decide)).trans e8_7
  have e9_8 : μ9 8 = some (padd a.2 b.2) := (n9 8 (by decide)).trans e8_8
  have e9_20 : μ9 20 = some d := (n9 20 (by decide)).trans e8_20
  have e9_21 : μ9 21 = some r2 := (n9 21 (by decide)).trans e8_21
  have e9_22 : μ9 22 = some l2 := (n9 22 (by decide)).trans e8_22
  clear n9
  have F9 := F8.tr f9
  simp only [bk195_0, bk195_251, bk195_265, bk195_358, bk195_415, bk195_425, bk195_426, bk195_447, bk195_457, bk195_458, U_aload_n, U_iconst, U_iload_n, U_invokevirtual3, U_invokevirtual2, U_bipush, U_invokevirtual4, U_getfield, U_iald, U_icmp_le, U_invokevirtual1, U_goto, U_imul, U_iast, U_iadd, U_if_le, U_return, UN_cc, UN_cn, UN_nc, UN_nn, UJ, lget, lset, lset2, entL, wsm, wcat, Option.toList_some, Option.toList_none, List.cons_append, List.nil_append, List.mem_cons, List.not_mem_nil, Prod.mk.injEq, or_false, false_or, or_true, true_or, and_true, true_and, and_false, false_and, and_self, ne_eq, not_false_eq_true, not_true_eq_false, forall_const, true_implies, false_implies, Nat.add_zero, Nat.zero_add, Nat.le_refl, Nat.zero_le, List.set_cons_zero, List.set_cons_succ, List.set_nil, ↓reduceIte, Nat.reduceAdd, Nat.reduceSub, Nat.reduceEqDiff, Nat.reduceLeDiff, Int.reduceEq, Int.reduceNe, Int.reduceNeg, reduceCtorEq, kd190]
  refine m_mul h9 (by omega) (by omega) e9_6 e9_21 (by omega) fun N10 h10 f10 => ?_
  obtain ⟨μ10, h10, e10_6, n10⟩ := h10.op1
  have e10_0 : μ10 0 = some f := (n10 0 (by decide)).trans e9_0
  have e10_1 : μ10 1 = some a.1 := (n10 1 (by decide)).trans e9_1
  have e10_2 : μ10 2 = some a.2 := (n10 2 (by decide)).trans e9_2
  have e10_3 : μ10 3 = some b.1 := (n10 3 (by decide)).trans e9_3
  have e10_4 : μ10 4 = some b.2 := (n10 4 (by decide)).trans e9_4
  have e10_5 : μ10 5 = some d1 := (n10 5 (by decide)).trans e9_5
  have e10_7 : μ10 7 = some r1 := (n10 7 (by decide)).trans e9_7
  have e10_8 : μ10 8 = some (padd a.2 b.2) := (n10 8 (by decide)).trans e9_8
  have e10_9 : μ10 9 = some d := (n10 9 (by decide)).trans e9_9
  have e10_20 : μ10 20 = some d := (n10 20 (by decide)).trans e9_20
  have e10_21 : μ10 21 = some r2 := (n10 21 (by decide)).trans e9_21
  have e10_22 : μ10 22 = some l2 := (n10 22 (by decide)).trans e9_22
  clear n10
  have F10 := F9.tr f10
  simp only [bk195_0, bk195_251, bk195_265, bk195_358, bk195_415, bk195_425, bk195_426, bk195_447, bk195_457, bk195_458, U_aload_n, U_iconst, U_iload_n, U_invokevirtual3, U_invokevirtual2, U_bipush, U_invokevirtual4, U_getfield, U_iald, U_icmp_le, U_invokevirtual1, U_goto, U_imul, U_iast, U_iadd, U_if_le, U_return, UN_cc, UN_cn, UN_nc, UN_nn, UJ, lget, lset, lset2, entL, wsm, wcat, Option.toList_some, Option.toList_none, List.cons_append, List.nil_append, List.mem_cons, List.not_mem_nil, Prod.mk.injEq, or_false, false_or, or_true, true_or, and_true, true_and, and_false, false_and, and_self, ne_eq, not_false_eq_true, not_true_eq_false, forall_const, true_implies, false_implies, Nat.add_zero, Nat.zero_add, Nat.le_refl, Nat.zero_le, List.set_cons_zero, List.set_cons_succ, List.set_nil, ↓reduceIte, Nat.reduceAdd, Nat.reduceSub, Nat.reduceEqDiff, Nat.reduceLeDiff, Int.reduceEq, Int.reduceNe, Int.reduceNeg, reduceCtorEq, kd190]
  refine m_mul h10 (by omega) (by omega) e10_7 e10_21 (by omega) fun N11 h11 f11 => ?_
  obtain ⟨μ11, h11, e11_7, n11⟩ := h11.op1
  have e11_0 : μ11 0 = some f := (n11 0 (by decide)).trans e10_0
  have e11_1 : μ11 1 = some a.1 := (n11 1 (by decide)).trans e10_1
  have e11_2 : μ11 2 = some a.2 := (n11 2 (by decide)).trans e10_2
  have e11_3 : μ11 3 = some b.1 := (n11 3 (by decide)).trans e10_3
  have e11_4 : μ11 4 = some b.2 := (n11 4 (by decide)).trans e10_4
  have e11_5 : μ11 5 = some d1 := (n11 5 (by decide)).trans e10_5
  have e11_6 : μ11 6 = some (pmul l1 r2) := (n11 6 (by decide)).trans e10_6
  have e11_8 : μ11 8 = some (padd a.2 b.2) := (n11 8 (by decide)).trans e10_8
  have e11_9 : μ11 9 = some d := (n11 9 (by decide)).trans e10_9
  have e11_20 : μ11 20 = some d := (n11 20 (by decide)).trans e10_20
  have e11_21 : μ11 21 = some r2 := (n11 21 (by decide)).trans e10_21
  have e11_22 : μ11 22 = some l2 := (n11 22 (by decide)).trans e10_22
  clear n11
  have F11 := F10.tr f11
  simp only [bk195_0, bk195_251, bk195_265, bk195_358, bk195_415, bk195_425, bk195_426, bk195_447, bk195_457, bk195_458, U_aload_n, U_iconst, U_iload_n, U_invokevirtual3, U_invokevirtual2, U_bipush, U_invokevirtual4, U_getfield, U_iald, U_icmp_le, U_invokevirtual1, U_goto, U_imul, U_iast, U_iadd, U_if_le, U_return, UN_cc, UN_cn, UN_nc, UN_nn, UJ, lget, lset, lset2, entL, wsm, wcat, Option.toList_some, Option.toList_none, List.cons_append, List.nil_append, List.mem_cons, List.not_mem_nil, Prod.mk.injEq, or_false, false_or, or_true, true_or, and_true, true_and, and_false, false_and, and_self, ne_eq, not_false_eq_true, not_true_eq_false, forall_const, true_implies, false_implies, Nat.add_zero, Nat.zero_add, Nat.le_refl, Nat.zero_le, List.set_cons_zero, List.set_cons_succ, List.set_nil, ↓reduceIte, Nat.reduceAdd, Nat.reduceSub, Nat.reduceEqDiff, Nat.reduceLeDiff, Int.reduceEq, Int.reduceNe, Int.reduceNeg, reduceCtorEq, kd190]
  refine m_copy h11 (by omega) (by omega) (by decide) e11_22 fun N12 h12 f12 => ?_
  obtain ⟨μ12, h12, e12_10, n12⟩ := h12.op1
  have e12_0 : μ12 0 = some f := (n12 0 (by decide)).trans e11_0
  have e12_1 : μ12 1 = some a.1 := (n12 1 (by decide)).trans e11_1
  have e12_2 : μ12 2 = some a.2 := (n12 2 (by decide)).trans e11_2
  have e12_3 : μ12 3 = some b.1 := (n12 3 (by decide)).trans e11_3
  have e12_4 : μ12 4 = some b.2 := (n12 4 (by decide)).trans e11_4
  have e12_5 : μ12 5 = some d1 := (n12 5 (by decide)).trans e11_5
  have e12_6 : μ12 6 = some (pmul l1 r2) := (n12 6 (by decide)).trans e11_6
  have e12_7 : μ12 7 = some (pmul r1 r2) := (n12 7 (by decide)).trans e11_7
  have e12_8 : μ12 8 = some (padd a.2 b.2) := (n12 8 (by decide)).trans e11_8
  have e12_9 : μ12 9 = some d := (n12 9 (by decide)).trans e11_9
  have e12_20 : μ12 20 = some d := (n12 20 (by decide)).trans e11_20
  have e12_21 : μ12 21 = some r2 := (n12 21 (by decide)).trans e11_21
  have e12_22 : μ12 22 = some l2 := (n12 22 (by decide)).trans e11_22
  clear n12
  have F12 := F11.tr f12
  simp only [bk195_0, bk195_251, bk195_265, bk195_358, bk195_415, bk195_425, bk195_426, bk195_447, bk195_457, bk195_458, U_aload_n, U_iconst, U_iload_n, U_invokevirtual3, U_invokevirtual2, U_bipush, U_invokevirtual4, U_getfield, U_iald, U_icmp_le, U_invokevirtual1, U_goto, U_imul, U_iast, U_iadd, U_if_le, U_return, UN_cc, UN_cn, UN_nc, UN_nn, UJ, lget, lset, lset2, entL, wsm, wcat, Option.toList_some, Option.toList_none, List.cons_append, List.nil_append, List.mem_cons, List.not_mem_nil, Prod.mk.injEq, or_false, false_or, or_true, true_or, and_true, true_and, and_false, false_and, and_self, ne_eq, not_false_eq_true, not_true_eq_false, forall_const, true_implies, false_implies, Nat.add_zero, Nat.zero_add, Nat.le_refl, Nat.zero_le, List.set_cons_zero, List.set_cons_succ, List.set_nil, ↓reduceIte, Nat.reduceAdd, Nat.reduceSub, Nat.reduceEqDiff, Nat.reduceLeDiff, Int.reduceEq, Int.reduceNe, Int.reduceNeg, reduceCtorEq, kd190]
  refine m_mul h12 (by omega) (by omega) e12_6 e12_1 (by omega) fun N13 h13 f13 => ?_
  obtain ⟨μ13, h13, e13_11, n13⟩ := h13.op1
  have e13_0 : μ13 0 = some f := (n13 0 (by decide)).trans e12_0
  have e13_1 : μ13 1 = some a.1 := (n13 1 (by decide)).trans e12_1
  have e13_2 : μ13 2 = some a.2 := (n13 2 (by decide)).trans e12_2
  have e13_3 : μ13 3 = some b.1 := (n13 3 (by decide)).trans e12_3
  have e13_4 : μ13 4 = some b.2 := (n13 4 (by decide)).trans e12_4
  have e13_5 : μ13 5 = some d1 := (n13 5 (by decide)).trans e12_5
  have e13_6 : μ13 6 = some (pmul l1 r2) := (n13 6 (by decide)).trans e12_6
  have e13_7 : μ13 7 = some (pmul r1 r2) := (n13 7 (by decide)).trans e12_7
  have e13_8 : μ13 8 = some (padd a.2 b.2) := (n13 8 (by decide)).trans e12_8
  have e13_9 : μ13 9 = some d := (n13 9 (by decide)).trans e12_9
  have e13_10 : μ13 10 = some l2 := (n13 10 (by decide)).trans e12_10
  have e13_20 : μ13 20 = some d := (n13 20 (by decide)).trans e12_20
  have e13_21 : μ13 21 = some r2 := (n13 21 (by decide)).trans e12_21
  have e13_22 : μ13 22 = some l2 := (n13 22 (by decide)).trans e12_22
  clear n13
  have F13 := F12.tr f13
  simp only [bk195_0, bk195_251, bk195_265, bk195_358, bk195_415, bk195_425, bk195_426, bk195_447, bk195_457, bk195_458, U_aload_n, U_iconst, U_iload_n, U_invokevirtual3, U_invokevirtual2, U_bipush, U_invokevirtual4, U_getfield, U_iald, U_icmp_le, U_invokevirtual1, U_goto, U_imul, U_iast, U_iadd, U_if_le, U_return, UN_cc, UN_cn, UN_nc, UN_nn, UJ, lget, lset, lset2, entL, wsm, wcat, Option.toList_some, Option.toList_none, List.cons_append, List.nil_append, List.mem_cons, List.not_mem_nil, Prod.mk.injEq, or_false, false_or, or_true, true_or, and_true, true_and, and_false, false_and, and_self, ne_eq, not_false_eq_true, not_true_eq_false, forall_const, true_implies, false_implies, Nat.add_zero, Nat.zero_add, Nat.le_refl, Nat.zero_le, List.set_cons_zero, List.set_cons_succ, List.set_nil, ↓reduceIte, Nat.reduceAdd, Nat.reduceSub, Nat.reduceEqDiff, Nat.reduceLeDiff, Int.reduceEq, Int.reduceNe, Int.reduceNeg, reduceCtorEq, kd190]
  refine m_mul h13 (by omega) (by omega) e13_11 e13_4 (by omega) fun N14 h14 f14 => ?_
  obtain ⟨μ14, h14, e14_11, n14⟩ := h14.op1
  have e14_0 : μ14 0 = some f := (n14 0 (by decide)).trans e13_0
  have e14_1 : μ14 1 = some a.1 := (n14 1 (by decide)).trans e13_1
  have e14_2 : μ14 2 = some a.2 := (n14 2 (by decide)).trans e13_2
  have e14_3 : μ14 3 = some b.1 := (n14 3 (by decide)).trans e13_3
  have e14_4 : μ14 4 = some b.2 := (n14 4 (by decide)).trans e13_4
  have e14_5 : μ14 5 = some d1 := (n14 5 (by decide)).trans e13_5
  have e14_6 : μ14 6 = some (pmul l1 r2) := (n14 6 (by decide)).trans e13_6
  have e14_7 : μ14 7 = some (pmul r1 r2) := (n14 7 (by decide)).trans e13_7
  have e14_8 : μ14 8 = some (padd a.2 b.2) := (n14 8 (by decide)).trans e13_8
  have e14_9 : μ14 9 = some d := (n14 9 (by decide)).trans e13_9
  have e14_10 : μ14 10 = some l2 := (n14 10 (by decide)).trans e13_10
  have e14_20 : μ14 20 = some d := (n14 20 (by decide)).trans e13_20
  have e14_21 : μ14 21 = some r2 := (n14 21 (by decide)).trans e13_21
  have e14_22 : μ14 22 = some l2 := (n14 22 (by decide)).trans e13_22
  clear n14
  have F14 := F13.tr f14
  simp only [bk195_0, bk195_251, bk195_265, bk195_358, bk195_415, bk195_425, bk195_426, bk195_447, bk195_457, bk195_458, U_aload_n, U_iconst, U_iload_n, U_invokevirtual3, U_invokevirtual2, U_bipush, U_invokevirtual4, U_getfield, U_iald, U_icmp_le, U_invokevirtual1, U_goto, U_imul, U_iast, U_iadd, U_if_le, U_return, UN_cc, UN_cn, UN_nc, UN_nn, UJ, lget, lset, lset2, entL, wsm, wcat, Option.toList_some, Option.toList_none, List.cons_append, List.nil_append, List.mem_cons, List.not_mem_nil, Prod.mk.injEq, or_false, false_or, or_true, true_or, and_true, true_and, and_false, false_and, and_self, ne_eq, not_false_eq_true, not_true_eq_false, forall_const, true_implies, false_implies, Nat.add_zero, Nat.zero_add, Nat.le_refl, Nat.zero_le, List.set_cons_zero, List.set_cons_succ, List.set_nil, ↓reduceIte, Nat.reduceAdd, Nat.reduceSub, Nat.reduceEqDiff, Nat.reduceLeDiff, Int.reduceEq, Int.reduceNe, Int.reduceNeg, reduceCtorEq, kd190]
  refine m_mul h14 (by omega) (by omega) e14_7 e14_3 (by omega) fun N15 h15 f15 => ?_
  obtain ⟨μ15, h15, e15_12, n15⟩ := h15.op1
  have e15_0 : μ15 0 = some f := (n15 0 (by decide)).trans e14_0
  have e15_1 : μ15 1 = some a.1 := (n15 1 (by decide)).trans e14_1
  have e15_2 : μ15 2 = some a.2 := (n15 2 (by decide)).trans e14_2
  have e15_3 : μ15 3 = some b.1 := (n15 3 (by decide)).trans e14_3
  have e15_4 : μ15 4 = some b.2 := (n15 4 (by decide)).trans e14_4
  have e15_5 : μ15 5 = some d1 := (n15 5 (by decide)).trans e14_5
  have e15_6 : μ15 6 = some (pmul l1 r2) := (n15 6 (by decide)).trans e14_6
  have e15_7 : μ15 7 = some (pmul r1 r2) := (n15 7 (by decide)).trans e14_7
  have e15_8 : μ15 8 = some (padd a.2 b.2) := (n15 8 (by decide)).trans e14_8
  have e15_9 : μ15 9 = some d := (n15 9 (by decide)).trans e14_9
  have e15_10 : μ15 10 = some l2 := (n15 10 (by decide)).trans e14_10
  have e15_11 : μ15 11 = some (pmul (pmul (pmul l1 r2) a.1) b.2) := (n15 11 (by decide)).trans e14_11
  have e15_20 : μ15 20 = some d := (n15 20 (by decide)).trans e14_20
  have e15_21 : μ15 21 = some r2 := (n15 21 (by decide)).trans e14_21
  have e15_22 : μ15 22 = some l2 := (n15 22 (by decide)).trans e14_22
  clear n15
  have F15 := F14.tr f15
  simp only [bk195_0, bk195_251, bk195_265, bk195_358, bk195_415, bk195_425, bk195_426, bk195_447, bk195_457, bk195_458, U_aload_n, U_iconst, U_iload_n, U_invokevirtual3, U_invokevirtual2, U_bipush, U_invokevirtual4, U_getfield, U_iald, U_icmp_le, U_invokevirtual1, U_goto, U_imul, U_iast, U_iadd, U_if_le, U_return, UN_cc, UN_cn, UN_nc, UN_nn, UJ, lget, lset, lset2, entL, wsm, wcat, Option.toList_some, Option.toList_none, List.cons_append, List.nil_append, List.mem_cons, List.not_mem_nil, Prod.mk.injEq, or_false, false_or, or_true, true_or, and_true, true_and, and_false, false_and, and_self, ne_eq, not_false_eq_true, not_true_eq_false, forall_const, true_implies, false_implies, Nat.add_zero, Nat.zero_add, Nat.le_refl, Nat.zero_le, List.set_cons_zero, List.set_cons_succ, List.set_nil, ↓reduceIte, Nat.reduceAdd, Nat.reduceSub, Nat.reduceEqDiff, Nat.reduceLeDiff, Int.reduceEq, Int.reduceNe, Int.reduceNeg, reduceCtorEq, kd190]
  refine m_mul h15 (by omega) (by omega) e15_12 e15_2 (by omega) fun N16 h16 f16 => ?_
  obtain ⟨μ16, h16, e16_12, n16⟩ := h16.op1
  have e16_0 : μ16 0 = some f := (n16 0 (by decide)).trans e15_0
  have e16_1 : μ16 1 = some a.1 := (n16 1 (by decide)).trans e15_1
  have e16_2 : μ16 2 = some a.2 := (n16 2 (by decide)).trans e15_2
  have e16_3 : μ16 3 = some b.1 := (n16 3 (by decide)).trans e15_3
  have e16_4 : μ16 4 = some b.2 := (n16 4 (by decide)).trans e15_4
  have e16_5 : μ16 5 = some d1 := (n16 5 (by decide)).trans e15_5
  have e16_6 : μ16 6 = some (pmul l1 r2) := (n16 6 (by decide)).trans e15_6
  have e16_7 : μ16 7 = some (pmul r1 r2) := (n16 7 (by decide)).trans e15_7
  have e16_8 : μ16 8 = some (padd a.2 b.2) := (n16 8 (by decide)).trans e15_8
  have e16_9 : μ16 9 = some d := (n16 9 (by decide)).trans e15_9
  have e16_10 : μ16 10 = some l2 := (n16 10 (by decide)).trans e15_10
  have e16_11 : μ16 11 = some (pmul (pmul (pmul l1 r2) a.1) b.2) := (n16 11 (by decide)).trans e15_11
  have e16_20 : μ16 20 = some d := (n16 20 (by decide)).trans e15_20
  have e16_21 : μ16 21 = some r2 := (n16 21 (by decide)).trans e15_21
  have e16_22 : μ16 22 = some l2 := (n16 22 (by decide)).trans e15_22
  clear n16
  have F16 := F15.tr f16
  simp only [bk195_0, bk195_251, bk195_265, bk195_358, bk195_415, bk195_425, bk195_426, bk195_447, bk195_457, bk195_458, U_aload_n, U_iconst, U_iload_n, U_invokevirtual3, U_invokevirtual2, U_bipush, U_invokevirtual4, U_getfield, U_iald, U_icmp_le, U_invokevirtual1, U_goto, U_imul, U_iast, U_iadd, U_if_le, U_return, UN_cc, UN_cn, UN_nc, UN_nn, UJ, lget, lset, lset2, entL, wsm, wcat, Option.toList_some, Option.toList_none, List.cons_append, List.nil_append, List.mem_cons, List.not_mem_nil, Prod.mk.injEq, or_false, false_or, or_true, true_or, and_true, true_and, and_false, false_and, and_self, ne_eq, not_false_eq_true, not_true_eq_false, forall_const, true_implies, false_implies, Nat.add_zero, Nat.zero_add, Nat.le_refl, Nat.zero_le, List.set_cons_zero, List.set_cons_succ, List.set_nil, ↓reduceIte, Nat.reduceAdd, Nat.reduceSub, Nat.reduceEqDiff, Nat.reduceLeDiff, Int.reduceEq, Int.reduceNe, Int.reduceNeg, reduceCtorEq, kd190]
  refine m_add (padd (pmul (pmul (pmul l1 r2) a.1) b.2) (pmul (pmul (pmul r1 r2) b.1) a.2)) h16 (by omega) (by omega) e16_11 e16_12 (by omega) (fun k => by rw [padd_c, Int.one_mul]) fun N17 h17 f17 => ?_
  obtain ⟨μ17, h17, e17_11, n17⟩ := h17.op1
  have e17_0 : μ17 0 = some f := (n17 0 (by decide)).trans e16_0
  have e17_1 : μ17 1 = some a.1 := (n17 1 (by decide)).trans e16_1
  have e17_2 : μ17 2 = some a.2 := (n17 2 (by decide)).trans e16_2
  have e17_3 : μ17 3 = some b.1 := (n17 3 (by decide)).trans e16_3
  have e17_4 : μ17 4 = some b.2 := (n17 4 (by decide)).trans e16_4
  have e17_5 : μ17 5 = some d1 := (n17 5 (by decide)).trans e16_5
  have e17_6 : μ17 6 = some (pmul l1 r2) := (n17 6 (by decide)).trans e16_6
  have e17_7 : μ17 7 = some (pmul r1 r2) := (n17 7 (by decide)).trans e16_7
  have e17_8 : μ17 8 = some (padd a.2 b.2) := (n17 8 (by decide)).trans e16_8
  have e17_9 : μ17 9 = some d := (n17 9 (by decide)).trans e16_9
  have e17_10 : μ17 10 = some l2 := (n17 10 (by decide)).trans e16_10
  have e17_12 : μ17 12 = some (pmul (pmul (pmul r1 r2) b.1) a.2) := (n17 12 (by decide)).trans e16_12
  have e17_20 : μ17 20 = some d := (n17 20 (by decide)).trans e16_20
  have e17_21 : μ17 21 = some r2 := (n17 21 (by decide)).trans e16_21
  have e17_22 : μ17 22 = some l2 := (n17 22 (by decide)).trans e16_22
  clear n17
  have F17 := F16.tr f17
  simp only [bk195_0, bk195_251, bk195_265, bk195_358, bk195_415, bk195_425, bk195_426, bk195_447, bk195_457, bk195_458, U_aload_n, U_iconst, U_iload_n, U_invokevirtual3, U_invokevirtual2, U_bipush, U_invokevirtual4, U_getfield, U_iald, U_icmp_le, U_invokevirtual1, U_goto, U_imul, U_iast, U_iadd, U_if_le, U_return, UN_cc, UN_cn, UN_nc, UN_nn, UJ, lget, lset, lset2, entL, wsm, wcat, Option.toList_some, Option.toList_none, List.cons_append, List.nil_append, List.mem_cons, List.not_mem_nil, Prod.mk.injEq, or_false, false_or, or_true, true_or, and_true, true_and, and_false, false_and, and_self, ne_eq, not_false_eq_true, not_true_eq_false, forall_const, true_implies, false_implies, Nat.add_zero, Nat.zero_add, Nat.le_refl, Nat.zero_le, List.set_cons_zero, List.set_cons_succ, List.set_nil, ↓reduceIte, Nat.reduceAdd, Nat.reduceSub, Nat.reduceEqDiff, Nat.reduceLeDiff, Int.reduceEq, Int.reduceNe, Int.reduceNeg, reduceCtorEq, kd190]
  refine m_mul h17 (by omega) (by omega) e17_2 e17_4 (by omega) fun N18 h18 f18 => ?_
  obtain ⟨μ18, h18, e18_12, n18⟩ := h18.op1
  have e18_0 : μ18 0 = some f := (n18 0 (by decide)).trans e17_0
  have e18_1 : μ18 1 = some a.1 := (n18 1 (by decide)).trans e17_1
  have e18_2 : μ18 2 = some a.2 := (n18 2 (by decide)).trans e17_2
  have e18_3 : μ18 3 = some b.1 := (n18 3 (by decide)).trans e17_3
  have e18_4 : μ18 4 = some b.2 := (n18 4 (by decide)).trans e17_4
  have e18_5 : μ18 5 = some d1 := (n18 5 (by decide)).trans e17_5
  have e18_6 : μ18 6 = some (pmul l1 r2) := (n18 6 (by decide)).trans e17_6
  have e18_7 : μ18 7 = some (pmul r1 r2) := (n18 7 (by decide)).trans e17_7
  have e18_8 : μ18 8 = some (padd a.2 b.2) := (n18 8 (by decide)).trans e17_8
  have e18_9 : μ18 9 = some d := (n18 9 (by decide)).trans e17_9
  have e18_10 : μ18 10 = some l2 := (n18 10 (by decide)).trans e17_10
  have e18_11 : μ18 11 = some (padd (pmul (pmul (pmul l1 r2) a.1) b.2) (pmul (pmul (pmul r1 r2) b.1) a.2)) := (n18 11 (by decide)).trans e17_11
  have e18_20 : μ18 20 = some d := (n18 20 (by decide)).trans e17_20
  have e18_21 : μ18 21 = some r2 := (n18 21 (by decide)).trans e17_21
  have e18_22 : μ18 22 = some l2 := (n18 22 (by decide)).trans e17_22
  clear n18
  have F18 := F17.tr f18
  simp only [bk195_0, bk195_251, bk195_265, bk195_358, bk195_415, bk195_425, bk195_426, bk195_447, bk195_457, bk195_458, U_aload_n, U_iconst, U_iload_n, U_invokevirtual3, U_invokevirtual2, U_bipush, U_invokevirtual4, U_getfield, U_iald, U_icmp_le, U_invokevirtual1, U_goto, U_imul, U_iast, U_iadd, U_if_le, U_return, UN_cc, UN_cn, UN_nc, UN_nn, UJ, lget, lset, lset2, entL, wsm, wcat, Option.toList_some, Option.toList_none, List.cons_append, List.nil_append, List.mem_cons, List.not_mem_nil, Prod.mk.injEq, or_false, false_or, or_true, true_or, and_true, true_and, and_false, false_and, and_self, ne_eq, not_false_eq_true, not_true_eq_false, forall_const, true_implies, false_implies, Nat.add_zero, Nat.zero_add, Nat.le_refl, Nat.zero_le, List.set_cons_zero, List.set_cons_succ, List.set_nil, ↓reduceIte, Nat.reduceAdd, Nat.reduceSub, Nat.reduceEqDiff, Nat.reduceLeDiff, Int.reduceEq, Int.reduceNe, Int.reduceNeg, reduceCtorEq, kd190]
  refine m_add (padd (pmul a.2 b.2) f) h18 (by omega) (by omega) e18_12 e18_0 (by omega) (fun k => by rw [padd_c, Int.one_mul]) fun N19 h19 f19 => ?_
  obtain ⟨μ19, h19, e19_12, n19⟩ := h19.op1
  have e19_0 : μ19 0 = some f := (n19 0 (by decide)).trans e18_0
  have e19_1 : μ19 1 = some a.1 := (n19 1 (by decide)).trans e18_1
  have e19_2 : μ19 2 = some a.2 := (n19 2 (by decide)).trans e18_2
  have e19_3 : μ19 3 = some b.1 := (n19 3 (by decide)).trans e18_3
  have e19_4 : μ19 4 = some b.2 := (n19 4 (by decide)).trans e18_4
  have e19_5 : μ19 5 = some d1 := (n19 5 (by decide)).trans e18_5
  have e19_6 : μ19 6 = some (pmul l1 r2) := (n19 6 (by decide)).trans e18_6
  have e19_7 : μ19 7 = some (pmul r1 r2) := (n19 7 (by decide)).trans e18_7
  have e19_8 : μ19 8 = some (padd a.2 b.2) := (n19 8 (by decide)).trans e18_8
  have e19_9 : μ19 9 = some d := (n19 9 (by decide)).trans e18_9
  have e19_10 : μ19 10 = some l2 := (n19 10 (by decide)).trans e18_10
  have e19_11 : μ19 11 = some (padd (pmul (pmul (pmul l1 r2) a.1) b.2) (pmul (pmul (pmul r1 r2) b.1) a.2)) := (n19 11 (by decide)).trans e18_11
  have e19_20 : μ19 20 = some d := (n19 20 (by decide)).trans e18_20
  have e19_21 : μ19 21 = some r2 := (n19 21 (by decide)).trans e18_21
  have e19_22 : μ19 22 = some l2 := (n19 22 (by decide)).trans e18_22
  clear n19
  have F19 := F18.tr f19
  simp only [bk195_0, bk195_251, bk195_265, bk195_358, bk195_415, bk195_425, bk195_426, bk195_447, bk195_457, bk195_458, U_aload_n, U_iconst, U_iload_n, U_invokevirtual3, U_invokevirtual2, U_bipush, U_invokevirtual4, U_getfield, U_iald, U_icmp_le, U_invokevirtual1, U_goto, U_imul, U_iast, U_iadd, U_if_le, U_return, UN_cc, UN_cn, UN_nc, UN_nn, UJ, lget, lset, lset2, entL, wsm, wcat, Option.toList_some, Option.toList_none, List.cons_append, List.nil_append, List.mem_cons, List.not_mem_nil, Prod.mk.injEq, or_false, false_or, or_true, true_or, and_true, true_and, and_false, false_and, and_self, ne_eq, not_false_eq_true, not_true_eq_false, forall_const, true_implies, false_implies, Nat.add_zero, Nat.zero_add, Nat.le_refl, Nat.zero_le, List.set_cons_zero, List.set_cons_succ, List.set_nil, ↓reduceIte, Nat.reduceAdd, Nat.reduceSub, Nat.reduceEqDiff, Nat.reduceLeDiff, Int.reduceEq, Int.reduceNe, Int.reduceNeg, reduceCtorEq, kd190]
  refine m_mul h19 (by omega) (by omega) e19_12 e19_10 (by omega) fun N20 h20 f20 => ?_
  obtain ⟨μ20, h20, e20_12, n20⟩ := h20.op1
  have e20_0 : μ20 0 = some f := (n20 0 (by decide)).trans e19_0
  have e20_1 : μ20 1 = some a.1 := (n20 1 (by decide)).trans e19_1
  have e20_2 : μ20 2 = some a.2 := (n20 2 (by decide)).trans e19_2
  have e20_3 : μ20 3 = some b.1 := (n20 3 (by decide)).trans e19_3
  have e20_4 : μ20 4 = some b.2 := (n20 4 (by decide)).trans e19_4
  have e20_5 : μ20 5 = some d1 := (n20 5 (by decide)).trans e19_5
  have e20_6 : μ20 6 = some (pmul l1 r2) := (n20 6 (by decide)).trans e19_6
  have e20_7 : μ20 7 = some (pmul r1 r2) := (n20 7 (by decide)).trans e19_7
  have e20_8 : μ20 8 = some (padd a.2 b.2) := (n20 8 (by decide)).trans e19_8
  have e20_9 : μ20 9 = some d := (n20 9 (by decide)).trans e19_9
  have e20_10 : μ20 10 = some l2 := (n20 10 (by decide)).trans e19_10
  have e20_11 : μ20 11 = some (padd (pmul (pmul (pmul l1 r2) a.1) b.2) (pmul (pmul (pmul r1 r2) b.1) a.2)) := (n20 11 (by decide)).trans e19_11
  have e20_20 : μ20 20 = some d := (n20 20 (by decide)).trans e19_20
  have e20_21 : μ20 21 = some r2 := (n20 21 (by decide)).trans e19_21
  have e20_22 : μ20 22 = some l2 := (n20 22 (by decide)).trans e19_22
  clear n20
  have F20 := F19.tr f20
  simp only [bk195_0, bk195_251, bk195_265, bk195_358, bk195_415, bk195_425, bk195_426, bk195_447, bk195_457, bk195_458, U_aload_n, U_iconst, U_iload_n, U_invokevirtual3, U_invokevirtual2, U_bipush, U_invokevirtual4, U_getfield, U_iald, U_icmp_le, U_invokevirtual1, U_goto, U_imul, U_iast, U_iadd, U_if_le, U_return, UN_cc, UN_cn, UN_nc, UN_nn, UJ, lget, lset, lset2, entL, wsm, wcat, Option.toList_some, Option.toList_none, List.cons_append, List.nil_append, List.mem_cons, List.not_mem_nil, Prod.mk.injEq, or_false, false_or, or_true, true_or, and_true, true_and, and_false, false_and, and_self, ne_eq, not_false_eq_true, not_true_eq_false, forall_const, true_implies, false_implies, Nat.add_zero, Nat.zero_add, Nat.le_refl, Nat.zero_le, List.set_cons_zero, List.set_cons_succ, List.set_nil, ↓reduceIte, Nat.reduceAdd, Nat.reduceSub, Nat.reduceEqDiff, Nat.reduceLeDiff, Int.reduceEq, Int.reduceNe, Int.reduceNeg, reduceCtorEq, kd190]
  refine m_add (padd (padd (pmul (pmul (pmul l1 r2) a.1) b.2) (pmul (pmul (pmul r1 r2) b.1) a.2)) (pmul (padd (pmul a.2 b.2) f) l2)) h20 (by omega) (by omega) e20_11 e20_12 (by omega) (fun k => by rw [padd_c, Int.one_mul]) fun N21 h21 f21 => ?_
  obtain ⟨μ21, h21, e21_11, n21⟩ := h21.op1
  have e21_0 : μ21 0 = some f := (n21 0 (by decide)).trans e20_0
  have e21_1 : μ21 1 = some a.1 := (n21 1 (by decide)).trans e20_1
  have e21_2 : μ21 2 = some a.2 := (n21 2 (by decide)).trans e20_2
  have e21_3 : μ21 3 = some b.1 := (n21 3 (by decide)).trans e20_3
  have e21_4 : μ21 4 = some b.2 := (n21 4 (by decide)).trans e20_4
  have e21_5 : μ21 5 = some d1 := (n21 5 (by decide)).trans e20_5
  have e21_6 : μ21 6 = some (pmul l1 r2) := (n21 6 (by decide)).trans e20_6
  have e21_7 : μ21 7 = some (pmul r1 r2) := (n21 7 (by decide)).trans e20_7
  have e21_8 : μ21 8 = some (padd a.2 b.2) := (n21 8 (by decide)).trans e20_8
  have e21_9 : μ21 9 = some d := (n21 9 (by decide)).trans e20_9
  have e21_10 : μ21 10 = some l2 := (n21 10 (by decide)).trans e20_10
  have e21_12 : μ21 12 = some (pmul (padd (pmul a.2 b.2) f) l2) := (n21 12 (by decide)).trans e20_12
  have e21_20 : μ21 20 = some d := (n21 20 (by decide)).trans e20_20
  have e21_21 : μ21 21 = some r2 := (n21 21 (by decide)).trans e20_21
  have e21_22 : μ21 22 = some l2 := (n21 22 (by decide)).trans e20_22
  clear n21
  have F21 := F20.tr f21
  simp only [bk195_0, bk195_251, bk195_265, bk195_358, bk195_415, bk195_425, bk195_426, bk195_447, bk195_457, bk195_458, U_aload_n, U_iconst, U_iload_n, U_invokevirtual3, U_invokevirtual2, U_bipush, U_invokevirtual4, U_getfield, U_iald, U_icmp_le, U_invokevirtual1, U_goto, U_imul, U_iast, U_iadd, U_if_le, U_return, UN_cc, UN_cn, UN_nc, UN_nn, UJ, lget, lset, lset2, entL, wsm, wcat, Option.toList_some, Option.toList_none, List.cons_append, List.nil_append, List.mem_cons, List.not_mem_nil, Prod.mk.injEq, or_false, false_or, or_true, true_or, and_true, true_and, and_false, false_and, and_self, ne_eq, not_false_eq_true, not_true_eq_false, forall_const, true_implies, false_implies, Nat.add_zero, Nat.zero_add, Nat.le_refl, Nat.zero_le, List.set_cons_zero, List.set_cons_succ, List.set_nil, ↓reduceIte, Nat.reduceAdd, Nat.reduceSub, Nat.reduceEqDiff, Nat.reduceLeDiff, Int.reduceEq, Int.reduceNe, Int.reduceNeg, reduceCtorEq, kd190]
  refine m_div h21 (by omega) (by omega) (by decide) (by decide) (by decide) (by decide) e21_11 e21_9 y4.1 fun N22 v0 R3 h22 f22 p7 p8 p9 => ?_
  obtain ⟨μ22, h22, e22_12, e22_13, n22⟩ := MT.op2 (by decide) h22
  have e22_0 : μ22 0 = some f := (n22 0 (by decide) (by decide)).trans e21_0
  have e22_1 : μ22 1 = some a.1 := (n22 1 (by decide) (by decide)).trans e21_1
  have e22_2 : μ22 2 = some a.2 := (n22 2 (by decide) (by decide)).trans e21_2
  have e22_3 : μ22 3 = some b.1 := (n22 3 (by decide) (by decide)).trans e21_3
  have e22_4 : μ22 4 = some b.2 := (n22 4 (by decide) (by decide)).trans e21_4
  have e22_5 : μ22 5 = some d1 := (n22 5 (by decide) (by decide)).trans e21_5
  have e22_6 : μ22 6 = some (pmul l1 r2) := (n22 6 (by decide) (by decide)).trans e21_6
  have e22_7 : μ22 7 = some (pmul r1 r2) := (n22 7 (by decide) (by decide)).trans e21_7
  have e22_8 : μ22 8 = some (padd a.2 b.2) := (n22 8 (by decide) (by decide)).trans e21_8
  have e22_9 : μ22 9 = some d := (n22 9 (by decide) (by decide)).trans e21_9
  have e22_10 : μ22 10 = some l2 := (n22 10 (by decide) (by decide)).trans e21_10
  have e22_11 : μ22 11 = some (padd (padd (pmul (pmul (pmul l1 r2) a.1) b.2) (pmul (pmul (pmul r1 r2) b.1) a.2)) (pmul (padd (pmul a.2 b.2) f) l2)) := (n22 11 (by decide) (by decide)).trans e21_11
  have e22_20 : μ22 20 = some d := (n22 20 (by decide) (by decide)).trans e21_20
  have e22_21 : μ22 21 = some r2 := (n22 21 (by decide) (by decide)).trans e21_21
  have e22_22 : μ22 22 = some l2 := (n22 22 (by decide) (by decide)).trans e21_22
  clear n22
  have F22 := F21.tr f22
  simp only [bk195_0, bk195_251, bk195_265, bk195_358, bk195_415, bk195_425, bk195_426, bk195_447, bk195_457, bk195_458, U_aload_n, U_iconst, U_iload_n, U_invokevirtual3, U_invokevirtual2, U_bipush, U_invokevirtual4, U_getfield, U_iald, U_icmp_le, U_invokevirtual1, U_goto, U_imul, U_iast, U_iadd, U_if_le, U_return, UN_cc, UN_cn, UN_nc, UN_nn, UJ, lget, lset, lset2, entL, wsm, wcat, Option.toList_some, Option.toList_none, List.cons_append, List.nil_append, List.mem_cons, List.not_mem_nil, Prod.mk.injEq, or_false, false_or, or_true, true_or, and_true, true_and, and_false, false_and, and_self, ne_eq, not_false_eq_true, not_true_eq_false, forall_const, true_implies, false_implies, Nat.add_zero, Nat.zero_add, Nat.le_refl, Nat.zero_le, List.set_cons_zero, List.set_cons_succ, List.set_nil, ↓reduceIte, Nat.reduceAdd, Nat.reduceSub, Nat.reduceEqDiff, Nat.reduceLeDiff, Int.reduceEq, Int.reduceNe, Int.reduceNeg, reduceCtorEq, kd190]
  refine m_mul h22 (by omega) (by omega) e22_1 e22_3 (by omega) fun N23 h23 f23 => ?_
  obtain ⟨μ23, h23, e23_14, n23⟩ := h23.op1
  have e23_0 : μ23 0 = some f := (n23 0 (by decide)).trans e22_0
  have e23_1 : μ23 1 = some a.1 := (n23 1 (by decide)).trans e22_1
  have e23_2 : μ23 2 = some a.2 := (n23 2 (by decide)).trans e22_2
  have e23_3 : μ23 3 = some b.1 := (n23 3 (by decide)).trans e22_3
  have e23_4 : μ23 4 = some b.2 := (n23 4 (by decide)).trans e22_4
  have e23_5 : μ23 5 = some d1 := (n23 5 (by decide)).trans e22_5
  have e23_6 : μ23 6 = some (pmul l1 r2) := (n23 6 (by decide)).trans e22_6
  have e23_7 : μ23 7 = some (pmul r1 r2) := (n23 7 (by decide)).trans e22_7
  have e23_8 : μ23 8 = some (padd a.2 b.2) := (n23 8 (by decide)).trans e22_8
  have e23_9 : μ23 9 = some d := (n23 9 (by decide)).trans e22_9
  have e23_10 : μ23 10 = some l2 := (n23 10 (by decide)).trans e22_10
  have e23_11 : μ23 11 = some (padd (padd (pmul (pmul (pmul l1 r2) a.1) b.2) (pmul (pmul (pmul r1 r2) b.1) a.2)) (pmul (padd (pmul a.2 b.2) f) l2)) := (n23 11 (by decide)).trans e22_11
  have e23_12 : μ23 12 = some v0 := (n23 12 (by decide)).trans e22_12
  have e23_13 : μ23 13 = some R3 := (n23 13 (by decide)).trans e22_13
  have e23_20 : μ23 20 = some d := (n23 20 (by decide)).trans e22_20
  have e23_21 : μ23 21 = some r2 := (n23 21 (by decide)).trans e22_21
  have e23_22 : μ23 22 = some l2 := (n23 22 (by decide)).trans e22_22
  clear n23
  have F23 := F22.tr f23
  simp only [bk195_0, bk195_251, bk195_265, bk195_358, bk195_415, bk195_425, bk195_426, bk195_447, bk195_457, bk195_458, U_aload_n, U_iconst, U_iload_n, U_invokevirtual3, U_invokevirtual2, U_bipush, U_invokevirtual4, U_getfield, U_iald, U_icmp_le, U_invokevirtual1, U_goto, U_imul, U_iast, U_iadd, U_if_le, U_return, UN_cc, UN_cn, UN_nc, UN_nn, UJ, lget, lset, lset2, entL, wsm, wcat, Option.toList_some, Option.toList_none, List.cons_append, List.nil_append, List.mem_cons, List.not_mem_nil, Prod.mk.injEq, or_false, false_or, or_true, true_or, and_true, true_and, and_false, false_and, and_self, ne_eq, not_false_eq_true, not_true_eq_false, forall_const, true_implies, false_implies, Nat.add_zero, Nat.zero_add, Nat.le_refl, Nat.zero_le, List.set_cons_zero, List.set_cons_succ, List.set_nil, ↓reduceIte, Nat.reduceAdd, Nat.reduceSub, Nat.reduceEqDiff, Nat.reduceLeDiff, Int.reduceEq, Int.reduceNe, Int.reduceNeg, reduceCtorEq, kd190]
  refine m_mul h23 (by omega) (by omega) e23_9 e23_9 (by omega) fun N24 h24 f24 => ?_
  obtain ⟨μ24, h24, e24_15, n24⟩ := h24.op1
  have e24_0 : μ24 0 = some f := (n24 0 (by decide)).trans e23_0
  have e24_1 : μ24 1 = some a.1 := (n24 1 (by decide)).trans e23_1
  have e24_2 : μ24 2 = some a.2 := (n24 2 (by decide)).trans e23_2
  have e24_3 : μ24 3 = some b.1 := (n24 3 (by decide)).trans e23_3
  have e24_4 : μ24 4 = some b.2 := (n24 4 (by decide)).trans e23_4
  have e24_5 : μ24 5 = some d1 := (n24 5 (by decide)).trans e23_5
  have e24_6 : μ24 6 = some (pmul l1 r2) := (n24 6 (by decide)).trans e23_6
  have e24_7 : μ24 7 = some (pmul r1 r2) := (n24 7 (by decide)).trans e23_7
  have e24_8 : μ24 8 = some (padd a.2 b.2) := (n24 8 (by decide)).trans e23_8
  have e24_9 : μ24 9 = some d := (n24 9 (by decide)).trans e23_9
  have e24_10 : μ24 10 = some l2 := (n24 10 (by decide)).trans e23_10
  have e24_11 : μ24 11 = some (padd (padd (pmul (pmul (pmul l1 r2) a.1) b.2) (pmul (pmul (pmul r1 r2) b.1) a.2)) (pmul (padd (pmul a.2 b.2) f) l2)) := (n24 11 (by decide)).trans e23_11
  have e24_12 : μ24 12 = some v0 := (n24 12 (by decide)).trans e23_12
  have e24_13 : μ24 13 = some R3 := (n24 13 (by decide)).trans e23_13
  have e24_14 : μ24 14 = some (pmul a.1 b.1) := (n24 14 (by decide)).trans e23_14
  have e24_20 : μ24 20 = some d := (n24 20 (by decide)).trans e23_20
  have e24_21 : μ24 21 = some r2 := (n24 21 (by decide)).trans e23_21
  have e24_22 : μ24 22 = some l2 := (n24 22 (by decide)).trans e23_22
  clear n24
  have F24 := F23.tr f24
  simp only [bk195_0, bk195_251, bk195_265, bk195_358, bk195_415, bk195_425, bk195_426, bk195_447, bk195_457, bk195_458, U_aload_n, U_iconst, U_iload_n, U_invokevirtual3, U_invokevirtual2, U_bipush, U_invokevirtual4, U_getfield, U_iald, U_icmp_le, U_invokevirtual1, U_goto, U_imul, U_iast, U_iadd, U_if_le, U_return, UN_cc, UN_cn, UN_nc, UN_nn, UJ, lget, lset, lset2, entL, wsm, wcat, Option.toList_some, Option.toList_none, List.cons_append, List.nil_append, List.mem_cons, List.not_mem_nil, Prod.mk.injEq, or_false, false_or, or_true, true_or, and_true, true_and, and_false, false_and, and_self, ne_eq, not_false_eq_true, not_true_eq_false, forall_const, true_implies, false_implies, Nat.add_zero, Nat.zero_add, Nat.le_refl, Nat.zero_le, List.set_cons_zero, List.set_cons_succ, List.set_nil, ↓reduceIte, Nat.reduceAdd, Nat.reduceSub, Nat.reduceEqDiff, Nat.reduceLeDiff, Int.reduceEq, Int.reduceNe, Int.reduceNeg, reduceCtorEq, kd190]
  have hdd : dg (pmul d d) ≠ 0 := by have := dg_mul hp d d y4.1 y4.1; have := y4.1; omega
  refine m_div h24 (by omega) (by omega) (by decide) (by decide) (by decide) (by decide) e24_14 e24_15 hdd fun N25 q2 R2 h25 f25 p1 p2 p3 => ?_
  obtain ⟨μ25, h25, e25_16, e25_17, n25⟩ := MT.op2 (by decide) h25
  have e25_0 : μ25 0 = some f := (n25 0 (by decide) (by decide)).trans e24_0
  have e25_1 : μ25 1 = some a.1 := (n25 1 (by decide) (by decide)).trans e24_1
  have e25_2 : μ25 2 = some a.2 := (n25 2 (by decide) (by decide)).trans e24_2
  have e25_3 : μ25 3 = some b.1 := (n25 3 (by decide) (by decide)).trans e24_3
  have e25_4 : μ25 4 = some b.2 := (n25 4 (by decide) (by decide)).trans e24_4
  have e25_5 : μ25 5 = some d1 := (n25 5 (by decide) (by decide)).trans e24_5
  have e25_6 : μ25 6 = some (pmul l1 r2) := (n25 6 (by decide) (by decide)).trans e24_6
  have e25_7 : μ25 7 = some (pmul r1 r2) := (n25 7 (by decide) (by decide)).trans e24_7
  have e25_8 : μ25 8 = some (padd a.2 b.2) := (n25 8 (by decide) (by decide)).trans e24_8
  have e25_9 : μ25 9 = some d := (n25 9 (by decide) (by decide)).trans e24_9
  have e25_10 : μ25 10 = some l2 := (n25 10 (by decide) (by decide)).trans e24_10
  have e25_11 : μ25 11 = some (padd (padd (pmul (pmul (pmul l1 r2) a.1) b.2) (pmul (pmul (pmul r1 r2) b.1) a.2)) (pmul (padd (pmul a.2 b.2) f) l2)) := (n25 11 (by decide) (by decide)).trans e24_11
  have e25_12 : μ25 12 = some v0 := (n25 12 (by decide) (by decide)).trans e24_12
  have e25_13 : μ25 13 = some R3 := (n25 13 (by decide) (by decide)).trans e24_13
  have e25_14 : μ25 14 = some (pmul a.1 b.1) := (n25 14 (by decide) (by decide)).trans e24_14
  have e25_15 : μ25 15 = some (pmul d d) := (n25 15 (by decide) (by decide)).trans e24_15
  have e25_20 : μ25 20 = some d := (n25 20 (by decide) (by decide)).trans e24_20
  have e25_21 : μ25 21 = some r2 := (n25 21 (by decide) (by decide)).trans e24_21
  have e25_22 : μ25 22 = some l2 := (n25 22 (by decide) (by decide)).trans e24_22
  clear n25
  have F25 := F24.tr f25
  have alg := fun t v => @sum_alg (Pz p) (pring p) dg pmo E f g hdf hsq a b ra rb d1 l1 r1 d l2 r2 q2 R2 R3 v0 t v y4 z1 z2 z3 y1 y2 y3 p1 p2 p7 p8
  have hq20 : dg q2 ≠ 0 := fun e => (alg (pC p 0) v0).2 (dg_zero.mp e)
  simp only [bk195_0, bk195_251, bk195_265, bk195_358, bk195_415, bk195_425, bk195_426, bk195_447, bk195_457, bk195_458, U_aload_n, U_iconst, U_iload_n, U_invokevirtual3, U_invokevirtual2, U_bipush, U_invokevirtual4, U_getfield, U_iald, U_icmp_le, U_invokevirtual1, U_goto, U_imul, U_iast, U_iadd, U_if_le, U_return, UN_cc, UN_cn, UN_nc, UN_nn, UJ, lget, lset, lset2, entL, wsm, wcat, Option.toList_some, Option.toList_none, List.cons_append, List.nil_append, List.mem_cons, List.not_mem_nil, Prod.mk.injEq, or_false, false_or, or_true, true_or, and_true, true_and, and_false, false_and, and_self, ne_eq, not_false_eq_true, not_true_eq_false, forall_const, true_implies, false_implies, Nat.add_zero, Nat.zero_add, Nat.le_refl, Nat.zero_le, List.set_cons_zero, List.set_cons_succ, List.set_nil, ↓reduceIte, Nat.reduceAdd, Nat.reduceSub, Nat.reduceEqDiff, Nat.reduceLeDiff, Int.reduceEq, Int.reduceNe, Int.reduceNeg, reduceCtorEq, kd190]
  refine m_div h25 (by omega) (by omega) (by decide) (by decide) (by decide) (by decide) e25_12 e25_16 hq20 fun N26 t v h26 f26 t1 t2 t3 => ?_
  obtain ⟨μ26, h26, e26_18, e26_19, n26⟩ := MT.op2 (by decide) h26
  have e26_0 : μ26 0 = some f := (n26 0 (by decide) (by decide)).trans e25_0
  have e26_1 : μ26 1 = some a.1 := (n26 1 (by decide) (by decide)).trans e25_1
  have e26_2 : μ26 2 = some a.2 := (n26 2 (by decide) (by decide)).trans e25_2
  have e26_3 : μ26 3 = some b.1 := (n26 3 (by decide) (by decide)).trans e25_3
  have e26_4 : μ26 4 = some b.2 := (n26 4 (by decide) (by decide)).trans e25_4
  have e26_5 : μ26 5 = some d1 := (n26 5 (by decide) (by decide)).trans e25_5
  have e26_6 : μ26 6 = some (pmul l1 r2) := (n26 6 (by decide) (by decide)).trans e25_6
  have e26_7 : μ26 7 = some (pmul r1 r2) := (n26 7 (by decide) (by decide)).trans e25_7
  have e26_8 : μ26 8 = some (padd a.2 b.2) := (n26 8 (by decide) (by decide)).trans e25_8
  have e26_9 : μ26 9 = some d := (n26 9 (by decide) (by decide)).trans e25_9
  have e26_10 : μ26 10 = some l2 := (n26 10 (by decide) (by decide)).trans e25_10
  have e26_11 : μ26 11 = some (padd (padd (pmul (pmul (pmul l1 r2) a.1) b.2) (pmul (pmul (pmul r1 r2) b.1) a.2)) (pmul (padd (pmul a.2 b.2) f) l2)) := (n26 11 (by decide) (by decide)).trans e25_11
  have e26_12 : μ26 12 = some v0 := (n26 12 (by decide) (by decide)).trans e25_12
  have e26_13 : μ26 13 = some R3 := (n26 13 (by decide) (by decide)).trans e25_13
  have e26_14 : μ26 14 = some (pmul a.1 b.1) := (n26 14 (by decide) (by decide)).trans e25_14
  have e26_15 : μ26 15 = some (pmul d d) := (n26 15 (by decide) (by decide)).trans e25_15
  have e26_16 : μ26 16 = some q2 := (n26 16 (by decide) (by decide)).trans e25_16
  have e26_17 : μ26 17 = some R2 := (n26 17 (by decide) (by decide)).trans e25_17
  have e26_20 : μ26 20 = some d := (n26 20 (by decide) (by decide)).trans e25_20
  have e26_21 : μ26 21 = some r2 := (n26 21 (by decide) (by decide)).trans e25_21
  have e26_22 : μ26 22 = some l2 := (n26 22 (by decide) (by decide)).trans e25_22
  clear n26
  have F26 := F25.tr f26
  obtain ⟨x1, x2, x3, x4, x5⟩ := (alg t v).1 t1
  replace x1 : pmul a.1 b.1 = pmul d (pmul d q2) := x1
  replace x5 : dg q2 + 1 ≤ dg a.1 + dg b.1 := x5
  have hmq : pmo q2 := by
    have hm := pmo_mul hp ra.1 rb.1
    rw [x1] at hm
    have hdq : dg (pmul d q2) ≠ 0 := by have := dg_mul hp d q2 y4.1 hq20; have := y4.1; omega
    exact pmo_quo hp y4 hq20 (pmo_quo hp y4 hdq hm)
  simp only [bk195_0, bk195_251, bk195_265, bk195_358, bk195_415, bk195_425, bk195_426, bk195_447, bk195_457, bk195_458, U_aload_n, U_iconst, U_iload_n, U_invokevirtual3, U_invokevirtual2, U_bipush, U_invokevirtual4, U_getfield, U_iald, U_icmp_le, U_invokevirtual1, U_goto, U_imul, U_iast, U_iadd, U_if_le, U_return, UN_cc, UN_cn, UN_nc, UN_nn, UJ, lget, lset, lset2, entL, wsm, wcat, Option.toList_some, Option.toList_none, List.cons_append, List.nil_append, List.mem_cons, List.not_mem_nil, Prod.mk.injEq, or_false, false_or, or_true, true_or, and_true, true_and, and_false, false_and, and_self, ne_eq, not_false_eq_true, not_true_eq_false, forall_const, true_implies, false_implies, Nat.add_zero, Nat.zero_add, Nat.le_refl, Nat.zero_le, List.set_cons_zero, List.set_cons_succ, List.set_nil, ↓reduceIte, Nat.reduceAdd, Nat.reduceSub, Nat.reduceEqDiff, Nat.reduceLeDiff, Int.reduceEq, Int.reduceNe, Int.reduceNeg, reduceCtorEq, kd190]
  refine m_copy h26 (by omega) (by omega) (by decide) e26_19 fun N27 h27 f27 => ?_
  obtain ⟨μ27, h27, e27_13, n27⟩ := h27.op1
  have e27_0 : μ27 0 = some f := (n27 0 (by decide)).trans e26_0
  have e27_1 : μ27 1 = some a.1 := (n27 1 (by decide)).trans e26_1
  have e27_2 : μ27 2 = some a.2 := (n27 2 (by decide)).trans e26_2
  have e27_3 : μ27 3 = some b.1 := (n27 3 (by decide)).trans e26_3
  have e27_4 : μ27 4 = some b.2 := (n27 4 (by decide)).trans e26_4
  have e27_5 : μ27 5 = some d1 := (n27 5 (by decide)).trans e26_5
  have e27_6 : μ27 6 = some (pmul l1 r2) := (n27 6 (by decide)).trans e26_6
  have e27_7 : μ27 7 = some (pmul r1 r2) := (n27 7 (by decide)).trans e26_7
  have e27_8 : μ27 8 = some (padd a.2 b.2) := (n27 8 (by decide)).trans e26_8
  have e27_9 : μ27 9 = some d := (n27 9 (by decide)).trans e26_9
  have e27_10 : μ27 10 = some l2 := (n27 10 (by decide)).trans e26_10
  have e27_11 : μ27 11 = some (padd (padd (pmul (pmul (pmul l1 r2) a.1) b.2) (pmul (pmul (pmul r1 r2) b.1) a.2)) (pmul (padd (pmul a.2 b.2) f) l2)) := (n27 11 (by decide)).trans e26_11
  have e27_12 : μ27 12 = some v0 := (n27 12 (by decide)).trans e26_12
  have e27_14 : μ27 14 = some (pmul a.1 b.1) := (n27 14 (by decide)).trans e26_14
  have e27_15 : μ27 15 = some (pmul d d) := (n27 15 (by decide)).trans e26_15
  have e27_16 : μ27 16 = some q2 := (n27 16 (by decide)).trans e26_16
  have e27_17 : μ27 17 = some R2 := (n27 17 (by decide)).trans e26_17
  have e27_18 : μ27 18 = some t := (n27 18 (by decide)).trans e26_18
  have e27_19 : μ27 19 = some v := (n27 19 (by decide)).trans e26_19
  have e27_20 : μ27 20 = some d := (n27 20 (by decide)).trans e26_20
  have e27_21 : μ27 21 = some r2 := (n27 21 (by decide)).trans e26_21
  have e27_22 : μ27 22 = some l2 := (n27 22 (by decide)).trans e26_22
  clear n27
  have F27 := F26.tr f27
  simp only [bk195_0, bk195_251, bk195_265, bk195_358, bk195_415, bk195_425, bk195_426, bk195_447, bk195_457, bk195_458, U_aload_n, U_iconst, U_iload_n, U_invokevirtual3, U_invokevirtual2, U_bipush, U_invokevirtual4, U_getfield, U_iald, U_icmp_le, U_invokevirtual1, U_goto, U_imul, U_iast, U_iadd, U_if_le, U_return, UN_cc, UN_cn, UN_nc, UN_nn, UJ, lget, lset, lset2, entL, wsm, wcat, Option.toList_some, Option.toList_none, List.cons_append, List.nil_append, List.mem_cons, List.not_mem_nil, Prod.mk.injEq, or_false, false_or, or_true, true_or, and_true, true_and, and_false, false_and, and_self, ne_eq, not_false_eq_true, not_true_eq_false, forall_const, true_implies, false_implies, Nat.add_zero, Nat.zero_add, Nat.le_refl, Nat.zero_le, List.set_cons_zero, List.set_cons_succ, List.set_nil, ↓reduceIte, Nat.reduceAdd, Nat.reduceSub, Nat.reduceEqDiff, Nat.reduceLeDiff, Int.reduceEq, Int.reduceNe, Int.reduceNeg, reduceCtorEq, kd190]
  refine m_copy h27 (by omega) (by omega) (by decide) e27_16 fun N28 h28 f28 => ?_
  obtain ⟨μ28, h28, e28_14, n28⟩ := h28.op1
  have e28_0 : μ28 0 = some f := (n28 0 (by decide)).trans e27_0
  have e28_1 : μ28 1 = some a.1 := (n28 1 (by decide)).trans e27_1
  have e28_2 : μ28 2 = some a.2 := (n28 2 (by decide)).trans e27_2
  have e28_3 : μ28 3 = some b.1 := (n28 3 (by decide)).trans e27_3
  have e28_4 : μ28 4 = some b.2 := (n28 4 (by decide)).trans e27_4
  have e28_5 : μ28 5 = some d1 := (n28 5 (by decide)).trans e27_5
  have e28_6 : μ28 6 = some (pmul l1 r2) := (n28 6 (by decide)).trans e27_6
  have e28_7 : μ28 7 = some (pmul r1 r2) := (n28 7 (by decide)).trans e27_7
  have e28_8 : μ28 8 = some (padd a.2 b.2) := (n28 8 (by decide)).trans e27_8
  have e28_9 : μ28 9 = some d := (n28 9 (by decide)).trans e27_9
  have e28_10 : μ28 10 = some l2 := (n28 10 (by decide)).trans e27_10
  have e28_11 : μ28 11 = some (padd (padd (pmul (pmul (pmul l1 r2) a.1) b.2) (pmul (pmul (pmul r1 r2) b.1) a.2)) (pmul (padd (pmul a.2 b.2) f) l2)) := (n28 11 (by decide)).trans e27_11
  have e28_12 : μ28 12 = some v0 := (n28 12 (by decide)).trans e27_12
  have e28_13 : μ28 13 = some v := (n28 13 (by decide)).trans e27_13
  have e28_15 : μ28 15 = some (pmul d d) := (n28 15 (by decide)).trans e27_15
  have e28_16 : μ28 16 = some q2 := (n28 16 (by decide)).trans e27_16
  have e28_17 : μ28 17 = some R2 := (n28 17 (by decide)).trans e27_17
  have e28_18 : μ28 18 = some t := (n28 18 (by decide)).trans e27_18
  have e28_19 : μ28 19 = some v := (n28 19 (by decide)).trans e27_19
  have e28_20 : μ28 20 = some d := (n28 20 (by decide)).trans e27_20
  have e28_21 : μ28 21 = some r2 := (n28 21 (by decide)).trans e27_21
  have e28_22 : μ28 22 = some l2 := (n28 22 (by decide)).trans e27_22
  clear n28
  have F28 := F27.tr f28
  simp only [bk195_0, bk195_251, bk195_265, bk195_358, bk195_415, bk195_425, bk195_426, bk195_447, bk195_457, bk195_458, U_aload_n, U_iconst, U_iload_n, U_invokevirtual3, U_invokevirtual2, U_bipush, U_invokevirtual4, U_getfield, U_iald, U_icmp_le, U_invokevirtual1, U_goto, U_imul, U_iast, U_iadd, U_if_le, U_return, UN_cc, UN_cn, UN_nc, UN_nn, UJ, lget, lset, lset2, entL, wsm, wcat, Option.toList_some, Option.toList_none, List.cons_append, List.nil_append, List.mem_cons, List.not_mem_nil, Prod.mk.injEq, or_false, false_or, or_true, true_or, and_true, true_and, and_false, false_and, and_self, ne_eq, not_false_eq_true, not_true_eq_false, forall_const, true_implies, false_implies, Nat.add_zero, Nat.zero_add, Nat.le_refl, Nat.zero_le, List.set_cons_zero, List.set_cons_succ, List.set_nil, ↓reduceIte, Nat.reduceAdd, Nat.reduceSub, Nat.reduceEqDiff, Nat.reduceLeDiff, Int.reduceEq, Int.reduceNe, Int.reduceNeg, reduceCtorEq, kd190]
  refine l_mLow (g := g) (N := N) hp hcv' hg (fun N' μ' u v' s1 s2 s3 s4 s5 s6 s7 => ?_) 5 N28 _ q2 v (by omega) (by omega) h28 F28 e28_0 e28_14 e28_13 hmq t2 x3 x4
  refine m_sumEnd s1 hcv' s3 s4 s5 hto s6 fun N'' μ'' o1 o2 o3 o4 o5 => ?_
  refine hQ N'' μ'' (u, v') o1 o2 s6 s7 o3 (s2.pw.tr o4) (fun i hi => ?_)
  rw [o5 i hi, s2 204 (by decide) (by decide)]
