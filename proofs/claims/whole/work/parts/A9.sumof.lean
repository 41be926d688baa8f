/-! THE MODEL'S SUM -/
/-- only rows and pairs at work change -/
def PW (N N' : Mem) : Prop := ∀ b, b ≠ 198 → b ≠ 199 → b ≠ 204 → N' b = N b
theorem PW.rf (N : Mem) : PW N N := fun _ _ _ _ => rfl
theorem PW.tr {N N' N'' : Mem} (h1 : PW N N') (h2 : PW N' N'') : PW N N'' := fun b x y z => (h2 b x y z).trans (h1 b x y z)
theorem PF.pw {N N' : Mem} (h : PF N N') : PW N N' := fun b x y _ => h b x y
theorem PW.us (N : Mem) (i x : Int) : PW N (ust N 204 i x) := fun b _ _ h => ust_ne h
theorem MT.uw {p : Int} {N : Mem} {μ : Int → Option (Pz p)} (h : MT p N μ) (i x : Int) : MT p (ust N 204 i x) μ := h.pf (h.1.ust (fz_arr (Or.inl rfl) _)) (ust_ne (by decide)) (ust_ne (by decide)) (ust_ne (by decide))
theorem pwm_1 {p : Int} (hp : Pr p) : ∀ n, pwm p 1 n = 1
  | 0 => rfl
  | n + 1 => by
    have hpp := hp.pos
    show pwm p 1 n * 1 % p = 1
    rw [pwm_1 hp n]; exact Int.emod_eq_of_lt (by omega) (by omega)
set_option maxHeartbeats 16000000 in
theorem m_sumEnd {p : Int} {N : Mem} {μ : Int → Option (Pz p)} {Q : Post} {to : Nat} {a b : Int} {f u v : Pz p} {g : Nat} (h : MT p N μ) (hcv : Cv f g) (h0 : μ 0 = some f) (e14 : μ 14 = some u) (e13 : μ 13 = some v) (hto : to < 8) (hr : pRed f g (u, v))
    (hQ : ∀ N' μ', MT p N' μ' → μ' 0 = some f → WK N' 204 to (u, v) → PW N N' → (∀ i, ¬ (5 * (to : Int) ≤ i ∧ i < 5 * (to : Int) + 5) → N' 204 i = N 204 i) → Q none NN N') : WP 195 (0, 0) 358 [(2, 190), (0, (to : Int)), (0, a), (0, b)] [] NN N Q := by
  have hp := h.2.1
  have hpp := hp.pos
  have hm : pmo u := hr.1
  have hu0 := hm.1
  have h3 : dg u ≤ 3 := by have : dg u ≤ g + 1 := hr.2.1; have := hcv.1; omega
  have hv : dg v < dg u := hr.2.2.1
  have htop := pmo_top hp hm
  have d14 := (h.2.2.2.2 14 u e14).2.2.2.1
  have hpi : pinv p 1 = 1 := pwm_1 hp _
  refine WP.run [(195, 426), (195, 458)] [] 200 ?_
  simp only [bk195_0, bk195_251, bk195_265, bk195_358, bk195_415, bk195_425, bk195_426, bk195_447, bk195_457, bk195_458, U_aload_n, U_iconst, U_iload_n, U_invokevirtual3, U_invokevirtual2, U_bipush, U_invokevirtual4, U_getfield, U_iald, U_icmp_le, U_invokevirtual1, U_goto, U_imul, U_iast, U_iadd, U_if_le, U_return, UN_cc, UN_cn, UN_nc, UN_nn, UJ, lget, lset, lset2, entL, wsm, wcat, Option.toList_some, Option.toList_none, List.cons_append, List.nil_append, List.mem_cons, List.not_mem_nil, Prod.mk.injEq, or_false, false_or, or_true, true_or, and_true, true_and, and_false, false_and, and_self, ne_eq, not_false_eq_true, not_true_eq_false, forall_const, true_implies, false_implies, Nat.add_zero, Nat.zero_add, Nat.le_refl, Nat.zero_le, List.set_cons_zero, List.set_cons_succ, List.set_nil, ↓reduceIte, Nat.reduceAdd, Nat.reduceSub, Nat.reduceEqDiff, Nat.reduceLeDiff, Int.reduceEq, Int.reduceNe, Int.reduceNeg, reduceCtorEq, kd190, kd199, ln199, z190_13 h.1, d14]
  repeat (first | refine And.intro (by decide) ?_ | refine And.intro trivial ?_ | refine And.intro (by omega) ?_)
  refine m_get h e14 (r3 (by omega)) ?_
  rw [if_pos (by omega), show ((dg u : Int) - 1).toNat = dg u - 1 by omega, htop]
  simp only [bk195_0, bk195_251, bk195_265, bk195_358, bk195_415, bk195_425, bk195_426, bk195_447, bk195_457, bk195_458, U_aload_n, U_iconst, U_iload_n, U_invokevirtual3, U_invokevirtual2, U_bipush, U_invokevirtual4, U_getfield, U_iald, U_icmp_le, U_invokevirtual1, U_goto, U_imul, U_iast, U_iadd, U_if_le, U_return, UN_cc, UN_cn, UN_nc, UN_nn, UJ, lget, lset, lset2, entL, wsm, wcat, Option.toList_some, Option.toList_none, List.cons_append, List.nil_append, List.mem_cons, List.not_mem_nil, Prod.mk.injEq, or_false, false_or, or_true, true_or, and_true, true_and, and_false, false_and, and_self, ne_eq, not_false_eq_true, not_true_eq_false, forall_const, true_implies, false_implies, Nat.add_zero, Nat.zero_add, Nat.le_refl, Nat.zero_le, List.set_cons_zero, List.set_cons_succ, List.set_nil, ↓reduceIte, Nat.reduceAdd, Nat.reduceSub, Nat.reduceEqDiff, Nat.reduceLeDiff, Int.reduceEq, Int.reduceNe, Int.reduceNeg, reduceCtorEq, kd190]
  refine m_inv hp h.2.2.1 (by omega) ?_
  rw [hpi]
  simp only [bk195_0, bk195_251, bk195_265, bk195_358, bk195_415, bk195_425, bk195_426, bk195_447, bk195_457, bk195_458, U_aload_n, U_iconst, U_iload_n, U_invokevirtual3, U_invokevirtual2, U_bipush, U_invokevirtual4, U_getfield, U_iald, U_icmp_le, U_invokevirtual1, U_goto, U_imul, U_iast, U_iadd, U_if_le, U_return, UN_cc, UN_cn, UN_nc, UN_nn, UJ, lget, lset, lset2, entL, wsm, wcat, Option.toList_some, Option.toList_none, List.cons_append, List.nil_append, List.mem_cons, List.not_mem_nil, Prod.mk.injEq, or_false, false_or, or_true, true_or, and_true, true_and, and_false, false_and, and_self, ne_eq, not_false_eq_true, not_true_eq_false, forall_const, true_implies, false_implies, Nat.add_zero, Nat.zero_add, Nat.le_refl, Nat.zero_le, List.set_cons_zero, List.set_cons_succ, List.set_nil, ↓reduceIte, Nat.reduceAdd, Nat.reduceSub, Nat.reduceEqDiff, Nat.reduceLeDiff, Int.reduceEq, Int.reduceNe, Int.reduceNeg, reduceCtorEq, kd190]
  refine m_scale h (by omega) (by omega) e14 (by omega) fun N1 S1 F1 => ?_
  rw [pC_one_mul] at S1
  have f14 : upq μ 14 u 14 = some u := upq_e _ _ _
  have f13 : upq μ 14 u 13 = some v := by rw [upq_n (by decide)]; exact e13
  have f0 : upq μ 14 u 0 = some f := by rw [upq_n (by decide)]; exact h0
  have w14 := (S1.2.2.2.2 14 u f14).2.2.2.1
  have T1 := S1.uw (5 * (to : Int)) ((dg u : Int) - 1)
  have x14 := (T1.2.2.2.2 14 u f14).2.2.2.1
  have k204 : N1 204 = N 204 := F1 204 (by decide) (by decide)
  simp only [bk195_0, bk195_251, bk195_265, bk195_358, bk195_415, bk195_425, bk195_426, bk195_447, bk195_457, bk195_458, U_aload_n, U_iconst, U_iload_n, U_invokevirtual3, U_invokevirtual2, U_bipush, U_invokevirtual4, U_getfield, U_iald, U_icmp_le, U_invokevirtual1, U_goto, U_imul, U_iast, U_iadd, U_if_le, U_return, UN_cc, UN_cn, UN_nc, UN_nn, UJ, lget, lset, lset2, entL, wsm, wcat, Option.toList_some, Option.toList_none, List.cons_append, List.nil_append, List.mem_cons, List.not_mem_nil, Prod.mk.injEq, or_false, false_or, or_true, true_or, and_true, true_and, and_false, false_and, and_self, ne_eq, not_false_eq_true, not_true_eq_false, forall_const, true_implies, false_implies, Nat.add_zero, Nat.zero_add, Nat.le_refl, Nat.zero_le, List.set_cons_zero, List.set_cons_succ, List.set_nil, ↓reduceIte, Nat.reduceAdd, Nat.reduceSub, Nat.reduceEqDiff, Nat.reduceLeDiff, Int.reduceEq, Int.reduceNe, Int.reduceNeg, reduceCtorEq, kd190, kd199, ln199, kd204, ln204, z190_13 S1.1, z190_20 S1.1, w14, z190_13 T1.1, z190_20 T1.1, x14]
  repeat (first | refine And.intro (by decide) ?_ | refine And.intro trivial ?_ | refine And.intro (by omega) ?_)
  have aft : ∀ y1 : Int, y1 = wkD (u, v) 1 → WP 195 (0, 0) 426 [(2, 190), (0, (to : Int)), (0, a), (0, b)] [(0, y1), (0, 5 * (to : Int) + 1), (2, 204)] NN (ust N1 204 (5 * (to : Int)) ((dg u : Int) - 1)) Q := fun y1 hy1 => by
    have T2 := T1.uw (5 * (to : Int) + 1) y1
    have x2 := (T2.2.2.2.2 14 u f14).2.2.2.1
    have aft2 : ∀ y2 : Int, y2 = wkD (u, v) 2 → WP 195 (0, 0) 458 [(2, 190), (0, (to : Int)), (0, a), (0, b)] [(0, y2), (0, 5 * (to : Int) + 2), (2, 204)] NN (ust (ust N1 204 (5 * (to : Int)) ((dg u : Int) - 1)) 204 (5 * (to : Int) + 1) y1) Q := fun y2 hy2 => by
      have T3 := T2.uw (5 * (to : Int) + 2) y2
      refine WP.run [] [] 60 ?_
      simp only [bk195_0, bk195_251, bk195_265, bk195_358, bk195_415, bk195_425, bk195_426, bk195_447, bk195_457, bk195_458, U_aload_n, U_iconst, U_iload_n, U_invokevirtual3, U_invokevirtual2, U_bipush, U_invokevirtual4, U_getfield, U_iald, U_icmp_le, U_invokevirtual1, U_goto, U_imul, U_iast, U_iadd, U_if_le, U_return, UN_cc, UN_cn, UN_nc, UN_nn, UJ, lget, lset, lset2, entL, wsm, wcat, Option.toList_some, Option.toList_none, List.cons_append, List.nil_append, List.mem_cons, List.not_mem_nil, Prod.mk.injEq, or_false, false_or, or_true, true_or, and_true, true_and, and_false, false_and, and_self, ne_eq, not_false_eq_true, not_true_eq_false, forall_const, true_implies, false_implies, Nat.add_zero, Nat.zero_add, Nat.le_refl, Nat.zero_le, List.set_cons_zero, List.set_cons_succ, List.set_nil, ↓reduceIte, Nat.reduceAdd, Nat.reduceSub, Nat.reduceEqDiff, Nat.reduceLeDiff, Int.reduceEq, Int.reduceNe, Int.reduceNeg, reduceCtorEq, kd190, kd204, ln204, z190_20 T3.1]
      repeat (first | refine And.intro (by decide) ?_ | refine And.intro trivial ?_ | refine And.intro (by omega) ?_)
      refine m_get T3 f13 (r3 (by omega)) ?_
      rw [if_pos (by omega), show (0 : Int).toNat = 0 from rfl]
      have T4 := T3.uw (5 * (to : Int) + 3) (v.1 0)
      simp only [bk195_0, bk195_251, bk195_265, bk195_358, bk195_415, bk195_425, bk195_426, bk195_447, bk195_457, bk195_458, U_aload_n, U_iconst, U_iload_n, U_invokevirtual3, U_invokevirtual2, U_bipush, U_invokevirtual4, U_getfield, U_iald, U_icmp_le, U_invokevirtual1, U_goto, U_imul, U_iast, U_iadd, U_if_le, U_return, UN_cc, UN_cn, UN_nc, UN_nn, UJ, lget, lset, lset2, entL, wsm, wcat, Option.toList_some, Option.toList_none, List.cons_append, List.nil_append, List.mem_cons, List.not_mem_nil, Prod.mk.injEq, or_false, false_or, or_true, true_or, and_true, true_and, and_false, false_and, and_self, ne_eq, not_false_eq_true, not_true_eq_false, forall_const, true_implies, false_implies, Nat.add_zero, Nat.zero_add, Nat.le_refl, Nat.zero_le, List.set_cons_zero, List.set_cons_succ, List.set_nil, ↓reduceIte, Nat.reduceAdd, Nat.reduceSub, Nat.reduceEqDiff, Nat.reduceLeDiff, Int.reduceEq, Int.reduceNe, Int.reduceNeg, reduceCtorEq, kd190, kd204, ln204, z190_20 T4.1]
      repeat (first | refine And.intro (by decide) ?_ | refine And.intro trivial ?_ | refine And.intro (by omega) ?_)
      refine m_get T4 f13 (r3 (by omega)) ?_
      rw [if_pos (by omega), show (1 : Int).toNat = 1 from rfl]
      have T5 := T4.uw (5 * (to : Int) + 4) (v.1 1)
      simp only [bk195_0, bk195_251, bk195_265, bk195_358, bk195_415, bk195_425, bk195_426, bk195_447, bk195_457, bk195_458, U_aload_n, U_iconst, U_iload_n, U_invokevirtual3, U_invokevirtual2, U_bipush, U_invokevirtual4, U_getfield, U_iald, U_icmp_le, U_invokevirtual1, U_goto, U_imul, U_iast, U_iadd, U_if_le, U_return, UN_cc, UN_cn, UN_nc, UN_nn, UJ, lget, lset, lset2, entL, wsm, wcat, Option.toList_some, Option.toList_none, List.cons_append, List.nil_append, List.mem_cons, List.not_mem_nil, Prod.mk.injEq, or_false, false_or, or_true, true_or, and_true, true_and, and_false, false_and, and_self, ne_eq, not_false_eq_true, not_true_eq_false, forall_const, true_implies, false_implies, Nat.add_zero, Nat.zero_add, Nat.le_refl, Nat.zero_le, List.set_cons_zero, List.set_cons_succ, List.set_nil, ↓reduceIte, Nat.reduceAdd, Nat.reduceSub, Nat.reduceEqDiff, Nat.reduceLeDiff, Int.reduceEq, Int.reduceNe, Int.reduceNeg, reduceCtorEq, kd204, ln204]
      repeat (first | refine And.intro (by decide) ?_ | refine And.intro trivial ?_ | refine And.intro (by omega) ?_)
      refine hQ _ _ T5 f0 (fun j hj => ?_) (((((F1.pw.tr (PW.us _ _ _)).tr (PW.us _ _ _)).tr (PW.us _ _ _)).tr (PW.us _ _ _)).tr (PW.us _ _ _)) (fun i hi => ?_)
      · have : j = 0 ∨ j = 1 ∨ j = 2 ∨ j = 3 ∨ j = 4 := by omega
        rcases this with rfl | rfl | rfl | rfl | rfl
        · rw [ust_at, if_neg (by omega), ust_at, if_neg (by omega), ust_at, if_neg (by omega), ust_at, if_neg (by omega), ust_at, if_pos (by omega)]; rfl
        · rw [ust_at, if_neg (by omega), ust_at, if_neg (by omega), ust_at, if_neg (by omega), ust_at, if_pos (by omega)]; exact hy1
        · rw [ust_at, if_neg (by omega), ust_at, if_neg (by omega), ust_at, if_pos (by omega)]; exact hy2
        · rw [ust_at, if_neg (by omega), ust_at, if_pos (by omega)]; rfl
        · rw [ust_at, if_pos (by omega)]; rfl
      · rw [ust_at, if_neg (by omega), ust_at, if_neg (by omega), ust_at, if_neg (by omega), ust_at, if_neg (by omega), ust_at, if_neg (by omega), k204]
    refine WP.run [(195, 458)] [] 60 ?_
    simp only [bk195_0, bk195_251, bk195_265, bk195_358, bk195_415, bk195_425, bk195_426, bk195_447, bk195_457, bk195_458, U_aload_n, U_iconst, U_iload_n, U_invokevirtual3, U_invokevirtual2, U_bipush, U_invokevirtual4, U_getfield, U_iald, U_icmp_le, U_invokevirtual1, U_goto, U_imul, U_iast, U_iadd, U_if_le, U_return, UN_cc, UN_cn, UN_nc, UN_nn, UJ, lget, lset, lset2, entL, wsm, wcat, Option.toList_some, Option.toList_none, List.cons_append, List.nil_append, List.mem_cons, List.not_mem_nil, Prod.mk.injEq, or_false, false_or, or_true, true_or, and_true, true_and, and_false, false_and, and_self, ne_eq, not_false_eq_true, not_true_eq_false, forall_const, true_implies, false_implies, Nat.add_zero, Nat.zero_add, Nat.le_refl, Nat.zero_le, List.set_cons_zero, List.set_cons_succ, List.set_nil, ↓reduceIte, Nat.reduceAdd, Nat.reduceSub, Nat.reduceEqDiff, Nat.reduceLeDiff, Int.reduceEq, Int.reduceNe, Int.reduceNeg, reduceCtorEq, kd190, kd199, ln199, kd204, ln204, z190_13 T2.1, z190_20 T2.1, x2]
    refine ⟨by omega, by omega, by omega, by omega, rr (by omega), fun e => m_get T2 f14 (r3 (by omega)) ?_, fun e => aft2 0 (by rw [wkD_2, if_neg (by show ¬ 3 ≤ dg u; omega)])⟩
    rw [if_pos (by omega), show (1 : Int).toNat = 1 from rfl]
    simp only [bk195_0, bk195_251, bk195_265, bk195_358, bk195_415, bk195_425, bk195_426, bk195_447, bk195_457, bk195_458, U_aload_n, U_iconst, U_iload_n, U_invokevirtual3, U_invokevirtual2, U_bipush, U_invokevirtual4, U_getfield, U_iald, U_icmp_le, U_invokevirtual1, U_goto, U_imul, U_iast, U_iadd, U_if_le, U_return, UN_cc, UN_cn, UN_nc, UN_nn, UJ, lget, lset, lset2, entL, wsm, wcat, Option.toList_some, Option.toList_none, List.cons_append, List.nil_append, List.mem_cons, List.not_mem_nil, Prod.mk.injEq, or_false, false_or, or_true, true_or, and_true, true_and, and_false, false_and, and_self, ne_eq, not_false_eq_true, not_true_eq_false, forall_const, true_implies, false_implies, Nat.add_zero, Nat.zero_add, Nat.le_refl, Nat.zero_le, List.set_cons_zero, List.set_cons_succ, List.set_nil, ↓reduceIte, Nat.reduceAdd, Nat.reduceSub, Nat.reduceEqDiff, Nat.reduceLeDiff, Int.reduceEq, Int.reduceNe, Int.reduceNeg, reduceCtorEq]
    exact aft2 _ (by rw [wkD_2, if_pos (by show 3 ≤ dg u; omega)])
  refine ⟨r3 (by omega), fun e => m_get T1 f14 (r3 (by omega)) ?_, fun e => aft 0 (by rw [wkD_1, if_neg (by show ¬ 2 ≤ dg u; omega)])⟩
  rw [if_pos (by omega), show (0 : Int).toNat = 0 from rfl]
  simp only [bk195_0, bk195_251, bk195_265, bk195_358, bk195_415, bk195_425, bk195_426, bk195_447, bk195_457, bk195_458, U_aload_n, U_iconst, U_iload_n, U_invokevirtual3, U_invokevirtual2, U_bipush, U_invokevirtual4, U_getfield, U_iald, U_icmp_le, U_invokevirtual1, U_goto, U_imul, U_iast, U_iadd, U_if_le, U_return, UN_cc, UN_cn, UN_nc, UN_nn, UJ, lget, lset, lset2, entL, wsm, wcat, Option.toList_some, Option.toList_none, List.cons_append, List.nil_append, List.mem_cons, List.not_mem_nil, Prod.mk.injEq, or_false, false_or, or_true, true_or, and_true, true_and, and_false, false_and, and_self, ne_eq, not_false_eq_true, not_true_eq_false, forall_const, true_implies, false_implies, Nat.add_zero, Nat.zero_add, Nat.le_refl, Nat.zero_le, List.set_cons_zero, List.set_cons_succ, List.set_nil, ↓reduceIte, Nat.reduceAdd, Nat.reduceSub, Nat.reduceEqDiff, Nat.reduceLeDiff, Int.reduceEq, Int.reduceNe, Int.reduceNeg, reduceCtorEq]
  exact aft _ (by rw [wkD_1, if_pos (by show 2 ≤ dg u; omega)])
