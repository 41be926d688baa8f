/-! THE MODEL'S FOLD: where y is 0 -/
def FoR (p : Int) (zf : Prop) (c : Int) (N : Mem) : Prop := ∀ j : Nat, j < 6 → 0 ≤ N c (j : Int) ∧ N c (j : Int) < p ∧ (zf → N c (j : Int) = 0)
theorem FoR.fx {p : Int} {zf : Prop} {c : Int} {N N' : Mem} (h : FoR p zf c N) (e : N' c = N c) : FoR p zf c N' := fun j hj => by rw [e]; exact h j hj
set_option maxHeartbeats 16000000 in
theorem l_f3 {p : Int} {N : Mem} {Q : Post} {zf : Prop} {j : Nat} {b k s n : Int} (hp : Pr p) (hz : Fz N) (hj : j < 6) (h5 : FoR p zf 215 N) (h6 : FoR p False 216 N) (hQ : ∀ v : Int, 0 ≤ v ∧ v ≤ 6 * 169 → (zf → v = 0) → ∀ e : V, WP 218 (0, 0) 136 [(2, 190), (0, b), (0, k), (0, s), (0, n), (0, (j : Int)), (0, v), e] [] NN N Q) :
    ∀ (m i : Nat) (v : Int), i + m = j + 1 → 0 ≤ v ∧ v ≤ i * 169 → (zf → v = 0) → WP 218 (0, 0) 100 [(2, 190), (0, b), (0, k), (0, s), (0, n), (0, (j : Int)), (0, v), (0, (i : Int))] [] NN N Q := by
  have hpp := hp.pos
  intro m
  induction m with
  | zero =>
    intro i v hi hv hzv
    have nx := hQ v (by omega) hzv (0, (i : Int))
    refine WP.run [(218, 100), (218, 136)] [] 60 ?_
    simp only [bk218_0, bk218_13, bk218_19, bk218_32, bk218_34, bk218_39, bk218_44, bk218_51, bk218_62, bk218_66, bk218_67, bk218_74, bk218_77, bk218_86, bk218_89, bk218_94, bk218_100, bk218_107, bk218_136, bk218_156, bk218_159, bk218_166, bk218_186, bk218_209, bk218_220, bk218_224, bk218_225, bk218_243, bk218_245, bk218_250, bk218_270, U_aload_n, U_getfield, U_iconst, U_iald, U_invokevirtual1, U_istore_n, U_iload_n, U_bipush, U_icmp_ge, U_iast, U_iinc, U_goto, U_istore, U_iload, U_if_ne, U_icmp_gt, U_if_lt, U_isub, U_imul, U_iadd, U_irem, U_icmp_ne, U_return, UN_cc, UN_cn, UN_nc, UN_nn, UJ, lget, lset, lset2, entL, wsm, wcat, Option.toList_some, Option.toList_none, List.cons_append, List.nil_append, List.mem_cons, List.not_mem_nil, Prod.mk.injEq, or_false, false_or, or_true, true_or, and_true, true_and, and_false, false_and, and_self, ne_eq, not_false_eq_true, not_true_eq_false, forall_const, true_implies, false_implies, Nat.add_zero, Nat.zero_add, Nat.le_refl, Nat.zero_le, List.set_cons_zero, List.set_cons_succ, List.set_nil, ↓reduceIte, Nat.reduceAdd, Nat.reduceSub, Nat.reduceEqDiff, Nat.reduceLeDiff, Int.reduceEq, Int.reduceNe, Int.reduceNeg, reduceCtorEq]
    repeat' (first | refine And.intro (by omega) ?_ | refine And.intro (rr (by omega)) ?_ | refine And.intro (r3 (by omega)) ?_ | refine And.intro (r6 (by omega)) ?_ | ((fail_if_success (show WP _ _ _ _ _ _ _ _)); (first | refine And.intro ?_ ?_ | intro _)))
    all_goals first | (exfalso; omega) | exact nx
  | succ m ih =>
    intro i v hi hv hzv
    obtain ⟨a1, a2, a3⟩ := h5 (j - i) (by omega)
    obtain ⟨c1, c2, c3⟩ := h6 i (by omega)
    rw [show ((j - i : Nat) : Int) = (j : Int) - (i : Int) by omega] at a1 a2 a3
    generalize hu : N 215 ((j : Int) - (i : Int)) = u at *
    generalize hw : N 216 (i : Int) = w at *
    have b1 := mb (x := w) (y := u) (by omega) (by omega)
    have nx := ih (i + 1) (v + w * u) (by omega) (by omega) (fun q => by rw [hzv q, a3 q, Int.mul_zero]; rfl)
    refine WP.run [(218, 100), (218, 136)] [] 60 ?_
    simp only [bk218_0, bk218_13, bk218_19, bk218_32, bk218_34, bk218_39, bk218_44, bk218_51, bk218_62, bk218_66, bk218_67, bk218_74, bk218_77, bk218_86, bk218_89, bk218_94, bk218_100, bk218_107, bk218_136, bk218_156, bk218_159, bk218_166, bk218_186, bk218_209, bk218_220, bk218_224, bk218_225, bk218_243, bk218_245, bk218_250, bk218_270, U_aload_n, U_getfield, U_iconst, U_iald, U_invokevirtual1, U_istore_n, U_iload_n, U_bipush, U_icmp_ge, U_iast, U_iinc, U_goto, U_istore, U_iload, U_if_ne, U_icmp_gt, U_if_lt, U_isub, U_imul, U_iadd, U_irem, U_icmp_ne, U_return, UN_cc, UN_cn, UN_nc, UN_nn, UJ, lget, lset, lset2, entL, wsm, wcat, Option.toList_some, Option.toList_none, List.cons_append, List.nil_append, List.mem_cons, List.not_mem_nil, Prod.mk.injEq, or_false, false_or, or_true, true_or, and_true, true_and, and_false, false_and, and_self, ne_eq, not_false_eq_true, not_true_eq_false, forall_const, true_implies, false_implies, Nat.add_zero, Nat.zero_add, Nat.le_refl, Nat.zero_le, List.set_cons_zero, List.set_cons_succ, List.set_nil, ↓reduceIte, Nat.reduceAdd, Nat.reduceSub, Nat.reduceEqDiff, Nat.reduceLeDiff, Int.reduceEq, Int.reduceNe, Int.reduceNeg, reduceCtorEq, kd190, kd215, kd216, ln215, ln216, z190_33 hz, z190_34 hz, hu, hw, show (i : Int) + 1 = ((i + 1 : Nat) : Int) by omega]
    repeat' (first | refine And.intro (by omega) ?_ | refine And.intro (rr (by omega)) ?_ | refine And.intro (r3 (by omega)) ?_ | refine And.intro (r6 (by omega)) ?_ | ((fail_if_success (show WP _ _ _ _ _ _ _ _)); (first | refine And.intro ?_ ?_ | intro _)))
    all_goals first | (exfalso; omega) | exact nx
set_option maxHeartbeats 16000000 in
theorem l_f4 {p : Int} {N : Mem} {Q : Post} {zf : Prop} {b k s n : Int} (hp : Pr p) (hz : Fz N) (h0 : N 190 0 = p) (h5 : FoR p zf 215 N) (h6 : FoR p False 216 N) (hQ : ∀ N', FM [212] [] N N' → FoR p zf 212 N' → ∀ c d e : V, WP 218 (0, 0) 156 [(2, 190), (0, b), (0, k), (0, s), (0, n), c, d, e] [] NN N' Q) :
    ∀ (j : Nat) (d e : V) (Ni : Mem), j ≤ 6 → FM [212] [] N Ni → (∀ l : Nat, j ≤ l → l < 6 → 0 ≤ Ni 212 (l : Int) ∧ Ni 212 (l : Int) < p ∧ (zf → Ni 212 (l : Int) = 0)) → WP 218 (0, 0) 89 [(2, 190), (0, b), (0, k), (0, s), (0, n), (0, (j : Int) - 1), d, e] [] NN Ni Q := by
  have hpp := hp.pos
  intro j
  induction j with
  | zero =>
    intro d e Ni hj hF hA
    have nx := hQ Ni hF (fun l hl => hA l (Nat.zero_le _) hl) (0, ((0 : Nat) : Int) - 1) d e
    refine WP.run [(218, 89), (218, 156)] [] 60 ?_
    simp only [bk218_0, bk218_13, bk218_19, bk218_32, bk218_34, bk218_39, bk218_44, bk218_51, bk218_62, bk218_66, bk218_67, bk218_74, bk218_77, bk218_86, bk218_89, bk218_94, bk218_100, bk218_107, bk218_136, bk218_156, bk218_159, bk218_166, bk218_186, bk218_209, bk218_220, bk218_224, bk218_225, bk218_243, bk218_245, bk218_250, bk218_270, U_aload_n, U_getfield, U_iconst, U_iald, U_invokevirtual1, U_istore_n, U_iload_n, U_bipush, U_icmp_ge, U_iast, U_iinc, U_goto, U_istore, U_iload, U_if_ne, U_icmp_gt, U_if_lt, U_isub, U_imul, U_iadd, U_irem, U_icmp_ne, U_return, UN_cc, UN_cn, UN_nc, UN_nn, UJ, lget, lset, lset2, entL, wsm, wcat, Option.toList_some, Option.toList_none, List.cons_append, List.nil_append, List.mem_cons, List.not_mem_nil, Prod.mk.injEq, or_false, false_or, or_true, true_or, and_true, true_and, and_false, false_and, and_self, ne_eq, not_false_eq_true, not_true_eq_false, forall_const, true_implies, false_implies, Nat.add_zero, Nat.zero_add, Nat.le_refl, Nat.zero_le, List.set_cons_zero, List.set_cons_succ, List.set_nil, ↓reduceIte, Nat.reduceAdd, Nat.reduceSub, Nat.reduceEqDiff, Nat.reduceLeDiff, Int.reduceEq, Int.reduceNe, Int.reduceNeg, reduceCtorEq]
    repeat' (first | refine And.intro (by omega) ?_ | refine And.intro (rr (by omega)) ?_ | refine And.intro (r3 (by omega)) ?_ | refine And.intro (r6 (by omega)) ?_ | ((fail_if_success (show WP _ _ _ _ _ _ _ _)); (first | refine And.intro ?_ ?_ | intro _)))
    all_goals first | (exfalso; omega) | exact nx
  | succ j ih =>
    intro d e Ni hj hF hA
    have hz' := hF.fz (fzk rfl rfl) hz
    have hP := hF.2 0 (by simp)
    rw [h0] at hP
    have nx := l_f3 (Q := Q) (j := j) (b := b) (k := k) (s := s) (n := n) hp hz' (by omega) (h5.fx (hF.1 215 (by decide) (by decide))) (h6.fx (hF.1 216 (by decide) (by decide))) (fun v hv hzv e2 => by
      have nx2 : WP 218 (0, 0) 89 [(2, 190), (0, b), (0, k), (0, s), (0, n), (0, (j : Int) - 1), (0, v), e2] [] NN (ust Ni 212 (j : Int) (v % p)) Q := by
        refine ih (0, v) e2 _ (by omega) (hF.us _ _ (by simp) (by decide)) (fun l h1 h2 => ?_)
        rw [ust_at]
        by_cases c : l = j
        · rw [if_pos (by omega)]
          exact ⟨Int.emod_nonneg _ (by omega), Int.emod_lt_of_pos _ (by omega), fun q => by rw [hzv q, Int.zero_emod]⟩
        · rw [if_neg (by omega)]; exact hA l (by omega) h2
      refine WP.run [(218, 89)] [] 60 ?_
      simp only [bk218_0, bk218_13, bk218_19, bk218_32, bk218_34, bk218_39, bk218_44, bk218_51, bk218_62, bk218_66, bk218_67, bk218_74, bk218_77, bk218_86, bk218_89, bk218_94, bk218_100, bk218_107, bk218_136, bk218_156, bk218_159, bk218_166, bk218_186, bk218_209, bk218_220, bk218_224, bk218_225, bk218_243, bk218_245, bk218_250, bk218_270, U_aload_n, U_getfield, U_iconst, U_iald, U_invokevirtual1, U_istore_n, U_iload_n, U_bipush, U_icmp_ge, U_iast, U_iinc, U_goto, U_istore, U_iload, U_if_ne, U_icmp_gt, U_if_lt, U_isub, U_imul, U_iadd, U_irem, U_icmp_ne, U_return, UN_cc, UN_cn, UN_nc, UN_nn, UJ, lget, lset, lset2, entL, wsm, wcat, Option.toList_some, Option.toList_none, List.cons_append, List.nil_append, List.mem_cons, List.not_mem_nil, Prod.mk.injEq, or_false, false_or, or_true, true_or, and_true, true_and, and_false, false_and, and_self, ne_eq, not_false_eq_true, not_true_eq_false, forall_const, true_implies, false_implies, Nat.add_zero, Nat.zero_add, Nat.le_refl, Nat.zero_le, List.set_cons_zero, List.set_cons_succ, List.set_nil, ↓reduceIte, Nat.reduceAdd, Nat.reduceSub, Nat.reduceEqDiff, Nat.reduceLeDiff, Int.reduceEq, Int.reduceNe, Int.reduceNeg, reduceCtorEq, kd190, kd212, ln212, z190_29 hz', hP, show (j : Int) + -1 = (j : Int) - 1 by omega]
      rw [tm_nn hv.1]
      repeat' (first | refine And.intro (by omega) ?_ | refine And.intro (rr (by omega)) ?_ | refine And.intro (r3 (by omega)) ?_ | refine And.intro (r6 (by omega)) ?_ | ((fail_if_success (show WP _ _ _ _ _ _ _ _)); (first | refine And.intro ?_ ?_ | intro _)))
      all_goals first | (exfalso; omega) | exact nx2) (j + 1) 0 0 (by omega) (by omega) (fun _ => rfl)
    refine WP.run [(218, 89), (218, 100), (218, 156)] [] 60 ?_
    simp only [bk218_0, bk218_13, bk218_19, bk218_32, bk218_34, bk218_39, bk218_44, bk218_51, bk218_62, bk218_66, bk218_67, bk218_74, bk218_77, bk218_86, bk218_89, bk218_94, bk218_100, bk218_107, bk218_136, bk218_156, bk218_159, bk218_166, bk218_186, bk218_209, bk218_220, bk218_224, bk218_225, bk218_243, bk218_245, bk218_250, bk218_270, U_aload_n, U_getfield, U_iconst, U_iald, U_invokevirtual1, U_istore_n, U_iload_n, U_bipush, U_icmp_ge, U_iast, U_iinc, U_goto, U_istore, U_iload, U_if_ne, U_icmp_gt, U_if_lt, U_isub, U_imul, U_iadd, U_irem, U_icmp_ne, U_return, UN_cc, UN_cn, UN_nc, UN_nn, UJ, lget, lset, lset2, entL, wsm, wcat, Option.toList_some, Option.toList_none, List.cons_append, List.nil_append, List.mem_cons, List.not_mem_nil, Prod.mk.injEq, or_false, false_or, or_true, true_or, and_true, true_and, and_false, false_and, and_self, ne_eq, not_false_eq_true, not_true_eq_false, forall_const, true_implies, false_implies, Nat.add_zero, Nat.zero_add, Nat.le_refl, Nat.zero_le, List.set_cons_zero, List.set_cons_succ, List.set_nil, ↓reduceIte, Nat.reduceAdd, Nat.reduceSub, Nat.reduceEqDiff, Nat.reduceLeDiff, Int.reduceEq, Int.reduceNe, Int.reduceNeg, reduceCtorEq, show ((j + 1 : Nat) : Int) - 1 = (j : Int) by omega]
    repeat' (first | refine And.intro (by omega) ?_ | refine And.intro (rr (by omega)) ?_ | refine And.intro (r3 (by omega)) ?_ | refine And.intro (r6 (by omega)) ?_ | ((fail_if_success (show WP _ _ _ _ _ _ _ _)); (first | refine And.intro ?_ ?_ | intro _)))
    all_goals first | (exfalso; omega) | exact nx
set_option maxHeartbeats 16000000 in
theorem l_f5 {p : Int} {N : Mem} {Q : Post} {zf : Prop} {b k s n : Int} {d e : V} (hp : Pr p) (hz : Fz N) (h2 : FoR p zf 212 N) (hQ : ∀ N', FM [216] [] N N' → FoR p zf 216 N' → ∀ c : V, WP 218 (0, 0) 186 [(2, 190), (0, b), (0, k), (0, s), (0, n), c, d, e] [] NN N' Q) :
    ∀ (m j : Nat) (Ni : Mem), j + m = 6 → FM [216] [] N Ni → (∀ l : Nat, l < j → 0 ≤ Ni 216 (l : Int) ∧ Ni 216 (l : Int) < p ∧ (zf → Ni 216 (l : Int) = 0)) → WP 218 (0, 0) 159 [(2, 190), (0, b), (0, k), (0, s), (0, n), (0, (j : Int)), d, e] [] NN Ni Q := by
  have hpp := hp.pos
  intro m
  induction m with
  | zero =>
    intro j Ni hj hF hA
    obtain rfl : j = 6 := by omega
    have nx := hQ Ni hF (fun l hl => hA l hl) (0, ((6 : Nat) : Int))
    refine WP.run [(218, 159), (218, 186)] [] 60 ?_
    simp only [bk218_0, bk218_13, bk218_19, bk218_32, bk218_34, bk218_39, bk218_44, bk218_51, bk218_62, bk218_66, bk218_67, bk218_74, bk218_77, bk218_86, bk218_89, bk218_94, bk218_100, bk218_107, bk218_136, bk218_156, bk218_159, bk218_166, bk218_186, bk218_209, bk218_220, bk218_224, bk218_225, bk218_243, bk218_245, bk218_250, bk218_270, U_aload_n, U_getfield, U_iconst, U_iald, U_invokevirtual1, U_istore_n, U_iload_n, U_bipush, U_icmp_ge, U_iast, U_iinc, U_goto, U_istore, U_iload, U_if_ne, U_icmp_gt, U_if_lt, U_isub, U_imul, U_iadd, U_irem, U_icmp_ne, U_return, UN_cc, UN_cn, UN_nc, UN_nn, UJ, lget, lset, lset2, entL, wsm, wcat, Option.toList_some, Option.toList_none, List.cons_append, List.nil_append, List.mem_cons, List.not_mem_nil, Prod.mk.injEq, or_false, false_or, or_true, true_or, and_true, true_and, and_false, false_and, and_self, ne_eq, not_false_eq_true, not_true_eq_false, forall_const, true_implies, false_implies, Nat.add_zero, Nat.zero_add, Nat.le_refl, Nat.zero_le, List.set_cons_zero, List.set_cons_succ, List.set_nil, ↓reduceIte, Nat.reduceAdd, Nat.reduceSub, Nat.reduceEqDiff, Nat.reduceLeDiff, Int.reduceEq, Int.reduceNe, Int.reduceNeg, reduceCtorEq]
    repeat' (first | refine And.intro (by omega) ?_ | refine And.intro (rr (by omega)) ?_ | refine And.intro (r3 (by omega)) ?_ | refine And.intro (r6 (by omega)) ?_ | ((fail_if_success (show WP _ _ _ _ _ _ _ _)); (first | refine And.intro ?_ ?_ | intro _)))
    all_goals first | (exfalso; omega) | exact nx
  | succ m ih =>
    intro j Ni hj hF hA
    have hz' := hF.fz (fzk rfl rfl) hz
    have a := (h2.fx (N' := Ni) (hF.1 212 (by decide) (by decide))) j (by omega)
    generalize hu : Ni 212 (j : Int) = u at *
    have nx : WP 218 (0, 0) 159 [(2, 190), (0, b), (0, k), (0, s), (0, n), (0, ((j + 1 : Nat) : Int)), d, e] [] NN (ust Ni 216 (j : Int) u) Q := by
      refine ih (j + 1) _ (by omega) (hF.us _ _ (by simp) (by decide)) (fun l h1 => ?_)
      rw [ust_at]
      by_cases c : l = j
      · rw [if_pos (by omega)]; exact a
      · rw [if_neg (by omega)]; exact hA l (by omega)
    refine WP.run [(218, 159), (218, 186)] [] 60 ?_
    simp only [bk218_0, bk218_13, bk218_19, bk218_32, bk218_34, bk218_39, bk218_44, bk218_51, bk218_62, bk218_66, bk218_67, bk218_74, bk218_77, bk218_86, bk218_89, bk218_94, bk218_100, bk218_107, bk218_136, bk218_156, bk218_159, bk218_166, bk218_186, bk218_209, bk218_220, bk218_224, bk218_225, bk218_243, bk218_245, bk218_250, bk218_270, U_aload_n, U_getfield, U_iconst, U_iald, U_invokevirtual1, U_istore_n, U_iload_n, U_bipush, U_icmp_ge, U_iast, U_iinc, U_goto, U_istore, U_iload, U_if_ne, U_icmp_gt, U_if_lt, U_isub, U_imul, U_iadd, U_irem, U_icmp_ne, U_return, UN_cc, UN_cn, UN_nc, UN_nn, UJ, lget, lset, lset2, entL, wsm, wcat, Option.toList_some, Option.toList_none, List.cons_append, List.nil_append, List.mem_cons, List.not_mem_nil, Prod.mk.injEq, or_false, false_or, or_true, true_or, and_true, true_and, and_false, false_and, and_self, ne_eq, not_false_eq_true, not_true_eq_false, forall_const, true_implies, false_implies, Nat.add_zero, Nat.zero_add, Nat.le_refl, Nat.zero_le, List.set_cons_zero, List.set_cons_succ, List.set_nil, ↓reduceIte, Nat.reduceAdd, Nat.reduceSub, Nat.reduceEqDiff, Nat.reduceLeDiff, Int.reduceEq, Int.reduceNe, Int.reduceNeg, reduceCtorEq, kd190, kd212, kd216, ln212, ln216, z190_29 hz', z190_34 hz', hu]
    repeat' (first | refine And.intro (by omega) ?_ | refine And.intro (rr (by omega)) ?_ | refine And.intro (r3 (by omega)) ?_ | refine And.intro (r6 (by omega)) ?_ | ((fail_if_success (show WP _ _ _ _ _ _ _ _)); (first | refine And.intro ?_ ?_ | intro _)))
    all_goals first | (exfalso; omega) | exact nx
set_option maxHeartbeats 16000000 in
theorem l_f6 {p : Int} {N : Mem} {Q : Post} {zf : Prop} {b : Int} {k D : Nat} (hp : Pr p) (hz : Fz N) (h0 : N 190 0 = p) (hD : N 190 1 = (D : Int)) (hD5 : D ≤ 5) (hk : k < 6) (h5 : FoR p zf 215 N) (hs : ∀ i : Nat, i ≤ D → 0 ≤ N 211 (i : Int) ∧ N 211 (i : Int) < p) (hQ : ∀ N', FM [212, 216] [] N N' → ∀ s : Int, 0 ≤ s ∧ s ≤ 6 * 169 → (zf → s = 0) → ∀ a c d e : V, WP 218 (0, 0) 209 [(2, 190), (0, b), (0, (k : Int)), (0, s), a, c, d, e] [] NN N' Q) :
    ∀ (m n : Nat) (s : Int) (c d e : V) (Ni : Mem), n + m = D + 1 → FM [212, 216] [] N Ni → FoR p False 216 Ni → 0 ≤ s ∧ s ≤ n * 169 → (zf → s = 0) → WP 218 (0, 0) 77 [(2, 190), (0, b), (0, (k : Int)), (0, s), (0, (n : Int)), c, d, e] [] NN Ni Q := by
  have hpp := hp.pos
  intro m
  induction m with
  | zero =>
    intro n s c d e Ni hn hF h6 hs1 hs2
    obtain rfl : n = D + 1 := by omega
    have hD' := hF.2 1 (by simp)
    rw [hD] at hD'
    have nx := hQ Ni hF s (by omega) hs2 (0, ((D + 1 : Nat) : Int)) c d e
    refine WP.run [(218, 77), (218, 209)] [] 60 ?_
    simp only [bk218_0, bk218_13, bk218_19, bk218_32, bk218_34, bk218_39, bk218_44, bk218_51, bk218_62, bk218_66, bk218_67, bk218_74, bk218_77, bk218_86, bk218_89, bk218_94, bk218_100, bk218_107, bk218_136, bk218_156, bk218_159, bk218_166, bk218_186, bk218_209, bk218_220, bk218_224, bk218_225, bk218_243, bk218_245, bk218_250, bk218_270, U_aload_n, U_getfield, U_iconst, U_iald, U_invokevirtual1, U_istore_n, U_iload_n, U_bipush, U_icmp_ge, U_iast, U_iinc, U_goto, U_istore, U_iload, U_if_ne, U_icmp_gt, U_if_lt, U_isub, U_imul, U_iadd, U_irem, U_icmp_ne, U_return, UN_cc, UN_cn, UN_nc, UN_nn, UJ, lget, lset, lset2, entL, wsm, wcat, Option.toList_some, Option.toList_none, List.cons_append, List.nil_append, List.mem_cons, List.not_mem_nil, Prod.mk.injEq, or_false, false_or, or_true, true_or, and_true, true_and, and_false, false_and, and_self, ne_eq, not_false_eq_true, not_true_eq_false, forall_const, true_implies, false_implies, Nat.add_zero, Nat.zero_add, Nat.le_refl, Nat.zero_le, List.set_cons_zero, List.set_cons_succ, List.set_nil, ↓reduceIte, Nat.reduceAdd, Nat.reduceSub, Nat.reduceEqDiff, Nat.reduceLeDiff, Int.reduceEq, Int.reduceNe, Int.reduceNeg, reduceCtorEq, kd190, hD']
    repeat' (first | refine And.intro (by omega) ?_ | refine And.intro (rr (by omega)) ?_ | refine And.intro (r3 (by omega)) ?_ | refine And.intro (r6 (by omega)) ?_ | ((fail_if_success (show WP _ _ _ _ _ _ _ _)); (first | refine And.intro ?_ ?_ | intro _)))
    all_goals first | (exfalso; omega) | exact nx
  | succ m ih =>
    intro n s c d e Ni hn hF h6 hs1 hs2
    have hD' := hF.2 1 (by simp)
    rw [hD] at hD'
    have hP := hF.2 0 (by simp)
    rw [h0] at hP
    have hz' := hF.fz (fzk rfl rfl) hz
    have nx : WP 218 (0, 0) 89 [(2, 190), (0, b), (0, (k : Int)), (0, s), (0, (n : Int)), (0, ((6 : Nat) : Int) - 1), d, e] [] NN Ni Q := by
      refine l_f4 hp hz' hP (h5.fx (hF.1 215 (by decide) (by decide))) h6 (fun N1 F1 g1 c1 d1 e1 => ?_) 6 d e Ni (by omega) (FM.rf _ _ _) (fun l h1 h2 => absurd h1 (by omega))
      have hz1 := F1.fz (fzk rfl rfl) hz'
      have nx2 : WP 218 (0, 0) 159 [(2, 190), (0, b), (0, (k : Int)), (0, s), (0, (n : Int)), (0, ((0 : Nat) : Int)), d1, e1] [] NN N1 Q := by
        refine l_f5 hp hz1 g1 (fun N2 F2 g2 c2 => ?_) 6 0 N1 (by omega) (FM.rf _ _ _) (fun l h1 => absurd h1 (Nat.not_lt_zero l))
        have F12 : FM [212, 216] [] N N2 := (hF.tr (F1.mo rfl rfl)).tr (F2.mo rfl rfl)
        have hz2 := F2.fz (fzk rfl rfl) hz1
        have sv := hs n (by omega)
        rw [← F12.1 211 (by decide) (by decide)] at sv
        obtain ⟨w1, w2, w3⟩ := g2 k hk
        generalize hu : N2 211 (n : Int) = u at *
        generalize hw : N2 216 (k : Int) = w at *
        have b1 := mb (x := u) (y := w) (by omega) (by omega)
        have nx3 := ih (n + 1) (s + u * w) c2 d1 e1 N2 (by omega) F12 (fun l hl => ⟨(g2 l hl).1, (g2 l hl).2.1, fun q => q.elim⟩) (by omega) (fun q => by rw [hs2 q, w3 q, Int.mul_zero]; rfl)
        refine WP.run [(218, 77)] [] 60 ?_
        simp only [bk218_0, bk218_13, bk218_19, bk218_32, bk218_34, bk218_39, bk218_44, bk218_51, bk218_62, bk218_66, bk218_67, bk218_74, bk218_77, bk218_86, bk218_89, bk218_94, bk218_100, bk218_107, bk218_136, bk218_156, bk218_159, bk218_166, bk218_186, bk218_209, bk218_220, bk218_224, bk218_225, bk218_243, bk218_245, bk218_250, bk218_270, U_aload_n, U_getfield, U_iconst, U_iald, U_invokevirtual1, U_istore_n, U_iload_n, U_bipush, U_icmp_ge, U_iast, U_iinc, U_goto, U_istore, U_iload, U_if_ne, U_icmp_gt, U_if_lt, U_isub, U_imul, U_iadd, U_irem, U_icmp_ne, U_return, UN_cc, UN_cn, UN_nc, UN_nn, UJ, lget, lset, lset2, entL, wsm, wcat, Option.toList_some, Option.toList_none, List.cons_append, List.nil_append, List.mem_cons, List.not_mem_nil, Prod.mk.injEq, or_false, false_or, or_true, true_or, and_true, true_and, and_false, false_and, and_self, ne_eq, not_false_eq_true, not_true_eq_false, forall_const, true_implies, false_implies, Nat.add_zero, Nat.zero_add, Nat.le_refl, Nat.zero_le, List.set_cons_zero, List.set_cons_succ, List.set_nil, ↓reduceIte, Nat.reduceAdd, Nat.reduceSub, Nat.reduceEqDiff, Nat.reduceLeDiff, Int.reduceEq, Int.reduceNe, Int.reduceNeg, reduceCtorEq, kd190, kd211, kd216, ln211, ln216, z190_28 hz2, z190_34 hz2, hu, hw]
        repeat' (first | refine And.intro (by omega) ?_ | refine And.intro (rr (by omega)) ?_ | refine And.intro (r3 (by omega)) ?_ | refine And.intro (r6 (by omega)) ?_ | ((fail_if_success (show WP _ _ _ _ _ _ _ _)); (first | refine And.intro ?_ ?_ | intro _)))
        all_goals first | (exfalso; omega) | exact nx3
      refine WP.run [(218, 159)] [] 60 ?_
      simp only [bk218_0, bk218_13, bk218_19, bk218_32, bk218_34, bk218_39, bk218_44, bk218_51, bk218_62, bk218_66, bk218_67, bk218_74, bk218_77, bk218_86, bk218_89, bk218_94, bk218_100, bk218_107, bk218_136, bk218_156, bk218_159, bk218_166, bk218_186, bk218_209, bk218_220, bk218_224, bk218_225, bk218_243, bk218_245, bk218_250, bk218_270, U_aload_n, U_getfield, U_iconst, U_iald, U_invokevirtual1, U_istore_n, U_iload_n, U_bipush, U_icmp_ge, U_iast, U_iinc, U_goto, U_istore, U_iload, U_if_ne, U_icmp_gt, U_if_lt, U_isub, U_imul, U_iadd, U_irem, U_icmp_ne, U_return, UN_cc, UN_cn, UN_nc, UN_nn, UJ, lget, lset, lset2, entL, wsm, wcat, Option.toList_some, Option.toList_none, List.cons_append, List.nil_append, List.mem_cons, List.not_mem_nil, Prod.mk.injEq, or_false, false_or, or_true, true_or, and_true, true_and, and_false, false_and, and_self, ne_eq, not_false_eq_true, not_true_eq_false, forall_const, true_implies, false_implies, Nat.add_zero, Nat.zero_add, Nat.le_refl, Nat.zero_le, List.set_cons_zero, List.set_cons_succ, List.set_nil, ↓reduceIte, Nat.reduceAdd, Nat.reduceSub, Nat.reduceEqDiff, Nat.reduceLeDiff, Int.reduceEq, Int.reduceNe, Int.reduceNeg, reduceCtorEq]
      exact nx2
    refine WP.run [(218, 77), (218, 89), (218, 209)] [] 60 ?_
    simp only [bk218_0, bk218_13, bk218_19, bk218_32, bk218_34, bk218_39, bk218_44, bk218_51, bk218_62, bk218_66, bk218_67, bk218_74, bk218_77, bk218_86, bk218_89, bk218_94, bk218_100, bk218_107, bk218_136, bk218_156, bk218_159, bk218_166, bk218_186, bk218_209, bk218_220, bk218_224, bk218_225, bk218_243, bk218_245, bk218_250, bk218_270, U_aload_n, U_getfield, U_iconst, U_iald, U_invokevirtual1, U_istore_n, U_iload_n, U_bipush, U_icmp_ge, U_iast, U_iinc, U_goto, U_istore, U_iload, U_if_ne, U_icmp_gt, U_if_lt, U_isub, U_imul, U_iadd, U_irem, U_icmp_ne, U_return, UN_cc, UN_cn, UN_nc, UN_nn, UJ, lget, lset, lset2, entL, wsm, wcat, Option.toList_some, Option.toList_none, List.cons_append, List.nil_append, List.mem_cons, List.not_mem_nil, Prod.mk.injEq, or_false, false_or, or_true, true_or, and_true, true_and, and_false, false_and, and_self, ne_eq, not_false_eq_true, not_true_eq_false, forall_const, true_implies, false_implies, Nat.add_zero, Nat.zero_add, Nat.le_refl, Nat.zero_le, List.set_cons_zero, List.set_cons_succ, List.set_nil, ↓reduceIte, Nat.reduceAdd, Nat.reduceSub, Nat.reduceEqDiff, Nat.reduceLeDiff, Int.reduceEq, Int.reduceNe, Int.reduceNeg, reduceCtorEq, kd190, hD']
    repeat' (first | refine And.intro (by omega) ?_ | refine And.intro (rr (by omega)) ?_ | refine And.intro (r3 (by omega)) ?_ | refine And.intro (r6 (by omega)) ?_ | ((fail_if_success (show WP _ _ _ _ _ _ _ _)); (first | refine And.intro ?_ ?_ | intro _)))
    all_goals first | (exfalso; omega) | exact nx
