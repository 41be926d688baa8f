/-! THE MODEL'S SERIES AT A POINT: f there, whole; the root -/
theorem shf_0 (a : Nat → Int) : shf 0 a = a := rfl
set_option maxHeartbeats 16000000 in
theorem l_ex3 {p : Int} {N : Mem} {Q : Post} {f : Pz p} {g j : Nat} {q : Int × Int} {b c : V} (hp : Pr p) (hG : MG f g N) (hPt : PtA N 192 193 (ptl f p.toNat)) (hj : (ptl f p.toNat)[j]? = some q) (hd : dg f = 4 ∨ dg f = 6) (hQ : ∀ N', FM [209, 210, 211] [] N N' → (∀ k : Nat, k < 10 → N' 209 (k : Int) = 0 ∧ N' 210 (k : Int) = 0) → (∀ k : Nat, k < dg f → N' 211 (k : Int) = hsq p q.1 (dg f) f.1 k) → ∀ i a : V, WP 219 (0, 0) 145 [(2, 190), (0, (j : Int) + 1), i, a, b, c] [] NN N' Q) :
    ∀ (n m : Nat) (a : V) (Ni : Mem), m + n = dg f → FM [209, 210, 211] [] N Ni → (∀ k : Nat, k < 10 → Ni 209 (k : Int) = 0 ∧ Ni 210 (k : Int) = 0) → (∀ k : Nat, k < dg f → Ni 211 (k : Int) = hsq p q.1 m (shf n f.1) k) → WP 219 (0, 0) 56 [(2, 190), (0, (j : Int) + 1), (0, (n : Int) - 1), a, b, c] [] NN Ni Q := by
  have hpp := hp.pos
  have h26 := ptl_26 hp f
  have hjl : j < (ptl f p.toNat).length := (List.getElem?_eq_some_iff.mp hj).1
  have hq := ptl_rg hp f p.toNat (by omega) q (List.mem_of_getElem? hj)
  intro n
  induction n with
  | zero =>
    intro m a Ni hm hF hA hB
    obtain rfl : m = dg f := by omega
    have nx := hQ Ni hF hA hB (0, ((0 : Nat) : Int) - 1) a
    refine WP.run [(219, 56), (219, 145)] [] 60 ?_
    simp only [bk219_0, bk219_2, bk219_8, bk219_28, bk219_30, bk219_38, bk219_51, bk219_56, bk219_60, bk219_65, bk219_69, bk219_108, bk219_145, bk219_166, bk219_205, bk219_211, bk219_219, bk219_228, bk219_229, bk219_234, bk219_240, bk219_268, bk219_292, bk219_293, U_iconst, U_istore_n, U_iload_n, U_bipush, U_icmp_ge, U_aload_n, U_getfield, U_iast, U_iinc, U_goto, U_icmp_gt, U_if_lt, U_if_le, U_iald, U_imul, U_isub, U_iadd, U_irem, U_invokevirtual2, U_if_eq, U_invokevirtual1, U_istore, U_iload, U_return, U_invokevirtual0, UN_cc, UN_cn, UN_nc, UN_nn, UJ, lget, lset, lset2, entL, wsm, wcat, Option.toList_some, Option.toList_none, List.cons_append, List.nil_append, List.mem_cons, List.not_mem_nil, Prod.mk.injEq, or_false, false_or, or_true, true_or, and_true, true_and, and_false, false_and, and_self, ne_eq, not_false_eq_true, not_true_eq_false, forall_const, true_implies, false_implies, Nat.add_zero, Nat.zero_add, Nat.le_refl, Nat.zero_le, List.set_cons_zero, List.set_cons_succ, List.set_nil, ↓reduceIte, Nat.reduceAdd, Nat.reduceSub, Nat.reduceEqDiff, Nat.reduceLeDiff, Int.reduceEq, Int.reduceNe, Int.reduceNeg, reduceCtorEq]
    repeat' (first | refine And.intro (by omega) ?_ | refine And.intro (rr (by omega)) ?_ | refine And.intro (r3 (by omega)) ?_ | refine And.intro (r6 (by omega)) ?_ | ((fail_if_success (show WP _ _ _ _ _ _ _ _)); (first | refine And.intro ?_ ?_ | intro _)))
    all_goals first | (exfalso; omega) | exact nx
  | succ n ih =>
    intro m a Ni hm hF hA hB
    have G := hG.fm hF (fzk rfl rfl) (by decide) (by decide) (by simp) (by simp) (by simp) (by simp)
    have hz := G.mt.1
    have hP : PtA Ni 192 193 (ptl f p.toNat) := by unfold PtA; rw [hF.1 192 (by decide) (by decide), hF.1 193 (by decide) (by decide)]; exact hPt
    have e0 : ((n + 1 : Nat) : Int) - 1 = (n : Int) := by omega
    have key : WP 219 (0, 0) 65 [(2, 190), (0, (j : Int) + 1), (0, (n : Int)), (0, ((dg f - 1 : Nat) : Int)), b, c] [] NN Ni Q := by
      refine l_ex4 (s := hsq p q.1 m (shf (n + 1) f.1)) hp G hP hj hd (fun k => hsq_rg hp q.1 m _ k) (fun N' hF' hS => ?_) (dg f - 1) Ni (by omega) (FM.rf _ _ _) (fun l hl => by rw [if_pos (by omega)]; exact hB l hl)
      have G' := G.fm hF' (fzk rfl rfl) (by decide) (by decide) (by simp) (by simp) (by simp) (by simp)
      have hz' := G'.mt.1
      have hP' : PtA N' 192 193 (ptl f p.toNat) := by unfold PtA; rw [hF'.1 192 (by decide) (by decide), hF'.1 193 (by decide) (by decide)]; exact hP
      obtain ⟨a1, a2⟩ := hP' j q hj
      have v0 := hS 0 (by omega)
      rw [if_pos rfl] at v0
      replace v0 : N' 211 0 = hsq p q.1 m (shf (n + 1) f.1) 0 := v0
      have r0 := hsq_rg hp q.1 m (shf (n + 1) f.1) 0
      have rf := hp.lt (f.2.1 n)
      have b1 := mb (x := hsq p q.1 m (shf (n + 1) f.1) 0) (y := q.1) (by omega) (by omega)
      have tm : (hsq p q.1 m (shf (n + 1) f.1) 0 * q.1 + f.1 n).tmod p = hst p q.1 (f.1 n) (hsq p q.1 m (shf (n + 1) f.1)) 0 := by
        rw [tm_nn (by omega)]; rfl
      have es : hsq p q.1 (m + 1) (shf n f.1) = hst p q.1 (f.1 n) (hsq p q.1 m (shf (n + 1) f.1)) := by
        show hst p q.1 (f.1 (0 + n)) (hsq p q.1 m (sh (shf n f.1))) = _
        rw [sh_shf, Nat.zero_add]
      have nx : WP 219 (0, 0) 56 [(2, 190), (0, (j : Int) + 1), (0, (n : Int) - 1), (0, 0), b, c] [] NN (ust N' 211 0 (hst p q.1 (f.1 n) (hsq p q.1 m (shf (n + 1) f.1)) 0)) Q := by
        refine ih (m + 1) _ _ (by omega) ((hF.tr (hF'.mo rfl rfl)).us _ _ (by simp) (by decide)) (fun k hk => by
          rw [ust_ne (show (209 : Int) ≠ 211 by decide), ust_ne (show (210 : Int) ≠ 211 by decide), hF'.1 209 (by decide) (by decide), hF'.1 210 (by decide) (by decide)]; exact hA k hk) (fun k hk => ?_)
        rw [ust_at, es]
        by_cases e : k = 0
        · rw [if_pos (by omega), e]
        · rw [if_neg (by omega), hS k hk, if_neg e]
          unfold hst
          rw [if_neg e, if_neg e]
      obtain ⟨μ, hM, h0⟩ := G'.1
      refine WP.run [(219, 56)] [] 60 ?_
      simp only [bk219_0, bk219_2, bk219_8, bk219_28, bk219_30, bk219_38, bk219_51, bk219_56, bk219_60, bk219_65, bk219_69, bk219_108, bk219_145, bk219_166, bk219_205, bk219_211, bk219_219, bk219_228, bk219_229, bk219_234, bk219_240, bk219_268, bk219_292, bk219_293, U_iconst, U_istore_n, U_iload_n, U_bipush, U_icmp_ge, U_aload_n, U_getfield, U_iast, U_iinc, U_goto, U_icmp_gt, U_if_lt, U_if_le, U_iald, U_imul, U_isub, U_iadd, U_irem, U_invokevirtual2, U_if_eq, U_invokevirtual1, U_istore, U_iload, U_return, U_invokevirtual0, UN_cc, UN_cn, UN_nc, UN_nn, UJ, lget, lset, lset2, entL, wsm, wcat, Option.toList_some, Option.toList_none, List.cons_append, List.nil_append, List.mem_cons, List.not_mem_nil, Prod.mk.injEq, or_false, false_or, or_true, true_or, and_true, true_and, and_false, false_and, and_self, ne_eq, not_false_eq_true, not_true_eq_false, forall_const, true_implies, false_implies, Nat.add_zero, Nat.zero_add, Nat.le_refl, Nat.zero_le, List.set_cons_zero, List.set_cons_succ, List.set_nil, ↓reduceIte, Nat.reduceAdd, Nat.reduceSub, Nat.reduceEqDiff, Nat.reduceLeDiff, Int.reduceEq, Int.reduceNe, Int.reduceNeg, reduceCtorEq, kd190, kd192, kd211, ln192, ln211, z190_6 hz', z190_28 hz', a1, v0]
      repeat (first | refine And.intro (by first | omega | exact not_false) ?_ | refine And.intro (rr (by omega)) ?_ | refine And.intro (r3 (by omega)) ?_ | refine And.intro (r6 (by omega)) ?_)
      refine m_get hM h0 (r3 (by omega)) ?_
      rw [if_pos (by omega), Int.toNat_natCast]
      simp only [bk219_0, bk219_2, bk219_8, bk219_28, bk219_30, bk219_38, bk219_51, bk219_56, bk219_60, bk219_65, bk219_69, bk219_108, bk219_145, bk219_166, bk219_205, bk219_211, bk219_219, bk219_228, bk219_229, bk219_234, bk219_240, bk219_268, bk219_292, bk219_293, U_iconst, U_istore_n, U_iload_n, U_bipush, U_icmp_ge, U_aload_n, U_getfield, U_iast, U_iinc, U_goto, U_icmp_gt, U_if_lt, U_if_le, U_iald, U_imul, U_isub, U_iadd, U_irem, U_invokevirtual2, U_if_eq, U_invokevirtual1, U_istore, U_iload, U_return, U_invokevirtual0, UN_cc, UN_cn, UN_nc, UN_nn, UJ, lget, lset, lset2, entL, wsm, wcat, Option.toList_some, Option.toList_none, List.cons_append, List.nil_append, List.mem_cons, List.not_mem_nil, Prod.mk.injEq, or_false, false_or, or_true, true_or, and_true, true_and, and_false, false_and, and_self, ne_eq, not_false_eq_true, not_true_eq_false, forall_const, true_implies, false_implies, Nat.add_zero, Nat.zero_add, Nat.le_refl, Nat.zero_le, List.set_cons_zero, List.set_cons_succ, List.set_nil, ↓reduceIte, Nat.reduceAdd, Nat.reduceSub, Nat.reduceEqDiff, Nat.reduceLeDiff, Int.reduceEq, Int.reduceNe, Int.reduceNeg, reduceCtorEq, kd190, kd192, kd211, ln192, ln211, z190_6 hz', z190_28 hz', a1, v0, tm, G'.mt.2, show (n : Int) + -1 = (n : Int) - 1 by omega]
      repeat' (first | refine And.intro (by omega) ?_ | refine And.intro (rr (by omega)) ?_ | refine And.intro (r3 (by omega)) ?_ | refine And.intro (r6 (by omega)) ?_ | ((fail_if_success (show WP _ _ _ _ _ _ _ _)); (first | refine And.intro ?_ ?_ | intro _)))
      all_goals first | (exfalso; omega) | exact nx
    rw [show ((dg f - 1 : Nat) : Int) = (dg f : Int) - 1 by omega] at key
    refine WP.run [(219, 56), (219, 65), (219, 145)] [] 60 ?_
    simp only [bk219_0, bk219_2, bk219_8, bk219_28, bk219_30, bk219_38, bk219_51, bk219_56, bk219_60, bk219_65, bk219_69, bk219_108, bk219_145, bk219_166, bk219_205, bk219_211, bk219_219, bk219_228, bk219_229, bk219_234, bk219_240, bk219_268, bk219_292, bk219_293, U_iconst, U_istore_n, U_iload_n, U_bipush, U_icmp_ge, U_aload_n, U_getfield, U_iast, U_iinc, U_goto, U_icmp_gt, U_if_lt, U_if_le, U_iald, U_imul, U_isub, U_iadd, U_irem, U_invokevirtual2, U_if_eq, U_invokevirtual1, U_istore, U_iload, U_return, U_invokevirtual0, UN_cc, UN_cn, UN_nc, UN_nn, UJ, lget, lset, lset2, entL, wsm, wcat, Option.toList_some, Option.toList_none, List.cons_append, List.nil_append, List.mem_cons, List.not_mem_nil, Prod.mk.injEq, or_false, false_or, or_true, true_or, and_true, true_and, and_false, false_and, and_self, ne_eq, not_false_eq_true, not_true_eq_false, forall_const, true_implies, false_implies, Nat.add_zero, Nat.zero_add, Nat.le_refl, Nat.zero_le, List.set_cons_zero, List.set_cons_succ, List.set_nil, ↓reduceIte, Nat.reduceAdd, Nat.reduceSub, Nat.reduceEqDiff, Nat.reduceLeDiff, Int.reduceEq, Int.reduceNe, Int.reduceNeg, reduceCtorEq, kd190, G.2.1, e0]
    repeat' (first | refine And.intro (by omega) ?_ | refine And.intro (rr (by omega)) ?_ | refine And.intro (r3 (by omega)) ?_ | refine And.intro (r6 (by omega)) ?_ | ((fail_if_success (show WP _ _ _ _ _ _ _ _)); (first | refine And.intro ?_ ?_ | intro _)))
    all_goals first | (exfalso; omega) | exact key
set_option maxHeartbeats 16000000 in
/-- the places of the root: what is taken off -/
theorem l_ex6 {p : Int} {N : Mem} {Q : Post} {k : Nat} {y : Nat → Int} {pt F b : Int} (hp : Pr p) (hz : Fz N) (hk : 1 ≤ k ∧ k < 9) (hy : ∀ i, 0 ≤ y i ∧ y i < p) (hA : ∀ i : Nat, i < 10 → N 210 (i : Int) = y i) (hF : 0 ≤ F ∧ F < p) (hQ : ∀ e : V, WP 219 (0, 0) 268 [(2, 190), (0, pt), (0, b), (0, (k : Int)), (0, F - yS y k k), e] [] NN N Q) :
    ∀ (n i : Nat), i + n = k → 1 ≤ i → WP 219 (0, 0) 234 [(2, 190), (0, pt), (0, b), (0, (k : Int)), (0, F - yS y k i), (0, (i : Int))] [] NN N Q := by
  have hpp := hp.pos
  have yb : ∀ i, 0 ≤ yS y k i ∧ yS y k i ≤ i * 169 := fun i => isum_rg (fun j => by
    by_cases e : j = 0
    · rw [if_pos e]; omega
    · rw [if_neg e]
      have r1 := hy j
      have r2 := hy (k - j)
      exact mb (by omega) (by omega)) i
  intro n
  induction n with
  | zero =>
    intro i hi h1
    obtain rfl : i = k := by omega
    have nx := hQ (0, (i : Int))
    refine WP.run [(219, 234), (219, 268)] [] 60 ?_
    simp only [bk219_0, bk219_2, bk219_8, bk219_28, bk219_30, bk219_38, bk219_51, bk219_56, bk219_60, bk219_65, bk219_69, bk219_108, bk219_145, bk219_166, bk219_205, bk219_211, bk219_219, bk219_228, bk219_229, bk219_234, bk219_240, bk219_268, bk219_292, bk219_293, U_iconst, U_istore_n, U_iload_n, U_bipush, U_icmp_ge, U_aload_n, U_getfield, U_iast, U_iinc, U_goto, U_icmp_gt, U_if_lt, U_if_le, U_iald, U_imul, U_isub, U_iadd, U_irem, U_invokevirtual2, U_if_eq, U_invokevirtual1, U_istore, U_iload, U_return, U_invokevirtual0, UN_cc, UN_cn, UN_nc, UN_nn, UJ, lget, lset, lset2, entL, wsm, wcat, Option.toList_some, Option.toList_none, List.cons_append, List.nil_append, List.mem_cons, List.not_mem_nil, Prod.mk.injEq, or_false, false_or, or_true, true_or, and_true, true_and, and_false, false_and, and_self, ne_eq, not_false_eq_true, not_true_eq_false, forall_const, true_implies, false_implies, Nat.add_zero, Nat.zero_add, Nat.le_refl, Nat.zero_le, List.set_cons_zero, List.set_cons_succ, List.set_nil, ↓reduceIte, Nat.reduceAdd, Nat.reduceSub, Nat.reduceEqDiff, Nat.reduceLeDiff, Int.reduceEq, Int.reduceNe, Int.reduceNeg, reduceCtorEq]
    repeat' (first | refine And.intro (by omega) ?_ | refine And.intro (rr (by omega)) ?_ | refine And.intro (r3 (by omega)) ?_ | refine And.intro (r6 (by omega)) ?_ | ((fail_if_success (show WP _ _ _ _ _ _ _ _)); (first | refine And.intro ?_ ?_ | intro _)))
    all_goals first | (exfalso; omega) | exact nx
  | succ n ih =>
    intro i hi h1
    have v1 := hA i (by omega)
    have v2 := hA (k - i) (by omega)
    rw [show ((k - i : Nat) : Int) = (k : Int) - (i : Int) by omega] at v2
    have r1 := hy i
    have r2 := hy (k - i)
    have b1 := mb (x := y i) (y := y (k - i)) (by omega) (by omega)
    have b2 := yb i
    have es : F - yS y k i - y i * y (k - i) = F - yS y k (i + 1) := by
      show _ = F - (yS y k i + (if i = 0 then 0 else y i * y (k - i)))
      rw [if_neg (by omega)]; omega
    have nx := ih (i + 1) (by omega) (by omega)
    refine WP.run [(219, 234), (219, 268)] [] 60 ?_
    simp only [bk219_0, bk219_2, bk219_8, bk219_28, bk219_30, bk219_38, bk219_51, bk219_56, bk219_60, bk219_65, bk219_69, bk219_108, bk219_145, bk219_166, bk219_205, bk219_211, bk219_219, bk219_228, bk219_229, bk219_234, bk219_240, bk219_268, bk219_292, bk219_293, U_iconst, U_istore_n, U_iload_n, U_bipush, U_icmp_ge, U_aload_n, U_getfield, U_iast, U_iinc, U_goto, U_icmp_gt, U_if_lt, U_if_le, U_iald, U_imul, U_isub, U_iadd, U_irem, U_invokevirtual2, U_if_eq, U_invokevirtual1, U_istore, U_iload, U_return, U_invokevirtual0, UN_cc, UN_cn, UN_nc, UN_nn, UJ, lget, lset, lset2, entL, wsm, wcat, Option.toList_some, Option.toList_none, List.cons_append, List.nil_append, List.mem_cons, List.not_mem_nil, Prod.mk.injEq, or_false, false_or, or_true, true_or, and_true, true_and, and_false, false_and, and_self, ne_eq, not_false_eq_true, not_true_eq_false, forall_const, true_implies, false_implies, Nat.add_zero, Nat.zero_add, Nat.le_refl, Nat.zero_le, List.set_cons_zero, List.set_cons_succ, List.set_nil, ↓reduceIte, Nat.reduceAdd, Nat.reduceSub, Nat.reduceEqDiff, Nat.reduceLeDiff, Int.reduceEq, Int.reduceNe, Int.reduceNeg, reduceCtorEq, kd190, kd210, ln210, z190_27 hz, v1, v2, es, show (i : Int) + 1 = ((i + 1 : Nat) : Int) by omega]
    repeat' (first | refine And.intro (by omega) ?_ | refine And.intro (rr (by omega)) ?_ | refine And.intro (r3 (by omega)) ?_ | refine And.intro (r6 (by omega)) ?_ | ((fail_if_success (show WP _ _ _ _ _ _ _ _)); (first | refine And.intro ?_ ?_ | intro _)))
    all_goals first | (exfalso; omega) | exact nx
