/-! THE MODEL'S SERIES AT A POINT: its loops -/
def shf (j : Nat) (a : Nat → Int) : Nat → Int := fun k => a (k + j)
theorem sh_shf (j : Nat) (a : Nat → Int) : sh (shf j a) = shf (j + 1) a := funext fun k => by show a (k + 1 + j) = a (k + (j + 1)); congr 1; omega
set_option maxHeartbeats 16000000 in
theorem l_ex1 {p : Int} {N : Mem} {Q : Post} {f : Pz p} {g : Nat} {pt : Int} (hG : MG f g N) (hQ : ∀ N', FM [209, 210, 211] [] N N' → (∀ k : Nat, k < 10 → N' 209 (k : Int) = 0 ∧ N' 210 (k : Int) = 0) → ∀ a b c : V, WP 219 (0, 0) 30 [(2, 190), (0, pt), (0, 0), a, b, c] [] NN N' Q) :
    ∀ (n k : Nat) (a b c : V) (Ni : Mem), k + n = 10 → FM [209, 210, 211] [] N Ni → (∀ i : Nat, i < k → Ni 209 (i : Int) = 0 ∧ Ni 210 (i : Int) = 0) → WP 219 (0, 0) 2 [(2, 190), (0, pt), (0, (k : Int)), a, b, c] [] NN Ni Q := by
  intro n
  induction n with
  | zero =>
    intro k a b c Ni hk hF hA
    obtain rfl : k = 10 := by omega
    have nx := hQ Ni hF hA a b c
    refine WP.run [(219, 2), (219, 30)] [] 60 ?_
    simp only [bk219_0, bk219_2, bk219_8, bk219_28, bk219_30, bk219_38, bk219_51, bk219_56, bk219_60, bk219_65, bk219_69, bk219_108, bk219_145, bk219_166, bk219_205, bk219_211, bk219_219, bk219_228, bk219_229, bk219_234, bk219_240, bk219_268, bk219_292, bk219_293, U_iconst, U_istore_n, U_iload_n, U_bipush, U_icmp_ge, U_aload_n, U_getfield, U_iast, U_iinc, U_goto, U_icmp_gt, U_if_lt, U_if_le, U_iald, U_imul, U_isub, U_iadd, U_irem, U_invokevirtual2, U_if_eq, U_invokevirtual1, U_istore, U_iload, U_return, U_invokevirtual0, UN_cc, UN_cn, UN_nc, UN_nn, UJ, lget, lset, lset2, entL, wsm, wcat, Option.toList_some, Option.toList_none, List.cons_append, List.nil_append, List.mem_cons, List.not_mem_nil, Prod.mk.injEq, or_false, false_or, or_true, true_or, and_true, true_and, and_false, false_and, and_self, ne_eq, not_false_eq_true, not_true_eq_false, forall_const, true_implies, false_implies, Nat.add_zero, Nat.zero_add, Nat.le_refl, Nat.zero_le, List.set_cons_zero, List.set_cons_succ, List.set_nil, ↓reduceIte, Nat.reduceAdd, Nat.reduceSub, Nat.reduceEqDiff, Nat.reduceLeDiff, Int.reduceEq, Int.reduceNe, Int.reduceNeg, reduceCtorEq]
    repeat' (first | refine And.intro (by omega) ?_ | refine And.intro (rr (by omega)) ?_ | refine And.intro (r3 (by omega)) ?_ | refine And.intro (r6 (by omega)) ?_ | ((fail_if_success (show WP _ _ _ _ _ _ _ _)); (first | refine And.intro ?_ ?_ | intro _)))
    all_goals first | (exfalso; omega) | exact nx
  | succ n ih =>
    intro k a b c Ni hk hF hA
    have G := hG.fm hF (fzk rfl rfl) (by decide) (by decide) (by simp) (by simp) (by simp) (by simp)
    have hz := G.mt.1
    have nx : WP 219 (0, 0) 2 [(2, 190), (0, pt), (0, ((k + 1 : Nat) : Int)), a, b, c] [] NN (ust (ust Ni 209 (k : Int) 0) 210 (k : Int) 0) Q := ih (k + 1) a b c _ (by omega) ((hF.us _ _ (by simp) (by decide)).us _ _ (by simp) (by decide)) (fun i hi => by
      rw [ust_ne (show (209 : Int) ≠ 210 by decide), ust_at, ust_at]
      by_cases c : i = k
      · rw [if_pos (by omega), if_pos (by omega)]; exact ⟨rfl, rfl⟩
      · rw [if_neg (by omega), if_neg (by omega), ust_ne (show (210 : Int) ≠ 209 by decide)]; exact hA i (by omega))
    refine WP.run [(219, 2), (219, 30)] [] 60 ?_
    simp only [bk219_0, bk219_2, bk219_8, bk219_28, bk219_30, bk219_38, bk219_51, bk219_56, bk219_60, bk219_65, bk219_69, bk219_108, bk219_145, bk219_166, bk219_205, bk219_211, bk219_219, bk219_228, bk219_229, bk219_234, bk219_240, bk219_268, bk219_292, bk219_293, U_iconst, U_istore_n, U_iload_n, U_bipush, U_icmp_ge, U_aload_n, U_getfield, U_iast, U_iinc, U_goto, U_icmp_gt, U_if_lt, U_if_le, U_iald, U_imul, U_isub, U_iadd, U_irem, U_invokevirtual2, U_if_eq, U_invokevirtual1, U_istore, U_iload, U_return, U_invokevirtual0, UN_cc, UN_cn, UN_nc, UN_nn, UJ, lget, lset, lset2, entL, wsm, wcat, Option.toList_some, Option.toList_none, List.cons_append, List.nil_append, List.mem_cons, List.not_mem_nil, Prod.mk.injEq, or_false, false_or, or_true, true_or, and_true, true_and, and_false, false_and, and_self, ne_eq, not_false_eq_true, not_true_eq_false, forall_const, true_implies, false_implies, Nat.add_zero, Nat.zero_add, Nat.le_refl, Nat.zero_le, List.set_cons_zero, List.set_cons_succ, List.set_nil, ↓reduceIte, Nat.reduceAdd, Nat.reduceSub, Nat.reduceEqDiff, Nat.reduceLeDiff, Int.reduceEq, Int.reduceNe, Int.reduceNeg, reduceCtorEq, kd190, kd209, kd210, ln209, ln210, ust_r, z190_26 hz, z190_27 hz]
    repeat' (first | refine And.intro (by omega) ?_ | refine And.intro (rr (by omega)) ?_ | refine And.intro (r3 (by omega)) ?_ | refine And.intro (r6 (by omega)) ?_ | ((fail_if_success (show WP _ _ _ _ _ _ _ _)); (first | refine And.intro ?_ ?_ | intro _)))
    all_goals first | (exfalso; omega) | exact nx
set_option maxHeartbeats 16000000 in
theorem l_ex2 {p : Int} {N : Mem} {Q : Post} {f : Pz p} {g : Nat} {pt : Int} (hG : MG f g N) (hd : dg f = 4 ∨ dg f = 6) (hA0 : ∀ k : Nat, k < 10 → N 209 (k : Int) = 0 ∧ N 210 (k : Int) = 0) (hQ : ∀ N', FM [209, 210, 211] [] N N' → (∀ k : Nat, k < 10 → N' 209 (k : Int) = 0 ∧ N' 210 (k : Int) = 0) → (∀ k : Nat, k < dg f → N' 211 (k : Int) = 0) → ∀ a b c : V, WP 219 (0, 0) 56 [(2, 190), (0, pt), (0, (dg f : Int) - 1), a, b, c] [] NN N' Q) :
    ∀ (n k : Nat) (a b c : V) (Ni : Mem), k + n = dg f → FM [209, 210, 211] [] N Ni → (∀ k : Nat, k < 10 → Ni 209 (k : Int) = 0 ∧ Ni 210 (k : Int) = 0) → (∀ i : Nat, i < k → Ni 211 (i : Int) = 0) → WP 219 (0, 0) 30 [(2, 190), (0, pt), (0, (k : Int)), a, b, c] [] NN Ni Q := by
  intro n
  induction n with
  | zero =>
    intro k a b c Ni hk hF hA hB
    obtain rfl : k = dg f := by omega
    have G := hG.fm hF (fzk rfl rfl) (by decide) (by decide) (by simp) (by simp) (by simp) (by simp)
    have nx := hQ Ni hF hA hB a b c
    refine WP.run [(219, 30), (219, 56)] [] 60 ?_
    simp only [bk219_0, bk219_2, bk219_8, bk219_28, bk219_30, bk219_38, bk219_51, bk219_56, bk219_60, bk219_65, bk219_69, bk219_108, bk219_145, bk219_166, bk219_205, bk219_211, bk219_219, bk219_228, bk219_229, bk219_234, bk219_240, bk219_268, bk219_292, bk219_293, U_iconst, U_istore_n, U_iload_n, U_bipush, U_icmp_ge, U_aload_n, U_getfield, U_iast, U_iinc, U_goto, U_icmp_gt, U_if_lt, U_if_le, U_iald, U_imul, U_isub, U_iadd, U_irem, U_invokevirtual2, U_if_eq, U_invokevirtual1, U_istore, U_iload, U_return, U_invokevirtual0, UN_cc, UN_cn, UN_nc, UN_nn, UJ, lget, lset, lset2, entL, wsm, wcat, Option.toList_some, Option.toList_none, List.cons_append, List.nil_append, List.mem_cons, List.not_mem_nil, Prod.mk.injEq, or_false, false_or, or_true, true_or, and_true, true_and, and_false, false_and, and_self, ne_eq, not_false_eq_true, not_true_eq_false, forall_const, true_implies, false_implies, Nat.add_zero, Nat.zero_add, Nat.le_refl, Nat.zero_le, List.set_cons_zero, List.set_cons_succ, List.set_nil, ↓reduceIte, Nat.reduceAdd, Nat.reduceSub, Nat.reduceEqDiff, Nat.reduceLeDiff, Int.reduceEq, Int.reduceNe, Int.reduceNeg, reduceCtorEq, kd190, G.2.1]
    repeat' (first | refine And.intro (by omega) ?_ | refine And.intro (rr (by omega)) ?_ | refine And.intro (r3 (by omega)) ?_ | refine And.intro (r6 (by omega)) ?_ | ((fail_if_success (show WP _ _ _ _ _ _ _ _)); (first | refine And.intro ?_ ?_ | intro _)))
    all_goals first | (exfalso; omega) | exact nx
  | succ n ih =>
    intro k a b c Ni hk hF hA hB
    have G := hG.fm hF (fzk rfl rfl) (by decide) (by decide) (by simp) (by simp) (by simp) (by simp)
    have hz := G.mt.1
    have nx : WP 219 (0, 0) 30 [(2, 190), (0, pt), (0, ((k + 1 : Nat) : Int)), a, b, c] [] NN (ust Ni 211 (k : Int) 0) Q := ih (k + 1) a b c _ (by omega) (hF.us _ _ (by simp) (by decide)) (fun i hi => by rw [ust_ne (show (209 : Int) ≠ 211 by decide), ust_ne (show (210 : Int) ≠ 211 by decide)]; exact hA i hi) (fun i hi => by
      rw [ust_at]
      by_cases c : i = k
      · rw [if_pos (by omega)]
      · rw [if_neg (by omega)]; exact hB i (by omega))
    refine WP.run [(219, 30), (219, 56)] [] 60 ?_
    simp only [bk219_0, bk219_2, bk219_8, bk219_28, bk219_30, bk219_38, bk219_51, bk219_56, bk219_60, bk219_65, bk219_69, bk219_108, bk219_145, bk219_166, bk219_205, bk219_211, bk219_219, bk219_228, bk219_229, bk219_234, bk219_240, bk219_268, bk219_292, bk219_293, U_iconst, U_istore_n, U_iload_n, U_bipush, U_icmp_ge, U_aload_n, U_getfield, U_iast, U_iinc, U_goto, U_icmp_gt, U_if_lt, U_if_le, U_iald, U_imul, U_isub, U_iadd, U_irem, U_invokevirtual2, U_if_eq, U_invokevirtual1, U_istore, U_iload, U_return, U_invokevirtual0, UN_cc, UN_cn, UN_nc, UN_nn, UJ, lget, lset, lset2, entL, wsm, wcat, Option.toList_some, Option.toList_none, List.cons_append, List.nil_append, List.mem_cons, List.not_mem_nil, Prod.mk.injEq, or_false, false_or, or_true, true_or, and_true, true_and, and_false, false_and, and_self, ne_eq, not_false_eq_true, not_true_eq_false, forall_const, true_implies, false_implies, Nat.add_zero, Nat.zero_add, Nat.le_refl, Nat.zero_le, List.set_cons_zero, List.set_cons_succ, List.set_nil, ↓reduceIte, Nat.reduceAdd, Nat.reduceSub, Nat.reduceEqDiff, Nat.reduceLeDiff, Int.reduceEq, Int.reduceNe, Int.reduceNeg, reduceCtorEq, kd190, kd211, ln211, z190_28 hz, G.2.1]
    repeat' (first | refine And.intro (by omega) ?_ | refine And.intro (rr (by omega)) ?_ | refine And.intro (r3 (by omega)) ?_ | refine And.intro (r6 (by omega)) ?_ | ((fail_if_success (show WP _ _ _ _ _ _ _ _)); (first | refine And.intro ?_ ?_ | intro _)))
    all_goals first | (exfalso; omega) | exact nx
set_option maxHeartbeats 16000000 in
/-- one number of f more: the places from the highest down -/
theorem l_ex4 {p : Int} {N : Mem} {Q : Post} {f : Pz p} {g j : Nat} {q : Int × Int} {i : Int} {s : Nat → Int} {b c : V} (hp : Pr p) (hG : MG f g N) (hPt : PtA N 192 193 (ptl f p.toNat)) (hj : (ptl f p.toNat)[j]? = some q) (hd : dg f = 4 ∨ dg f = 6) (hs : ∀ k, 0 ≤ s k ∧ s k < p) (hQ : ∀ N', FM [211] [] N N' → (∀ k : Nat, k < dg f → N' 211 (k : Int) = if k = 0 then s k else hst p q.1 0 s k) → WP 219 (0, 0) 108 [(2, 190), (0, (j : Int) + 1), (0, i), (0, 0), b, c] [] NN N' Q) :
    ∀ (k : Nat) (Ni : Mem), k < dg f → FM [211] [] N Ni → (∀ l : Nat, l < dg f → Ni 211 (l : Int) = if l ≤ k then s l else hst p q.1 0 s l) → WP 219 (0, 0) 65 [(2, 190), (0, (j : Int) + 1), (0, i), (0, (k : Int)), b, c] [] NN Ni Q := by
  have hpp := hp.pos
  have h26 := ptl_26 hp f
  have hjl : j < (ptl f p.toNat).length := (List.getElem?_eq_some_iff.mp hj).1
  have hq := ptl_rg hp f p.toNat (by omega) q (List.mem_of_getElem? hj)
  intro k
  induction k with
  | zero =>
    intro Ni hk hF hA
    have nx := hQ Ni hF (fun l hl => by
      rw [hA l hl]
      by_cases e : l = 0
      · rw [if_pos (by omega), if_pos e]
      · rw [if_neg (by omega), if_neg e])
    refine WP.run [(219, 65), (219, 108)] [] 60 ?_
    simp only [bk219_0, bk219_2, bk219_8, bk219_28, bk219_30, bk219_38, bk219_51, bk219_56, bk219_60, bk219_65, bk219_69, bk219_108, bk219_145, bk219_166, bk219_205, bk219_211, bk219_219, bk219_228, bk219_229, bk219_234, bk219_240, bk219_268, bk219_292, bk219_293, U_iconst, U_istore_n, U_iload_n, U_bipush, U_icmp_ge, U_aload_n, U_getfield, U_iast, U_iinc, U_goto, U_icmp_gt, U_if_lt, U_if_le, U_iald, U_imul, U_isub, U_iadd, U_irem, U_invokevirtual2, U_if_eq, U_invokevirtual1, U_istore, U_iload, U_return, U_invokevirtual0, UN_cc, UN_cn, UN_nc, UN_nn, UJ, lget, lset, lset2, entL, wsm, wcat, Option.toList_some, Option.toList_none, List.cons_append, List.nil_append, List.mem_cons, List.not_mem_nil, Prod.mk.injEq, or_false, false_or, or_true, true_or, and_true, true_and, and_false, false_and, and_self, ne_eq, not_false_eq_true, not_true_eq_false, forall_const, true_implies, false_implies, Nat.add_zero, Nat.zero_add, Nat.le_refl, Nat.zero_le, List.set_cons_zero, List.set_cons_succ, List.set_nil, ↓reduceIte, Nat.reduceAdd, Nat.reduceSub, Nat.reduceEqDiff, Nat.reduceLeDiff, Int.reduceEq, Int.reduceNe, Int.reduceNeg, reduceCtorEq]
    repeat' (first | refine And.intro (by omega) ?_ | refine And.intro (rr (by omega)) ?_ | refine And.intro (r3 (by omega)) ?_ | refine And.intro (r6 (by omega)) ?_ | ((fail_if_success (show WP _ _ _ _ _ _ _ _)); (first | refine And.intro ?_ ?_ | intro _)))
    all_goals first | (exfalso; omega) | exact nx
  | succ k ih =>
    intro Ni hk hF hA
    have G := hG.fm hF (fzk rfl rfl) (by decide) (by decide) (by simp) (by simp) (by simp) (by simp)
    have hz := G.mt.1
    have hP : PtA Ni 192 193 (ptl f p.toNat) := by unfold PtA; rw [hF.1 192 (by decide) (by decide), hF.1 193 (by decide) (by decide)]; exact hPt
    obtain ⟨a1, a2⟩ := hP j q hj
    have v1 := hA (k + 1) hk
    rw [if_pos (Nat.le_refl _)] at v1
    have v2 := hA k (by omega)
    rw [if_pos (by omega)] at v2
    have r1 := hs (k + 1)
    have r2 := hs k
    have b1 := mb (x := s (k + 1)) (y := q.1) (by omega) (by omega)
    have e1 : ((k + 1 : Nat) : Int) - 1 = (k : Int) := by omega
    have tm : (s (k + 1) * q.1 + s k).tmod p = hst p q.1 0 s (k + 1) := by
      rw [tm_nn (by omega)]
      show _ = (s (k + 1) * q.1 + (if k + 1 = 0 then 0 else s (k + 1 - 1))) % p
      rw [if_neg (by omega)]; rfl
    have nx : WP 219 (0, 0) 65 [(2, 190), (0, (j : Int) + 1), (0, i), (0, (k : Int)), b, c] [] NN (ust Ni 211 ((k + 1 : Nat) : Int) (hst p q.1 0 s (k + 1))) Q := ih _ (by omega) (hF.us _ _ (by simp) (by decide)) (fun l hl => by
      rw [ust_at]
      by_cases e : l = k + 1
      · rw [if_pos (by omega), if_neg (by omega), e]
      · rw [if_neg (by omega), hA l hl]
        by_cases e2 : l ≤ k
        · rw [if_pos (by omega), if_pos e2]
        · rw [if_neg (by omega), if_neg e2])
    refine WP.run [(219, 65), (219, 108)] [] 60 ?_
    simp only [bk219_0, bk219_2, bk219_8, bk219_28, bk219_30, bk219_38, bk219_51, bk219_56, bk219_60, bk219_65, bk219_69, bk219_108, bk219_145, bk219_166, bk219_205, bk219_211, bk219_219, bk219_228, bk219_229, bk219_234, bk219_240, bk219_268, bk219_292, bk219_293, U_iconst, U_istore_n, U_iload_n, U_bipush, U_icmp_ge, U_aload_n, U_getfield, U_iast, U_iinc, U_goto, U_icmp_gt, U_if_lt, U_if_le, U_iald, U_imul, U_isub, U_iadd, U_irem, U_invokevirtual2, U_if_eq, U_invokevirtual1, U_istore, U_iload, U_return, U_invokevirtual0, UN_cc, UN_cn, UN_nc, UN_nn, UJ, lget, lset, lset2, entL, wsm, wcat, Option.toList_some, Option.toList_none, List.cons_append, List.nil_append, List.mem_cons, List.not_mem_nil, Prod.mk.injEq, or_false, false_or, or_true, true_or, and_true, true_and, and_false, false_and, and_self, ne_eq, not_false_eq_true, not_true_eq_false, forall_const, true_implies, false_implies, Nat.add_zero, Nat.zero_add, Nat.le_refl, Nat.zero_le, List.set_cons_zero, List.set_cons_succ, List.set_nil, ↓reduceIte, Nat.reduceAdd, Nat.reduceSub, Nat.reduceEqDiff, Nat.reduceLeDiff, Int.reduceEq, Int.reduceNe, Int.reduceNeg, reduceCtorEq, kd190, kd192, kd211, ln192, ln211, z190_6 hz, z190_28 hz, a1, v1, v2, e1, tm, G.mt.2, show ((k + 1 : Nat) : Int) + -1 = (k : Int) by omega]
    repeat' (first | refine And.intro (by omega) ?_ | refine And.intro (rr (by omega)) ?_ | refine And.intro (r3 (by omega)) ?_ | refine And.intro (r6 (by omega)) ?_ | ((fail_if_success (show WP _ _ _ _ _ _ _ _)); (first | refine And.intro ?_ ?_ | intro _)))
    all_goals first | (exfalso; omega) | exact nx
