/-! THE MODEL'S FOLD, whole -/
set_option maxHeartbeats 16000000 in
theorem l_f2 {p : Int} {N : Mem} {Q : Post} {b k s : Int} {d e h : V} (hp : Pr p) (hz : Fz N) (hQ : ∀ N', FM [216] [] N N' → FoR p False 216 N' → ∀ c : V, WP 218 (0, 0) 74 [(2, 190), (0, b), (0, k), (0, s), c, d, e, h] [] NN N' Q) :
    ∀ (m j : Nat) (Ni : Mem), j + m = 6 → FM [216] [] N Ni → (∀ l : Nat, l < j → 0 ≤ Ni 216 (l : Int) ∧ Ni 216 (l : Int) < p) → WP 218 (0, 0) 44 [(2, 190), (0, b), (0, k), (0, s), (0, (j : Int)), d, e, h] [] NN Ni Q := by
  have hpp := hp.pos
  intro m
  induction m with
  | zero =>
    intro j Ni hj hF hA
    obtain rfl : j = 6 := by omega
    have nx := hQ Ni hF (fun l hl => ⟨(hA l hl).1, (hA l hl).2, fun q => q.elim⟩) (0, ((6 : Nat) : Int))
    refine WP.run [(218, 44), (218, 74)] [] 60 ?_
    simp only [bk218_0, bk218_13, bk218_19, bk218_32, bk218_34, bk218_39, bk218_44, bk218_51, bk218_62, bk218_66, bk218_67, bk218_74, bk218_77, bk218_86, bk218_89, bk218_94, bk218_100, bk218_107, bk218_136, bk218_156, bk218_159, bk218_166, bk218_186, bk218_209, bk218_220, bk218_224, bk218_225, bk218_243, bk218_245, bk218_250, bk218_270, U_aload_n, U_getfield, U_iconst, U_iald, U_invokevirtual1, U_istore_n, U_iload_n, U_bipush, U_icmp_ge, U_iast, U_iinc, U_goto, U_istore, U_iload, U_if_ne, U_icmp_gt, U_if_lt, U_isub, U_imul, U_iadd, U_irem, U_icmp_ne, U_return, UN_cc, UN_cn, UN_nc, UN_nn, UJ, lget, lset, lset2, entL, wsm, wcat, Option.toList_some, Option.toList_none, List.cons_append, List.nil_append, List.mem_cons, List.not_mem_nil, Prod.mk.injEq, or_false, false_or, or_true, true_or, and_true, true_and, and_false, false_and, and_self, ne_eq, not_false_eq_true, not_true_eq_false, forall_const, true_implies, false_implies, Nat.add_zero, Nat.zero_add, Nat.le_refl, Nat.zero_le, List.set_cons_zero, List.set_cons_succ, List.set_nil, ↓reduceIte, Nat.reduceAdd, Nat.reduceSub, Nat.reduceEqDiff, Nat.reduceLeDiff, Int.reduceEq, Int.reduceNe, Int.reduceNeg, reduceCtorEq]
    repeat' (first | refine And.intro (by omega) ?_ | refine And.intro (rr (by omega)) ?_ | refine And.intro (r3 (by omega)) ?_ | refine And.intro (r6 (by omega)) ?_ | ((fail_if_success (show WP _ _ _ _ _ _ _ _)); (first | refine And.intro ?_ ?_ | intro _)))
    all_goals first | (exfalso; omega) | exact nx
  | succ m ih =>
    intro j Ni hj hF hA
    have hz' := hF.fz (fzk rfl rfl) hz
    have nx : ∀ v : Int, 0 ≤ v ∧ v ≤ 1 → WP 218 (0, 0) 44 [(2, 190), (0, b), (0, k), (0, s), (0, ((j + 1 : Nat) : Int)), d, e, h] [] NN (ust Ni 216 (j : Int) v) Q := fun v hv => by
      refine ih (j + 1) _ (by omega) (hF.us _ _ (by simp) (by decide)) (fun l h1 => ?_)
      rw [ust_at]
      by_cases c : l = j
      · rw [if_pos (by omega)]; omega
      · rw [if_neg (by omega)]; exact hA l (by omega)
    refine WP.run [(218, 44), (218, 74)] [] 60 ?_
    simp only [bk218_0, bk218_13, bk218_19, bk218_32, bk218_34, bk218_39, bk218_44, bk218_51, bk218_62, bk218_66, bk218_67, bk218_74, bk218_77, bk218_86, bk218_89, bk218_94, bk218_100, bk218_107, bk218_136, bk218_156, bk218_159, bk218_166, bk218_186, bk218_209, bk218_220, bk218_224, bk218_225, bk218_243, bk218_245, bk218_250, bk218_270, U_aload_n, U_getfield, U_iconst, U_iald, U_invokevirtual1, U_istore_n, U_iload_n, U_bipush, U_icmp_ge, U_iast, U_iinc, U_goto, U_istore, U_iload, U_if_ne, U_icmp_gt, U_if_lt, U_isub, U_imul, U_iadd, U_irem, U_icmp_ne, U_return, UN_cc, UN_cn, UN_nc, UN_nn, UJ, lget, lset, lset2, entL, wsm, wcat, Option.toList_some, Option.toList_none, List.cons_append, List.nil_append, List.mem_cons, List.not_mem_nil, Prod.mk.injEq, or_false, false_or, or_true, true_or, and_true, true_and, and_false, false_and, and_self, ne_eq, not_false_eq_true, not_true_eq_false, forall_const, true_implies, false_implies, Nat.add_zero, Nat.zero_add, Nat.le_refl, Nat.zero_le, List.set_cons_zero, List.set_cons_succ, List.set_nil, ↓reduceIte, Nat.reduceAdd, Nat.reduceSub, Nat.reduceEqDiff, Nat.reduceLeDiff, Int.reduceEq, Int.reduceNe, Int.reduceNeg, reduceCtorEq, kd190, kd216, ln216, z190_34 hz']
    repeat' (first | refine And.intro (by omega) ?_ | refine And.intro (rr (by omega)) ?_ | refine And.intro (r3 (by omega)) ?_ | refine And.intro (r6 (by omega)) ?_ | ((fail_if_success (show WP _ _ _ _ _ _ _ _)); (first | refine And.intro ?_ ?_ | intro _)))
    all_goals first | (exfalso; omega) | exact nx _ (by omega)
set_option maxHeartbeats 16000000 in
theorem l_f7 {p : Int} {N : Mem} {Q : Post} {b : Int} {D : Nat} (hp : Pr p) (hz : Fz N) (h0 : N 190 0 = p) (hD : N 190 1 = (D : Int)) (hD1 : 1 ≤ D) (hD5 : D ≤ 5) (hb : 0 ≤ b ∧ b < p) (hs : ∀ i : Nat, i ≤ D → 0 ≤ N 211 (i : Int) ∧ N 211 (i : Int) < p) (hQ : ∀ N', FM [212, 215, 216] [] N N' → FoR p False 215 N' → N' 215 1 = b → ∀ a c d e f g : V, WP 218 (0, 0) 243 [(2, 190), (0, b), a, c, d, e, f, g] [] NN N' Q) :
    ∀ (m k : Nat) (c d e f g : V) (Ni : Mem), k + m = 5 → 1 ≤ k → FM [212, 215, 216] [] N Ni → FoR p (k = 1) 215 Ni → (1 < k → Ni 215 1 = b) → WP 218 (0, 0) 34 [(2, 190), (0, b), (0, (k : Int)), c, d, e, f, g] [] NN Ni Q := by
  have hpp := hp.pos
  intro m
  induction m with
  | zero =>
    intro k c d e f g Ni hk k1 hF hA hB
    obtain rfl : k = 5 := by omega
    have nx := hQ Ni hF (fun l hl => ⟨(hA l hl).1, (hA l hl).2.1, fun q => q.elim⟩) (hB (by omega)) (0, ((5 : Nat) : Int)) c d e f g
    refine WP.run [(218, 34), (218, 243)] [] 60 ?_
    simp only [bk218_0, bk218_13, bk218_19, bk218_32, bk218_34, bk218_39, bk218_44, bk218_51, bk218_62, bk218_66, bk218_67, bk218_74, bk218_77, bk218_86, bk218_89, bk218_94, bk218_100, bk218_107, bk218_136, bk218_156, bk218_159, bk218_166, bk218_186, bk218_209, bk218_220, bk218_224, bk218_225, bk218_243, bk218_245, bk218_250, bk218_270, U_aload_n, U_getfield, U_iconst, U_iald, U_invokevirtual1, U_istore_n, U_iload_n, U_bipush, U_icmp_ge, U_iast, U_iinc, U_goto, U_istore, U_iload, U_if_ne, U_icmp_gt, U_if_lt, U_isub, U_imul, U_iadd, U_irem, U_icmp_ne, U_return, UN_cc, UN_cn, UN_nc, UN_nn, UJ, lget, lset, lset2, entL, wsm, wcat, Option.toList_some, Option.toList_none, List.cons_append, List.nil_append, List.mem_cons, List.not_mem_nil, Prod.mk.injEq, or_false, false_or, or_true, true_or, and_true, true_and, and_false, false_and, and_self, ne_eq, not_false_eq_true, not_true_eq_false, forall_const, true_implies, false_implies, Nat.add_zero, Nat.zero_add, Nat.le_refl, Nat.zero_le, List.set_cons_zero, List.set_cons_succ, List.set_nil, ↓reduceIte, Nat.reduceAdd, Nat.reduceSub, Nat.reduceEqDiff, Nat.reduceLeDiff, Int.reduceEq, Int.reduceNe, Int.reduceNeg, reduceCtorEq]
    repeat' (first | refine And.intro (by omega) ?_ | refine And.intro (rr (by omega)) ?_ | refine And.intro (r3 (by omega)) ?_ | refine And.intro (r6 (by omega)) ?_ | ((fail_if_success (show WP _ _ _ _ _ _ _ _)); (first | refine And.intro ?_ ?_ | intro _)))
    all_goals first | (exfalso; omega) | exact nx
  | succ m ih =>
    intro k c d e f g Ni hk k1 hF hA hB
    have hz' := hF.fz (fzk rfl rfl) hz
    have nx : WP 218 (0, 0) 44 [(2, 190), (0, b), (0, (k : Int)), (0, 0), (0, ((0 : Nat) : Int)), e, f, g] [] NN Ni Q := by
      refine l_f2 hp hz' (fun N1 F1 g1 c1 => ?_) 6 0 Ni (by omega) (FM.rf _ _ _) (fun l h1 => absurd h1 (Nat.not_lt_zero l))
      have FN1 : FM [212, 215, 216] [] N N1 := hF.tr (F1.mo rfl rfl)
      have hz1 := F1.fz (fzk rfl rfl) hz'
      have hP1 := FN1.2 0 (by simp)
      rw [h0] at hP1
      have hD1' := FN1.2 1 (by simp)
      rw [hD] at hD1'
      have nx2 : WP 218 (0, 0) 77 [(2, 190), (0, b), (0, (k : Int)), (0, 0), (0, ((1 : Nat) : Int)), e, f, g] [] NN N1 Q := by
        refine l_f6 hp hz1 hP1 hD1' hD5 (by omega) (hA.fx (F1.1 215 (by decide) (by decide))) (fun i hi => by rw [FN1.1 211 (by decide) (by decide)]; exact hs i hi) (fun N2 F2 s s1 s2 a2 c2 d2 e2 => ?_) D 1 0 e f g N1 (by omega) (FM.rf _ _ _) g1 (by omega) (fun _ => rfl)
        have FN2 : FM [212, 215, 216] [] N N2 := FN1.tr (F2.mo rfl rfl)
        have hz2 := FN2.fz (fzk rfl rfl) hz
        have hP2 := FN2.2 0 (by simp)
        rw [h0] at hP2
        have e215 : N2 215 = Ni 215 := (F2.1 215 (by decide) (by decide)).trans (F1.1 215 (by decide) (by decide))
        have sr0 := Int.emod_nonneg s (b := p) (by omega)
        have sr1 := Int.emod_lt_of_pos s (b := p) (by omega)
        have nx3 : ∀ v : Int, v = (((if k = 1 then 1 else 0) - s % p) * b) % p → WP 218 (0, 0) 34 [(2, 190), (0, b), (0, ((k + 1 : Nat) : Int)), (0, s), a2, c2, d2, e2] [] NN (ust N2 215 (k : Int) v) Q := fun v hv => by
          refine ih (k + 1) _ _ _ _ _ _ (by omega) (by omega) (FN2.us _ _ (by simp) (by decide)) (fun l hl => ?_) (fun _ => ?_)
          · rw [ust_at]
            by_cases q : l = k
            · rw [if_pos (by omega), hv]
              exact ⟨Int.emod_nonneg _ (by omega), Int.emod_lt_of_pos _ (by omega), fun q => absurd q (by omega)⟩
            · rw [if_neg (by omega), e215]
              exact ⟨(hA l hl).1, (hA l hl).2.1, fun q => absurd q (by omega)⟩
          · rw [ust_at]
            by_cases q : k = 1
            · rw [if_pos (by omega), hv, s2 q, if_pos q, Int.zero_emod, Int.sub_zero, Int.one_mul, Int.emod_eq_of_lt hb.1 hb.2]
            · rw [if_neg (by omega), e215]; exact hB (by omega)
        have bb : ∀ x : Int, x = 0 ∨ x = 1 → R32 ((x - s % p) * b) := fun x hx => by
          have := ab_mul (a := x - s % p) (b := b) (A := 13) (B := 13) (by omega) (by omega)
          exact r3 (by omega)
        by_cases q : k = 1
        · rw [if_pos q] at nx3
          refine WP.run [(218, 34)] [] 60 ?_
          simp only [bk218_0, bk218_13, bk218_19, bk218_32, bk218_34, bk218_39, bk218_44, bk218_51, bk218_62, bk218_66, bk218_67, bk218_74, bk218_77, bk218_86, bk218_89, bk218_94, bk218_100, bk218_107, bk218_136, bk218_156, bk218_159, bk218_166, bk218_186, bk218_209, bk218_220, bk218_224, bk218_225, bk218_243, bk218_245, bk218_250, bk218_270, U_aload_n, U_getfield, U_iconst, U_iald, U_invokevirtual1, U_istore_n, U_iload_n, U_bipush, U_icmp_ge, U_iast, U_iinc, U_goto, U_istore, U_iload, U_if_ne, U_icmp_gt, U_if_lt, U_isub, U_imul, U_iadd, U_irem, U_icmp_ne, U_return, UN_cc, UN_cn, UN_nc, UN_nn, UJ, lget, lset, lset2, entL, wsm, wcat, Option.toList_some, Option.toList_none, List.cons_append, List.nil_append, List.mem_cons, List.not_mem_nil, Prod.mk.injEq, or_false, false_or, or_true, true_or, and_true, true_and, and_false, false_and, and_self, ne_eq, not_false_eq_true, not_true_eq_false, forall_const, true_implies, false_implies, Nat.add_zero, Nat.zero_add, Nat.le_refl, Nat.zero_le, List.set_cons_zero, List.set_cons_succ, List.set_nil, ↓reduceIte, Nat.reduceAdd, Nat.reduceSub, Nat.reduceEqDiff, Nat.reduceLeDiff, Int.reduceEq, Int.reduceNe, Int.reduceNeg, reduceCtorEq, kd190, z190_33 hz2]
          refine ⟨rr (by omega), fun _ => ?_, fun w => absurd (show (k : Int) = 1 by omega) w⟩
          refine m_mod hp hP2 (r3 (by omega)) ?_
          simp only [bk218_0, bk218_13, bk218_19, bk218_32, bk218_34, bk218_39, bk218_44, bk218_51, bk218_62, bk218_66, bk218_67, bk218_74, bk218_77, bk218_86, bk218_89, bk218_94, bk218_100, bk218_107, bk218_136, bk218_156, bk218_159, bk218_166, bk218_186, bk218_209, bk218_220, bk218_224, bk218_225, bk218_243, bk218_245, bk218_250, bk218_270, U_aload_n, U_getfield, U_iconst, U_iald, U_invokevirtual1, U_istore_n, U_iload_n, U_bipush, U_icmp_ge, U_iast, U_iinc, U_goto, U_istore, U_iload, U_if_ne, U_icmp_gt, U_if_lt, U_isub, U_imul, U_iadd, U_irem, U_icmp_ne, U_return, UN_cc, UN_cn, UN_nc, UN_nn, UJ, lget, lset, lset2, entL, wsm, wcat, Option.toList_some, Option.toList_none, List.cons_append, List.nil_append, List.mem_cons, List.not_mem_nil, Prod.mk.injEq, or_false, false_or, or_true, true_or, and_true, true_and, and_false, false_and, and_self, ne_eq, not_false_eq_true, not_true_eq_false, forall_const, true_implies, false_implies, Nat.add_zero, Nat.zero_add, Nat.le_refl, Nat.zero_le, List.set_cons_zero, List.set_cons_succ, List.set_nil, ↓reduceIte, Nat.reduceAdd, Nat.reduceSub, Nat.reduceEqDiff, Nat.reduceLeDiff, Int.reduceEq, Int.reduceNe, Int.reduceNeg, reduceCtorEq, kd190]
          repeat (first | refine And.intro (by first | omega | exact not_false) ?_ | refine And.intro (rr (by omega)) ?_ | refine And.intro (r3 (by omega)) ?_ | refine And.intro (r6 (by omega)) ?_)
          refine m_mod hp hP2 (bb 1 (Or.inr rfl)) ?_
          simp only [bk218_0, bk218_13, bk218_19, bk218_32, bk218_34, bk218_39, bk218_44, bk218_51, bk218_62, bk218_66, bk218_67, bk218_74, bk218_77, bk218_86, bk218_89, bk218_94, bk218_100, bk218_107, bk218_136, bk218_156, bk218_159, bk218_166, bk218_186, bk218_209, bk218_220, bk218_224, bk218_225, bk218_243, bk218_245, bk218_250, bk218_270, U_aload_n, U_getfield, U_iconst, U_iald, U_invokevirtual1, U_istore_n, U_iload_n, U_bipush, U_icmp_ge, U_iast, U_iinc, U_goto, U_istore, U_iload, U_if_ne, U_icmp_gt, U_if_lt, U_isub, U_imul, U_iadd, U_irem, U_icmp_ne, U_return, UN_cc, UN_cn, UN_nc, UN_nn, UJ, lget, lset, lset2, entL, wsm, wcat, Option.toList_some, Option.toList_none, List.cons_append, List.nil_append, List.mem_cons, List.not_mem_nil, Prod.mk.injEq, or_false, false_or, or_true, true_or, and_true, true_and, and_false, false_and, and_self, ne_eq, not_false_eq_true, not_true_eq_false, forall_const, true_implies, false_implies, Nat.add_zero, Nat.zero_add, Nat.le_refl, Nat.zero_le, List.set_cons_zero, List.set_cons_succ, List.set_nil, ↓reduceIte, Nat.reduceAdd, Nat.reduceSub, Nat.reduceEqDiff, Nat.reduceLeDiff, Int.reduceEq, Int.reduceNe, Int.reduceNeg, reduceCtorEq, kd190, kd215, ln215]
          repeat' (first | refine And.intro (by omega) ?_ | refine And.intro (rr (by omega)) ?_ | refine And.intro (r3 (by omega)) ?_ | refine And.intro (r6 (by omega)) ?_ | ((fail_if_success (show WP _ _ _ _ _ _ _ _)); (first | refine And.intro ?_ ?_ | intro _)))
          all_goals first | (exfalso; omega) | exact nx3 _ rfl
        · rw [if_neg q] at nx3
          refine WP.run [(218, 34)] [] 60 ?_
          simp only [bk218_0, bk218_13, bk218_19, bk218_32, bk218_34, bk218_39, bk218_44, bk218_51, bk218_62, bk218_66, bk218_67, bk218_74, bk218_77, bk218_86, bk218_89, bk218_94, bk218_100, bk218_107, bk218_136, bk218_156, bk218_159, bk218_166, bk218_186, bk218_209, bk218_220, bk218_224, bk218_225, bk218_243, bk218_245, bk218_250, bk218_270, U_aload_n, U_getfield, U_iconst, U_iald, U_invokevirtual1, U_istore_n, U_iload_n, U_bipush, U_icmp_ge, U_iast, U_iinc, U_goto, U_istore, U_iload, U_if_ne, U_icmp_gt, U_if_lt, U_isub, U_imul, U_iadd, U_irem, U_icmp_ne, U_return, UN_cc, UN_cn, UN_nc, UN_nn, UJ, lget, lset, lset2, entL, wsm, wcat, Option.toList_some, Option.toList_none, List.cons_append, List.nil_append, List.mem_cons, List.not_mem_nil, Prod.mk.injEq, or_false, false_or, or_true, true_or, and_true, true_and, and_false, false_and, and_self, ne_eq, not_false_eq_true, not_true_eq_false, forall_const, true_implies, false_implies, Nat.add_zero, Nat.zero_add, Nat.le_refl, Nat.zero_le, List.set_cons_zero, List.set_cons_succ, List.set_nil, ↓reduceIte, Nat.reduceAdd, Nat.reduceSub, Nat.reduceEqDiff, Nat.reduceLeDiff, Int.reduceEq, Int.reduceNe, Int.reduceNeg, reduceCtorEq, kd190, z190_33 hz2]
          refine ⟨rr (by omega), fun w => absurd w (by omega), fun _ => ?_⟩
          refine m_mod hp hP2 (r3 (by omega)) ?_
          simp only [bk218_0, bk218_13, bk218_19, bk218_32, bk218_34, bk218_39, bk218_44, bk218_51, bk218_62, bk218_66, bk218_67, bk218_74, bk218_77, bk218_86, bk218_89, bk218_94, bk218_100, bk218_107, bk218_136, bk218_156, bk218_159, bk218_166, bk218_186, bk218_209, bk218_220, bk218_224, bk218_225, bk218_243, bk218_245, bk218_250, bk218_270, U_aload_n, U_getfield, U_iconst, U_iald, U_invokevirtual1, U_istore_n, U_iload_n, U_bipush, U_icmp_ge, U_iast, U_iinc, U_goto, U_istore, U_iload, U_if_ne, U_icmp_gt, U_if_lt, U_isub, U_imul, U_iadd, U_irem, U_icmp_ne, U_return, UN_cc, UN_cn, UN_nc, UN_nn, UJ, lget, lset, lset2, entL, wsm, wcat, Option.toList_some, Option.toList_none, List.cons_append, List.nil_append, List.mem_cons, List.not_mem_nil, Prod.mk.injEq, or_false, false_or, or_true, true_or, and_true, true_and, and_false, false_and, and_self, ne_eq, not_false_eq_true, not_true_eq_false, forall_const, true_implies, false_implies, Nat.add_zero, Nat.zero_add, Nat.le_refl, Nat.zero_le, List.set_cons_zero, List.set_cons_succ, List.set_nil, ↓reduceIte, Nat.reduceAdd, Nat.reduceSub, Nat.reduceEqDiff, Nat.reduceLeDiff, Int.reduceEq, Int.reduceNe, Int.reduceNeg, reduceCtorEq, kd190]
          repeat (first | refine And.intro (by first | omega | exact not_false) ?_ | refine And.intro (rr (by omega)) ?_ | refine And.intro (r3 (by omega)) ?_ | refine And.intro (r6 (by omega)) ?_)
          refine m_mod hp hP2 (bb 0 (Or.inl rfl)) ?_
          simp only [bk218_0, bk218_13, bk218_19, bk218_32, bk218_34, bk218_39, bk218_44, bk218_51, bk218_62, bk218_66, bk218_67, bk218_74, bk218_77, bk218_86, bk218_89, bk218_94, bk218_100, bk218_107, bk218_136, bk218_156, bk218_159, bk218_166, bk218_186, bk218_209, bk218_220, bk218_224, bk218_225, bk218_243, bk218_245, bk218_250, bk218_270, U_aload_n, U_getfield, U_iconst, U_iald, U_invokevirtual1, U_istore_n, U_iload_n, U_bipush, U_icmp_ge, U_iast, U_iinc, U_goto, U_istore, U_iload, U_if_ne, U_icmp_gt, U_if_lt, U_isub, U_imul, U_iadd, U_irem, U_icmp_ne, U_return, UN_cc, UN_cn, UN_nc, UN_nn, UJ, lget, lset, lset2, entL, wsm, wcat, Option.toList_some, Option.toList_none, List.cons_append, List.nil_append, List.mem_cons, List.not_mem_nil, Prod.mk.injEq, or_false, false_or, or_true, true_or, and_true, true_and, and_false, false_and, and_self, ne_eq, not_false_eq_true, not_true_eq_false, forall_const, true_implies, false_implies, Nat.add_zero, Nat.zero_add, Nat.le_refl, Nat.zero_le, List.set_cons_zero, List.set_cons_succ, List.set_nil, ↓reduceIte, Nat.reduceAdd, Nat.reduceSub, Nat.reduceEqDiff, Nat.reduceLeDiff, Int.reduceEq, Int.reduceNe, Int.reduceNeg, reduceCtorEq, kd190, kd215, ln215]
          repeat' (first | refine And.intro (by omega) ?_ | refine And.intro (rr (by omega)) ?_ | refine And.intro (r3 (by omega)) ?_ | refine And.intro (r6 (by omega)) ?_ | ((fail_if_success (show WP _ _ _ _ _ _ _ _)); (first | refine And.intro ?_ ?_ | intro _)))
          all_goals first | (exfalso; omega) | exact nx3 _ rfl
      refine WP.run [(218, 77)] [] 60 ?_
      simp only [bk218_0, bk218_13, bk218_19, bk218_32, bk218_34, bk218_39, bk218_44, bk218_51, bk218_62, bk218_66, bk218_67, bk218_74, bk218_77, bk218_86, bk218_89, bk218_94, bk218_100, bk218_107, bk218_136, bk218_156, bk218_159, bk218_166, bk218_186, bk218_209, bk218_220, bk218_224, bk218_225, bk218_243, bk218_245, bk218_250, bk218_270, U_aload_n, U_getfield, U_iconst, U_iald, U_invokevirtual1, U_istore_n, U_iload_n, U_bipush, U_icmp_ge, U_iast, U_iinc, U_goto, U_istore, U_iload, U_if_ne, U_icmp_gt, U_if_lt, U_isub, U_imul, U_iadd, U_irem, U_icmp_ne, U_return, UN_cc, UN_cn, UN_nc, UN_nn, UJ, lget, lset, lset2, entL, wsm, wcat, Option.toList_some, Option.toList_none, List.cons_append, List.nil_append, List.mem_cons, List.not_mem_nil, Prod.mk.injEq, or_false, false_or, or_true, true_or, and_true, true_and, and_false, false_and, and_self, ne_eq, not_false_eq_true, not_true_eq_false, forall_const, true_implies, false_implies, Nat.add_zero, Nat.zero_add, Nat.le_refl, Nat.zero_le, List.set_cons_zero, List.set_cons_succ, List.set_nil, ↓reduceIte, Nat.reduceAdd, Nat.reduceSub, Nat.reduceEqDiff, Nat.reduceLeDiff, Int.reduceEq, Int.reduceNe, Int.reduceNeg, reduceCtorEq]
      exact nx2
    refine WP.run [(218, 34), (218, 44), (218, 243)] [] 60 ?_
    simp only [bk218_0, bk218_13, bk218_19, bk218_32, bk218_34, bk218_39, bk218_44, bk218_51, bk218_62, bk218_66, bk218_67, bk218_74, bk218_77, bk218_86, bk218_89, bk218_94, bk218_100, bk218_107, bk218_136, bk218_156, bk218_159, bk218_166, bk218_186, bk218_209, bk218_220, bk218_224, bk218_225, bk218_243, bk218_245, bk218_250, bk218_270, U_aload_n, U_getfield, U_iconst, U_iald, U_invokevirtual1, U_istore_n, U_iload_n, U_bipush, U_icmp_ge, U_iast, U_iinc, U_goto, U_istore, U_iload, U_if_ne, U_icmp_gt, U_if_lt, U_isub, U_imul, U_iadd, U_irem, U_icmp_ne, U_return, UN_cc, UN_cn, UN_nc, UN_nn, UJ, lget, lset, lset2, entL, wsm, wcat, Option.toList_some, Option.toList_none, List.cons_append, List.nil_append, List.mem_cons, List.not_mem_nil, Prod.mk.injEq, or_false, false_or, or_true, true_or, and_true, true_and, and_false, false_and, and_self, ne_eq, not_false_eq_true, not_true_eq_false, forall_const, true_implies, false_implies, Nat.add_zero, Nat.zero_add, Nat.le_refl, Nat.zero_le, List.set_cons_zero, List.set_cons_succ, List.set_nil, ↓reduceIte, Nat.reduceAdd, Nat.reduceSub, Nat.reduceEqDiff, Nat.reduceLeDiff, Int.reduceEq, Int.reduceNe, Int.reduceNeg, reduceCtorEq]
    repeat' (first | refine And.intro (by omega) ?_ | refine And.intro (rr (by omega)) ?_ | refine And.intro (r3 (by omega)) ?_ | refine And.intro (r6 (by omega)) ?_ | ((fail_if_success (show WP _ _ _ _ _ _ _ _)); (first | refine And.intro ?_ ?_ | intro _)))
    all_goals first | (exfalso; omega) | exact nx
set_option maxHeartbeats 16000000 in
theorem l_f8 {p : Int} {N : Mem} {Q : Post} {b : Int} {c d e f g : V} (hz : Fz N) (h5 : FoR p False 215 N) (hQ : ∀ N', FM [209] [] N N' → (∀ k : Nat, k < 10 → (k % 2 = 1 ∨ k = 0 → N' 209 (k : Int) = N 209 (k : Int)) ∧ (k % 2 = 0 → k ≠ 0 → 0 ≤ N' 209 (k : Int) ∧ N' 209 (k : Int) < p)) → N' 209 2 = N 215 1 → Q none NN N') :
    ∀ (m k : Nat) (Ni : Mem), k + m = 5 → 1 ≤ k → FM [209] [] N Ni → (∀ l : Nat, l < 10 → (l % 2 = 1 ∨ l = 0 → Ni 209 (l : Int) = N 209 (l : Int)) ∧ (l % 2 = 0 → l ≠ 0 → l < 2 * k → 0 ≤ Ni 209 (l : Int) ∧ Ni 209 (l : Int) < p)) → (1 < k → Ni 209 2 = N 215 1) → WP 218 (0, 0) 245 [(2, 190), (0, b), (0, (k : Int)), c, d, e, f, g] [] NN Ni Q := by
  intro m
  induction m with
  | zero =>
    intro k Ni hk k1 hF hA hB
    obtain rfl : k = 5 := by omega
    have nx := hQ Ni hF (fun l hl => ⟨(hA l hl).1, fun a b => (hA l hl).2 a b (by omega)⟩) (hB (by omega))
    refine WP.run [(218, 245)] [] 60 ?_
    simp only [bk218_0, bk218_13, bk218_19, bk218_32, bk218_34, bk218_39, bk218_44, bk218_51, bk218_62, bk218_66, bk218_67, bk218_74, bk218_77, bk218_86, bk218_89, bk218_94, bk218_100, bk218_107, bk218_136, bk218_156, bk218_159, bk218_166, bk218_186, bk218_209, bk218_220, bk218_224, bk218_225, bk218_243, bk218_245, bk218_250, bk218_270, U_aload_n, U_getfield, U_iconst, U_iald, U_invokevirtual1, U_istore_n, U_iload_n, U_bipush, U_icmp_ge, U_iast, U_iinc, U_goto, U_istore, U_iload, U_if_ne, U_icmp_gt, U_if_lt, U_isub, U_imul, U_iadd, U_irem, U_icmp_ne, U_return, UN_cc, UN_cn, UN_nc, UN_nn, UJ, lget, lset, lset2, entL, wsm, wcat, Option.toList_some, Option.toList_none, List.cons_append, List.nil_append, List.mem_cons, List.not_mem_nil, Prod.mk.injEq, or_false, false_or, or_true, true_or, and_true, true_and, and_false, false_and, and_self, ne_eq, not_false_eq_true, not_true_eq_false, forall_const, true_implies, false_implies, Nat.add_zero, Nat.zero_add, Nat.le_refl, Nat.zero_le, List.set_cons_zero, List.set_cons_succ, List.set_nil, ↓reduceIte, Nat.reduceAdd, Nat.reduceSub, Nat.reduceEqDiff, Nat.reduceLeDiff, Int.reduceEq, Int.reduceNe, Int.reduceNeg, reduceCtorEq]
    repeat' (first | refine And.intro (by omega) ?_ | refine And.intro (rr (by omega)) ?_ | refine And.intro (r3 (by omega)) ?_ | refine And.intro (r6 (by omega)) ?_ | ((fail_if_success (show WP _ _ _ _ _ _ _ _)); (first | refine And.intro ?_ ?_ | intro _)))
    all_goals first | (exfalso; omega) | exact nx
  | succ m ih =>
    intro k Ni hk k1 hF hA hB
    have hz' := hF.fz (fzk rfl rfl) hz
    have e5 := hF.1 215 (by decide) (by decide)
    have h5k := h5 k (by omega)
    rw [← e5] at h5k
    have e2k : (2 : Int) * (k : Int) = ((2 * k : Nat) : Int) := by omega
    have nx : WP 218 (0, 0) 245 [(2, 190), (0, b), (0, ((k + 1 : Nat) : Int)), c, d, e, f, g] [] NN (ust Ni 209 (2 * (k : Int)) (Ni 215 (k : Int))) Q := by
      refine ih (k + 1) _ (by omega) (by omega) (hF.us _ _ (by simp) (by decide)) (fun l hl => ?_) (fun _ => ?_)
      · rw [ust_at]
        by_cases q : l = 2 * k
        · rw [if_pos (by omega)]
          exact ⟨fun w => by omega, fun _ _ _ => ⟨h5k.1, h5k.2.1⟩⟩
        · rw [if_neg (by omega)]
          exact ⟨(hA l hl).1, fun a b w => (hA l hl).2 a b (by omega)⟩
      · rw [ust_at]
        by_cases q : k = 1
        · rw [if_pos (by omega), e5, q]; rfl
        · rw [if_neg (by omega)]; exact hB (by omega)
    refine WP.run [(218, 245)] [] 60 ?_
    simp only [bk218_0, bk218_13, bk218_19, bk218_32, bk218_34, bk218_39, bk218_44, bk218_51, bk218_62, bk218_66, bk218_67, bk218_74, bk218_77, bk218_86, bk218_89, bk218_94, bk218_100, bk218_107, bk218_136, bk218_156, bk218_159, bk218_166, bk218_186, bk218_209, bk218_220, bk218_224, bk218_225, bk218_243, bk218_245, bk218_250, bk218_270, U_aload_n, U_getfield, U_iconst, U_iald, U_invokevirtual1, U_istore_n, U_iload_n, U_bipush, U_icmp_ge, U_iast, U_iinc, U_goto, U_istore, U_iload, U_if_ne, U_icmp_gt, U_if_lt, U_isub, U_imul, U_iadd, U_irem, U_icmp_ne, U_return, UN_cc, UN_cn, UN_nc, UN_nn, UJ, lget, lset, lset2, entL, wsm, wcat, Option.toList_some, Option.toList_none, List.cons_append, List.nil_append, List.mem_cons, List.not_mem_nil, Prod.mk.injEq, or_false, false_or, or_true, true_or, and_true, true_and, and_false, false_and, and_self, ne_eq, not_false_eq_true, not_true_eq_false, forall_const, true_implies, false_implies, Nat.add_zero, Nat.zero_add, Nat.le_refl, Nat.zero_le, List.set_cons_zero, List.set_cons_succ, List.set_nil, ↓reduceIte, Nat.reduceAdd, Nat.reduceSub, Nat.reduceEqDiff, Nat.reduceLeDiff, Int.reduceEq, Int.reduceNe, Int.reduceNeg, reduceCtorEq, kd190, kd209, kd215, ln209, ln215, z190_26 hz', z190_33 hz']
    repeat' (first | refine And.intro (by omega) ?_ | refine And.intro (rr (by omega)) ?_ | refine And.intro (r3 (by omega)) ?_ | refine And.intro (r6 (by omega)) ?_ | ((fail_if_success (show WP _ _ _ _ _ _ _ _)); (first | refine And.intro ?_ ?_ | intro _)))
    all_goals first | (exfalso; omega) | exact nx
set_option maxHeartbeats 16000000 in
theorem m_expandFold {p : Int} {N : Mem} {Q : Post} {D : Nat} (hp : Pr p) (hz : Fz N) (h0 : N 190 0 = p) (hD : N 190 1 = (D : Int)) (hD1 : 1 ≤ D) (hD5 : D ≤ 5) (hs : ∀ i : Nat, i ≤ D → 0 ≤ N 211 (i : Int) ∧ N 211 (i : Int) < p)
    (hQ : ∀ N', FM [209, 212, 215, 216] [] N N' → (∀ k : Nat, k < 10 → (k % 2 = 1 ∨ k = 0 → N' 209 (k : Int) = N 209 (k : Int)) ∧ (k % 2 = 0 → k ≠ 0 → 0 ≤ N' 209 (k : Int) ∧ N' 209 (k : Int) < p)) → N' 209 2 = pinv p (N 211 1) → Q none NN N') : CL 218 [(2, 190), (9, 0), (9, 0), (9, 0), (9, 0), (9, 0), (9, 0), (9, 0)] NN N Q := by
  have hpp := hp.pos
  have s1 := hs 1 hD1
  replace s1 : 0 ≤ N 211 1 ∧ N 211 1 < p := s1
  have hb : 0 ≤ pinv p (N 211 1) ∧ pinv p (N 211 1) < p := by
    by_cases e : N 211 1 = 0
    · rw [e]
      have : ([3, 5, 7, 11, 13] : List Nat).all (fun p => decide (0 ≤ pinv (p : Int) 0 ∧ pinv (p : Int) 0 < (p : Int))) = true := by decide +kernel
      obtain ⟨n, rfl, hn⟩ := hp.nat
      exact of_decide_eq_true (List.all_eq_true.mp this n hn)
    · exact (pinv_ok hp (by omega) s1.2).2
  generalize hbb : pinv p (N 211 1) = b at *
  have key : ∀ (n j : Nat) (c d e f g : V) (Ni : Mem), j + n = 6 → FM [215] [] N Ni → (∀ l : Nat, l < j → Ni 215 (l : Int) = 0) → WP 218 (0, 0) 13 [(2, 190), (0, b), (0, (j : Int)), c, d, e, f, g] [] NN Ni Q := by
    intro n
    induction n with
    | zero =>
      intro j c d e f g Ni hj hF hA
      obtain rfl : j = 6 := by omega
      have hz' := hF.fz (fzk rfl rfl) hz
      have nx : WP 218 (0, 0) 34 [(2, 190), (0, b), (0, ((1 : Nat) : Int)), c, d, e, f, g] [] NN Ni Q := by
        refine l_f7 hp hz' (by rw [hF.2 0 (by simp)]; exact h0) (by rw [hF.2 1 (by simp)]; exact hD) hD1 hD5 hb (fun i hi => by rw [hF.1 211 (by decide) (by decide)]; exact hs i hi) (fun N1 F1 g1 g2 a1 c1 d1 e1 f1 h1 => ?_) 4 1 c d e f g Ni (by omega) (by omega) (FM.rf _ _ _) (fun l hl => by rw [hA l hl]; exact ⟨Int.le_refl _, by omega, fun _ => rfl⟩) (fun q => absurd q (by omega))
        have FN : FM [209, 212, 215, 216] [] N N1 := (hF.mo rfl rfl).tr (F1.mo rfl rfl)
        have e209 := ((hF.mo (K' := [212, 215, 216]) (L' := []) rfl rfl).tr F1).1 209 (by decide) (by decide)
        have nx2 : WP 218 (0, 0) 245 [(2, 190), (0, b), (0, ((1 : Nat) : Int)), c1, d1, e1, f1, h1] [] NN N1 Q := by
          refine l_f8 (p := p) (FN.fz (fzk rfl rfl) hz) g1 (fun N2 F2 x1 x2 => hQ N2 (FN.tr (F2.mo rfl rfl)) (fun k hk => by rw [← e209]; exact x1 k hk) (by rw [x2]; exact g2)) 4 1 N1 (by omega) (by omega) (FM.rf _ _ _) (fun l hl => ⟨fun _ => rfl, fun a b w => absurd w (by omega)⟩) (fun q => absurd q (by omega))
        refine WP.run [(218, 245)] [] 60 ?_
        simp only [bk218_0, bk218_13, bk218_19, bk218_32, bk218_34, bk218_39, bk218_44, bk218_51, bk218_62, bk218_66, bk218_67, bk218_74, bk218_77, bk218_86, bk218_89, bk218_94, bk218_100, bk218_107, bk218_136, bk218_156, bk218_159, bk218_166, bk218_186, bk218_209, bk218_220, bk218_224, bk218_225, bk218_243, bk218_245, bk218_250, bk218_270, U_aload_n, U_getfield, U_iconst, U_iald, U_invokevirtual1, U_istore_n, U_iload_n, U_bipush, U_icmp_ge, U_iast, U_iinc, U_goto, U_istore, U_iload, U_if_ne, U_icmp_gt, U_if_lt, U_isub, U_imul, U_iadd, U_irem, U_icmp_ne, U_return, UN_cc, UN_cn, UN_nc, UN_nn, UJ, lget, lset, lset2, entL, wsm, wcat, Option.toList_some, Option.toList_none, List.cons_append, List.nil_append, List.mem_cons, List.not_mem_nil, Prod.mk.injEq, or_false, false_or, or_true, true_or, and_true, true_and, and_false, false_and, and_self, ne_eq, not_false_eq_true, not_true_eq_false, forall_const, true_implies, false_implies, Nat.add_zero, Nat.zero_add, Nat.le_refl, Nat.zero_le, List.set_cons_zero, List.set_cons_succ, List.set_nil, ↓reduceIte, Nat.reduceAdd, Nat.reduceSub, Nat.reduceEqDiff, Nat.reduceLeDiff, Int.reduceEq, Int.reduceNe, Int.reduceNeg, reduceCtorEq]
        exact nx2
      refine WP.run [(218, 13), (218, 34)] [] 60 ?_
      simp only [bk218_0, bk218_13, bk218_19, bk218_32, bk218_34, bk218_39, bk218_44, bk218_51, bk218_62, bk218_66, bk218_67, bk218_74, bk218_77, bk218_86, bk218_89, bk218_94, bk218_100, bk218_107, bk218_136, bk218_156, bk218_159, bk218_166, bk218_186, bk218_209, bk218_220, bk218_224, bk218_225, bk218_243, bk218_245, bk218_250, bk218_270, U_aload_n, U_getfield, U_iconst, U_iald, U_invokevirtual1, U_istore_n, U_iload_n, U_bipush, U_icmp_ge, U_iast, U_iinc, U_goto, U_istore, U_iload, U_if_ne, U_icmp_gt, U_if_lt, U_isub, U_imul, U_iadd, U_irem, U_icmp_ne, U_return, UN_cc, UN_cn, UN_nc, UN_nn, UJ, lget, lset, lset2, entL, wsm, wcat, Option.toList_some, Option.toList_none, List.cons_append, List.nil_append, List.mem_cons, List.not_mem_nil, Prod.mk.injEq, or_false, false_or, or_true, true_or, and_true, true_and, and_false, false_and, and_self, ne_eq, not_false_eq_true, not_true_eq_false, forall_const, true_implies, false_implies, Nat.add_zero, Nat.zero_add, Nat.le_refl, Nat.zero_le, List.set_cons_zero, List.set_cons_succ, List.set_nil, ↓reduceIte, Nat.reduceAdd, Nat.reduceSub, Nat.reduceEqDiff, Nat.reduceLeDiff, Int.reduceEq, Int.reduceNe, Int.reduceNeg, reduceCtorEq]
      repeat' (first | refine And.intro (by omega) ?_ | refine And.intro (rr (by omega)) ?_ | refine And.intro (r3 (by omega)) ?_ | refine And.intro (r6 (by omega)) ?_ | ((fail_if_success (show WP _ _ _ _ _ _ _ _)); (first | refine And.intro ?_ ?_ | intro _)))
      all_goals first | (exfalso; omega) | exact nx
    | succ n ih =>
      intro j c d e f g Ni hj hF hA
      have hz' := hF.fz (fzk rfl rfl) hz
      have nx : WP 218 (0, 0) 13 [(2, 190), (0, b), (0, ((j + 1 : Nat) : Int)), c, d, e, f, g] [] NN (ust Ni 215 (j : Int) 0) Q := ih (j + 1) _ _ _ _ _ _ (by omega) (hF.us _ _ (by simp) (by decide)) (fun l hl => by
        rw [ust_at]
        by_cases q : l = j
        · rw [if_pos (by omega)]
        · rw [if_neg (by omega)]; exact hA l (by omega))
      refine WP.run [(218, 13), (218, 34)] [] 60 ?_
      simp only [bk218_0, bk218_13, bk218_19, bk218_32, bk218_34, bk218_39, bk218_44, bk218_51, bk218_62, bk218_66, bk218_67, bk218_74, bk218_77, bk218_86, bk218_89, bk218_94, bk218_100, bk218_107, bk218_136, bk218_156, bk218_159, bk218_166, bk218_186, bk218_209, bk218_220, bk218_224, bk218_225, bk218_243, bk218_245, bk218_250, bk218_270, U_aload_n, U_getfield, U_iconst, U_iald, U_invokevirtual1, U_istore_n, U_iload_n, U_bipush, U_icmp_ge, U_iast, U_iinc, U_goto, U_istore, U_iload, U_if_ne, U_icmp_gt, U_if_lt, U_isub, U_imul, U_iadd, U_irem, U_icmp_ne, U_return, UN_cc, UN_cn, UN_nc, UN_nn, UJ, lget, lset, lset2, entL, wsm, wcat, Option.toList_some, Option.toList_none, List.cons_append, List.nil_append, List.mem_cons, List.not_mem_nil, Prod.mk.injEq, or_false, false_or, or_true, true_or, and_true, true_and, and_false, false_and, and_self, ne_eq, not_false_eq_true, not_true_eq_false, forall_const, true_implies, false_implies, Nat.add_zero, Nat.zero_add, Nat.le_refl, Nat.zero_le, List.set_cons_zero, List.set_cons_succ, List.set_nil, ↓reduceIte, Nat.reduceAdd, Nat.reduceSub, Nat.reduceEqDiff, Nat.reduceLeDiff, Int.reduceEq, Int.reduceNe, Int.reduceNeg, reduceCtorEq, kd190, kd215, ln215, z190_33 hz']
      repeat' (first | refine And.intro (by omega) ?_ | refine And.intro (rr (by omega)) ?_ | refine And.intro (r3 (by omega)) ?_ | refine And.intro (r6 (by omega)) ?_ | ((fail_if_success (show WP _ _ _ _ _ _ _ _)); (first | refine And.intro ?_ ?_ | intro _)))
      all_goals first | (exfalso; omega) | exact nx
  have nx := key 6 0 (9, 0) (9, 0) (9, 0) (9, 0) (9, 0) N (by omega) (FM.rf _ _ _) (fun l hl => absurd hl (Nat.not_lt_zero l))
  refine WP.run [(218, 13)] [] 60 ?_
  simp only [bk218_0, bk218_13, bk218_19, bk218_32, bk218_34, bk218_39, bk218_44, bk218_51, bk218_62, bk218_66, bk218_67, bk218_74, bk218_77, bk218_86, bk218_89, bk218_94, bk218_100, bk218_107, bk218_136, bk218_156, bk218_159, bk218_166, bk218_186, bk218_209, bk218_220, bk218_224, bk218_225, bk218_243, bk218_245, bk218_250, bk218_270, U_aload_n, U_getfield, U_iconst, U_iald, U_invokevirtual1, U_istore_n, U_iload_n, U_bipush, U_icmp_ge, U_iast, U_iinc, U_goto, U_istore, U_iload, U_if_ne, U_icmp_gt, U_if_lt, U_isub, U_imul, U_iadd, U_irem, U_icmp_ne, U_return, UN_cc, UN_cn, UN_nc, UN_nn, UJ, lget, lset, lset2, entL, wsm, wcat, Option.toList_some, Option.toList_none, List.cons_append, List.nil_append, List.mem_cons, List.not_mem_nil, Prod.mk.injEq, or_false, false_or, or_true, true_or, and_true, true_and, and_false, false_and, and_self, ne_eq, not_false_eq_true, not_true_eq_false, forall_const, true_implies, false_implies, Nat.add_zero, Nat.zero_add, Nat.le_refl, Nat.zero_le, List.set_cons_zero, List.set_cons_succ, List.set_nil, ↓reduceIte, Nat.reduceAdd, Nat.reduceSub, Nat.reduceEqDiff, Nat.reduceLeDiff, Int.reduceEq, Int.reduceNe, Int.reduceNeg, reduceCtorEq, kd190, kd211, ln211, z190_28 hz]
  repeat (first | refine And.intro (by first | omega | exact not_false) ?_ | refine And.intro (rr (by omega)) ?_ | refine And.intro (r3 (by omega)) ?_ | refine And.intro (r6 (by omega)) ?_)
  refine m_inv hp h0 s1 ?_
  rw [hbb]
  simp only [bk218_0, bk218_13, bk218_19, bk218_32, bk218_34, bk218_39, bk218_44, bk218_51, bk218_62, bk218_66, bk218_67, bk218_74, bk218_77, bk218_86, bk218_89, bk218_94, bk218_100, bk218_107, bk218_136, bk218_156, bk218_159, bk218_166, bk218_186, bk218_209, bk218_220, bk218_224, bk218_225, bk218_243, bk218_245, bk218_250, bk218_270, U_aload_n, U_getfield, U_iconst, U_iald, U_invokevirtual1, U_istore_n, U_iload_n, U_bipush, U_icmp_ge, U_iast, U_iinc, U_goto, U_istore, U_iload, U_if_ne, U_icmp_gt, U_if_lt, U_isub, U_imul, U_iadd, U_irem, U_icmp_ne, U_return, UN_cc, UN_cn, UN_nc, UN_nn, UJ, lget, lset, lset2, entL, wsm, wcat, Option.toList_some, Option.toList_none, List.cons_append, List.nil_append, List.mem_cons, List.not_mem_nil, Prod.mk.injEq, or_false, false_or, or_true, true_or, and_true, true_and, and_false, false_and, and_self, ne_eq, not_false_eq_true, not_true_eq_false, forall_const, true_implies, false_implies, Nat.add_zero, Nat.zero_add, Nat.le_refl, Nat.zero_le, List.set_cons_zero, List.set_cons_succ, List.set_nil, ↓reduceIte, Nat.reduceAdd, Nat.reduceSub, Nat.reduceEqDiff, Nat.reduceLeDiff, Int.reduceEq, Int.reduceNe, Int.reduceNeg, reduceCtorEq]
  exact nx
