/-! CODES: all functions that are left; how many up to a pole -/
set_option maxHeartbeats 16000000 in
theorem l_find {p : Int} {N : Mem} {ρ : Int → Option (Pz p)} {Q : Post} {f : Pz p} (hS : ST p N ρ) (hP : PTS N f) (hd : dg f = 4 ∨ dg f = 6)
    (hQ : ∀ N', FC N N' → (N' 120 9 = N 120 9 ∧ N' 120 13 = N 120 13) → CdA N' f (cdL f 31) → Q none NN N') :
    ∀ (n k : Nat) (Ni : Mem), k + n = 31 → FC N Ni → (Ni 120 9 = N 120 9 ∧ Ni 120 13 = N 120 13) → CdA Ni f (cdL f k) → WP 42 (0, 0) 41 [(2, 120), (0, (dg f : Int) - 1), (0, (k : Int))] [] NN Ni Q := by
  have hp := hS.1.2.1
  have hpp := hp.pos
  have h26 := ptl_26 hp f
  intro n
  induction n with
  | zero =>
    intro k Ni hk hF h9 hA
    obtain rfl : k = 31 := by omega
    refine WP.run [(42, 41)] [] 60 ?_
    simp only [bk42_0, bk42_41, bk42_47, bk42_58, bk42_65, bk42_70, bk42_73, bk42_80, bk42_86, bk42_91, bk42_98, bk42_102, bk42_103, bk42_115, bk42_121, U_aload_n, U_iconst, U_putfield, U_getfield, U_isub, U_bipush, U_min, U_istore_n, U_iload_n, U_icmp_gt, U_icmp_ge, U_irem, U_icmp_ne, U_goto, U_if_ne, U_idiv, U_invokevirtual2, U_invokevirtual0, U_invokevirtual1, U_iinc, U_return, UN_cc, UN_cn, UN_nc, UN_nn, UJ, lget, lset, lset2, entL, wsm, wcat, Option.toList_some, Option.toList_none, List.cons_append, List.nil_append, List.mem_cons, List.not_mem_nil, Prod.mk.injEq, or_false, false_or, or_true, true_or, and_true, true_and, and_false, false_and, and_self, ne_eq, not_false_eq_true, not_true_eq_false, forall_const, true_implies, false_implies, Nat.add_zero, Nat.zero_add, Nat.le_refl, Nat.zero_le, List.set_cons_zero, List.set_cons_succ, List.set_nil, ↓reduceIte, Nat.reduceAdd, Nat.reduceSub, Nat.reduceEqDiff, Nat.reduceLeDiff, Int.reduceEq, Int.reduceNe, Int.reduceNeg, reduceCtorEq]
    exact ⟨rr (by omega), fun _ => hQ Ni hF h9 hA, fun e => absurd (by omega) e⟩
  | succ n ih =>
    intro k Ni hk hF h9 hA
    have hSi := hF.st hS
    have hPi := hF.pts hP
    have hle := cdL_len hp f k
    refine WP.run [(42, 41), (42, 73), (42, 115)] [] 60 ?_
    simp only [bk42_0, bk42_41, bk42_47, bk42_58, bk42_65, bk42_70, bk42_73, bk42_80, bk42_86, bk42_91, bk42_98, bk42_102, bk42_103, bk42_115, bk42_121, U_aload_n, U_iconst, U_putfield, U_getfield, U_isub, U_bipush, U_min, U_istore_n, U_iload_n, U_icmp_gt, U_icmp_ge, U_irem, U_icmp_ne, U_goto, U_if_ne, U_idiv, U_invokevirtual2, U_invokevirtual0, U_invokevirtual1, U_iinc, U_return, UN_cc, UN_cn, UN_nc, UN_nn, UJ, lget, lset, lset2, entL, wsm, wcat, Option.toList_some, Option.toList_none, List.cons_append, List.nil_append, List.mem_cons, List.not_mem_nil, Prod.mk.injEq, or_false, false_or, or_true, true_or, and_true, true_and, and_false, false_and, and_self, ne_eq, not_false_eq_true, not_true_eq_false, forall_const, true_implies, false_implies, Nat.add_zero, Nat.zero_add, Nat.le_refl, Nat.zero_le, List.set_cons_zero, List.set_cons_succ, List.set_nil, ↓reduceIte, Nat.reduceAdd, Nat.reduceSub, Nat.reduceEqDiff, Nat.reduceLeDiff, Int.reduceEq, Int.reduceNe, Int.reduceNeg, reduceCtorEq, kd120, hA.1, hA.2.1]
    have t2 : (k : Int).tmod 2 = ((k % 2 : Nat) : Int) := by rw [tm_nn (by omega)]; omega
    have t3 : (k : Int).tdiv 2 = ((k / 2 : Nat) : Int) := by rw [Int.tdiv_eq_ediv_of_nonneg (by omega)]; omega
    rw [t2]
    have nxt : ∀ N', FC N N' → (N' 120 9 = N 120 9 ∧ N' 120 13 = N 120 13) → CdA N' f (cdL f (k + 1)) → WP 42 (0, 0) 115 [(2, 120), (0, (dg f : Int) - 1), (0, (k : Int))] [] NN N' Q := fun N' g1 g2 g3 => by
      refine WP.run [(42, 41)] [] 60 ?_
      simp only [bk42_0, bk42_41, bk42_47, bk42_58, bk42_65, bk42_70, bk42_73, bk42_80, bk42_86, bk42_91, bk42_98, bk42_102, bk42_103, bk42_115, bk42_121, U_aload_n, U_iconst, U_putfield, U_getfield, U_isub, U_bipush, U_min, U_istore_n, U_iload_n, U_icmp_gt, U_icmp_ge, U_irem, U_icmp_ne, U_goto, U_if_ne, U_idiv, U_invokevirtual2, U_invokevirtual0, U_invokevirtual1, U_iinc, U_return, UN_cc, UN_cn, UN_nc, UN_nn, UJ, lget, lset, lset2, entL, wsm, wcat, Option.toList_some, Option.toList_none, List.cons_append, List.nil_append, List.mem_cons, List.not_mem_nil, Prod.mk.injEq, or_false, false_or, or_true, true_or, and_true, true_and, and_false, false_and, and_self, ne_eq, not_false_eq_true, not_true_eq_false, forall_const, true_implies, false_implies, Nat.add_zero, Nat.zero_add, Nat.le_refl, Nat.zero_le, List.set_cons_zero, List.set_cons_succ, List.set_nil, ↓reduceIte, Nat.reduceAdd, Nat.reduceSub, Nat.reduceEqDiff, Nat.reduceLeDiff, Int.reduceEq, Int.reduceNe, Int.reduceNeg, reduceCtorEq]
      exact ih (k + 1) N' (by omega) g1 g2 g3
    have work : ¬ (k % 2 = 1 ∧ k < dg f - 1) → (cdL f k).length < (ptl f p.toNat).length → WP 42 (0, 0) 73 [(2, 120), (0, (dg f : Int) - 1), (0, (k : Int))] [] NN Ni Q := fun hsk hlt => by
      have es : cdL f (k + 1) = if ld (rdA p (ptl f p.toNat).length (clrs (cdL f k)) (wdF f k)) (ptl f p.toNat).length < (ptl f p.toNat).length then cdL f k ++ [(k, wdF f k, nrm p (ptl f p.toNat).length (rdA p (ptl f p.toNat).length (clrs (cdL f k)) (wdF f k)))] else cdL f k := by
        show (if k % 2 = 1 ∧ k < dg f - 1 then cdL f k else _) = _
        rw [if_neg hsk]
      have hwr := wdF_rg hp f k
      have hE := cdL_ech hp f k
      refine WP.run [(42, 41), (42, 115)] [] 60 ?_
      simp only [bk42_0, bk42_41, bk42_47, bk42_58, bk42_65, bk42_70, bk42_73, bk42_80, bk42_86, bk42_91, bk42_98, bk42_102, bk42_103, bk42_115, bk42_121, U_aload_n, U_iconst, U_putfield, U_getfield, U_isub, U_bipush, U_min, U_istore_n, U_iload_n, U_icmp_gt, U_icmp_ge, U_irem, U_icmp_ne, U_goto, U_if_ne, U_idiv, U_invokevirtual2, U_invokevirtual0, U_invokevirtual1, U_iinc, U_return, UN_cc, UN_cn, UN_nc, UN_nn, UJ, lget, lset, lset2, entL, wsm, wcat, Option.toList_some, Option.toList_none, List.cons_append, List.nil_append, List.mem_cons, List.not_mem_nil, Prod.mk.injEq, or_false, false_or, or_true, true_or, and_true, true_and, and_false, false_and, and_self, ne_eq, not_false_eq_true, not_true_eq_false, forall_const, true_implies, false_implies, Nat.add_zero, Nat.zero_add, Nat.le_refl, Nat.zero_le, List.set_cons_zero, List.set_cons_succ, List.set_nil, ↓reduceIte, Nat.reduceAdd, Nat.reduceSub, Nat.reduceEqDiff, Nat.reduceLeDiff, Int.reduceEq, Int.reduceNe, Int.reduceNeg, reduceCtorEq, kd120]
      rw [t2]
      rcases Nat.mod_two_eq_zero_or_one k with hpar | hpar
      · rw [hpar, t3]
        refine ⟨r3 (by omega), r3 (by omega), r3 (by omega), fun _ => ⟨r3 (by omega), r3 (by omega), r3 (by omega), r3 (by omega), rr (by omega), fun e => absurd e (by omega), fun _ => ?_⟩, fun e => absurd rfl e⟩
        refine s_readOff (f := f) (l := (cdL f k).length) (m := k / 2) (w := wdF f k) hSi hPi (by omega) hA.1 hA.2.1 rfl (by omega) (Or.inl rfl) (fun j q hq => ?_) fun N1 g1 g2 => ?_
        · show (match (ptl f p.toNat)[j]? with | none => (0 : Int) | some q => if k % 2 = 0 then pwy p q.1 1 (k / 2) else pwy p q.1 q.2 ((k - (dg f - 1)) / 2)) = _
          rw [hq]
          show (if k % 2 = 0 then pwy p q.1 1 (k / 2) else pwy p q.1 q.2 ((k - (dg f - 1)) / 2)) = _
          rw [if_pos hpar, if_pos rfl]
        · skip
          simp only [bk42_0, bk42_41, bk42_47, bk42_58, bk42_65, bk42_70, bk42_73, bk42_80, bk42_86, bk42_91, bk42_98, bk42_102, bk42_103, bk42_115, bk42_121, U_aload_n, U_iconst, U_putfield, U_getfield, U_isub, U_bipush, U_min, U_istore_n, U_iload_n, U_icmp_gt, U_icmp_ge, U_irem, U_icmp_ne, U_goto, U_if_ne, U_idiv, U_invokevirtual2, U_invokevirtual0, U_invokevirtual1, U_iinc, U_return, UN_cc, UN_cn, UN_nc, UN_nn, UJ, lget, lset, lset2, entL, wsm, wcat, Option.toList_some, Option.toList_none, List.cons_append, List.nil_append, List.mem_cons, List.not_mem_nil, Prod.mk.injEq, or_false, false_or, or_true, true_or, and_true, true_and, and_false, false_and, and_self, ne_eq, not_false_eq_true, not_true_eq_false, forall_const, true_implies, false_implies, Nat.add_zero, Nat.zero_add, Nat.le_refl, Nat.zero_le, List.set_cons_zero, List.set_cons_succ, List.set_nil, ↓reduceIte, Nat.reduceAdd, Nat.reduceSub, Nat.reduceEqDiff, Nat.reduceLeDiff, Int.reduceEq, Int.reduceNe, Int.reduceNeg, reduceCtorEq, kd120]
          have f1 := FC.fr g1 (by unfold cdC; omega) (by omega)
          have hA1 : CdA N1 f (cdL f k) := hA.fc (by rw [g1 120 (by simp <;> omega)]) (by rw [g1 120 (by simp <;> omega)]) (g1 176 (by simp <;> omega)) (g1 177 (by simp <;> omega)) (fun i hi => ⟨g1 _ (by simp <;> omega), g1 _ (by simp <;> omega)⟩)
          refine s_clear2 (f1.st hSi) hA1 hwr g2 (by omega) hE fun N2 b1 b2 => ?_
          have f2 := FC.fr b1 (by unfold cdC; omega) (by omega)
          have hA2 : CdA N2 f (cdL f k) := hA1.fc (by rw [b1 120 (by simp <;> omega)]) (by rw [b1 120 (by simp <;> omega)]) (b1 176 (by simp <;> omega)) (b1 177 (by simp <;> omega)) (fun i hi => ⟨b1 _ (by simp <;> omega), b1 _ (by simp <;> omega)⟩)
          simp only [bk42_0, bk42_41, bk42_47, bk42_58, bk42_65, bk42_70, bk42_73, bk42_80, bk42_86, bk42_91, bk42_98, bk42_102, bk42_103, bk42_115, bk42_121, U_aload_n, U_iconst, U_putfield, U_getfield, U_isub, U_bipush, U_min, U_istore_n, U_iload_n, U_icmp_gt, U_icmp_ge, U_irem, U_icmp_ne, U_goto, U_if_ne, U_idiv, U_invokevirtual2, U_invokevirtual0, U_invokevirtual1, U_iinc, U_return, UN_cc, UN_cn, UN_nc, UN_nn, UJ, lget, lset, lset2, entL, wsm, wcat, Option.toList_some, Option.toList_none, List.cons_append, List.nil_append, List.mem_cons, List.not_mem_nil, Prod.mk.injEq, or_false, false_or, or_true, true_or, and_true, true_and, and_false, false_and, and_self, ne_eq, not_false_eq_true, not_true_eq_false, forall_const, true_implies, false_implies, Nat.add_zero, Nat.zero_add, Nat.le_refl, Nat.zero_le, List.set_cons_zero, List.set_cons_succ, List.set_nil, ↓reduceIte, Nat.reduceAdd, Nat.reduceSub, Nat.reduceEqDiff, Nat.reduceLeDiff, Int.reduceEq, Int.reduceNe, Int.reduceNeg, reduceCtorEq, kd120]
          refine s_keepLeft (w := wdF f k) ((f1.tr f2).st hSi) hA2 (rdA_rg hp _ _ _ hwr) (by omega) (fun j hj => by rw [b1 (123 + ((cdL f k).length : Int)) (by simp <;> omega)]; exact g2 j hj) b2 fun N3 c1 c2 c3 => ?_
          rw [← es] at c3
          simp only [bk42_0, bk42_41, bk42_47, bk42_58, bk42_65, bk42_70, bk42_73, bk42_80, bk42_86, bk42_91, bk42_98, bk42_102, bk42_103, bk42_115, bk42_121, U_aload_n, U_iconst, U_putfield, U_getfield, U_isub, U_bipush, U_min, U_istore_n, U_iload_n, U_icmp_gt, U_icmp_ge, U_irem, U_icmp_ne, U_goto, U_if_ne, U_idiv, U_invokevirtual2, U_invokevirtual0, U_invokevirtual1, U_iinc, U_return, UN_cc, UN_cn, UN_nc, UN_nn, UJ, lget, lset, lset2, entL, wsm, wcat, Option.toList_some, Option.toList_none, List.cons_append, List.nil_append, List.mem_cons, List.not_mem_nil, Prod.mk.injEq, or_false, false_or, or_true, true_or, and_true, true_and, and_false, false_and, and_self, ne_eq, not_false_eq_true, not_true_eq_false, forall_const, true_implies, false_implies, Nat.add_zero, Nat.zero_add, Nat.le_refl, Nat.zero_le, List.set_cons_zero, List.set_cons_succ, List.set_nil, ↓reduceIte, Nat.reduceAdd, Nat.reduceSub, Nat.reduceEqDiff, Nat.reduceLeDiff, Int.reduceEq, Int.reduceNe, Int.reduceNeg, reduceCtorEq]
          exact nxt N3 (hF.tr ((f1.tr f2).tr c1)) ⟨by rw [c2.1, b1 120 (by simp <;> omega), g1 120 (by simp <;> omega)]; exact h9.1, by rw [c2.2, b1 120 (by simp <;> omega), g1 120 (by simp <;> omega)]; exact h9.2⟩ c3
      · have t4 : ((k : Int) - ((dg f : Int) - 1)).tdiv 2 = (((k - (dg f - 1)) / 2 : Nat) : Int) := by rw [Int.tdiv_eq_ediv_of_nonneg (by omega)]; omega
        rw [hpar, t4]
        refine ⟨r3 (by omega), r3 (by omega), r3 (by omega), fun e => absurd e (by omega), fun _ => ⟨r3 (by omega), r3 (by omega), r3 (by omega), r3 (by omega), rr (by omega), fun _ => ?_, fun e => absurd rfl e⟩⟩
        refine s_readOff (f := f) (l := (cdL f k).length) (m := (k - (dg f - 1)) / 2) (w := wdF f k) hSi hPi (by omega) hA.1 hA.2.1 rfl (by omega) (Or.inr rfl) (fun j q hq => ?_) fun N1 g1 g2 => ?_
        · show (match (ptl f p.toNat)[j]? with | none => (0 : Int) | some q => if k % 2 = 0 then pwy p q.1 1 (k / 2) else pwy p q.1 q.2 ((k - (dg f - 1)) / 2)) = _
          rw [hq]
          show (if k % 2 = 0 then pwy p q.1 1 (k / 2) else pwy p q.1 q.2 ((k - (dg f - 1)) / 2)) = _
          rw [if_neg (by omega), if_neg (by decide)]
        · skip
          simp only [bk42_0, bk42_41, bk42_47, bk42_58, bk42_65, bk42_70, bk42_73, bk42_80, bk42_86, bk42_91, bk42_98, bk42_102, bk42_103, bk42_115, bk42_121, U_aload_n, U_iconst, U_putfield, U_getfield, U_isub, U_bipush, U_min, U_istore_n, U_iload_n, U_icmp_gt, U_icmp_ge, U_irem, U_icmp_ne, U_goto, U_if_ne, U_idiv, U_invokevirtual2, U_invokevirtual0, U_invokevirtual1, U_iinc, U_return, UN_cc, UN_cn, UN_nc, UN_nn, UJ, lget, lset, lset2, entL, wsm, wcat, Option.toList_some, Option.toList_none, List.cons_append, List.nil_append, List.mem_cons, List.not_mem_nil, Prod.mk.injEq, or_false, false_or, or_true, true_or, and_true, true_and, and_false, false_and, and_self, ne_eq, not_false_eq_true, not_true_eq_false, forall_const, true_implies, false_implies, Nat.add_zero, Nat.zero_add, Nat.le_refl, Nat.zero_le, List.set_cons_zero, List.set_cons_succ, List.set_nil, ↓reduceIte, Nat.reduceAdd, Nat.reduceSub, Nat.reduceEqDiff, Nat.reduceLeDiff, Int.reduceEq, Int.reduceNe, Int.reduceNeg, reduceCtorEq, kd120]
          have f1 := FC.fr g1 (by unfold cdC; omega) (by omega)
          have hA1 : CdA N1 f (cdL f k) := hA.fc (by rw [g1 120 (by simp <;> omega)]) (by rw [g1 120 (by simp <;> omega)]) (g1 176 (by simp <;> omega)) (g1 177 (by simp <;> omega)) (fun i hi => ⟨g1 _ (by simp <;> omega), g1 _ (by simp <;> omega)⟩)
          refine s_clear2 (f1.st hSi) hA1 hwr g2 (by omega) hE fun N2 b1 b2 => ?_
          have f2 := FC.fr b1 (by unfold cdC; omega) (by omega)
          have hA2 : CdA N2 f (cdL f k) := hA1.fc (by rw [b1 120 (by simp <;> omega)]) (by rw [b1 120 (by simp <;> omega)]) (b1 176 (by simp <;> omega)) (b1 177 (by simp <;> omega)) (fun i hi => ⟨b1 _ (by simp <;> omega), b1 _ (by simp <;> omega)⟩)
          simp only [bk42_0, bk42_41, bk42_47, bk42_58, bk42_65, bk42_70, bk42_73, bk42_80, bk42_86, bk42_91, bk42_98, bk42_102, bk42_103, bk42_115, bk42_121, U_aload_n, U_iconst, U_putfield, U_getfield, U_isub, U_bipush, U_min, U_istore_n, U_iload_n, U_icmp_gt, U_icmp_ge, U_irem, U_icmp_ne, U_goto, U_if_ne, U_idiv, U_invokevirtual2, U_invokevirtual0, U_invokevirtual1, U_iinc, U_return, UN_cc, UN_cn, UN_nc, UN_nn, UJ, lget, lset, lset2, entL, wsm, wcat, Option.toList_some, Option.toList_none, List.cons_append, List.nil_append, List.mem_cons, List.not_mem_nil, Prod.mk.injEq, or_false, false_or, or_true, true_or, and_true, true_and, and_false, false_and, and_self, ne_eq, not_false_eq_true, not_true_eq_false, forall_const, true_implies, false_implies, Nat.add_zero, Nat.zero_add, Nat.le_refl, Nat.zero_le, List.set_cons_zero, List.set_cons_succ, List.set_nil, ↓reduceIte, Nat.reduceAdd, Nat.reduceSub, Nat.reduceEqDiff, Nat.reduceLeDiff, Int.reduceEq, Int.reduceNe, Int.reduceNeg, reduceCtorEq, kd120]
          refine s_keepLeft (w := wdF f k) ((f1.tr f2).st hSi) hA2 (rdA_rg hp _ _ _ hwr) (by omega) (fun j hj => by rw [b1 (123 + ((cdL f k).length : Int)) (by simp <;> omega)]; exact g2 j hj) b2 fun N3 c1 c2 c3 => ?_
          rw [← es] at c3
          simp only [bk42_0, bk42_41, bk42_47, bk42_58, bk42_65, bk42_70, bk42_73, bk42_80, bk42_86, bk42_91, bk42_98, bk42_102, bk42_103, bk42_115, bk42_121, U_aload_n, U_iconst, U_putfield, U_getfield, U_isub, U_bipush, U_min, U_istore_n, U_iload_n, U_icmp_gt, U_icmp_ge, U_irem, U_icmp_ne, U_goto, U_if_ne, U_idiv, U_invokevirtual2, U_invokevirtual0, U_invokevirtual1, U_iinc, U_return, UN_cc, UN_cn, UN_nc, UN_nn, UJ, lget, lset, lset2, entL, wsm, wcat, Option.toList_some, Option.toList_none, List.cons_append, List.nil_append, List.mem_cons, List.not_mem_nil, Prod.mk.injEq, or_false, false_or, or_true, true_or, and_true, true_and, and_false, false_and, and_self, ne_eq, not_false_eq_true, not_true_eq_false, forall_const, true_implies, false_implies, Nat.add_zero, Nat.zero_add, Nat.le_refl, Nat.zero_le, List.set_cons_zero, List.set_cons_succ, List.set_nil, ↓reduceIte, Nat.reduceAdd, Nat.reduceSub, Nat.reduceEqDiff, Nat.reduceLeDiff, Int.reduceEq, Int.reduceNe, Int.reduceNeg, reduceCtorEq]
          exact nxt N3 (hF.tr ((f1.tr f2).tr c1)) ⟨by rw [c2.1, b1 120 (by simp <;> omega), g1 120 (by simp <;> omega)]; exact h9.1, by rw [c2.2, b1 120 (by simp <;> omega), g1 120 (by simp <;> omega)]; exact h9.2⟩ c3
    refine ⟨rr (by omega), fun e => absurd e (by omega), fun _ => ⟨rr (by omega), fun hlt => ⟨r3 (by omega), r3 (by omega), rr (by omega), fun e1 => ⟨rr (by omega), fun e2 => ?_, fun e2 => work (by omega) (by omega)⟩, fun e1 => work (by omega) (by omega)⟩, fun hge => ?_⟩⟩
    · refine nxt Ni hF h9 ?_
      have es : cdL f (k + 1) = cdL f k := by
        show (if k % 2 = 1 ∧ k < dg f - 1 then cdL f k else _) = _
        rw [if_pos (by omega)]
      rw [es]; exact hA
    · have hfl : (cdL f k).length = (ptl f p.toNat).length := by omega
      have := cdL_full hp f hfl (31 - k)
      rw [show k + (31 - k) = 31 by omega] at this
      exact hQ Ni hF h9 (by rw [this]; exact hA)
/-- how many of those left have a pole of m at most -/
def cdW (K : List CdE) (m : Nat) : Nat → Nat → Nat
  | 0, i => i
  | n + 1, i => match K[i]? with
    | none => i
    | some e => if e.1 ≤ m then cdW K m n (i + 1) else i
set_option maxHeartbeats 8000000 in
theorem l_wid {p : Int} {N : Mem} {Q : Post} {f : Pz p} {K : List CdE} {m : Nat} (hz : Fz N) (hA : CdA N f K) (hl : K.length ≤ 26) (hm : m ≤ 30) (hpo : ∀ e ∈ K, e.1 < 31) : ∀ (n i : Nat), i + n = K.length → Q (some (0, (cdW K m n i : Int))) NN N → WP 43 (0, 0) 13 [(2, 120), (0, (m : Int)), (0, (i : Int))] [] NN N Q := by
  intro n
  induction n with
  | zero =>
    intro i hi hQ
    refine WP.run [(43, 13)] [] 60 ?_
    simp only [bk43_0, bk43_7, bk43_11, bk43_13, bk43_21, bk43_27, bk43_37, bk43_43, U_aload_n, U_getfield, U_if_ne, U_invokevirtual0, U_iconst, U_istore_n, U_iload_n, U_icmp_ge, U_bipush, U_iald, U_icmp_gt, U_iinc, U_goto, U_ireturn, UN_cc, UN_cn, UN_nc, UN_nn, UJ, lget, lset, lset2, entL, wsm, wcat, Option.toList_some, Option.toList_none, List.cons_append, List.nil_append, List.mem_cons, List.not_mem_nil, Prod.mk.injEq, or_false, false_or, or_true, true_or, and_true, true_and, and_false, false_and, and_self, ne_eq, not_false_eq_true, not_true_eq_false, forall_const, true_implies, false_implies, Nat.add_zero, Nat.zero_add, Nat.le_refl, Nat.zero_le, List.set_cons_zero, List.set_cons_succ, List.set_nil, ↓reduceIte, Nat.reduceAdd, Nat.reduceSub, Nat.reduceEqDiff, Nat.reduceLeDiff, Int.reduceEq, Int.reduceNe, Int.reduceNeg, reduceCtorEq, kd120, hA.1]
    exact ⟨rr (by omega), fun e => absurd e (by omega), fun _ => hQ⟩
  | succ n ih =>
    intro i hi hQ
    obtain ⟨e, he⟩ : ∃ e, K[i]? = some e := ⟨_, List.getElem?_eq_getElem (by omega)⟩
    have c1 := (hA.2.2 i e he).1
    have h31 := hpo e (List.mem_of_getElem? he)
    unfold cdW at hQ
    rw [he] at hQ
    simp only at hQ
    refine WP.run [(43, 13)] [] 60 ?_
    simp only [bk43_0, bk43_7, bk43_11, bk43_13, bk43_21, bk43_27, bk43_37, bk43_43, U_aload_n, U_getfield, U_if_ne, U_invokevirtual0, U_iconst, U_istore_n, U_iload_n, U_icmp_ge, U_bipush, U_iald, U_icmp_gt, U_iinc, U_goto, U_ireturn, UN_cc, UN_cn, UN_nc, UN_nn, UJ, lget, lset, lset2, entL, wsm, wcat, Option.toList_some, Option.toList_none, List.cons_append, List.nil_append, List.mem_cons, List.not_mem_nil, Prod.mk.injEq, or_false, false_or, or_true, true_or, and_true, true_and, and_false, false_and, and_self, ne_eq, not_false_eq_true, not_true_eq_false, forall_const, true_implies, false_implies, Nat.add_zero, Nat.zero_add, Nat.le_refl, Nat.zero_le, List.set_cons_zero, List.set_cons_succ, List.set_nil, ↓reduceIte, Nat.reduceAdd, Nat.reduceSub, Nat.reduceEqDiff, Nat.reduceLeDiff, Int.reduceEq, Int.reduceNe, Int.reduceNeg, reduceCtorEq, kd120, kd176, ln176, z120_5 hz, hA.1, c1]
    refine ⟨rr (by omega), fun _ => ⟨rr (by omega), fun _ => ⟨by omega, by omega, rr (by omega), fun e1 => ?_, fun e1 => ?_⟩, fun e => absurd e (by omega)⟩, fun e => absurd (by omega) e⟩
    · rw [if_neg (by omega)] at hQ; exact hQ
    · rw [if_pos (by omega)] at hQ; exact ih (i + 1) (by omega) hQ
/-- the code as it stands: nothing found yet, or all -/
def CdS {p : Int} (N : Mem) (f : Pz p) : Prop := N 120 9 = 0 ∨ (N 120 9 = 1 ∧ CdA N f (cdL f 31))
/-- how many functions the code of m has -/
noncomputable def cwd {p : Int} (f : Pz p) (m : Nat) : Nat := cdW (cdL f 31) m (cdL f 31).length 0
set_option maxHeartbeats 8000000 in
theorem s_cdWidth {p : Int} {N : Mem} {ρ : Int → Option (Pz p)} {Q : Post} {f : Pz p} {m : Nat} (hS : ST p N ρ) (hP : PTS N f) (hf : ρ 22 = some f) (hd : dg f = 4 ∨ dg f = 6) (hm : m ≤ 30) (hA : CdS N f)
    (hQ : ∀ N', FC N N' → N' 120 9 = 1 → (N 120 9 = 1 → N' = N) → N' 120 13 = N 120 13 → CdA N' f (cdL f 31) → Q (some (0, (cwd f m : Int))) NN N') : CL 43 [(2, 120), (0, (m : Int)), (9, 0)] NN N Q := by
  have hp := hS.1.2.1
  have hpp := hp.pos
  have h26 := ptl_26 hp f
  have hl := cdL_len hp f 31
  have fin : ∀ N', Fz N' → CdA N' f (cdL f 31) → Q (some (0, (cwd f m : Int))) NN N' → WP 43 (0, 0) 13 [(2, 120), (0, (m : Int)), (0, 0)] [] NN N' Q := fun N' hz h h2 => l_wid hz h (by omega) hm (cdL_pole f 31) (cdL f 31).length 0 (by omega) h2
  rcases hA with h0 | ⟨h1, hA⟩
  · refine WP.run [(43, 13)] [] 60 ?_
    simp only [bk43_0, bk43_7, bk43_11, bk43_13, bk43_21, bk43_27, bk43_37, bk43_43, U_aload_n, U_getfield, U_if_ne, U_invokevirtual0, U_iconst, U_istore_n, U_iload_n, U_icmp_ge, U_bipush, U_iald, U_icmp_gt, U_iinc, U_goto, U_ireturn, UN_cc, UN_cn, UN_nc, UN_nn, UJ, lget, lset, lset2, entL, wsm, wcat, Option.toList_some, Option.toList_none, List.cons_append, List.nil_append, List.mem_cons, List.not_mem_nil, Prod.mk.injEq, or_false, false_or, or_true, true_or, and_true, true_and, and_false, false_and, and_self, ne_eq, not_false_eq_true, not_true_eq_false, forall_const, true_implies, false_implies, Nat.add_zero, Nat.zero_add, Nat.le_refl, Nat.zero_le, List.set_cons_zero, List.set_cons_succ, List.set_nil, ↓reduceIte, Nat.reduceAdd, Nat.reduceSub, Nat.reduceEqDiff, Nat.reduceLeDiff, Int.reduceEq, Int.reduceNe, Int.reduceNeg, reduceCtorEq, kd120, h0]
    refine ⟨r3 (by omega), ?_⟩
    have k22 : KD 22 = 18 := rfl
    have r22 := hS.rp k22 hf
    refine WP.run [(42, 41)] [] 60 ?_
    have f3 : FC N (ust (ust (ust N 120 9 1) 120 7 0) 120 8 ((ptl f p.toNat).length : Int)) := (((FC.rf N).u0 _ (by omega)).u0 _ (by omega)).u0 _ (by omega)
    have z1 : ust (ust N 120 9 1) 120 7 0 120 1 = 21 := by rw [ust_at, if_neg (by omega), ust_at, if_neg (by omega)]; exact z120_1 hS.1.1
    have z2 : ust (ust N 120 9 1) 120 7 0 21 4 = ((ptl f p.toNat).length : Int) + 1 := by rw [ust_ne (by decide), ust_ne (by decide)]; exact hP.1
    have z3 : ust (ust (ust N 120 9 1) 120 7 0) 120 8 ((ptl f p.toNat).length : Int) 120 1 = 21 := by rw [ust_at, if_neg (by omega)]; exact z1
    have z4 : ust (ust (ust N 120 9 1) 120 7 0) 120 8 ((ptl f p.toNat).length : Int) 21 1 = 22 := by rw [ust_ne (by decide), ust_ne (by decide), ust_ne (by decide)]; exact z21_1 hS.1.1
    have z5 : ust (ust (ust N 120 9 1) 120 7 0) 120 8 ((ptl f p.toNat).length : Int) 22 1 = (dg f : Int) - 1 := by rw [ust_ne (by decide), ust_ne (by decide), ust_ne (by decide)]; exact r22.2.2.2
    have em : min ((ptl f p.toNat).length + 1 - 1 : Int) 26 = ((ptl f p.toNat).length : Int) := by omega
    simp only [bk42_0, bk42_41, bk42_47, bk42_58, bk42_65, bk42_70, bk42_73, bk42_80, bk42_86, bk42_91, bk42_98, bk42_102, bk42_103, bk42_115, bk42_121, U_aload_n, U_iconst, U_putfield, U_getfield, U_isub, U_bipush, U_min, U_istore_n, U_iload_n, U_icmp_gt, U_icmp_ge, U_irem, U_icmp_ne, U_goto, U_if_ne, U_idiv, U_invokevirtual2, U_invokevirtual0, U_invokevirtual1, U_iinc, U_return, UN_cc, UN_cn, UN_nc, UN_nn, UJ, lget, lset, lset2, entL, wsm, wcat, Option.toList_some, Option.toList_none, List.cons_append, List.nil_append, List.mem_cons, List.not_mem_nil, Prod.mk.injEq, or_false, false_or, or_true, true_or, and_true, true_and, and_false, false_and, and_self, ne_eq, not_false_eq_true, not_true_eq_false, forall_const, true_implies, false_implies, Nat.add_zero, Nat.zero_add, Nat.le_refl, Nat.zero_le, List.set_cons_zero, List.set_cons_succ, List.set_nil, ↓reduceIte, Nat.reduceAdd, Nat.reduceSub, Nat.reduceEqDiff, Nat.reduceLeDiff, Int.reduceEq, Int.reduceNe, Int.reduceNeg, reduceCtorEq, kd120, kd21, kd22, z1, z2, em, z3, z4, z5]
    refine ⟨r3 (by omega), r3 (by omega), ?_⟩
    refine l_find (N := ust (ust (ust N 120 9 1) 120 7 0) 120 8 ((ptl f p.toNat).length : Int)) (ρ := ρ) (f3.st hS) (f3.pts hP) hd (fun N' g1 g2 g3 => ?_) 31 0 _ (by omega) (FC.rf _) ⟨rfl, rfl⟩ ⟨by rw [ust_at, if_neg (by omega), ust_at, if_pos rfl]; rfl, by rw [ust_at, if_pos rfl], fun i e he => by cases he⟩
    simp only [bk43_0, bk43_7, bk43_11, bk43_13, bk43_21, bk43_27, bk43_37, bk43_43, U_aload_n, U_getfield, U_if_ne, U_invokevirtual0, U_iconst, U_istore_n, U_iload_n, U_icmp_ge, U_bipush, U_iald, U_icmp_gt, U_iinc, U_goto, U_ireturn, UN_cc, UN_cn, UN_nc, UN_nn, UJ, lget, lset, lset2, entL, wsm, wcat, Option.toList_some, Option.toList_none, List.cons_append, List.nil_append, List.mem_cons, List.not_mem_nil, Prod.mk.injEq, or_false, false_or, or_true, true_or, and_true, true_and, and_false, false_and, and_self, ne_eq, not_false_eq_true, not_true_eq_false, forall_const, true_implies, false_implies, Nat.add_zero, Nat.zero_add, Nat.le_refl, Nat.zero_le, List.set_cons_zero, List.set_cons_succ, List.set_nil, ↓reduceIte, Nat.reduceAdd, Nat.reduceSub, Nat.reduceEqDiff, Nat.reduceLeDiff, Int.reduceEq, Int.reduceNe, Int.reduceNeg, reduceCtorEq]
    have f4 := f3.tr g1
    refine fin N' (f4.fz hS.1.1) g3 (hQ N' f4 ?_ (fun e => absurd e (by omega)) ?_ g3)
    · rw [g2.1, ust_at, if_neg (by omega), ust_at, if_neg (by omega), ust_at, if_pos rfl]
    · rw [g2.2, ust_at, if_neg (by omega), ust_at, if_neg (by omega), ust_at, if_neg (by omega)]
  · refine WP.run [(43, 13)] [] 60 ?_
    simp only [bk43_0, bk43_7, bk43_11, bk43_13, bk43_21, bk43_27, bk43_37, bk43_43, U_aload_n, U_getfield, U_if_ne, U_invokevirtual0, U_iconst, U_istore_n, U_iload_n, U_icmp_ge, U_bipush, U_iald, U_icmp_gt, U_iinc, U_goto, U_ireturn, UN_cc, UN_cn, UN_nc, UN_nn, UJ, lget, lset, lset2, entL, wsm, wcat, Option.toList_some, Option.toList_none, List.cons_append, List.nil_append, List.mem_cons, List.not_mem_nil, Prod.mk.injEq, or_false, false_or, or_true, true_or, and_true, true_and, and_false, false_and, and_self, ne_eq, not_false_eq_true, not_true_eq_false, forall_const, true_implies, false_implies, Nat.add_zero, Nat.zero_add, Nat.le_refl, Nat.zero_le, List.set_cons_zero, List.set_cons_succ, List.set_nil, ↓reduceIte, Nat.reduceAdd, Nat.reduceSub, Nat.reduceEqDiff, Nat.reduceLeDiff, Int.reduceEq, Int.reduceNe, Int.reduceNeg, reduceCtorEq, kd120, h1]
    exact ⟨r3 (by omega), fin N hS.1.1 hA (hQ N (FC.rf _) h1 (fun _ => rfl) rfl hA)⟩
