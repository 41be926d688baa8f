/-! THE MODEL'S SERIES AT A POINT, whole -/
theorem f1_ne {p : Int} (hp : Pr p) {f : Pz p} {g : Nat} (hcv : Cv f g) {q : Int × Int} (hq : OnC f q) (h0 : q.2 = 0) : (sv (hX q.1) f).1 1 ≠ 0 := by
  have hpp := hp.pos
  have E := Euc_Pz hp
  intro hz
  have ev : pev f q.1 = 0 := by rw [← hq.2.2.2.2, h0]; exact Int.zero_emod _
  obtain ⟨f1, hf1⟩ := root_dv hp q f ev
  replace hf1 : f = pmul (pcl p q).1 f1 := hf1
  have t1 : Lo 1 (sv (hX q.1) (pcl p q).1) := fun i hi => by
    obtain rfl : i = 0 := by omega
    rw [svT hp]
    show (-q.1 + q.1) % p = 0
    rw [Int.add_left_neg, Int.zero_emod]
  have t2 : (sv (hX q.1) (pcl p q).1).1 1 = 1 := by
    rw [svT hp]
    show (0 + 1) % p = 1
    exact Int.emod_eq_of_lt (by omega) (by omega)
  have c := Lo.lt (n := 0) (t := sv (hX q.1) f1) t1 (fun i hi => absurd hi (Nat.not_lt_zero i))
  have hz2 : (smul (sv (hX q.1) (pcl p q).1) (sv (hX q.1) f1)).1 1 = 0 := by rw [← sv_mul, ← hf1]; exact hz
  rw [show (1 + 0 : Nat) = 1 from rfl, hz2, t2, Int.one_mul, Sz.nm, sv_0] at c
  obtain ⟨f2, hf2⟩ := root_dv hp q f1 c.symm
  replace hf2 : f1 = pmul (pcl p q).1 f2 := hf2
  obtain ⟨e, he⟩ := hcv.2.2.2 (pcl p q).1 ⟨f2, by
    show f = pmul (pmul (pcl p q).1 (pcl p q).1) f2
    rw [pmul_assoc, ← hf2, ← hf1]⟩
  replace he : pmul (pcl p q).1 e = pC p 1 := he
  have d1 : dg (pC p 1) = 1 := dg_C (by rw [Int.emod_eq_of_lt (by omega) (by omega)]; omega)
  by_cases e0 : dg e = 0
  · have : e = pC p 0 := dg_zero.mp e0
    rw [this, pmul_comm, pC_zero_mul] at he
    have h2 : dg (pC p 0) = 0 := dg_zero.mpr rfl
    rw [he, d1] at h2; omega
  · have := dg_mul hp (pcl p q).1 e (by rw [pcl_dg hp]; omega) e0
    rw [he, d1, pcl_dg hp] at this; omega
set_option maxHeartbeats 16000000 in
theorem l_ex5 {p : Int} {N : Mem} {Q : Post} {D : Nat} {pt y0 b : Int} {F : Nat → Int} (hp : Pr p) (hz : Fz N) (h0 : N 190 0 = p) (hD : N 190 1 = (D : Int)) (hD5 : D ≤ 5) (hF0 : ∀ k, 0 ≤ F k ∧ F k < p) (hs : ∀ i : Nat, i ≤ D → N 211 (i : Int) = F i) (hFf : ∀ i, D < i → F i = 0) (hy0 : 0 ≤ y0 ∧ y0 < p) (hb : 0 ≤ b ∧ b < p)
    (hQ : ∀ N', FM [210] [] N N' → (∀ i : Nat, i < 10 → N' 210 (i : Int) = yT p F y0 b 8 i) → Q none NN N') :
    ∀ (n k : Nat) (c d : V) (Ni : Mem), k + n = 8 → FM [210] [] N Ni → (∀ i : Nat, i < 10 → Ni 210 (i : Int) = yT p F y0 b k i) → WP 219 (0, 0) 205 [(2, 190), (0, pt), (0, b), (0, (k : Int) + 1), c, d] [] NN Ni Q := by
  have hpp := hp.pos
  intro n
  induction n with
  | zero =>
    intro k c d Ni hk hF hA
    obtain rfl : k = 8 := by omega
    have nx := hQ Ni hF hA
    refine WP.run [(219, 205)] [] 60 ?_
    simp only [bk219_0, bk219_2, bk219_8, bk219_28, bk219_30, bk219_38, bk219_51, bk219_56, bk219_60, bk219_65, bk219_69, bk219_108, bk219_145, bk219_166, bk219_205, bk219_211, bk219_219, bk219_228, bk219_229, bk219_234, bk219_240, bk219_268, bk219_292, bk219_293, U_iconst, U_istore_n, U_iload_n, U_bipush, U_icmp_ge, U_aload_n, U_getfield, U_iast, U_iinc, U_goto, U_icmp_gt, U_if_lt, U_if_le, U_iald, U_imul, U_isub, U_iadd, U_irem, U_invokevirtual2, U_if_eq, U_invokevirtual1, U_istore, U_iload, U_return, U_invokevirtual0, UN_cc, UN_cn, UN_nc, UN_nn, UJ, lget, lset, lset2, entL, wsm, wcat, Option.toList_some, Option.toList_none, List.cons_append, List.nil_append, List.mem_cons, List.not_mem_nil, Prod.mk.injEq, or_false, false_or, or_true, true_or, and_true, true_and, and_false, false_and, and_self, ne_eq, not_false_eq_true, not_true_eq_false, forall_const, true_implies, false_implies, Nat.add_zero, Nat.zero_add, Nat.le_refl, Nat.zero_le, List.set_cons_zero, List.set_cons_succ, List.set_nil, ↓reduceIte, Nat.reduceAdd, Nat.reduceSub, Nat.reduceEqDiff, Nat.reduceLeDiff, Int.reduceEq, Int.reduceNe, Int.reduceNeg, reduceCtorEq]
    repeat' (first | refine And.intro (by omega) ?_ | refine And.intro (rr (by omega)) ?_ | refine And.intro (r3 (by omega)) ?_ | refine And.intro (r6 (by omega)) ?_ | ((fail_if_success (show WP _ _ _ _ _ _ _ _)); (first | refine And.intro ?_ ?_ | intro _)))
    all_goals first | (exfalso; omega) | exact nx
  | succ n ih =>
    intro k c d Ni hk hF hA
    have hz' := hF.fz (fzk rfl rfl) hz
    have hP := hF.2 0 (by simp)
    rw [h0] at hP
    have hD' := hF.2 1 (by simp)
    rw [hD] at hD'
    have e1 : (k : Int) + 1 = ((k + 1 : Nat) : Int) := by omega
    have yr := yT_rg hp F b hy0 k
    have r1 := hF0 (k + 1)
    have nx : WP 219 (0, 0) 234 [(2, 190), (0, pt), (0, b), (0, ((k + 1 : Nat) : Int)), (0, F (k + 1)), (0, 1)] [] NN Ni Q := by
      have := l_ex6 (Q := Q) (k := k + 1) (y := yT p F y0 b k) (pt := pt) (F := F (k + 1)) (b := b) hp hz' (by omega) yr hA r1 (fun e => ?_) k 1 (by omega) (Nat.le_refl _)
      · have e3 : F (k + 1) - yS (yT p F y0 b k) (k + 1) 1 = F (k + 1) := by
          show F (k + 1) - (0 + (if 0 = 0 then 0 else _)) = _
          rw [if_pos rfl]; omega
        rw [e3] at this
        exact this
      · have yb : 0 ≤ yS (yT p F y0 b k) (k + 1) (k + 1) ∧ yS (yT p F y0 b k) (k + 1) (k + 1) ≤ ((k + 1 : Nat) : Int) * 169 := isum_rg (fun j => by
          by_cases e : j = 0
          · rw [if_pos e]; omega
          · rw [if_neg e]
            have r1 := yr j
            have r2 := yr (k + 1 - j)
            exact mb (by omega) (by omega)) (k + 1)
        generalize hS : F (k + 1) - yS (yT p F y0 b k) (k + 1) (k + 1) = S at *
        have sr0 := Int.emod_nonneg S (b := p) (by omega)
        have sr1 := Int.emod_lt_of_pos S (b := p) (by omega)
        have b1 := mb (x := S % p) (y := b) (by omega) (by omega)
        have nx2 : WP 219 (0, 0) 205 [(2, 190), (0, pt), (0, b), (0, ((k + 1 : Nat) : Int) + 1), (0, S), e] [] NN (ust Ni 210 ((k + 1 : Nat) : Int) (S % p * b % p)) Q := by
          refine ih (k + 1) _ _ _ (by omega) (hF.us _ _ (by simp) (by decide)) (fun i hi => ?_)
          rw [ust_at]
          show _ = (if i = k + 1 then ((F (k + 1) - yS (yT p F y0 b k) (k + 1) (k + 1)) % p * b) % p else yT p F y0 b k i)
          by_cases q : i = k + 1
          · rw [if_pos (by omega), if_pos q, hS]
          · rw [if_neg (by omega), if_neg q]; exact hA i hi
        refine WP.run [(219, 205)] [] 60 ?_
        simp only [bk219_0, bk219_2, bk219_8, bk219_28, bk219_30, bk219_38, bk219_51, bk219_56, bk219_60, bk219_65, bk219_69, bk219_108, bk219_145, bk219_166, bk219_205, bk219_211, bk219_219, bk219_228, bk219_229, bk219_234, bk219_240, bk219_268, bk219_292, bk219_293, U_iconst, U_istore_n, U_iload_n, U_bipush, U_icmp_ge, U_aload_n, U_getfield, U_iast, U_iinc, U_goto, U_icmp_gt, U_if_lt, U_if_le, U_iald, U_imul, U_isub, U_iadd, U_irem, U_invokevirtual2, U_if_eq, U_invokevirtual1, U_istore, U_iload, U_return, U_invokevirtual0, UN_cc, UN_cn, UN_nc, UN_nn, UJ, lget, lset, lset2, entL, wsm, wcat, Option.toList_some, Option.toList_none, List.cons_append, List.nil_append, List.mem_cons, List.not_mem_nil, Prod.mk.injEq, or_false, false_or, or_true, true_or, and_true, true_and, and_false, false_and, and_self, ne_eq, not_false_eq_true, not_true_eq_false, forall_const, true_implies, false_implies, Nat.add_zero, Nat.zero_add, Nat.le_refl, Nat.zero_le, List.set_cons_zero, List.set_cons_succ, List.set_nil, ↓reduceIte, Nat.reduceAdd, Nat.reduceSub, Nat.reduceEqDiff, Nat.reduceLeDiff, Int.reduceEq, Int.reduceNe, Int.reduceNeg, reduceCtorEq, kd190, z190_27 hz']
        repeat (first | refine And.intro (by first | omega | exact not_false) ?_ | refine And.intro (rr (by omega)) ?_ | refine And.intro (r3 (by omega)) ?_ | refine And.intro (r6 (by omega)) ?_)
        refine m_mod hp hP (r3 (by omega)) ?_
        simp only [bk219_0, bk219_2, bk219_8, bk219_28, bk219_30, bk219_38, bk219_51, bk219_56, bk219_60, bk219_65, bk219_69, bk219_108, bk219_145, bk219_166, bk219_205, bk219_211, bk219_219, bk219_228, bk219_229, bk219_234, bk219_240, bk219_268, bk219_292, bk219_293, U_iconst, U_istore_n, U_iload_n, U_bipush, U_icmp_ge, U_aload_n, U_getfield, U_iast, U_iinc, U_goto, U_icmp_gt, U_if_lt, U_if_le, U_iald, U_imul, U_isub, U_iadd, U_irem, U_invokevirtual2, U_if_eq, U_invokevirtual1, U_istore, U_iload, U_return, U_invokevirtual0, UN_cc, UN_cn, UN_nc, UN_nn, UJ, lget, lset, lset2, entL, wsm, wcat, Option.toList_some, Option.toList_none, List.cons_append, List.nil_append, List.mem_cons, List.not_mem_nil, Prod.mk.injEq, or_false, false_or, or_true, true_or, and_true, true_and, and_false, false_and, and_self, ne_eq, not_false_eq_true, not_true_eq_false, forall_const, true_implies, false_implies, Nat.add_zero, Nat.zero_add, Nat.le_refl, Nat.zero_le, List.set_cons_zero, List.set_cons_succ, List.set_nil, ↓reduceIte, Nat.reduceAdd, Nat.reduceSub, Nat.reduceEqDiff, Nat.reduceLeDiff, Int.reduceEq, Int.reduceNe, Int.reduceNeg, reduceCtorEq, kd190, z190_27 hz']
        repeat (first | refine And.intro (by first | omega | exact not_false) ?_ | refine And.intro (rr (by omega)) ?_ | refine And.intro (r3 (by omega)) ?_ | refine And.intro (r6 (by omega)) ?_)
        refine m_mod hp hP (r3 (by omega)) ?_
        simp only [bk219_0, bk219_2, bk219_8, bk219_28, bk219_30, bk219_38, bk219_51, bk219_56, bk219_60, bk219_65, bk219_69, bk219_108, bk219_145, bk219_166, bk219_205, bk219_211, bk219_219, bk219_228, bk219_229, bk219_234, bk219_240, bk219_268, bk219_292, bk219_293, U_iconst, U_istore_n, U_iload_n, U_bipush, U_icmp_ge, U_aload_n, U_getfield, U_iast, U_iinc, U_goto, U_icmp_gt, U_if_lt, U_if_le, U_iald, U_imul, U_isub, U_iadd, U_irem, U_invokevirtual2, U_if_eq, U_invokevirtual1, U_istore, U_iload, U_return, U_invokevirtual0, UN_cc, UN_cn, UN_nc, UN_nn, UJ, lget, lset, lset2, entL, wsm, wcat, Option.toList_some, Option.toList_none, List.cons_append, List.nil_append, List.mem_cons, List.not_mem_nil, Prod.mk.injEq, or_false, false_or, or_true, true_or, and_true, true_and, and_false, false_and, and_self, ne_eq, not_false_eq_true, not_true_eq_false, forall_const, true_implies, false_implies, Nat.add_zero, Nat.zero_add, Nat.le_refl, Nat.zero_le, List.set_cons_zero, List.set_cons_succ, List.set_nil, ↓reduceIte, Nat.reduceAdd, Nat.reduceSub, Nat.reduceEqDiff, Nat.reduceLeDiff, Int.reduceEq, Int.reduceNe, Int.reduceNeg, reduceCtorEq, kd190, kd210, ln210, z190_27 hz']
        repeat' (first | refine And.intro (by omega) ?_ | refine And.intro (rr (by omega)) ?_ | refine And.intro (r3 (by omega)) ?_ | refine And.intro (r6 (by omega)) ?_ | ((fail_if_success (show WP _ _ _ _ _ _ _ _)); (first | refine And.intro ?_ ?_ | intro _)))
        all_goals first | (exfalso; omega) | exact nx2
    by_cases q : k + 1 ≤ D
    · have v1 := hs (k + 1) q
      rw [← hF.1 211 (by decide) (by decide)] at v1
      refine WP.run [(219, 205), (219, 234)] [] 60 ?_
      rw [e1]
      simp only [bk219_0, bk219_2, bk219_8, bk219_28, bk219_30, bk219_38, bk219_51, bk219_56, bk219_60, bk219_65, bk219_69, bk219_108, bk219_145, bk219_166, bk219_205, bk219_211, bk219_219, bk219_228, bk219_229, bk219_234, bk219_240, bk219_268, bk219_292, bk219_293, U_iconst, U_istore_n, U_iload_n, U_bipush, U_icmp_ge, U_aload_n, U_getfield, U_iast, U_iinc, U_goto, U_icmp_gt, U_if_lt, U_if_le, U_iald, U_imul, U_isub, U_iadd, U_irem, U_invokevirtual2, U_if_eq, U_invokevirtual1, U_istore, U_iload, U_return, U_invokevirtual0, UN_cc, UN_cn, UN_nc, UN_nn, UJ, lget, lset, lset2, entL, wsm, wcat, Option.toList_some, Option.toList_none, List.cons_append, List.nil_append, List.mem_cons, List.not_mem_nil, Prod.mk.injEq, or_false, false_or, or_true, true_or, and_true, true_and, and_false, false_and, and_self, ne_eq, not_false_eq_true, not_true_eq_false, forall_const, true_implies, false_implies, Nat.add_zero, Nat.zero_add, Nat.le_refl, Nat.zero_le, List.set_cons_zero, List.set_cons_succ, List.set_nil, ↓reduceIte, Nat.reduceAdd, Nat.reduceSub, Nat.reduceEqDiff, Nat.reduceLeDiff, Int.reduceEq, Int.reduceNe, Int.reduceNeg, reduceCtorEq, kd190, kd211, ln211, z190_28 hz', hD', v1]
      repeat' (first | refine And.intro (by omega) ?_ | refine And.intro (rr (by omega)) ?_ | refine And.intro (r3 (by omega)) ?_ | refine And.intro (r6 (by omega)) ?_ | ((fail_if_success (show WP _ _ _ _ _ _ _ _)); (first | refine And.intro ?_ ?_ | intro _)))
      all_goals first | (exfalso; omega) | exact nx
    · rw [hFf (k + 1) (by omega)] at nx
      refine WP.run [(219, 205), (219, 234)] [] 60 ?_
      rw [e1]
      simp only [bk219_0, bk219_2, bk219_8, bk219_28, bk219_30, bk219_38, bk219_51, bk219_56, bk219_60, bk219_65, bk219_69, bk219_108, bk219_145, bk219_166, bk219_205, bk219_211, bk219_219, bk219_228, bk219_229, bk219_234, bk219_240, bk219_268, bk219_292, bk219_293, U_iconst, U_istore_n, U_iload_n, U_bipush, U_icmp_ge, U_aload_n, U_getfield, U_iast, U_iinc, U_goto, U_icmp_gt, U_if_lt, U_if_le, U_iald, U_imul, U_isub, U_iadd, U_irem, U_invokevirtual2, U_if_eq, U_invokevirtual1, U_istore, U_iload, U_return, U_invokevirtual0, UN_cc, UN_cn, UN_nc, UN_nn, UJ, lget, lset, lset2, entL, wsm, wcat, Option.toList_some, Option.toList_none, List.cons_append, List.nil_append, List.mem_cons, List.not_mem_nil, Prod.mk.injEq, or_false, false_or, or_true, true_or, and_true, true_and, and_false, false_and, and_self, ne_eq, not_false_eq_true, not_true_eq_false, forall_const, true_implies, false_implies, Nat.add_zero, Nat.zero_add, Nat.le_refl, Nat.zero_le, List.set_cons_zero, List.set_cons_succ, List.set_nil, ↓reduceIte, Nat.reduceAdd, Nat.reduceSub, Nat.reduceEqDiff, Nat.reduceLeDiff, Int.reduceEq, Int.reduceNe, Int.reduceNeg, reduceCtorEq, kd190, kd211, ln211, z190_28 hz', hD']
      repeat' (first | refine And.intro (by omega) ?_ | refine And.intro (rr (by omega)) ?_ | refine And.intro (r3 (by omega)) ?_ | refine And.intro (r6 (by omega)) ?_ | ((fail_if_success (show WP _ _ _ _ _ _ _ _)); (first | refine And.intro ?_ ?_ | intro _)))
      all_goals first | (exfalso; omega) | exact nx
set_option maxHeartbeats 16000000 in
theorem m_expand {p : Int} {N : Mem} {Q : Post} {f : Pz p} {g j : Nat} {q : Int × Int} (hp : Pr p) (hG : MG f g N) (hcv : Cv f g) (hPt : PtA N 192 193 (ptl f p.toNat)) (hj : (ptl f p.toNat)[j]? = some q) (hQ : ∀ N' X (Y : Sz p), FM [209, 210, 211, 212, 215, 216] [] N N' → ExA f q N' X Y → Q none NN N') : CL 219 [(2, 190), (0, (j : Int) + 1), (9, 0), (9, 0), (9, 0), (9, 0)] NN N Q := by
  have hpp := hp.pos
  have h26 := ptl_26 hp f
  have hjl : j < (ptl f p.toNat).length := (List.getElem?_eq_some_iff.mp hj).1
  have hq := ptl_on hp (List.mem_of_getElem? hj)
  have hqq := hq
  obtain ⟨q1, q2, q3, q4, q5⟩ := hqq
  have hd : dg f = 4 ∨ dg f = 6 := by have := hcv.1; have := hcv.2.1; omega
  have k3 : ∀ N', FM [209, 210, 211] [] N N' → (∀ k : Nat, k < 10 → N' 209 (k : Int) = 0 ∧ N' 210 (k : Int) = 0) → (∀ k : Nat, k < dg f → N' 211 (k : Int) = hsq p q.1 (dg f) f.1 k) → ∀ i a b c : V, WP 219 (0, 0) 145 [(2, 190), (0, (j : Int) + 1), i, a, b, c] [] NN N' Q := by
    intro N' hF hA hB i a b c
    have G := hG.fm hF (fzk rfl rfl) (by decide) (by decide) (by simp) (by simp) (by simp) (by simp)
    have hz := G.mt.1
    have hP : PtA N' 192 193 (ptl f p.toNat) := by unfold PtA; rw [hF.1 192 (by decide) (by decide), hF.1 193 (by decide) (by decide)]; exact hPt
    obtain ⟨a1, a2⟩ := hP j q hj
    by_cases y : q.2 = 0
    · rw [y] at a2
      let N1 := ust (ust N' 209 0 q.1) 210 1 1
      have F1 : FM [209, 210, 211] [] N N1 := (hF.us _ _ (by simp) (by decide)).us _ _ (by simp) (by decide)
      have G1 := hG.fm F1 (fzk rfl rfl) (by decide) (by decide) (by simp) (by simp) (by simp) (by simp)
      have e211 : ∀ k : Nat, k < dg f → N1 211 (k : Int) = hsq p q.1 (dg f) f.1 k := fun k hk => by
        show ust (ust N' 209 0 q.1) 210 1 1 211 (k : Int) = _
        rw [ust_ne (show (211 : Int) ≠ 210 by decide), ust_ne (show (211 : Int) ≠ 209 by decide)]; exact hB k hk
      have e209 : ∀ k : Nat, k < 10 → N1 209 (k : Int) = if k = 0 then q.1 else 0 := fun k hk => by
        show ust (ust N' 209 0 q.1) 210 1 1 209 (k : Int) = _
        rw [ust_ne (show (209 : Int) ≠ 210 by decide), ust_at]
        by_cases e : k = 0
        · rw [if_pos (by omega), if_pos e]
        · rw [if_neg (by omega), if_neg e]; exact (hA k hk).1
      have e210 : ∀ k : Nat, k < 10 → N1 210 (k : Int) = if k = 1 then 1 else 0 := fun k hk => by
        show ust (ust N' 209 0 q.1) 210 1 1 210 (k : Int) = _
        rw [ust_at]
        by_cases e : k = 1
        · rw [if_pos (by omega), if_pos e]
        · rw [if_neg (by omega), if_neg e, ust_ne (show (210 : Int) ≠ 209 by decide)]; exact (hA k hk).2
      have hD1 : N1 190 1 = ((dg f - 1 : Nat) : Int) := by rw [G1.2.1]; omega
      have hS1 : ∀ i : Nat, i ≤ dg f - 1 → 0 ≤ N1 211 (i : Int) ∧ N1 211 (i : Int) < p := fun i hi => by rw [e211 i (by omega)]; exact hsq_rg hp q.1 _ _ i
      have fin : ∀ N2, FM [209, 212, 215, 216] [] N1 N2 → (∀ k : Nat, k < 10 → (k % 2 = 1 ∨ k = 0 → N2 209 (k : Int) = N1 209 (k : Int)) ∧ (k % 2 = 0 → k ≠ 0 → 0 ≤ N2 209 (k : Int) ∧ N2 209 (k : Int) < p)) → N2 209 2 = pinv p (N1 211 1) → Q none NN N2 := fun N2 F2 x1 x2 => by
        have s1 : N1 211 1 ≠ 0 := by
          have := e211 1 (by omega)
          replace this : N1 211 1 = hsq p q.1 (dg f) f.1 1 := this
          rw [this, ← sv_hsq hp]
          exact f1_ne hp hcv hq y
        have s2 : 0 ≤ N1 211 1 ∧ N1 211 1 < p := by
          have := e211 1 (by omega)
          replace this : N1 211 1 = hsq p q.1 (dg f) f.1 1 := this
          rw [this]; exact hsq_rg hp q.1 _ _ 1
        obtain ⟨i1, i2, i3⟩ := pinv_ok hp (x := N1 211 1) (by omega) s2.2
        refine hQ N2 (fun k => if k < 10 then N2 209 (k : Int) else 0) (smk p (fun k => if k = 1 then 1 else 0)) ((F1.mo rfl rfl).tr (F2.mo rfl rfl)) ⟨fun k hk => ?_, ?_, Or.inr ⟨y, ?_, ?_, ?_, ?_⟩⟩
        · have xk := x1 k (by omega)
          show N2 209 (k : Int) = (if k < 10 then N2 209 (k : Int) else 0) ∧ 0 ≤ (if k < 10 then N2 209 (k : Int) else 0) ∧ (if k < 10 then N2 209 (k : Int) else 0) < p ∧ N2 210 (k : Int) = (if k = 1 then 1 else 0) % p
          rw [if_pos (by omega)]
          have r : 0 ≤ N2 209 (k : Int) ∧ N2 209 (k : Int) < p := by
            by_cases e : k % 2 = 1 ∨ k = 0
            · rw [xk.1 e, e209 k (by omega)]
              split <;> omega
            · exact xk.2 (by omega) (by omega)
          refine ⟨rfl, r.1, r.2, ?_⟩
          rw [F2.1 210 (by decide) (by decide), e210 k (by omega)]
          split
          · exact (Int.emod_eq_of_lt (by omega) (by omega)).symm
          · exact (Int.zero_emod _).symm
        · show (if 0 < 10 then N2 209 ((0 : Nat) : Int) else 0) = q.1
          rw [if_pos (by omega), (x1 0 (by omega)).1 (Or.inr rfl), e209 0 (by omega), if_pos rfl]
        · show (if 1 < 10 then N2 209 ((1 : Nat) : Int) else 0) % p = 0
          rw [if_pos (by omega), (x1 1 (by omega)).1 (Or.inl rfl), e209 1 (by omega), if_neg (by omega), Int.zero_emod]
        · show (if 2 < 10 then N2 209 ((2 : Nat) : Int) else 0) % p ≠ 0
          rw [if_pos (by omega)]
          have : N2 209 ((2 : Nat) : Int) = pinv p (N1 211 1) := x2
          rw [this, Int.emod_eq_of_lt i2 i3]
          intro e
          rw [e, Int.mul_zero, Int.zero_emod] at i1
          omega
        · show (if 0 = 1 then (1 : Int) else 0) % p = 0
          rw [if_neg (by omega), Int.zero_emod]
        · show (if 1 = 1 then (1 : Int) else 0) % p ≠ 0
          rw [if_pos rfl, Int.emod_eq_of_lt (by omega) (by omega)]; omega
      refine WP.run [] [] 60 ?_
      simp only [bk219_0, bk219_2, bk219_8, bk219_28, bk219_30, bk219_38, bk219_51, bk219_56, bk219_60, bk219_65, bk219_69, bk219_108, bk219_145, bk219_166, bk219_205, bk219_211, bk219_219, bk219_228, bk219_229, bk219_234, bk219_240, bk219_268, bk219_292, bk219_293, U_iconst, U_istore_n, U_iload_n, U_bipush, U_icmp_ge, U_aload_n, U_getfield, U_iast, U_iinc, U_goto, U_icmp_gt, U_if_lt, U_if_le, U_iald, U_imul, U_isub, U_iadd, U_irem, U_invokevirtual2, U_if_eq, U_invokevirtual1, U_istore, U_iload, U_return, U_invokevirtual0, UN_cc, UN_cn, UN_nc, UN_nn, UJ, lget, lset, lset2, entL, wsm, wcat, Option.toList_some, Option.toList_none, List.cons_append, List.nil_append, List.mem_cons, List.not_mem_nil, Prod.mk.injEq, or_false, false_or, or_true, true_or, and_true, true_and, and_false, false_and, and_self, ne_eq, not_false_eq_true, not_true_eq_false, forall_const, true_implies, false_implies, Nat.add_zero, Nat.zero_add, Nat.le_refl, Nat.zero_le, List.set_cons_zero, List.set_cons_succ, List.set_nil, ↓reduceIte, Nat.reduceAdd, Nat.reduceSub, Nat.reduceEqDiff, Nat.reduceLeDiff, Int.reduceEq, Int.reduceNe, Int.reduceNeg, reduceCtorEq, kd190, kd192, kd193, kd209, kd210, ln192, ln193, ln209, ln210, ust_r, z190_6 hz, z190_7 hz, z190_26 hz, z190_27 hz, a1, a2]
      repeat' (first | refine And.intro (by omega) ?_ | refine And.intro (rr (by omega)) ?_ | refine And.intro (r3 (by omega)) ?_ | refine And.intro (r6 (by omega)) ?_ | ((fail_if_success (show WP _ _ _ _ _ _ _ _)); (first | refine And.intro ?_ ?_ | intro _)))
      all_goals first | (exfalso; omega) | skip
      refine m_expandFold (D := dg f - 1) hp G1.mt.1 G1.mt.2 hD1 (by omega) (by omega) hS1 (fun N2 F2 x1 x2 => ?_)
      simp only [bk219_0, bk219_2, bk219_8, bk219_28, bk219_30, bk219_38, bk219_51, bk219_56, bk219_60, bk219_65, bk219_69, bk219_108, bk219_145, bk219_166, bk219_205, bk219_211, bk219_219, bk219_228, bk219_229, bk219_234, bk219_240, bk219_268, bk219_292, bk219_293, U_iconst, U_istore_n, U_iload_n, U_bipush, U_icmp_ge, U_aload_n, U_getfield, U_iast, U_iinc, U_goto, U_icmp_gt, U_if_lt, U_if_le, U_iald, U_imul, U_isub, U_iadd, U_irem, U_invokevirtual2, U_if_eq, U_invokevirtual1, U_istore, U_iload, U_return, U_invokevirtual0, UN_cc, UN_cn, UN_nc, UN_nn, UJ, lget, lset, lset2, entL, wsm, wcat, Option.toList_some, Option.toList_none, List.cons_append, List.nil_append, List.mem_cons, List.not_mem_nil, Prod.mk.injEq, or_false, false_or, or_true, true_or, and_true, true_and, and_false, false_and, and_self, ne_eq, not_false_eq_true, not_true_eq_false, forall_const, true_implies, false_implies, Nat.add_zero, Nat.zero_add, Nat.le_refl, Nat.zero_le, List.set_cons_zero, List.set_cons_succ, List.set_nil, ↓reduceIte, Nat.reduceAdd, Nat.reduceSub, Nat.reduceEqDiff, Nat.reduceLeDiff, Int.reduceEq, Int.reduceNe, Int.reduceNeg, reduceCtorEq]
      exact fin N2 F2 x1 x2
    · let N1 := ust (ust (ust N' 209 0 q.1) 209 1 1) 210 0 q.2
      have F1 : FM [209, 210, 211] [] N N1 := ((hF.us _ _ (by simp) (by decide)).us _ _ (by simp) (by decide)).us _ _ (by simp) (by decide)
      have G1 := hG.fm F1 (fzk rfl rfl) (by decide) (by decide) (by simp) (by simp) (by simp) (by simp)
      have P1 : PtA N1 192 193 (ptl f p.toNat) := by unfold PtA; rw [F1.1 192 (by decide) (by decide), F1.1 193 (by decide) (by decide)]; exact hPt
      have c2 := (P1 j q hj).2
      have e209 : ∀ k : Nat, k < 10 → N1 209 (k : Int) = hX q.1 k := fun k hk => by
        show ust (ust (ust N' 209 0 q.1) 209 1 1) 210 0 q.2 209 (k : Int) = (if k = 0 then q.1 else if k = 1 then 1 else 0)
        rw [ust_ne (show (209 : Int) ≠ 210 by decide), ust_at]
        by_cases e : k = 1
        · rw [if_pos (by omega), if_neg (by omega), if_pos e]
        · rw [if_neg (by omega), ust_at]
          by_cases e2 : k = 0
          · rw [if_pos (by omega), if_pos e2]
          · rw [if_neg (by omega), if_neg e2, if_neg e]; exact (hA k hk).1
      have hn : 0 ≤ 2 * q.2 % p ∧ 2 * q.2 % p < p := ⟨Int.emod_nonneg _ (by omega), Int.emod_lt_of_pos _ (by omega)⟩
      have hn0 : 2 * q.2 % p ≠ 0 := hp.mul_ne (by rw [Int.emod_eq_of_lt (by omega) (by omega)]; omega) (by rw [Int.emod_eq_of_lt q3 q4]; omega)
      have hb := (pinv_ok hp (x := 2 * q.2 % p) (by omega) hn.2).2
      have nx : ∀ c d : V, WP 219 (0, 0) 205 [(2, 190), (0, (j : Int) + 1), (0, pinv p (2 * q.2 % p)), (0, ((0 : Nat) : Int) + 1), c, d] [] NN N1 Q := fun c d => by
        refine l_ex5 (D := dg f - 1) (F := hsq p q.1 (dg f) f.1) (y0 := q.2) hp G1.mt.1 G1.mt.2 (by rw [G1.2.1]; omega) (by omega) (fun k => hsq_rg hp q.1 _ _ k) (fun i hi => ?_) (fun i hi => hsq_far p q.1 _ _ i (by omega)) ⟨q3, q4⟩ hb (fun N2 F2 x => ?_) 8 0 c d N1 (by omega) (FM.rf _ _ _) (fun i hi => ?_)
        · show ust (ust (ust N' 209 0 q.1) 209 1 1) 210 0 q.2 211 (i : Int) = _
          rw [ust_ne (show (211 : Int) ≠ 210 by decide), ust_ne (show (211 : Int) ≠ 209 by decide), ust_ne (show (211 : Int) ≠ 209 by decide)]; exact hB i (by omega)
        · have yr := yT_rg hp (hsq p q.1 (dg f) f.1) (pinv p (2 * q.2 % p)) ⟨q3, q4⟩ 8
          refine hQ N2 (hX q.1) (smk p (yT p (hsq p q.1 (dg f) f.1) q.2 (pinv p (2 * q.2 % p)) 8)) ((F1.mo rfl rfl).tr (F2.mo rfl rfl)) ⟨fun k hk => ⟨?_, ?_, ?_, ?_⟩, rfl, Or.inl ⟨by omega, ?_, ?_, (yT_lo hp hq (by omega) 8).dn (by omega)⟩⟩
          · rw [F2.1 209 (by decide) (by decide)]; exact e209 k (by omega)
          · show 0 ≤ (if k = 0 then q.1 else if k = 1 then 1 else 0); split
            · exact q1
            · split <;> omega
          · show (if k = 0 then q.1 else if k = 1 then 1 else 0) < p; split
            · exact q2
            · split <;> omega
          · rw [x k (by omega)]
            exact (Int.emod_eq_of_lt (yr k).1 (yr k).2).symm
          · show (1 : Int) % p ≠ 0
            rw [Int.emod_eq_of_lt (by omega) (by omega)]; omega
          · show yT p (hsq p q.1 (dg f) f.1) q.2 (pinv p (2 * q.2 % p)) 8 0 % p = q.2
            have := yT_up p (hsq p q.1 (dg f) f.1) q.2 (pinv p (2 * q.2 % p)) 0 0 (Nat.le_refl _) 8
            rw [Nat.zero_add] at this
            rw [this]
            show q.2 % p = q.2
            exact Int.emod_eq_of_lt q3 q4
        · show ust (ust (ust N' 209 0 q.1) 209 1 1) 210 0 q.2 210 (i : Int) = (if i = 0 then q.2 else 0)
          rw [ust_at]
          by_cases e : i = 0
          · rw [if_pos (by omega), if_pos e]
          · rw [if_neg (by omega), if_neg e, ust_ne (show (210 : Int) ≠ 209 by decide), ust_ne (show (210 : Int) ≠ 209 by decide)]; exact (hA i hi).2
      refine WP.run [(219, 205)] [] 90 ?_
      simp only [bk219_0, bk219_2, bk219_8, bk219_28, bk219_30, bk219_38, bk219_51, bk219_56, bk219_60, bk219_65, bk219_69, bk219_108, bk219_145, bk219_166, bk219_205, bk219_211, bk219_219, bk219_228, bk219_229, bk219_234, bk219_240, bk219_268, bk219_292, bk219_293, U_iconst, U_istore_n, U_iload_n, U_bipush, U_icmp_ge, U_aload_n, U_getfield, U_iast, U_iinc, U_goto, U_icmp_gt, U_if_lt, U_if_le, U_iald, U_imul, U_isub, U_iadd, U_irem, U_invokevirtual2, U_if_eq, U_invokevirtual1, U_istore, U_iload, U_return, U_invokevirtual0, UN_cc, UN_cn, UN_nc, UN_nn, UJ, lget, lset, lset2, entL, wsm, wcat, Option.toList_some, Option.toList_none, List.cons_append, List.nil_append, List.mem_cons, List.not_mem_nil, Prod.mk.injEq, or_false, false_or, or_true, true_or, and_true, true_and, and_false, false_and, and_self, ne_eq, not_false_eq_true, not_true_eq_false, forall_const, true_implies, false_implies, Nat.add_zero, Nat.zero_add, Nat.le_refl, Nat.zero_le, List.set_cons_zero, List.set_cons_succ, List.set_nil, ↓reduceIte, Nat.reduceAdd, Nat.reduceSub, Nat.reduceEqDiff, Nat.reduceLeDiff, Int.reduceEq, Int.reduceNe, Int.reduceNeg, reduceCtorEq, kd190, kd192, kd193, kd209, kd210, ln192, ln193, ln209, ln210, ust_r, z190_6 hz, z190_7 hz, z190_26 hz, z190_27 hz, a1, a2, G.mt.2]
      rw [tm_nn (by omega)]
      repeat' (first | refine And.intro (by omega) ?_ | refine And.intro (rr (by omega)) ?_ | refine And.intro (r3 (by omega)) ?_ | refine And.intro (r6 (by omega)) ?_ | ((fail_if_success (show WP _ _ _ _ _ _ _ _)); (first | refine And.intro ?_ ?_ | intro _)))
      all_goals first | (exfalso; omega) | skip
      refine m_inv hp G1.mt.2 hn ?_
      simp only [bk219_0, bk219_2, bk219_8, bk219_28, bk219_30, bk219_38, bk219_51, bk219_56, bk219_60, bk219_65, bk219_69, bk219_108, bk219_145, bk219_166, bk219_205, bk219_211, bk219_219, bk219_228, bk219_229, bk219_234, bk219_240, bk219_268, bk219_292, bk219_293, U_iconst, U_istore_n, U_iload_n, U_bipush, U_icmp_ge, U_aload_n, U_getfield, U_iast, U_iinc, U_goto, U_icmp_gt, U_if_lt, U_if_le, U_iald, U_imul, U_isub, U_iadd, U_irem, U_invokevirtual2, U_if_eq, U_invokevirtual1, U_istore, U_iload, U_return, U_invokevirtual0, UN_cc, UN_cn, UN_nc, UN_nn, UJ, lget, lset, lset2, entL, wsm, wcat, Option.toList_some, Option.toList_none, List.cons_append, List.nil_append, List.mem_cons, List.not_mem_nil, Prod.mk.injEq, or_false, false_or, or_true, true_or, and_true, true_and, and_false, false_and, and_self, ne_eq, not_false_eq_true, not_true_eq_false, forall_const, true_implies, false_implies, Nat.add_zero, Nat.zero_add, Nat.le_refl, Nat.zero_le, List.set_cons_zero, List.set_cons_succ, List.set_nil, ↓reduceIte, Nat.reduceAdd, Nat.reduceSub, Nat.reduceEqDiff, Nat.reduceLeDiff, Int.reduceEq, Int.reduceNe, Int.reduceNeg, reduceCtorEq]
      exact nx b c
  have k2 : ∀ N', FM [209, 210, 211] [] N N' → (∀ k : Nat, k < 10 → N' 209 (k : Int) = 0 ∧ N' 210 (k : Int) = 0) → (∀ k : Nat, k < dg f → N' 211 (k : Int) = 0) → ∀ a b c : V, WP 219 (0, 0) 56 [(2, 190), (0, (j : Int) + 1), (0, (dg f : Int) - 1), a, b, c] [] NN N' Q := fun N' hF hA hB a b c =>
    l_ex3 hp hG hPt hj hd (fun N2 F2 A2 B2 i a => k3 N2 F2 A2 B2 i a b c) (dg f) 0 a N' (by omega) hF hA (fun k hk => hB k hk)
  have k1 : ∀ N', FM [209, 210, 211] [] N N' → (∀ k : Nat, k < 10 → N' 209 (k : Int) = 0 ∧ N' 210 (k : Int) = 0) → ∀ a b c : V, WP 219 (0, 0) 30 [(2, 190), (0, (j : Int) + 1), (0, 0), a, b, c] [] NN N' Q := fun N' hF hA a b c => by
    have G := hG.fm hF (fzk rfl rfl) (by decide) (by decide) (by simp) (by simp) (by simp) (by simp)
    exact l_ex2 G hd hA (fun N2 F2 A2 B2 a b c => k2 N2 (hF.tr F2) A2 B2 a b c) (dg f) 0 a b c N' (by omega) (FM.rf _ _ _) hA (fun i hi => absurd hi (Nat.not_lt_zero i))
  have nx := l_ex1 (Q := Q) hG (pt := (j : Int) + 1) k1 10 0 (9, 0) (9, 0) (9, 0) N (by omega) (FM.rf _ _ _) (fun i hi => absurd hi (Nat.not_lt_zero i))
  refine WP.run [(219, 2)] [] 60 ?_
  simp only [bk219_0, bk219_2, bk219_8, bk219_28, bk219_30, bk219_38, bk219_51, bk219_56, bk219_60, bk219_65, bk219_69, bk219_108, bk219_145, bk219_166, bk219_205, bk219_211, bk219_219, bk219_228, bk219_229, bk219_234, bk219_240, bk219_268, bk219_292, bk219_293, U_iconst, U_istore_n, U_iload_n, U_bipush, U_icmp_ge, U_aload_n, U_getfield, U_iast, U_iinc, U_goto, U_icmp_gt, U_if_lt, U_if_le, U_iald, U_imul, U_isub, U_iadd, U_irem, U_invokevirtual2, U_if_eq, U_invokevirtual1, U_istore, U_iload, U_return, U_invokevirtual0, UN_cc, UN_cn, UN_nc, UN_nn, UJ, lget, lset, lset2, entL, wsm, wcat, Option.toList_some, Option.toList_none, List.cons_append, List.nil_append, List.mem_cons, List.not_mem_nil, Prod.mk.injEq, or_false, false_or, or_true, true_or, and_true, true_and, and_false, false_and, and_self, ne_eq, not_false_eq_true, not_true_eq_false, forall_const, true_implies, false_implies, Nat.add_zero, Nat.zero_add, Nat.le_refl, Nat.zero_le, List.set_cons_zero, List.set_cons_succ, List.set_nil, ↓reduceIte, Nat.reduceAdd, Nat.reduceSub, Nat.reduceEqDiff, Nat.reduceLeDiff, Int.reduceEq, Int.reduceNe, Int.reduceNeg, reduceCtorEq]
  exact nx
