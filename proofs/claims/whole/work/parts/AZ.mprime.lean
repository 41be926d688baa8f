/-! THE MODEL'S CALLS: the prime -/
set_option maxHeartbeats 8000000 in
theorem m_clear {N : Mem} {Q : Post} (hz : Fz N) (hQ : ∀ N', FM [194, 195] [19, 22] N N' → (∀ i : Nat, i < 30 → N' 195 (i : Int) = 0) → (∀ i : Nat, i < 32 → N' 194 (i : Int) = 0) → N' 190 19 = 0 → N' 190 22 = -1 → Q none NN N') : CL 172 [(2, 190), (9, 0)] NN N Q := by
  have k2 : ∀ (N1 : Mem), FM [194, 195] [19, 22] N N1 → (∀ i : Nat, i < 30 → N1 195 (i : Int) = 0) → ∀ (n i : Nat) (Ni : Mem), i + n = 32 → FM [194, 195] [19, 22] N Ni → Ni 195 = N1 195 → (∀ j : Nat, j < i → Ni 194 (j : Int) = 0) → WP 172 (0, 0) 23 [(2, 190), (0, (i : Int))] [] NN Ni Q := by
    intro N1 F1 H1 n
    induction n with
    | zero =>
      intro i Ni hi hF h5 hA
      obtain rfl : i = 32 := by omega
      refine WP.run [(172, 23)] [] 60 ?_
      simp only [bk172_0, bk172_2, bk172_8, bk172_21, bk172_23, bk172_29, bk172_42, U_iconst, U_istore_n, U_iload_n, U_bipush, U_icmp_ge, U_aload_n, U_getfield, U_iast, U_iinc, U_goto, U_putfield, U_return, UN_cc, UN_cn, UN_nc, UN_nn, UJ, lget, lset, lset2, entL, wsm, wcat, Option.toList_some, Option.toList_none, List.cons_append, List.nil_append, List.mem_cons, List.not_mem_nil, Prod.mk.injEq, or_false, false_or, or_true, true_or, and_true, true_and, and_false, false_and, and_self, ne_eq, not_false_eq_true, not_true_eq_false, forall_const, true_implies, false_implies, Nat.add_zero, Nat.zero_add, Nat.le_refl, Nat.zero_le, List.set_cons_zero, List.set_cons_succ, List.set_nil, ↓reduceIte, Nat.reduceAdd, Nat.reduceSub, Nat.reduceEqDiff, Nat.reduceLeDiff, Int.reduceEq, Int.reduceNe, Int.reduceNeg, reduceCtorEq, kd190]
      refine ⟨rr (by omega), fun e => absurd e (by omega), fun _ => ?_⟩
      exact hQ _ ((hF.uf _ (by simp)).uf _ (by simp)) (fun j hj => by rw [ust_ne (by decide), ust_ne (by decide), h5]; exact H1 j hj) (fun j hj => by rw [ust_ne (by decide), ust_ne (by decide)]; exact hA j hj) (by rw [ust_at, if_neg (by decide), ust_at, if_pos rfl]) (by rw [ust_at, if_pos rfl])
    | succ n ih =>
      intro i Ni hi hF h5 hA
      have hzi := hF.fz (fzk rfl rfl) hz
      refine WP.run [(172, 23)] [] 60 ?_
      simp only [bk172_0, bk172_2, bk172_8, bk172_21, bk172_23, bk172_29, bk172_42, U_iconst, U_istore_n, U_iload_n, U_bipush, U_icmp_ge, U_aload_n, U_getfield, U_iast, U_iinc, U_goto, U_putfield, U_return, UN_cc, UN_cn, UN_nc, UN_nn, UJ, lget, lset, lset2, entL, wsm, wcat, Option.toList_some, Option.toList_none, List.cons_append, List.nil_append, List.mem_cons, List.not_mem_nil, Prod.mk.injEq, or_false, false_or, or_true, true_or, and_true, true_and, and_false, false_and, and_self, ne_eq, not_false_eq_true, not_true_eq_false, forall_const, true_implies, false_implies, Nat.add_zero, Nat.zero_add, Nat.le_refl, Nat.zero_le, List.set_cons_zero, List.set_cons_succ, List.set_nil, ↓reduceIte, Nat.reduceAdd, Nat.reduceSub, Nat.reduceEqDiff, Nat.reduceLeDiff, Int.reduceEq, Int.reduceNe, Int.reduceNeg, reduceCtorEq, kd190, kd194, ln194, z190_8 hzi]
      refine ⟨rr (by omega), fun _ => ⟨by omega, by omega, ?_⟩, fun e => absurd (by omega) e⟩
      refine ih (i + 1) _ (by omega) (hF.us _ _ (by simp) (by decide)) (by rw [ust_ne (by decide)]; exact h5) (fun j hj => ?_)
      rw [ust_at]
      by_cases c : j = i
      · rw [if_pos (by omega)]
      · rw [if_neg (by omega)]; exact hA j (by omega)
  have k1 : ∀ (n i : Nat) (Ni : Mem), i + n = 30 → FM [194, 195] [19, 22] N Ni → (∀ j : Nat, j < i → Ni 195 (j : Int) = 0) → WP 172 (0, 0) 2 [(2, 190), (0, (i : Int))] [] NN Ni Q := by
    intro n
    induction n with
    | zero =>
      intro i Ni hi hF hA
      obtain rfl : i = 30 := by omega
      refine WP.run [(172, 2), (172, 23)] [] 60 ?_
      simp only [bk172_0, bk172_2, bk172_8, bk172_21, bk172_23, bk172_29, bk172_42, U_iconst, U_istore_n, U_iload_n, U_bipush, U_icmp_ge, U_aload_n, U_getfield, U_iast, U_iinc, U_goto, U_putfield, U_return, UN_cc, UN_cn, UN_nc, UN_nn, UJ, lget, lset, lset2, entL, wsm, wcat, Option.toList_some, Option.toList_none, List.cons_append, List.nil_append, List.mem_cons, List.not_mem_nil, Prod.mk.injEq, or_false, false_or, or_true, true_or, and_true, true_and, and_false, false_and, and_self, ne_eq, not_false_eq_true, not_true_eq_false, forall_const, true_implies, false_implies, Nat.add_zero, Nat.zero_add, Nat.le_refl, Nat.zero_le, List.set_cons_zero, List.set_cons_succ, List.set_nil, ↓reduceIte, Nat.reduceAdd, Nat.reduceSub, Nat.reduceEqDiff, Nat.reduceLeDiff, Int.reduceEq, Int.reduceNe, Int.reduceNeg, reduceCtorEq, kd190]
      exact ⟨rr (by omega), fun e => absurd e (by omega), fun _ => k2 Ni hF hA 32 0 Ni rfl hF rfl (fun j hj => by omega)⟩
    | succ n ih =>
      intro i Ni hi hF hA
      have hzi := hF.fz (fzk rfl rfl) hz
      refine WP.run [(172, 2), (172, 23)] [] 60 ?_
      simp only [bk172_0, bk172_2, bk172_8, bk172_21, bk172_23, bk172_29, bk172_42, U_iconst, U_istore_n, U_iload_n, U_bipush, U_icmp_ge, U_aload_n, U_getfield, U_iast, U_iinc, U_goto, U_putfield, U_return, UN_cc, UN_cn, UN_nc, UN_nn, UJ, lget, lset, lset2, entL, wsm, wcat, Option.toList_some, Option.toList_none, List.cons_append, List.nil_append, List.mem_cons, List.not_mem_nil, Prod.mk.injEq, or_false, false_or, or_true, true_or, and_true, true_and, and_false, false_and, and_self, ne_eq, not_false_eq_true, not_true_eq_false, forall_const, true_implies, false_implies, Nat.add_zero, Nat.zero_add, Nat.le_refl, Nat.zero_le, List.set_cons_zero, List.set_cons_succ, List.set_nil, ↓reduceIte, Nat.reduceAdd, Nat.reduceSub, Nat.reduceEqDiff, Nat.reduceLeDiff, Int.reduceEq, Int.reduceNe, Int.reduceNeg, reduceCtorEq, kd190, kd195, ln195, z190_9 hzi]
      refine ⟨rr (by omega), fun _ => ⟨by omega, by omega, ?_⟩, fun e => absurd (by omega) e⟩
      refine ih (i + 1) _ (by omega) (hF.us _ _ (by simp) (by decide)) (fun j hj => ?_)
      rw [ust_at]
      by_cases c : j = i
      · rw [if_pos (by omega)]
      · rw [if_neg (by omega)]; exact hA j (by omega)
  refine WP.run [(172, 2)] [] 60 ?_
  simp only [bk172_0, bk172_2, bk172_8, bk172_21, bk172_23, bk172_29, bk172_42, U_iconst, U_istore_n, U_iload_n, U_bipush, U_icmp_ge, U_aload_n, U_getfield, U_iast, U_iinc, U_goto, U_putfield, U_return, UN_cc, UN_cn, UN_nc, UN_nn, UJ, lget, lset, lset2, entL, wsm, wcat, Option.toList_some, Option.toList_none, List.cons_append, List.nil_append, List.mem_cons, List.not_mem_nil, Prod.mk.injEq, or_false, false_or, or_true, true_or, and_true, true_and, and_false, false_and, and_self, ne_eq, not_false_eq_true, not_true_eq_false, forall_const, true_implies, false_implies, Nat.add_zero, Nat.zero_add, Nat.le_refl, Nat.zero_le, List.set_cons_zero, List.set_cons_succ, List.set_nil, ↓reduceIte, Nat.reduceAdd, Nat.reduceSub, Nat.reduceEqDiff, Nat.reduceLeDiff, Int.reduceEq, Int.reduceNe, Int.reduceNeg, reduceCtorEq]
  exact k1 30 0 N rfl (FM.rf _ _ _) (fun j hj => by omega)
theorem wk_nought {p : Int} (hp : Pr p) {N : Mem} (h : ∀ i : Nat, i < 30 → N 195 (i : Int) = 0) (r : Nat) (hr : r < 6) : WK N 195 r (pC p 1, pC p 0) := fun j hj => by
  rw [wkD_z hp rfl j, show 5 * (r : Int) + (j : Int) = ((5 * r + j : Nat) : Int) by omega]
  exact h _ (by omega)
set_option maxHeartbeats 16000000 in
theorem q_prime {p : Int} {g : Nat} {f : Pz p} {pu : List Int} {rg : Nat → Pz p × Pz p} {A tl : Nat → Int} {E : Nat → Nat} {N : Mem} {Q : Post} {q : Int} (h : MS g f pu rg A tl E N) (V : VS g f pu rg A tl E) (hq : R32 q) (hQ1 : ¬ Pr q → Q (some (0, -2)) NN N)
    (hQ2 : Pr q → ∀ N', MS (p := q) 0 (pC q 0) [] (fun _ => (pC q 1, pC q 0)) (fun _ => 0) (fun _ => 0) (fun _ => 0) N' → clF N N' → Q (some (0, 1)) NN N') : CL 173 [(2, 190), (0, q), (9, 0)] NN N Q := by
  have hz := h.fz
  have go : Pr q → WP 173 (0, 0) 31 [(2, 190), (0, q), (9, 0)] [] NN N Q := fun hp => by
    have hpp := hp.pos
    have F0 : FM [199] [0, 1, 2, 4, 5] N (ust (ust (ust (ust (ust (ust N 190 0 q) 190 1 0) 190 2 0) 199 0 (-1)) 190 4 0) 190 5 0) := ((((((FM.rf _ _ _).uf _ (by simp)).uf _ (by simp)).uf _ (by simp)).us _ _ (by simp) (by decide)).uf _ (by simp)).uf _ (by simp)
    have hz0 := F0.fz (fzk rfl rfl) hz
    refine WP.run [(173, 69)] [] 90 ?_
    simp only [bk173_0, bk173_5, bk173_10, bk173_16, bk173_22, bk173_28, bk173_31, bk173_69, bk173_75, bk173_88, bk173_90, bk173_96, bk173_109, U_iload_n, U_iconst, U_icmp_eq, U_bipush, U_ireturn, U_aload_n, U_putfield, U_getfield, U_iast, U_invokevirtual0, U_istore_n, U_icmp_ge, U_iinc, U_goto, UN_cc, UN_cn, UN_nc, UN_nn, UJ, lget, lset, lset2, entL, wsm, wcat, Option.toList_some, Option.toList_none, List.cons_append, List.nil_append, List.mem_cons, List.not_mem_nil, Prod.mk.injEq, or_false, false_or, or_true, true_or, and_true, true_and, and_false, false_and, and_self, ne_eq, not_false_eq_true, not_true_eq_false, forall_const, true_implies, false_implies, Nat.add_zero, Nat.zero_add, Nat.le_refl, Nat.zero_le, List.set_cons_zero, List.set_cons_succ, List.set_nil, ↓reduceIte, Nat.reduceAdd, Nat.reduceSub, Nat.reduceEqDiff, Nat.reduceLeDiff, Int.reduceEq, Int.reduceNe, Int.reduceNeg, reduceCtorEq, kd190, kd199, ln199, ust_r, z190_13 hz]
    refine ⟨by omega, by omega, ?_⟩
    refine m_clear hz0 fun N1 s1 s2 s3 s4 s5 => ?_
    have z1 := s1.fz (fzk rfl rfl) hz0
    have e190 : ∀ i, i ∉ ([19, 22] : List Int) → N1 190 i = ust (ust (ust (ust (ust (ust N 190 0 q) 190 1 0) 190 2 0) 199 0 (-1)) 190 4 0) 190 5 0 190 i := s1.2
    have K2 : ∀ (n i : Nat) (Ni : Mem), i + n = 13 → FM [196, 197] [] N1 Ni → (∀ j : Nat, j < 26 → Ni 196 (j : Int) = 0) → (∀ j : Nat, j < i → Ni 197 (j : Int) = 0) → WP 173 (0, 0) 90 [(2, 190), (0, q), (0, (i : Int))] [] NN Ni Q := by
      intro n
      induction n with
      | zero =>
        intro i Ni hi hF h6 hA
        obtain rfl : i = 13 := by omega
        have zi := hF.fz (fzk rfl rfl) z1
        have g : ∀ i, i ∉ ([19, 22] : List Int) → Ni 190 i = ust (ust (ust (ust (ust (ust N 190 0 q) 190 1 0) 190 2 0) 199 0 (-1)) 190 4 0) 190 5 0 190 i := fun i hi => (hF.2 i (by simp)).trans (e190 i hi)
        have g0 : Ni 190 0 = q := by rw [g 0 (by decide)]; simp [ust_r]
        have g1 : Ni 190 1 = 0 := by rw [g 1 (by decide)]; simp [ust_r]
        have g2 : Ni 190 2 = 0 := by rw [g 2 (by decide)]; simp [ust_r]
        have g4 : Ni 190 4 = 0 := by rw [g 4 (by decide)]; simp [ust_r]
        have g5 : Ni 190 5 = 0 := by rw [g 5 (by decide)]; simp [ust_r]
        refine WP.run [(173, 90)] [] 60 ?_
        simp only [bk173_0, bk173_5, bk173_10, bk173_16, bk173_22, bk173_28, bk173_31, bk173_69, bk173_75, bk173_88, bk173_90, bk173_96, bk173_109, U_iload_n, U_iconst, U_icmp_eq, U_bipush, U_ireturn, U_aload_n, U_putfield, U_getfield, U_iast, U_invokevirtual0, U_istore_n, U_icmp_ge, U_iinc, U_goto, UN_cc, UN_cn, UN_nc, UN_nn, UJ, lget, lset, lset2, entL, wsm, wcat, Option.toList_some, Option.toList_none, List.cons_append, List.nil_append, List.mem_cons, List.not_mem_nil, Prod.mk.injEq, or_false, false_or, or_true, true_or, and_true, true_and, and_false, false_and, and_self, ne_eq, not_false_eq_true, not_true_eq_false, forall_const, true_implies, false_implies, Nat.add_zero, Nat.zero_add, Nat.le_refl, Nat.zero_le, List.set_cons_zero, List.set_cons_succ, List.set_nil, ↓reduceIte, Nat.reduceAdd, Nat.reduceSub, Nat.reduceEqDiff, Nat.reduceLeDiff, Int.reduceEq, Int.reduceNe, Int.reduceNeg, reduceCtorEq]
        refine ⟨rr (by omega), fun e => absurd e (by omega), fun _ => ?_⟩
        refine hQ2 hp Ni ⟨⟨fun _ => none, ⟨zi, hp, g0, rfl, fun a A e => by cases e⟩, fun e => by omega⟩, Or.inl ⟨rfl, g1, g2, g5⟩, ⟨g4, fun i v e => by cases e⟩, fun r hr => wk_nought hp (fun i hi => by rw [hF.1 195 (by decide) (by decide)]; exact s2 i hi) r hr, fun i hi => by rw [hF.1 194 (by decide) (by decide)]; exact s3 i hi, h6, hA, Or.inl (by rw [hF.2 19 (by decide)]; exact s4), Or.inl (by rw [hF.2 22 (by decide)]; exact s5)⟩ ?_
        exact (F0.cl rfl).tr ((s1.cl rfl).tr (hF.cl rfl))
      | succ n ih =>
        intro i Ni hi hF h6 hA
        have zi := hF.fz (fzk rfl rfl) z1
        refine WP.run [(173, 90)] [] 60 ?_
        simp only [bk173_0, bk173_5, bk173_10, bk173_16, bk173_22, bk173_28, bk173_31, bk173_69, bk173_75, bk173_88, bk173_90, bk173_96, bk173_109, U_iload_n, U_iconst, U_icmp_eq, U_bipush, U_ireturn, U_aload_n, U_putfield, U_getfield, U_iast, U_invokevirtual0, U_istore_n, U_icmp_ge, U_iinc, U_goto, UN_cc, UN_cn, UN_nc, UN_nn, UJ, lget, lset, lset2, entL, wsm, wcat, Option.toList_some, Option.toList_none, List.cons_append, List.nil_append, List.mem_cons, List.not_mem_nil, Prod.mk.injEq, or_false, false_or, or_true, true_or, and_true, true_and, and_false, false_and, and_self, ne_eq, not_false_eq_true, not_true_eq_false, forall_const, true_implies, false_implies, Nat.add_zero, Nat.zero_add, Nat.le_refl, Nat.zero_le, List.set_cons_zero, List.set_cons_succ, List.set_nil, ↓reduceIte, Nat.reduceAdd, Nat.reduceSub, Nat.reduceEqDiff, Nat.reduceLeDiff, Int.reduceEq, Int.reduceNe, Int.reduceNeg, reduceCtorEq, kd190, kd197, ln197, z190_11 zi]
        refine ⟨rr (by omega), fun _ => ⟨by omega, by omega, ?_⟩, fun e => absurd (by omega) e⟩
        refine ih (i + 1) _ (by omega) (hF.us _ _ (by simp) (by decide)) (fun j hj => by rw [ust_ne (by decide)]; exact h6 j hj) (fun j hj => ?_)
        rw [ust_at]
        by_cases c : j = i
        · rw [if_pos (by omega)]
        · rw [if_neg (by omega)]; exact hA j (by omega)
    have K1 : ∀ (n i : Nat) (Ni : Mem), i + n = 26 → FM [196, 197] [] N1 Ni → (∀ j : Nat, j < i → Ni 196 (j : Int) = 0) → WP 173 (0, 0) 69 [(2, 190), (0, q), (0, (i : Int))] [] NN Ni Q := by
      intro n
      induction n with
      | zero =>
        intro i Ni hi hF hA
        obtain rfl : i = 26 := by omega
        refine WP.run [(173, 69), (173, 90)] [] 60 ?_
        simp only [bk173_0, bk173_5, bk173_10, bk173_16, bk173_22, bk173_28, bk173_31, bk173_69, bk173_75, bk173_88, bk173_90, bk173_96, bk173_109, U_iload_n, U_iconst, U_icmp_eq, U_bipush, U_ireturn, U_aload_n, U_putfield, U_getfield, U_iast, U_invokevirtual0, U_istore_n, U_icmp_ge, U_iinc, U_goto, UN_cc, UN_cn, UN_nc, UN_nn, UJ, lget, lset, lset2, entL, wsm, wcat, Option.toList_some, Option.toList_none, List.cons_append, List.nil_append, List.mem_cons, List.not_mem_nil, Prod.mk.injEq, or_false, false_or, or_true, true_or, and_true, true_and, and_false, false_and, and_self, ne_eq, not_false_eq_true, not_true_eq_false, forall_const, true_implies, false_implies, Nat.add_zero, Nat.zero_add, Nat.le_refl, Nat.zero_le, List.set_cons_zero, List.set_cons_succ, List.set_nil, ↓reduceIte, Nat.reduceAdd, Nat.reduceSub, Nat.reduceEqDiff, Nat.reduceLeDiff, Int.reduceEq, Int.reduceNe, Int.reduceNeg, reduceCtorEq]
        exact ⟨rr (by omega), fun e => absurd e (by omega), fun _ => K2 13 0 Ni rfl hF hA (fun j hj => by omega)⟩
      | succ n ih =>
        intro i Ni hi hF hA
        have zi := hF.fz (fzk rfl rfl) z1
        refine WP.run [(173, 69), (173, 90)] [] 60 ?_
        simp only [bk173_0, bk173_5, bk173_10, bk173_16, bk173_22, bk173_28, bk173_31, bk173_69, bk173_75, bk173_88, bk173_90, bk173_96, bk173_109, U_iload_n, U_iconst, U_icmp_eq, U_bipush, U_ireturn, U_aload_n, U_putfield, U_getfield, U_iast, U_invokevirtual0, U_istore_n, U_icmp_ge, U_iinc, U_goto, UN_cc, UN_cn, UN_nc, UN_nn, UJ, lget, lset, lset2, entL, wsm, wcat, Option.toList_some, Option.toList_none, List.cons_append, List.nil_append, List.mem_cons, List.not_mem_nil, Prod.mk.injEq, or_false, false_or, or_true, true_or, and_true, true_and, and_false, false_and, and_self, ne_eq, not_false_eq_true, not_true_eq_false, forall_const, true_implies, false_implies, Nat.add_zero, Nat.zero_add, Nat.le_refl, Nat.zero_le, List.set_cons_zero, List.set_cons_succ, List.set_nil, ↓reduceIte, Nat.reduceAdd, Nat.reduceSub, Nat.reduceEqDiff, Nat.reduceLeDiff, Int.reduceEq, Int.reduceNe, Int.reduceNeg, reduceCtorEq, kd190, kd196, ln196, z190_10 zi]
        refine ⟨rr (by omega), fun _ => ⟨by omega, by omega, ?_⟩, fun e => absurd (by omega) e⟩
        refine ih (i + 1) _ (by omega) (hF.us _ _ (by simp) (by decide)) (fun j hj => ?_)
        rw [ust_at]
        by_cases c : j = i
        · rw [if_pos (by omega)]
        · rw [if_neg (by omega)]; exact hA j (by omega)
    simp only [bk173_0, bk173_5, bk173_10, bk173_16, bk173_22, bk173_28, bk173_31, bk173_69, bk173_75, bk173_88, bk173_90, bk173_96, bk173_109, U_iload_n, U_iconst, U_icmp_eq, U_bipush, U_ireturn, U_aload_n, U_putfield, U_getfield, U_iast, U_invokevirtual0, U_istore_n, U_icmp_ge, U_iinc, U_goto, UN_cc, UN_cn, UN_nc, UN_nn, UJ, lget, lset, lset2, entL, wsm, wcat, Option.toList_some, Option.toList_none, List.cons_append, List.nil_append, List.mem_cons, List.not_mem_nil, Prod.mk.injEq, or_false, false_or, or_true, true_or, and_true, true_and, and_false, false_and, and_self, ne_eq, not_false_eq_true, not_true_eq_false, forall_const, true_implies, false_implies, Nat.add_zero, Nat.zero_add, Nat.le_refl, Nat.zero_le, List.set_cons_zero, List.set_cons_succ, List.set_nil, ↓reduceIte, Nat.reduceAdd, Nat.reduceSub, Nat.reduceEqDiff, Nat.reduceLeDiff, Int.reduceEq, Int.reduceNe, Int.reduceNeg, reduceCtorEq]
    exact K1 26 0 N1 rfl (FM.rf _ _ _) (fun j hj => by omega)
  have hR := fun (x : Int) (hx : R32 x) => (Or.inr ⟨hq, hx⟩ : RR q x)
  refine WP.run [(173, 31)] [] 60 ?_
  simp only [bk173_0, bk173_5, bk173_10, bk173_16, bk173_22, bk173_28, bk173_31, bk173_69, bk173_75, bk173_88, bk173_90, bk173_96, bk173_109, U_iload_n, U_iconst, U_icmp_eq, U_bipush, U_ireturn, U_aload_n, U_putfield, U_getfield, U_iast, U_invokevirtual0, U_istore_n, U_icmp_ge, U_iinc, U_goto, UN_cc, UN_cn, UN_nc, UN_nn, UJ, lget, lset, lset2, entL, wsm, wcat, Option.toList_some, Option.toList_none, List.cons_append, List.nil_append, List.mem_cons, List.not_mem_nil, Prod.mk.injEq, or_false, false_or, or_true, true_or, and_true, true_and, and_false, false_and, and_self, ne_eq, not_false_eq_true, not_true_eq_false, forall_const, true_implies, false_implies, Nat.add_zero, Nat.zero_add, Nat.le_refl, Nat.zero_le, List.set_cons_zero, List.set_cons_succ, List.set_nil, ↓reduceIte, Nat.reduceAdd, Nat.reduceSub, Nat.reduceEqDiff, Nat.reduceLeDiff, Int.reduceEq, Int.reduceNe, Int.reduceNeg, reduceCtorEq]
  refine ⟨hR 3 (r3 (by omega)), fun e => go (Or.inl e), fun e3 => ⟨hR 5 (r3 (by omega)), fun e => go (Or.inr (Or.inl e)), fun e5 => ⟨hR 7 (r3 (by omega)), fun e => go (Or.inr (Or.inr (Or.inl e))), fun e7 => ⟨hR 11 (r3 (by omega)), fun e => go (Or.inr (Or.inr (Or.inr (Or.inl e)))), fun e11 => ⟨hR 13 (r3 (by omega)), fun e => go (Or.inr (Or.inr (Or.inr (Or.inr e)))), fun e13 => ?_⟩⟩⟩⟩⟩
  refine hQ1 (fun w => ?_)
  rcases w with w | w | w | w | w
  · exact e3 w
  · exact e5 w
  · exact e7 w
  · exact e11 w
  · exact e13 w
