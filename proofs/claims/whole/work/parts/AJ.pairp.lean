/-! THE MODEL'S COUNT OVER P P -/
/-- only the told non-square changes -/
def PQ (N N' : Mem) : Prop := (∀ b, b ≠ 190 → N' b = N b) ∧ ∀ i, i ≠ 14 → N' 190 i = N 190 i
theorem PQ.rf (N : Mem) : PQ N N := ⟨fun _ _ => rfl, fun _ _ => rfl⟩
theorem PQ.us {N N' : Mem} (h : PQ N N') (x : Int) : PQ N (ust N' 190 14 x) := ⟨fun b hb => by rw [ust_ne hb]; exact h.1 b hb, fun i hi => by rw [ust_at, if_neg hi]; exact h.2 i hi⟩
theorem MT.pq {p : Int} {N N' : Mem} {μ : Int → Option (Pz p)} (h : MT p N μ) (e : PQ N N') : MT p N' μ := by
  refine ⟨h.1.of fun b i v q => ?_, h.2.1, by rw [e.2 0 (by decide)]; exact h.2.2.1, h.2.2.2.1, fun a A q => ?_⟩
  · by_cases c : b = 190
    · subst c
      by_cases c2 : i = 14
      · subst c2; exact absurd q (by rw [show fz 190 14 = none from rfl]; simp)
      · exact e.2 i c2
    · rw [e.1 b c]
  · obtain ⟨p1, p2, p3, p4, p5⟩ := h.2.2.2.2 a A q
    exact ⟨p1, p2, p3, by rw [e.1 199 (by decide)]; exact p4, fun k hk => by rw [e.1 198 (by decide)]; exact p5 k hk⟩
theorem nsq_pw {p : Int} (hp : Pr p) : (p ≠ 7 → nsq p = 2 ∧ pwm p 2 ((p.toNat - 1) / 2) ≠ 1) ∧ (p = 7 → nsq p = 3 ∧ pwm p 2 ((p.toNat - 1) / 2) = 1 ∧ pwm p 3 ((p.toNat - 1) / 2) ≠ 1) := by
  rcases hp with rfl | rfl | rfl | rfl | rfl <;> decide
set_option maxHeartbeats 8000000 in
theorem l_mean {p : Int} {N : Mem} {μ : Int → Option (Pz p)} {Q : Post} (h : MT p N μ) (hQ : ∀ N', PQ N N' → N' 190 14 = nsq p → WP 181 (0, 0) 38 [(2, 190), (9, 0), (9, 0), (9, 0), (9, 0), (9, 0)] [] NN N' Q) : CL 181 [(2, 190), (9, 0), (9, 0), (9, 0), (9, 0), (9, 0)] NN N Q := by
  have hp := h.2.1
  have hpp := hp.pos
  have hn := nsq_pw hp
  have hh : (p - 1).tdiv 2 = (((p.toNat - 1) / 2 : Nat) : Int) := by rw [Int.tdiv_eq_ediv_of_nonneg (by omega)]; omega
  have P2 : PQ N (ust N 190 14 2) := (PQ.rf N).us 2
  have M2 := h.pq P2
  have e2 : ust N 190 14 2 190 14 = 2 := by rw [ust_at, if_pos rfl]
  have r2 := pwm_rg (x := 2) hp ((p.toNat - 1) / 2)
  have r3' := pwm_rg (x := 3) hp ((p.toNat - 1) / 2)
  refine WP.run [(181, 5), (181, 38)] [] 60 ?_
  simp only [bk181_0, bk181_5, bk181_25, bk181_38, bk181_42, bk181_55, bk181_63, bk181_68, bk181_113, bk181_122, bk181_140, bk181_155, bk181_160, bk181_164, bk181_173, bk181_177, bk181_178, bk181_186, U_aload_n, U_iconst, U_putfield, U_getfield, U_isub, U_idiv, U_invokevirtual2, U_icmp_ne, U_dup, U_iadd, U_goto, U_istore_n, U_iload_n, U_imul, U_icmp_ge, U_istore, U_iload, U_if_lt, U_irem, U_iinc, U_if_ne, U_ireturn, UN_cc, UN_cn, UN_nc, UN_nn, UJ, lget, lset, lset2, entL, wsm, wcat, Option.toList_some, Option.toList_none, List.cons_append, List.nil_append, List.mem_cons, List.not_mem_nil, Prod.mk.injEq, or_false, false_or, or_true, true_or, and_true, true_and, and_false, false_and, and_self, ne_eq, not_false_eq_true, not_true_eq_false, forall_const, true_implies, false_implies, Nat.add_zero, Nat.zero_add, Nat.le_refl, Nat.zero_le, List.set_cons_zero, List.set_cons_succ, List.set_nil, ↓reduceIte, Nat.reduceAdd, Nat.reduceSub, Nat.reduceEqDiff, Nat.reduceLeDiff, Int.reduceEq, Int.reduceNe, Int.reduceNeg, reduceCtorEq, kd190]
  refine WP.run [(181, 5), (181, 38)] [] 60 ?_
  simp only [bk181_0, bk181_5, bk181_25, bk181_38, bk181_42, bk181_55, bk181_63, bk181_68, bk181_113, bk181_122, bk181_140, bk181_155, bk181_160, bk181_164, bk181_173, bk181_177, bk181_178, bk181_186, U_aload_n, U_iconst, U_putfield, U_getfield, U_isub, U_idiv, U_invokevirtual2, U_icmp_ne, U_dup, U_iadd, U_goto, U_istore_n, U_iload_n, U_imul, U_icmp_ge, U_istore, U_iload, U_if_lt, U_irem, U_iinc, U_if_ne, U_ireturn, UN_cc, UN_cn, UN_nc, UN_nn, UJ, lget, lset, lset2, entL, wsm, wcat, Option.toList_some, Option.toList_none, List.cons_append, List.nil_append, List.mem_cons, List.not_mem_nil, Prod.mk.injEq, or_false, false_or, or_true, true_or, and_true, true_and, and_false, false_and, and_self, ne_eq, not_false_eq_true, not_true_eq_false, forall_const, true_implies, false_implies, Nat.add_zero, Nat.zero_add, Nat.le_refl, Nat.zero_le, List.set_cons_zero, List.set_cons_succ, List.set_nil, ↓reduceIte, Nat.reduceAdd, Nat.reduceSub, Nat.reduceEqDiff, Nat.reduceLeDiff, Int.reduceEq, Int.reduceNe, Int.reduceNeg, reduceCtorEq, kd190, M2.2.2.1, e2, hh]
  refine ⟨r3 (by omega), r3 (by omega), m_pow hp M2.2.2.1 (by omega) (by omega) ?_⟩
  simp only [bk181_0, bk181_5, bk181_25, bk181_38, bk181_42, bk181_55, bk181_63, bk181_68, bk181_113, bk181_122, bk181_140, bk181_155, bk181_160, bk181_164, bk181_173, bk181_177, bk181_178, bk181_186, U_aload_n, U_iconst, U_putfield, U_getfield, U_isub, U_idiv, U_invokevirtual2, U_icmp_ne, U_dup, U_iadd, U_goto, U_istore_n, U_iload_n, U_imul, U_icmp_ge, U_istore, U_iload, U_if_lt, U_irem, U_iinc, U_if_ne, U_ireturn, UN_cc, UN_cn, UN_nc, UN_nn, UJ, lget, lset, lset2, entL, wsm, wcat, Option.toList_some, Option.toList_none, List.cons_append, List.nil_append, List.mem_cons, List.not_mem_nil, Prod.mk.injEq, or_false, false_or, or_true, true_or, and_true, true_and, and_false, false_and, and_self, ne_eq, not_false_eq_true, not_true_eq_false, forall_const, true_implies, false_implies, Nat.add_zero, Nat.zero_add, Nat.le_refl, Nat.zero_le, List.set_cons_zero, List.set_cons_succ, List.set_nil, ↓reduceIte, Nat.reduceAdd, Nat.reduceSub, Nat.reduceEqDiff, Nat.reduceLeDiff, Int.reduceEq, Int.reduceNe, Int.reduceNeg, reduceCtorEq, kd190, e2]
  refine ⟨rr (by omega), fun e => ?_, fun e => ?_⟩
  · have p7 : p = 7 := Classical.byContradiction fun q => (hn.1 q).2 e
    have P3 : PQ N (ust (ust N 190 14 2) 190 14 (2 + 1)) := P2.us _
    have M3 := h.pq P3
    have e3 : ust (ust N 190 14 2) 190 14 (2 + 1) 190 14 = 3 := by rw [ust_at, if_pos rfl]; rfl
    refine WP.run [(181, 5), (181, 38)] [] 60 ?_
    simp only [bk181_0, bk181_5, bk181_25, bk181_38, bk181_42, bk181_55, bk181_63, bk181_68, bk181_113, bk181_122, bk181_140, bk181_155, bk181_160, bk181_164, bk181_173, bk181_177, bk181_178, bk181_186, U_aload_n, U_iconst, U_putfield, U_getfield, U_isub, U_idiv, U_invokevirtual2, U_icmp_ne, U_dup, U_iadd, U_goto, U_istore_n, U_iload_n, U_imul, U_icmp_ge, U_istore, U_iload, U_if_lt, U_irem, U_iinc, U_if_ne, U_ireturn, UN_cc, UN_cn, UN_nc, UN_nn, UJ, lget, lset, lset2, entL, wsm, wcat, Option.toList_some, Option.toList_none, List.cons_append, List.nil_append, List.mem_cons, List.not_mem_nil, Prod.mk.injEq, or_false, false_or, or_true, true_or, and_true, true_and, and_false, false_and, and_self, ne_eq, not_false_eq_true, not_true_eq_false, forall_const, true_implies, false_implies, Nat.add_zero, Nat.zero_add, Nat.le_refl, Nat.zero_le, List.set_cons_zero, List.set_cons_succ, List.set_nil, ↓reduceIte, Nat.reduceAdd, Nat.reduceSub, Nat.reduceEqDiff, Nat.reduceLeDiff, Int.reduceEq, Int.reduceNe, Int.reduceNeg, reduceCtorEq, kd190, M3.2.2.1, e3, hh]
    refine ⟨r3 (by omega), r3 (by omega), m_pow hp M3.2.2.1 (by omega) (by omega) ?_⟩
    simp only [bk181_0, bk181_5, bk181_25, bk181_38, bk181_42, bk181_55, bk181_63, bk181_68, bk181_113, bk181_122, bk181_140, bk181_155, bk181_160, bk181_164, bk181_173, bk181_177, bk181_178, bk181_186, U_aload_n, U_iconst, U_putfield, U_getfield, U_isub, U_idiv, U_invokevirtual2, U_icmp_ne, U_dup, U_iadd, U_goto, U_istore_n, U_iload_n, U_imul, U_icmp_ge, U_istore, U_iload, U_if_lt, U_irem, U_iinc, U_if_ne, U_ireturn, UN_cc, UN_cn, UN_nc, UN_nn, UJ, lget, lset, lset2, entL, wsm, wcat, Option.toList_some, Option.toList_none, List.cons_append, List.nil_append, List.mem_cons, List.not_mem_nil, Prod.mk.injEq, or_false, false_or, or_true, true_or, and_true, true_and, and_false, false_and, and_self, ne_eq, not_false_eq_true, not_true_eq_false, forall_const, true_implies, false_implies, Nat.add_zero, Nat.zero_add, Nat.le_refl, Nat.zero_le, List.set_cons_zero, List.set_cons_succ, List.set_nil, ↓reduceIte, Nat.reduceAdd, Nat.reduceSub, Nat.reduceEqDiff, Nat.reduceLeDiff, Int.reduceEq, Int.reduceNe, Int.reduceNeg, reduceCtorEq]
    refine ⟨rr (by omega), fun e => absurd e (hn.2 p7).2.2, fun _ => hQ _ P3 ?_⟩
    rw [e3, (hn.2 p7).1]
  · have p7 : p ≠ 7 := fun q => e (hn.2 q).2.1
    refine hQ _ P2 ?_
    rw [e2, (hn.1 p7).1]
