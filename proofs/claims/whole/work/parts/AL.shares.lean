/-! THE MODEL'S SHARES -/
/-- what the model keeps of a curve -/
def MG {p : Int} (f : Pz p) (g : Nat) (N : Mem) : Prop := (∃ μ, MT p N μ ∧ μ 0 = some f) ∧ N 190 1 = (dg f : Int) - 1 ∧ N 190 2 = (g : Int) ∧ N 190 5 = ((ptl f p.toNat).length : Int) + 1
theorem MG.mb {p : Int} {f : Pz p} {g : Nat} {N : Mem} (h : MG f g N) : MB f g N := ⟨h.1, h.2.2.1⟩
/-- the told non-square and the shares change -/
def PS (N N' : Mem) : Prop := (∀ b, b ≠ 190 → b ≠ 200 → N' b = N b) ∧ ∀ i, i ≠ 14 → N' 190 i = N 190 i
theorem PS.rf (N : Mem) : PS N N := ⟨fun _ _ _ => rfl, fun _ _ => rfl⟩
theorem PS.us {N N' : Mem} (h : PS N N') (i x : Int) : PS N (ust N' 200 i x) := ⟨fun b hb hc => by rw [ust_ne hc]; exact h.1 b hb hc, fun i hi => by rw [ust_ne (by decide)]; exact h.2 i hi⟩
theorem PS.pq {N N' N'' : Mem} (h : PS N N') (e : PQ N' N'') : PS N N'' := ⟨fun b hb hc => by rw [e.1 b hb]; exact h.1 b hb hc, fun i hi => by rw [e.2 i hi]; exact h.2 i hi⟩
theorem MG.ps {p : Int} {f : Pz p} {g : Nat} {N N' : Mem} (h : MG f g N) (e : PS N N') : MG f g N' := by
  obtain ⟨⟨μ, hM, h0⟩, h1, h2, h3⟩ := h
  refine ⟨⟨μ, ⟨hM.1.of fun b i v q => ?_, hM.2.1, by rw [e.2 0 (by decide)]; exact hM.2.2.1, hM.2.2.2.1, fun a A q => ?_⟩, h0⟩, by rw [e.2 1 (by decide)]; exact h1, by rw [e.2 2 (by decide)]; exact h2, by rw [e.2 5 (by decide)]; exact h3⟩
  · by_cases c : b = 190
    · subst c
      by_cases c2 : i = 14
      · subst c2; exact absurd q (by rw [show fz 190 14 = none from rfl]; simp)
      · exact e.2 i c2
    · by_cases c3 : b = 200
      · subst c3; rw [fz_arr (Or.inr rfl)] at q; cases q
      · rw [e.1 b c c3]
  · obtain ⟨p1, p2, p3, p4, p5⟩ := hM.2.2.2.2 a A q
    exact ⟨p1, p2, p3, by rw [e.1 199 (by decide) (by decide)]; exact p4, fun k hk => by rw [e.1 198 (by decide) (by decide)]; exact p5 k hk⟩
theorem MG.mt {p : Int} {f : Pz p} {g : Nat} {N : Mem} (h : MG f g N) : Fz N ∧ N 190 0 = p := h.1.elim fun _ q => ⟨q.1.1, q.1.2.2.1⟩
set_option maxHeartbeats 8000000 in
theorem l_shE1 {p : Int} {N : Mem} {Q : Post} {f : Pz p} {x : V} (h : MG f 1 N) (hp : Pr p) (e0 : N 200 0 = 1) (hQ : Q none NN (ust N 200 2 (1 * p ^ 1))) : WP 183 (0, 0) 81 [(2, 190), (0, 0), x] [] NN N Q := by
  obtain ⟨hz, hP⟩ := h.mt
  have h2 : N 190 2 = 1 := h.2.2.1
  refine WP.run [(183, 81)] [] 60 ?_
  simp only [bk183_0, bk183_34, bk183_79, bk183_81, bk183_89, bk183_125, U_aload_n, U_getfield, U_iconst, U_lconst, U_last, U_i2l, U_lsub, U_icmp_ne, U_invokevirtual0, U_lmul, U_lstore_n, U_lload_n, U_lald, U_ladd, U_ldc2_w, U_ldiv, U_istore_n, U_iload_n, U_icmp_ge, U_imul, U_isub, U_invokevirtual1, U_iinc, U_goto, U_return, UN_cc, UN_cn, UN_nc, UN_nn, UJ, lget, lset, lset2, entL, wsm, wcat, Option.toList_some, Option.toList_none, List.cons_append, List.nil_append, List.mem_cons, List.not_mem_nil, Prod.mk.injEq, or_false, false_or, or_true, true_or, and_true, true_and, and_false, false_and, and_self, ne_eq, not_false_eq_true, not_true_eq_false, forall_const, true_implies, false_implies, Nat.add_zero, Nat.zero_add, Nat.le_refl, Nat.zero_le, List.set_cons_zero, List.set_cons_succ, List.set_nil, ↓reduceIte, Nat.reduceAdd, Nat.reduceSub, Nat.reduceEqDiff, Nat.reduceLeDiff, Int.reduceEq, Int.reduceNe, Int.reduceNeg, reduceCtorEq, kd190, kd200, ln200, z190_15 hz, h2, e0, Int.reduceSub, Int.reduceMul, Int.reduceLT, Int.reduceLE]
  refine ⟨rr (by omega), m_bigPow (m := 1) hP hp (by omega) ?_⟩
  simp only [bk183_0, bk183_34, bk183_79, bk183_81, bk183_89, bk183_125, U_aload_n, U_getfield, U_iconst, U_lconst, U_last, U_i2l, U_lsub, U_icmp_ne, U_invokevirtual0, U_lmul, U_lstore_n, U_lload_n, U_lald, U_ladd, U_ldc2_w, U_ldiv, U_istore_n, U_iload_n, U_icmp_ge, U_imul, U_isub, U_invokevirtual1, U_iinc, U_goto, U_return, UN_cc, UN_cn, UN_nc, UN_nn, UJ, lget, lset, lset2, entL, wsm, wcat, Option.toList_some, Option.toList_none, List.cons_append, List.nil_append, List.mem_cons, List.not_mem_nil, Prod.mk.injEq, or_false, false_or, or_true, true_or, and_true, true_and, and_false, false_and, and_self, ne_eq, not_false_eq_true, not_true_eq_false, forall_const, true_implies, false_implies, Nat.add_zero, Nat.zero_add, Nat.le_refl, Nat.zero_le, List.set_cons_zero, List.set_cons_succ, List.set_nil, ↓reduceIte, Nat.reduceAdd, Nat.reduceSub, Nat.reduceEqDiff, Nat.reduceLeDiff, Int.reduceEq, Int.reduceNe, Int.reduceNeg, reduceCtorEq, kd190, kd200, ln200, Int.reduceLT, Int.reduceLE]
  refine WP.run [(183, 81)] [] 60 ?_
  simp only [bk183_0, bk183_34, bk183_79, bk183_81, bk183_89, bk183_125, U_aload_n, U_getfield, U_iconst, U_lconst, U_last, U_i2l, U_lsub, U_icmp_ne, U_invokevirtual0, U_lmul, U_lstore_n, U_lload_n, U_lald, U_ladd, U_ldc2_w, U_ldiv, U_istore_n, U_iload_n, U_icmp_ge, U_imul, U_isub, U_invokevirtual1, U_iinc, U_goto, U_return, UN_cc, UN_cn, UN_nc, UN_nn, UJ, lget, lset, lset2, entL, wsm, wcat, Option.toList_some, Option.toList_none, List.cons_append, List.nil_append, List.mem_cons, List.not_mem_nil, Prod.mk.injEq, or_false, false_or, or_true, true_or, and_true, true_and, and_false, false_and, and_self, ne_eq, not_false_eq_true, not_true_eq_false, forall_const, true_implies, false_implies, Nat.add_zero, Nat.zero_add, Nat.le_refl, Nat.zero_le, List.set_cons_zero, List.set_cons_succ, List.set_nil, ↓reduceIte, Nat.reduceAdd, Nat.reduceSub, Nat.reduceEqDiff, Nat.reduceLeDiff, Int.reduceEq, Int.reduceNe, Int.reduceNeg, reduceCtorEq, kd190, ust_l, h2, Int.reduceAdd, Int.reduceLT]
  exact ⟨rr (by omega), hQ⟩
set_option maxHeartbeats 8000000 in
theorem l_shE2 {p : Int} {N : Mem} {Q : Post} {f : Pz p} {x : V} (h : MG f 2 N) (hp : Pr p) (e0 : N 200 0 = 1) (hQ : Q none NN (ust (ust N 200 4 (1 * p ^ 2)) 200 3 (N 200 1 * p ^ 1))) : WP 183 (0, 0) 81 [(2, 190), (0, 0), x] [] NN N Q := by
  obtain ⟨hz, hP⟩ := h.mt
  have h2 : N 190 2 = 2 := h.2.2.1
  have hs := h.ps ((PS.rf N).us 4 (1 * p ^ 2))
  obtain ⟨hz2, hP2⟩ := hs.mt
  refine WP.run [(183, 81)] [] 60 ?_
  simp only [bk183_0, bk183_34, bk183_79, bk183_81, bk183_89, bk183_125, U_aload_n, U_getfield, U_iconst, U_lconst, U_last, U_i2l, U_lsub, U_icmp_ne, U_invokevirtual0, U_lmul, U_lstore_n, U_lload_n, U_lald, U_ladd, U_ldc2_w, U_ldiv, U_istore_n, U_iload_n, U_icmp_ge, U_imul, U_isub, U_invokevirtual1, U_iinc, U_goto, U_return, UN_cc, UN_cn, UN_nc, UN_nn, UJ, lget, lset, lset2, entL, wsm, wcat, Option.toList_some, Option.toList_none, List.cons_append, List.nil_append, List.mem_cons, List.not_mem_nil, Prod.mk.injEq, or_false, false_or, or_true, true_or, and_true, true_and, and_false, false_and, and_self, ne_eq, not_false_eq_true, not_true_eq_false, forall_const, true_implies, false_implies, Nat.add_zero, Nat.zero_add, Nat.le_refl, Nat.zero_le, List.set_cons_zero, List.set_cons_succ, List.set_nil, ↓reduceIte, Nat.reduceAdd, Nat.reduceSub, Nat.reduceEqDiff, Nat.reduceLeDiff, Int.reduceEq, Int.reduceNe, Int.reduceNeg, reduceCtorEq, kd190, kd200, ln200, z190_15 hz, h2, e0, Int.reduceSub, Int.reduceMul, Int.reduceLT, Int.reduceLE]
  refine ⟨rr (by omega), m_bigPow (m := 2) hP hp (by omega) ?_⟩
  simp only [bk183_0, bk183_34, bk183_79, bk183_81, bk183_89, bk183_125, U_aload_n, U_getfield, U_iconst, U_lconst, U_last, U_i2l, U_lsub, U_icmp_ne, U_invokevirtual0, U_lmul, U_lstore_n, U_lload_n, U_lald, U_ladd, U_ldc2_w, U_ldiv, U_istore_n, U_iload_n, U_icmp_ge, U_imul, U_isub, U_invokevirtual1, U_iinc, U_goto, U_return, UN_cc, UN_cn, UN_nc, UN_nn, UJ, lget, lset, lset2, entL, wsm, wcat, Option.toList_some, Option.toList_none, List.cons_append, List.nil_append, List.mem_cons, List.not_mem_nil, Prod.mk.injEq, or_false, false_or, or_true, true_or, and_true, true_and, and_false, false_and, and_self, ne_eq, not_false_eq_true, not_true_eq_false, forall_const, true_implies, false_implies, Nat.add_zero, Nat.zero_add, Nat.le_refl, Nat.zero_le, List.set_cons_zero, List.set_cons_succ, List.set_nil, ↓reduceIte, Nat.reduceAdd, Nat.reduceSub, Nat.reduceEqDiff, Nat.reduceLeDiff, Int.reduceEq, Int.reduceNe, Int.reduceNeg, reduceCtorEq, kd190, kd200, ln200, Int.reduceLT, Int.reduceLE]
  refine WP.run [(183, 81)] [] 60 ?_
  simp only [bk183_0, bk183_34, bk183_79, bk183_81, bk183_89, bk183_125, U_aload_n, U_getfield, U_iconst, U_lconst, U_last, U_i2l, U_lsub, U_icmp_ne, U_invokevirtual0, U_lmul, U_lstore_n, U_lload_n, U_lald, U_ladd, U_ldc2_w, U_ldiv, U_istore_n, U_iload_n, U_icmp_ge, U_imul, U_isub, U_invokevirtual1, U_iinc, U_goto, U_return, UN_cc, UN_cn, UN_nc, UN_nn, UJ, lget, lset, lset2, entL, wsm, wcat, Option.toList_some, Option.toList_none, List.cons_append, List.nil_append, List.mem_cons, List.not_mem_nil, Prod.mk.injEq, or_false, false_or, or_true, true_or, and_true, true_and, and_false, false_and, and_self, ne_eq, not_false_eq_true, not_true_eq_false, forall_const, true_implies, false_implies, Nat.add_zero, Nat.zero_add, Nat.le_refl, Nat.zero_le, List.set_cons_zero, List.set_cons_succ, List.set_nil, ↓reduceIte, Nat.reduceAdd, Nat.reduceSub, Nat.reduceEqDiff, Nat.reduceLeDiff, Int.reduceEq, Int.reduceNe, Int.reduceNeg, reduceCtorEq, kd190, kd200, ln200, z190_15 hz, ust_l, h2, Int.reduceAdd, Int.reduceSub, Int.reduceMul, Int.reduceLT, Int.reduceLE]
  refine ⟨rr (by omega), m_bigPow (m := 1) hP2 hp (by omega) ?_⟩
  simp only [bk183_0, bk183_34, bk183_79, bk183_81, bk183_89, bk183_125, U_aload_n, U_getfield, U_iconst, U_lconst, U_last, U_i2l, U_lsub, U_icmp_ne, U_invokevirtual0, U_lmul, U_lstore_n, U_lload_n, U_lald, U_ladd, U_ldc2_w, U_ldiv, U_istore_n, U_iload_n, U_icmp_ge, U_imul, U_isub, U_invokevirtual1, U_iinc, U_goto, U_return, UN_cc, UN_cn, UN_nc, UN_nn, UJ, lget, lset, lset2, entL, wsm, wcat, Option.toList_some, Option.toList_none, List.cons_append, List.nil_append, List.mem_cons, List.not_mem_nil, Prod.mk.injEq, or_false, false_or, or_true, true_or, and_true, true_and, and_false, false_and, and_self, ne_eq, not_false_eq_true, not_true_eq_false, forall_const, true_implies, false_implies, Nat.add_zero, Nat.zero_add, Nat.le_refl, Nat.zero_le, List.set_cons_zero, List.set_cons_succ, List.set_nil, ↓reduceIte, Nat.reduceAdd, Nat.reduceSub, Nat.reduceEqDiff, Nat.reduceLeDiff, Int.reduceEq, Int.reduceNe, Int.reduceNeg, reduceCtorEq, kd190, kd200, ln200, Int.reduceLT, Int.reduceLE]
  refine WP.run [(183, 81)] [] 60 ?_
  simp only [bk183_0, bk183_34, bk183_79, bk183_81, bk183_89, bk183_125, U_aload_n, U_getfield, U_iconst, U_lconst, U_last, U_i2l, U_lsub, U_icmp_ne, U_invokevirtual0, U_lmul, U_lstore_n, U_lload_n, U_lald, U_ladd, U_ldc2_w, U_ldiv, U_istore_n, U_iload_n, U_icmp_ge, U_imul, U_isub, U_invokevirtual1, U_iinc, U_goto, U_return, UN_cc, UN_cn, UN_nc, UN_nn, UJ, lget, lset, lset2, entL, wsm, wcat, Option.toList_some, Option.toList_none, List.cons_append, List.nil_append, List.mem_cons, List.not_mem_nil, Prod.mk.injEq, or_false, false_or, or_true, true_or, and_true, true_and, and_false, false_and, and_self, ne_eq, not_false_eq_true, not_true_eq_false, forall_const, true_implies, false_implies, Nat.add_zero, Nat.zero_add, Nat.le_refl, Nat.zero_le, List.set_cons_zero, List.set_cons_succ, List.set_nil, ↓reduceIte, Nat.reduceAdd, Nat.reduceSub, Nat.reduceEqDiff, Nat.reduceLeDiff, Int.reduceEq, Int.reduceNe, Int.reduceNeg, reduceCtorEq, kd190, ust_l, h2, Int.reduceAdd, Int.reduceLT]
  exact ⟨rr (by omega), hQ⟩
set_option maxHeartbeats 16000000 in
theorem m_shares {p : Int} {N : Mem} {Q : Post} {f : Pz p} {g : Nat} (h : MG f g N) (hp : Pr p) (hg : g = 1 ∨ g = 2) (hQ : ∀ N', PS N N' → (∀ i : Nat, i ≤ 2 * g → N' 200 (i : Int) = shs f g i) → Q none NN N') : CL 183 [(2, 190), (9, 0), (9, 0)] NN N Q := by
  have hpp := hp.pos
  have h26 := ptl_26 hp f
  have hnn := nn2_rg hp f
  have hpq : p * p ≤ 169 ∧ 9 ≤ p * p := by rcases hp with rfl | rfl | rfl | rfl | rfl <;> decide
  obtain ⟨hz, hP⟩ := h.mt
  have h2 := h.2.2.1
  have h3 := h.2.2.2
  have pa := (((PS.rf N).us 0 1).us 1 (((ptl f p.toNat).length : Int) + 1 - 1 - p))
  have ha := h.ps pa
  have e1 : ((ptl f p.toNat).length : Int) + 1 - 1 - p = (ptl f p.toNat).length - p := by omega
  refine WP.run [(183, 79), (183, 81)] [] 90 ?_
  simp only [bk183_0, bk183_34, bk183_79, bk183_81, bk183_89, bk183_125, U_aload_n, U_getfield, U_iconst, U_lconst, U_last, U_i2l, U_lsub, U_icmp_ne, U_invokevirtual0, U_lmul, U_lstore_n, U_lload_n, U_lald, U_ladd, U_ldc2_w, U_ldiv, U_istore_n, U_iload_n, U_icmp_ge, U_imul, U_isub, U_invokevirtual1, U_iinc, U_goto, U_return, UN_cc, UN_cn, UN_nc, UN_nn, UJ, lget, lset, lset2, entL, wsm, wcat, Option.toList_some, Option.toList_none, List.cons_append, List.nil_append, List.mem_cons, List.not_mem_nil, Prod.mk.injEq, or_false, false_or, or_true, true_or, and_true, true_and, and_false, false_and, and_self, ne_eq, not_false_eq_true, not_true_eq_false, forall_const, true_implies, false_implies, Nat.add_zero, Nat.zero_add, Nat.le_refl, Nat.zero_le, List.set_cons_zero, List.set_cons_succ, List.set_nil, ↓reduceIte, Nat.reduceAdd, Nat.reduceSub, Nat.reduceEqDiff, Nat.reduceLeDiff, Int.reduceEq, Int.reduceNe, Int.reduceNeg, reduceCtorEq, kd190, kd200, ln200, ust_l, ust_s, z190_15 hz, h2, h3, hP]
  refine ⟨by omega, by omega, r3 (by omega), r3 (by omega), by omega, by omega, rr (by omega), fun e => ?_, fun e => ?_⟩
  · obtain rfl : g = 2 := by omega
    obtain ⟨⟨μ, hM, h0⟩, d1, -, -⟩ := ha
    refine m_pairPts hM h0 d1 fun N1 q1 => ?_
    have p1 := pa.pq q1
    have hb := h.ps p1
    obtain ⟨hz1, hP1⟩ := hb.mt
    have s1 : N1 200 1 = ((ptl f p.toNat).length : Int) + 1 - 1 - p := by rw [q1.1 200 (by decide), ust_at, if_pos rfl]
    have s0 : N1 200 0 = 1 := by rw [q1.1 200 (by decide), ust_l (Or.inr (by decide)), ust_at, if_pos rfl]
    simp only [bk183_0, bk183_34, bk183_79, bk183_81, bk183_89, bk183_125, U_aload_n, U_getfield, U_iconst, U_lconst, U_last, U_i2l, U_lsub, U_icmp_ne, U_invokevirtual0, U_lmul, U_lstore_n, U_lload_n, U_lald, U_ladd, U_ldc2_w, U_ldiv, U_istore_n, U_iload_n, U_icmp_ge, U_imul, U_isub, U_invokevirtual1, U_iinc, U_goto, U_return, UN_cc, UN_cn, UN_nc, UN_nn, UJ, lget, lset, lset2, entL, wsm, wcat, Option.toList_some, Option.toList_none, List.cons_append, List.nil_append, List.mem_cons, List.not_mem_nil, Prod.mk.injEq, or_false, false_or, or_true, true_or, and_true, true_and, and_false, false_and, and_self, ne_eq, not_false_eq_true, not_true_eq_false, forall_const, true_implies, false_implies, Nat.add_zero, Nat.zero_add, Nat.le_refl, Nat.zero_le, List.set_cons_zero, List.set_cons_succ, List.set_nil, ↓reduceIte, Nat.reduceAdd, Nat.reduceSub, Nat.reduceEqDiff, Nat.reduceLeDiff, Int.reduceEq, Int.reduceNe, Int.reduceNeg, reduceCtorEq, kd190, kd200, ln200, z190_15 hz1, hP1, s1]
    have mb := ab_mul (A := 26) (B := 26) (a := ((ptl f p.toNat).length : Int) + 1 - 1 - p) (b := ((ptl f p.toNat).length : Int) + 1 - 1 - p) (by omega) (by omega)
    refine ⟨r3 (by omega), r3 (by omega), r3 (by omega), by omega, by omega, by omega, by omega, ⟨by omega, by omega⟩, ⟨by omega, by omega⟩, by omega, by omega, ?_⟩
    rw [e1, show nn2 f + 1 - 1 - p * p = nn2 f - p * p by omega]
    rw [e1] at s1
    have pb := p1.us 2 ((nn2 f - p * p + (((ptl f p.toNat).length : Int) - p) * (((ptl f p.toNat).length : Int) - p)).tdiv 2)
    have hc := h.ps pb
    refine WP.run [(183, 81)] [] 60 ?_
    simp only [bk183_0, bk183_34, bk183_79, bk183_81, bk183_89, bk183_125, U_aload_n, U_getfield, U_iconst, U_lconst, U_last, U_i2l, U_lsub, U_icmp_ne, U_invokevirtual0, U_lmul, U_lstore_n, U_lload_n, U_lald, U_ladd, U_ldc2_w, U_ldiv, U_istore_n, U_iload_n, U_icmp_ge, U_imul, U_isub, U_invokevirtual1, U_iinc, U_goto, U_return, UN_cc, UN_cn, UN_nc, UN_nn, UJ, lget, lset, lset2, entL, wsm, wcat, Option.toList_some, Option.toList_none, List.cons_append, List.nil_append, List.mem_cons, List.not_mem_nil, Prod.mk.injEq, or_false, false_or, or_true, true_or, and_true, true_and, and_false, false_and, and_self, ne_eq, not_false_eq_true, not_true_eq_false, forall_const, true_implies, false_implies, Nat.add_zero, Nat.zero_add, Nat.le_refl, Nat.zero_le, List.set_cons_zero, List.set_cons_succ, List.set_nil, ↓reduceIte, Nat.reduceAdd, Nat.reduceSub, Nat.reduceEqDiff, Nat.reduceLeDiff, Int.reduceEq, Int.reduceNe, Int.reduceNeg, reduceCtorEq]
    refine l_shE2 hc hp (by rw [ust_l (Or.inr (by decide)), s0]) (hQ _ ((pb.us _ _).us _ _) fun i hi => ?_)
    have : i = 0 ∨ i = 1 ∨ i = 2 ∨ i = 3 ∨ i = 4 := by omega
    rcases this with rfl | rfl | rfl | rfl | rfl
    · rw [ust_l (Or.inr (by decide)), ust_l (Or.inr (by decide)), ust_l (Or.inr (by decide))]; exact s0
    · rw [ust_l (Or.inr (by decide)), ust_l (Or.inr (by decide)), ust_l (Or.inr (by decide))]; exact s1
    · rw [ust_l (Or.inr (by decide)), ust_l (Or.inr (by decide))]; exact ust_s
    · show ust _ 200 3 _ 200 3 = _
      rw [ust_s, ust_l (Or.inr (by decide)), s1, Int.pow_succ, Int.pow_zero, Int.one_mul]; rfl
    · rw [ust_l (Or.inr (by decide))]
      show ust _ 200 4 _ 200 4 = _
      rw [ust_s, Int.pow_succ, Int.pow_succ, Int.pow_zero, Int.one_mul, Int.one_mul]; rfl
  · obtain rfl : g = 1 := by omega
    refine WP.run [(183, 81)] [] 60 ?_
    simp only [bk183_0, bk183_34, bk183_79, bk183_81, bk183_89, bk183_125, U_aload_n, U_getfield, U_iconst, U_lconst, U_last, U_i2l, U_lsub, U_icmp_ne, U_invokevirtual0, U_lmul, U_lstore_n, U_lload_n, U_lald, U_ladd, U_ldc2_w, U_ldiv, U_istore_n, U_iload_n, U_icmp_ge, U_imul, U_isub, U_invokevirtual1, U_iinc, U_goto, U_return, UN_cc, UN_cn, UN_nc, UN_nn, UJ, lget, lset, lset2, entL, wsm, wcat, Option.toList_some, Option.toList_none, List.cons_append, List.nil_append, List.mem_cons, List.not_mem_nil, Prod.mk.injEq, or_false, false_or, or_true, true_or, and_true, true_and, and_false, false_and, and_self, ne_eq, not_false_eq_true, not_true_eq_false, forall_const, true_implies, false_implies, Nat.add_zero, Nat.zero_add, Nat.le_refl, Nat.zero_le, List.set_cons_zero, List.set_cons_succ, List.set_nil, ↓reduceIte, Nat.reduceAdd, Nat.reduceSub, Nat.reduceEqDiff, Nat.reduceLeDiff, Int.reduceEq, Int.reduceNe, Int.reduceNeg, reduceCtorEq]
    refine l_shE1 ha hp (by rw [ust_l (Or.inr (by decide)), ust_s]) (hQ _ (pa.us _ _) fun i hi => ?_)
    have : i = 0 ∨ i = 1 ∨ i = 2 := by omega
    rcases this with rfl | rfl | rfl
    · rw [ust_l (Or.inr (by decide)), ust_l (Or.inr (by decide))]; exact ust_s
    · rw [ust_l (Or.inr (by decide))]
      show ust _ 200 1 _ 200 1 = _
      rw [ust_s, e1]; rfl
    · show ust _ 200 2 _ 200 2 = _
      rw [ust_s, Int.pow_succ, Int.pow_zero, Int.one_mul, Int.one_mul]; rfl
