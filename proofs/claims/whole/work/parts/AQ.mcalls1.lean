/-! THE MODEL'S CALLS: the curve's counts and points -/
theorem ok_q : FZK [200, 201, 202] [14] := fzk rfl rfl
set_option maxHeartbeats 4000000 in
theorem q_points {p : Int} {g : Nat} {f : Pz p} {pu : List Int} {rg : Nat → Pz p × Pz p} {A tl : Nat → Int} {E : Nat → Nat} {N : Mem} {Q : Post} (h : MS g f pu rg A tl E N) (V : VS g f pu rg A tl E) (hQ : Q (some (0, oPoints g f)) NN N) : CL 176 [(2, 190)] NN N Q := by
  unfold oPoints at hQ
  refine WP.run [] [] 60 ?_
  simp only [bk176_0, bk176_7, bk176_14, bk176_16, U_aload_n, U_invokevirtual0, U_if_eq, U_getfield, U_goto, U_bipush, U_ireturn, UN_cc, UN_cn, UN_nc, UN_nn, UJ, lget, lset, lset2, entL, wsm, wcat, Option.toList_some, Option.toList_none, List.cons_append, List.nil_append, List.mem_cons, List.not_mem_nil, Prod.mk.injEq, or_false, false_or, or_true, true_or, and_true, true_and, and_false, false_and, and_self, ne_eq, not_false_eq_true, not_true_eq_false, forall_const, true_implies, false_implies, Nat.add_zero, Nat.zero_add, Nat.le_refl, Nat.zero_le, List.set_cons_zero, List.set_cons_succ, List.set_nil, ↓reduceIte, Nat.reduceAdd, Nat.reduceSub, Nat.reduceEqDiff, Nat.reduceLeDiff, Int.reduceEq, Int.reduceNe, Int.reduceNeg, reduceCtorEq, kd190]
  refine m_std h V ?_
  by_cases q : g = 0
  · rw [if_pos q] at hQ ⊢
    simp only [bk176_0, bk176_7, bk176_14, bk176_16, U_aload_n, U_invokevirtual0, U_if_eq, U_getfield, U_goto, U_bipush, U_ireturn, UN_cc, UN_cn, UN_nc, UN_nn, UJ, lget, lset, lset2, entL, wsm, wcat, Option.toList_some, Option.toList_none, List.cons_append, List.nil_append, List.mem_cons, List.not_mem_nil, Prod.mk.injEq, or_false, false_or, or_true, true_or, and_true, true_and, and_false, false_and, and_self, ne_eq, not_false_eq_true, not_true_eq_false, forall_const, true_implies, false_implies, Nat.add_zero, Nat.zero_add, Nat.le_refl, Nat.zero_le, List.set_cons_zero, List.set_cons_succ, List.set_nil, ↓reduceIte, Nat.reduceAdd, Nat.reduceSub, Nat.reduceEqDiff, Nat.reduceLeDiff, Int.reduceEq, Int.reduceNe, Int.reduceNeg, reduceCtorEq]
    exact ⟨r3 (by omega), hQ⟩
  · rw [if_neg q] at hQ ⊢
    have G := (h.mg q).1
    simp only [bk176_0, bk176_7, bk176_14, bk176_16, U_aload_n, U_invokevirtual0, U_if_eq, U_getfield, U_goto, U_bipush, U_ireturn, UN_cc, UN_cn, UN_nc, UN_nn, UJ, lget, lset, lset2, entL, wsm, wcat, Option.toList_some, Option.toList_none, List.cons_append, List.nil_append, List.mem_cons, List.not_mem_nil, Prod.mk.injEq, or_false, false_or, or_true, true_or, and_true, true_and, and_false, false_and, and_self, ne_eq, not_false_eq_true, not_true_eq_false, forall_const, true_implies, false_implies, Nat.add_zero, Nat.zero_add, Nat.le_refl, Nat.zero_le, List.set_cons_zero, List.set_cons_succ, List.set_nil, ↓reduceIte, Nat.reduceAdd, Nat.reduceSub, Nat.reduceEqDiff, Nat.reduceLeDiff, Int.reduceEq, Int.reduceNe, Int.reduceNeg, reduceCtorEq, kd190, G.2.2.2]
    exact ⟨r3 (by omega), hQ⟩
set_option maxHeartbeats 4000000 in
theorem q_countAll {p : Int} {g : Nat} {f : Pz p} {pu : List Int} {rg : Nat → Pz p × Pz p} {A tl : Nat → Int} {E : Nat → Nat} {N : Mem} {Q : Post} (h : MS g f pu rg A tl E N) (V : VS g f pu rg A tl E) (hQ : ∀ N', MS g f pu rg A tl E N' → clF N N' → Q (some (0, oCountAll g f)) NN N') : CL 186 [(2, 190)] NN N Q := by
  unfold oCountAll at hQ
  refine WP.run [] [] 60 ?_
  simp only [bk186_0, bk186_7, bk186_14, bk186_16, U_aload_n, U_invokevirtual0, U_if_eq, U_goto, U_bipush, U_ireturn, UN_cc, UN_cn, UN_nc, UN_nn, UJ, lget, lset, lset2, entL, wsm, wcat, Option.toList_some, Option.toList_none, List.cons_append, List.nil_append, List.mem_cons, List.not_mem_nil, Prod.mk.injEq, or_false, false_or, or_true, true_or, and_true, true_and, and_false, false_and, and_self, ne_eq, not_false_eq_true, not_true_eq_false, forall_const, true_implies, false_implies, Nat.add_zero, Nat.zero_add, Nat.le_refl, Nat.zero_le, List.set_cons_zero, List.set_cons_succ, List.set_nil, ↓reduceIte, Nat.reduceAdd, Nat.reduceSub, Nat.reduceEqDiff, Nat.reduceLeDiff, Int.reduceEq, Int.reduceNe, Int.reduceNeg, reduceCtorEq, kd190]
  refine m_std h V ?_
  by_cases q : g = 0
  · rw [if_pos q]
    rw [if_pos q] at hQ
    simp only [bk186_0, bk186_7, bk186_14, bk186_16, U_aload_n, U_invokevirtual0, U_if_eq, U_goto, U_bipush, U_ireturn, UN_cc, UN_cn, UN_nc, UN_nn, UJ, lget, lset, lset2, entL, wsm, wcat, Option.toList_some, Option.toList_none, List.cons_append, List.nil_append, List.mem_cons, List.not_mem_nil, Prod.mk.injEq, or_false, false_or, or_true, true_or, and_true, true_and, and_false, false_and, and_self, ne_eq, not_false_eq_true, not_true_eq_false, forall_const, true_implies, false_implies, Nat.add_zero, Nat.zero_add, Nat.le_refl, Nat.zero_le, List.set_cons_zero, List.set_cons_succ, List.set_nil, ↓reduceIte, Nat.reduceAdd, Nat.reduceSub, Nat.reduceEqDiff, Nat.reduceLeDiff, Int.reduceEq, Int.reduceNe, Int.reduceNeg, reduceCtorEq]
    exact ⟨r3 (by omega), hQ N h (clF.rf N)⟩
  · rw [if_neg q]
    rw [if_neg q] at hQ
    obtain ⟨⟨μ, hM, h0⟩, h1, -⟩ := (h.mg q).1
    simp only [bk186_0, bk186_7, bk186_14, bk186_16, U_aload_n, U_invokevirtual0, U_if_eq, U_goto, U_bipush, U_ireturn, UN_cc, UN_cn, UN_nc, UN_nn, UJ, lget, lset, lset2, entL, wsm, wcat, Option.toList_some, Option.toList_none, List.cons_append, List.nil_append, List.mem_cons, List.not_mem_nil, Prod.mk.injEq, or_false, false_or, or_true, true_or, and_true, true_and, and_false, false_and, and_self, ne_eq, not_false_eq_true, not_true_eq_false, forall_const, true_implies, false_implies, Nat.add_zero, Nat.zero_add, Nat.le_refl, Nat.zero_le, List.set_cons_zero, List.set_cons_succ, List.set_nil, ↓reduceIte, Nat.reduceAdd, Nat.reduceSub, Nat.reduceEqDiff, Nat.reduceLeDiff, Int.reduceEq, Int.reduceNe, Int.reduceNeg, reduceCtorEq, kd190]
    refine ⟨r3 (by omega), m_pairPts hM h0 h1 fun N1 s1 => ?_⟩
    simp only [bk186_0, bk186_7, bk186_14, bk186_16, U_aload_n, U_invokevirtual0, U_if_eq, U_goto, U_bipush, U_ireturn, UN_cc, UN_cn, UN_nc, UN_nn, UJ, lget, lset, lset2, entL, wsm, wcat, Option.toList_some, Option.toList_none, List.cons_append, List.nil_append, List.mem_cons, List.not_mem_nil, Prod.mk.injEq, or_false, false_or, or_true, true_or, and_true, true_and, and_false, false_and, and_self, ne_eq, not_false_eq_true, not_true_eq_false, forall_const, true_implies, false_implies, Nat.add_zero, Nat.zero_add, Nat.le_refl, Nat.zero_le, List.set_cons_zero, List.set_cons_succ, List.set_nil, ↓reduceIte, Nat.reduceAdd, Nat.reduceSub, Nat.reduceEqDiff, Nat.reduceLeDiff, Int.reduceEq, Int.reduceNe, Int.reduceNeg, reduceCtorEq]
    exact hQ N1 (h.sc (s1.fm.mo rfl rfl) ⟨μ, hM.pq s1, fun _ => h0⟩) (s1.fm.cl rfl)
set_option maxHeartbeats 4000000 in
theorem q_classes {p : Int} {g : Nat} {f : Pz p} {pu : List Int} {rg : Nat → Pz p × Pz p} {A tl : Nat → Int} {E : Nat → Nat} {N : Mem} {Q : Post} (h : MS g f pu rg A tl E N) (V : VS g f pu rg A tl E) (hQ : ∀ N', MS g f pu rg A tl E N' → clF N N' → Q (some (1, oClasses g f)) NN N') : CL 189 [(2, 190)] NN N Q := by
  unfold oClasses at hQ
  refine WP.run [] [] 60 ?_
  simp only [bk189_0, bk189_7, bk189_14, bk189_17, U_aload_n, U_invokevirtual0, U_if_eq, U_goto, U_ldc2_w, U_lreturn, UN_cc, UN_cn, UN_nc, UN_nn, UJ, lget, lset, lset2, entL, wsm, wcat, Option.toList_some, Option.toList_none, List.cons_append, List.nil_append, List.mem_cons, List.not_mem_nil, Prod.mk.injEq, or_false, false_or, or_true, true_or, and_true, true_and, and_false, false_and, and_self, ne_eq, not_false_eq_true, not_true_eq_false, forall_const, true_implies, false_implies, Nat.add_zero, Nat.zero_add, Nat.le_refl, Nat.zero_le, List.set_cons_zero, List.set_cons_succ, List.set_nil, ↓reduceIte, Nat.reduceAdd, Nat.reduceSub, Nat.reduceEqDiff, Nat.reduceLeDiff, Int.reduceEq, Int.reduceNe, Int.reduceNeg, reduceCtorEq, kd190]
  refine m_std h V ?_
  by_cases q : g = 0
  · rw [if_pos q]
    rw [if_pos q] at hQ
    simp only [bk189_0, bk189_7, bk189_14, bk189_17, U_aload_n, U_invokevirtual0, U_if_eq, U_goto, U_ldc2_w, U_lreturn, UN_cc, UN_cn, UN_nc, UN_nn, UJ, lget, lset, lset2, entL, wsm, wcat, Option.toList_some, Option.toList_none, List.cons_append, List.nil_append, List.mem_cons, List.not_mem_nil, Prod.mk.injEq, or_false, false_or, or_true, true_or, and_true, true_and, and_false, false_and, and_self, ne_eq, not_false_eq_true, not_true_eq_false, forall_const, true_implies, false_implies, Nat.add_zero, Nat.zero_add, Nat.le_refl, Nat.zero_le, List.set_cons_zero, List.set_cons_succ, List.set_nil, ↓reduceIte, Nat.reduceAdd, Nat.reduceSub, Nat.reduceEqDiff, Nat.reduceLeDiff, Int.reduceEq, Int.reduceNe, Int.reduceNeg, reduceCtorEq]
    exact ⟨r3 (by omega), hQ N h (clF.rf N)⟩
  · rw [if_neg q]
    rw [if_neg q] at hQ
    simp only [bk189_0, bk189_7, bk189_14, bk189_17, U_aload_n, U_invokevirtual0, U_if_eq, U_goto, U_ldc2_w, U_lreturn, UN_cc, UN_cn, UN_nc, UN_nn, UJ, lget, lset, lset2, entL, wsm, wcat, Option.toList_some, Option.toList_none, List.cons_append, List.nil_append, List.mem_cons, List.not_mem_nil, Prod.mk.injEq, or_false, false_or, or_true, true_or, and_true, true_and, and_false, false_and, and_self, ne_eq, not_false_eq_true, not_true_eq_false, forall_const, true_implies, false_implies, Nat.add_zero, Nat.zero_add, Nat.le_refl, Nat.zero_le, List.set_cons_zero, List.set_cons_succ, List.set_nil, ↓reduceIte, Nat.reduceAdd, Nat.reduceSub, Nat.reduceEqDiff, Nat.reduceLeDiff, Int.reduceEq, Int.reduceNe, Int.reduceNeg, reduceCtorEq, kd190]
    refine ⟨r3 (by omega), m_classMany (h.mg q).1 V.1 (V.cv q).2.2.1.1 fun N1 s1 s2 => ?_⟩
    simp only [bk189_0, bk189_7, bk189_14, bk189_17, U_aload_n, U_invokevirtual0, U_if_eq, U_goto, U_ldc2_w, U_lreturn, UN_cc, UN_cn, UN_nc, UN_nn, UJ, lget, lset, lset2, entL, wsm, wcat, Option.toList_some, Option.toList_none, List.cons_append, List.nil_append, List.mem_cons, List.not_mem_nil, Prod.mk.injEq, or_false, false_or, or_true, true_or, and_true, true_and, and_false, false_and, and_self, ne_eq, not_false_eq_true, not_true_eq_false, forall_const, true_implies, false_implies, Nat.add_zero, Nat.zero_add, Nat.le_refl, Nat.zero_le, List.set_cons_zero, List.set_cons_succ, List.set_nil, ↓reduceIte, Nat.reduceAdd, Nat.reduceSub, Nat.reduceEqDiff, Nat.reduceLeDiff, Int.reduceEq, Int.reduceNe, Int.reduceNeg, reduceCtorEq]
    exact hQ N1 (h.sc (s2.mo rfl rfl) s1.rw) (s2.cl rfl)
set_option maxHeartbeats 4000000 in
theorem q_share {p : Int} {g : Nat} {f : Pz p} {pu : List Int} {rg : Nat → Pz p × Pz p} {A tl : Nat → Int} {E : Nat → Nat} {N : Mem} {Q : Post} {i : Int} (h : MS g f pu rg A tl E N) (V : VS g f pu rg A tl E) (hi : R32 i) (hQ : ∀ N', MS g f pu rg A tl E N' → clF N N' → Q (some (1, oShare g f i)) NN N') : CL 187 [(2, 190), (0, i)] NN N Q := by
  unfold oShare at hQ
  have hi' := hi
  obtain ⟨i1, i2⟩ := hi'
  refine WP.run [] [] 60 ?_
  simp only [bk187_0, bk187_4, bk187_8, bk187_15, bk187_19, bk187_33, bk187_39, bk187_45, U_iload_n, U_if_ge, U_ldc2_w, U_lreturn, U_aload_n, U_invokevirtual0, U_if_ne, U_iconst, U_getfield, U_imul, U_icmp_le, U_goto, U_lald, UN_cc, UN_cn, UN_nc, UN_nn, UJ, lget, lset, lset2, entL, wsm, wcat, Option.toList_some, Option.toList_none, List.cons_append, List.nil_append, List.mem_cons, List.not_mem_nil, Prod.mk.injEq, or_false, false_or, or_true, true_or, and_true, true_and, and_false, false_and, and_self, ne_eq, not_false_eq_true, not_true_eq_false, forall_const, true_implies, false_implies, Nat.add_zero, Nat.zero_add, Nat.le_refl, Nat.zero_le, List.set_cons_zero, List.set_cons_succ, List.set_nil, ↓reduceIte, Nat.reduceAdd, Nat.reduceSub, Nat.reduceEqDiff, Nat.reduceLeDiff, Int.reduceEq, Int.reduceNe, Int.reduceNeg, reduceCtorEq, kd190]
  by_cases q0 : i < 0
  · rw [if_pos q0] at hQ
    exact ⟨hi, fun _ => hQ N h (clF.rf N), fun e => absurd q0 e⟩
  rw [if_neg q0] at hQ
  refine ⟨hi, fun e => absurd e q0, fun _ => m_std h V ?_⟩
  by_cases q : g = 0
  · rw [if_pos q]
    rw [if_pos q] at hQ
    simp only [bk187_0, bk187_4, bk187_8, bk187_15, bk187_19, bk187_33, bk187_39, bk187_45, U_iload_n, U_if_ge, U_ldc2_w, U_lreturn, U_aload_n, U_invokevirtual0, U_if_ne, U_iconst, U_getfield, U_imul, U_icmp_le, U_goto, U_lald, UN_cc, UN_cn, UN_nc, UN_nn, UJ, lget, lset, lset2, entL, wsm, wcat, Option.toList_some, Option.toList_none, List.cons_append, List.nil_append, List.mem_cons, List.not_mem_nil, Prod.mk.injEq, or_false, false_or, or_true, true_or, and_true, true_and, and_false, false_and, and_self, ne_eq, not_false_eq_true, not_true_eq_false, forall_const, true_implies, false_implies, Nat.add_zero, Nat.zero_add, Nat.le_refl, Nat.zero_le, List.set_cons_zero, List.set_cons_succ, List.set_nil, ↓reduceIte, Nat.reduceAdd, Nat.reduceSub, Nat.reduceEqDiff, Nat.reduceLeDiff, Int.reduceEq, Int.reduceNe, Int.reduceNeg, reduceCtorEq]
    exact ⟨r3 (by omega), hQ N h (clF.rf N)⟩
  · rw [if_neg q]
    rw [if_neg q] at hQ
    have hg := (V.cv q).2.2.1.1
    simp only [bk187_0, bk187_4, bk187_8, bk187_15, bk187_19, bk187_33, bk187_39, bk187_45, U_iload_n, U_if_ge, U_ldc2_w, U_lreturn, U_aload_n, U_invokevirtual0, U_if_ne, U_iconst, U_getfield, U_imul, U_icmp_le, U_goto, U_lald, UN_cc, UN_cn, UN_nc, UN_nn, UJ, lget, lset, lset2, entL, wsm, wcat, Option.toList_some, Option.toList_none, List.cons_append, List.nil_append, List.mem_cons, List.not_mem_nil, Prod.mk.injEq, or_false, false_or, or_true, true_or, and_true, true_and, and_false, false_and, and_self, ne_eq, not_false_eq_true, not_true_eq_false, forall_const, true_implies, false_implies, Nat.add_zero, Nat.zero_add, Nat.le_refl, Nat.zero_le, List.set_cons_zero, List.set_cons_succ, List.set_nil, ↓reduceIte, Nat.reduceAdd, Nat.reduceSub, Nat.reduceEqDiff, Nat.reduceLeDiff, Int.reduceEq, Int.reduceNe, Int.reduceNeg, reduceCtorEq, kd190]
    refine ⟨r3 (by omega), m_shares (h.mg q).1 V.1 hg fun N1 s1 s2 => ?_⟩
    have G1 := (h.mg q).1.ps s1
    have h2 := G1.2.2.1
    have hS := h.sc (s1.fm.mo rfl rfl) G1.rw
    have hC : clF N N1 := s1.fm.cl rfl
    have hz := G1.mt.1
    simp only [bk187_0, bk187_4, bk187_8, bk187_15, bk187_19, bk187_33, bk187_39, bk187_45, U_iload_n, U_if_ge, U_ldc2_w, U_lreturn, U_aload_n, U_invokevirtual0, U_if_ne, U_iconst, U_getfield, U_imul, U_icmp_le, U_goto, U_lald, UN_cc, UN_cn, UN_nc, UN_nn, UJ, lget, lset, lset2, entL, wsm, wcat, Option.toList_some, Option.toList_none, List.cons_append, List.nil_append, List.mem_cons, List.not_mem_nil, Prod.mk.injEq, or_false, false_or, or_true, true_or, and_true, true_and, and_false, false_and, and_self, ne_eq, not_false_eq_true, not_true_eq_false, forall_const, true_implies, false_implies, Nat.add_zero, Nat.zero_add, Nat.le_refl, Nat.zero_le, List.set_cons_zero, List.set_cons_succ, List.set_nil, ↓reduceIte, Nat.reduceAdd, Nat.reduceSub, Nat.reduceEqDiff, Nat.reduceLeDiff, Int.reduceEq, Int.reduceNe, Int.reduceNeg, reduceCtorEq, kd190, kd200, ln200, z190_15 hz, h2]
    by_cases q2 : 2 * (g : Int) < i
    · rw [if_pos q2] at hQ
      exact ⟨rr (by omega), fun _ => hQ N1 hS hC, fun e => absurd q2 e⟩
    · rw [if_neg q2] at hQ
      have e1 := s2 i.toNat (by omega)
      rw [show ((i.toNat : Nat) : Int) = i by omega] at e1
      rw [e1]
      exact ⟨rr (by omega), fun e => absurd e q2, fun _ => ⟨by omega, by omega, hQ N1 hS hC⟩⟩
set_option maxHeartbeats 4000000 in
theorem q_count {p : Int} {g : Nat} {f : Pz p} {pu : List Int} {rg : Nat → Pz p × Pz p} {A tl : Nat → Int} {E : Nat → Nat} {N : Mem} {Q : Post} {k : Int} (h : MS g f pu rg A tl E N) (V : VS g f pu rg A tl E) (hk : R32 k) (hQ : ∀ N', MS g f pu rg A tl E N' → clF N N' → Q (some (1, oCount g f k)) NN N') : CL 185 [(2, 190), (0, k)] NN N Q := by
  unfold oCount at hQ
  refine WP.run [] [] 60 ?_
  simp only [bk185_0, bk185_12, bk185_18, bk185_25, bk185_33, bk185_36, U_iload_n, U_i2l, U_lconst, U_ldc2_w, U_invokestatic3, U_if_ne, U_goto, U_aload_n, U_invokevirtual0, U_if_eq, U_invokevirtual1, U_lreturn, UN_cc, UN_cn, UN_nc, UN_nn, UJ, lget, lset, lset2, entL, wsm, wcat, Option.toList_some, Option.toList_none, List.cons_append, List.nil_append, List.mem_cons, List.not_mem_nil, Prod.mk.injEq, or_false, false_or, or_true, true_or, and_true, true_and, and_false, false_and, and_self, ne_eq, not_false_eq_true, not_true_eq_false, forall_const, true_implies, false_implies, Nat.add_zero, Nat.zero_add, Nat.le_refl, Nat.zero_le, List.set_cons_zero, List.set_cons_succ, List.set_nil, ↓reduceIte, Nat.reduceAdd, Nat.reduceSub, Nat.reduceEqDiff, Nat.reduceLeDiff, Int.reduceEq, Int.reduceNe, Int.reduceNeg, reduceCtorEq]
  refine ⟨hk, m_in hk.l (r64 (by omega)) (r64 (by omega)) ?_⟩
  by_cases q0 : 1 ≤ k ∧ k ≤ 6
  · rw [if_pos q0]
    rw [if_neg (show ¬ ¬ (1 ≤ k ∧ k ≤ 6) by omega)] at hQ
    simp only [bk185_0, bk185_12, bk185_18, bk185_25, bk185_33, bk185_36, U_iload_n, U_i2l, U_lconst, U_ldc2_w, U_invokestatic3, U_if_ne, U_goto, U_aload_n, U_invokevirtual0, U_if_eq, U_invokevirtual1, U_lreturn, UN_cc, UN_cn, UN_nc, UN_nn, UJ, lget, lset, lset2, entL, wsm, wcat, Option.toList_some, Option.toList_none, List.cons_append, List.nil_append, List.mem_cons, List.not_mem_nil, Prod.mk.injEq, or_false, false_or, or_true, true_or, and_true, true_and, and_false, false_and, and_self, ne_eq, not_false_eq_true, not_true_eq_false, forall_const, true_implies, false_implies, Nat.add_zero, Nat.zero_add, Nat.le_refl, Nat.zero_le, List.set_cons_zero, List.set_cons_succ, List.set_nil, ↓reduceIte, Nat.reduceAdd, Nat.reduceSub, Nat.reduceEqDiff, Nat.reduceLeDiff, Int.reduceEq, Int.reduceNe, Int.reduceNeg, reduceCtorEq, kd190]
    refine ⟨r3 (by omega), m_std h V ?_⟩
    by_cases q : g = 0
    · rw [if_pos q]
      rw [if_pos q] at hQ
      simp only [bk185_0, bk185_12, bk185_18, bk185_25, bk185_33, bk185_36, U_iload_n, U_i2l, U_lconst, U_ldc2_w, U_invokestatic3, U_if_ne, U_goto, U_aload_n, U_invokevirtual0, U_if_eq, U_invokevirtual1, U_lreturn, UN_cc, UN_cn, UN_nc, UN_nn, UJ, lget, lset, lset2, entL, wsm, wcat, Option.toList_some, Option.toList_none, List.cons_append, List.nil_append, List.mem_cons, List.not_mem_nil, Prod.mk.injEq, or_false, false_or, or_true, true_or, and_true, true_and, and_false, false_and, and_self, ne_eq, not_false_eq_true, not_true_eq_false, forall_const, true_implies, false_implies, Nat.add_zero, Nat.zero_add, Nat.le_refl, Nat.zero_le, List.set_cons_zero, List.set_cons_succ, List.set_nil, ↓reduceIte, Nat.reduceAdd, Nat.reduceSub, Nat.reduceEqDiff, Nat.reduceLeDiff, Int.reduceEq, Int.reduceNe, Int.reduceNeg, reduceCtorEq]
      exact ⟨r3 (by omega), hQ N h (clF.rf N)⟩
    · rw [if_neg q]
      rw [if_neg q] at hQ
      obtain ⟨n, rfl⟩ : ∃ n : Nat, k = n := ⟨k.toNat, by omega⟩
      simp only [bk185_0, bk185_12, bk185_18, bk185_25, bk185_33, bk185_36, U_iload_n, U_i2l, U_lconst, U_ldc2_w, U_invokestatic3, U_if_ne, U_goto, U_aload_n, U_invokevirtual0, U_if_eq, U_invokevirtual1, U_lreturn, UN_cc, UN_cn, UN_nc, UN_nn, UJ, lget, lset, lset2, entL, wsm, wcat, Option.toList_some, Option.toList_none, List.cons_append, List.nil_append, List.mem_cons, List.not_mem_nil, Prod.mk.injEq, or_false, false_or, or_true, true_or, and_true, true_and, and_false, false_and, and_self, ne_eq, not_false_eq_true, not_true_eq_false, forall_const, true_implies, false_implies, Nat.add_zero, Nat.zero_add, Nat.le_refl, Nat.zero_le, List.set_cons_zero, List.set_cons_succ, List.set_nil, ↓reduceIte, Nat.reduceAdd, Nat.reduceSub, Nat.reduceEqDiff, Nat.reduceLeDiff, Int.reduceEq, Int.reduceNe, Int.reduceNeg, reduceCtorEq, kd190]
      refine ⟨r3 (by omega), m_countOf (h.mg q).1 V.1 (V.cv q).2.2.1.1 (by omega) fun N1 s1 s2 => ?_⟩
      simp only [bk185_0, bk185_12, bk185_18, bk185_25, bk185_33, bk185_36, U_iload_n, U_i2l, U_lconst, U_ldc2_w, U_invokestatic3, U_if_ne, U_goto, U_aload_n, U_invokevirtual0, U_if_eq, U_invokevirtual1, U_lreturn, UN_cc, UN_cn, UN_nc, UN_nn, UJ, lget, lset, lset2, entL, wsm, wcat, Option.toList_some, Option.toList_none, List.cons_append, List.nil_append, List.mem_cons, List.not_mem_nil, Prod.mk.injEq, or_false, false_or, or_true, true_or, and_true, true_and, and_false, false_and, and_self, ne_eq, not_false_eq_true, not_true_eq_false, forall_const, true_implies, false_implies, Nat.add_zero, Nat.zero_add, Nat.le_refl, Nat.zero_le, List.set_cons_zero, List.set_cons_succ, List.set_nil, ↓reduceIte, Nat.reduceAdd, Nat.reduceSub, Nat.reduceEqDiff, Nat.reduceLeDiff, Int.reduceEq, Int.reduceNe, Int.reduceNeg, reduceCtorEq]
      exact hQ N1 (h.sc (s2.mo rfl rfl) s1.rw) (s2.cl rfl)
  · rw [if_neg q0]
    rw [if_pos q0] at hQ
    simp only [bk185_0, bk185_12, bk185_18, bk185_25, bk185_33, bk185_36, U_iload_n, U_i2l, U_lconst, U_ldc2_w, U_invokestatic3, U_if_ne, U_goto, U_aload_n, U_invokevirtual0, U_if_eq, U_invokevirtual1, U_lreturn, UN_cc, UN_cn, UN_nc, UN_nn, UJ, lget, lset, lset2, entL, wsm, wcat, Option.toList_some, Option.toList_none, List.cons_append, List.nil_append, List.mem_cons, List.not_mem_nil, Prod.mk.injEq, or_false, false_or, or_true, true_or, and_true, true_and, and_false, false_and, and_self, ne_eq, not_false_eq_true, not_true_eq_false, forall_const, true_implies, false_implies, Nat.add_zero, Nat.zero_add, Nat.le_refl, Nat.zero_le, List.set_cons_zero, List.set_cons_succ, List.set_nil, ↓reduceIte, Nat.reduceAdd, Nat.reduceSub, Nat.reduceEqDiff, Nat.reduceLeDiff, Int.reduceEq, Int.reduceNe, Int.reduceNeg, reduceCtorEq]
    exact ⟨r3 (by omega), hQ N h (clF.rf N)⟩
set_option maxHeartbeats 4000000 in
theorem q_places {p : Int} {g : Nat} {f : Pz p} {pu : List Int} {rg : Nat → Pz p × Pz p} {A tl : Nat → Int} {E : Nat → Nat} {N : Mem} {Q : Post} {k : Int} (h : MS g f pu rg A tl E N) (V : VS g f pu rg A tl E) (hk : R32 k) (hQ : ∀ N', MS g f pu rg A tl E N' → clF N N' → Q (some (1, oPlaces g f k)) NN N') : CL 190 [(2, 190), (0, k), (9, 0), (9, 0), (9, 0), (9, 0)] NN N Q := by
  unfold oPlaces at hQ
  refine WP.run [(190, 29)] [] 60 ?_
  simp only [bk190_0, bk190_12, bk190_16, bk190_23, bk190_27, bk190_29, bk190_34, bk190_43, bk190_49, bk190_57, bk190_71, bk190_72, bk190_80, bk190_96, U_iload_n, U_i2l, U_lconst, U_ldc2_w, U_invokestatic3, U_if_ne, U_lreturn, U_aload_n, U_invokevirtual0, U_iconst, U_istore_n, U_icmp_gt, U_invokevirtual1, U_lstore_n, U_istore, U_iload, U_icmp_ge, U_lload_n, U_irem, U_getfield, U_lald, U_lmul, U_goto, U_lsub, U_iinc, U_ldiv, U_last, UN_cc, UN_cn, UN_nc, UN_nn, UJ, lget, lset, lset2, entL, wsm, wcat, Option.toList_some, Option.toList_none, List.cons_append, List.nil_append, List.mem_cons, List.not_mem_nil, Prod.mk.injEq, or_false, false_or, or_true, true_or, and_true, true_and, and_false, false_and, and_self, ne_eq, not_false_eq_true, not_true_eq_false, forall_const, true_implies, false_implies, Nat.add_zero, Nat.zero_add, Nat.le_refl, Nat.zero_le, List.set_cons_zero, List.set_cons_succ, List.set_nil, ↓reduceIte, Nat.reduceAdd, Nat.reduceSub, Nat.reduceEqDiff, Nat.reduceLeDiff, Int.reduceEq, Int.reduceNe, Int.reduceNeg, reduceCtorEq]
  refine ⟨hk, m_in hk.l (r64 (by omega)) (r64 (by omega)) ?_⟩
  by_cases q0 : 1 ≤ k ∧ k ≤ 6
  · rw [if_pos q0]
    rw [if_neg (show ¬ ¬ (1 ≤ k ∧ k ≤ 6) by omega)] at hQ
    simp only [bk190_0, bk190_12, bk190_16, bk190_23, bk190_27, bk190_29, bk190_34, bk190_43, bk190_49, bk190_57, bk190_71, bk190_72, bk190_80, bk190_96, U_iload_n, U_i2l, U_lconst, U_ldc2_w, U_invokestatic3, U_if_ne, U_lreturn, U_aload_n, U_invokevirtual0, U_iconst, U_istore_n, U_icmp_gt, U_invokevirtual1, U_lstore_n, U_istore, U_iload, U_icmp_ge, U_lload_n, U_irem, U_getfield, U_lald, U_lmul, U_goto, U_lsub, U_iinc, U_ldiv, U_last, UN_cc, UN_cn, UN_nc, UN_nn, UJ, lget, lset, lset2, entL, wsm, wcat, Option.toList_some, Option.toList_none, List.cons_append, List.nil_append, List.mem_cons, List.not_mem_nil, Prod.mk.injEq, or_false, false_or, or_true, true_or, and_true, true_and, and_false, false_and, and_self, ne_eq, not_false_eq_true, not_true_eq_false, forall_const, true_implies, false_implies, Nat.add_zero, Nat.zero_add, Nat.le_refl, Nat.zero_le, List.set_cons_zero, List.set_cons_succ, List.set_nil, ↓reduceIte, Nat.reduceAdd, Nat.reduceSub, Nat.reduceEqDiff, Nat.reduceLeDiff, Int.reduceEq, Int.reduceNe, Int.reduceNeg, reduceCtorEq, kd190]
    refine ⟨r3 (by omega), m_std h V ?_⟩
    by_cases q : g = 0
    · rw [if_pos q]
      rw [if_pos q] at hQ
      simp only [bk190_0, bk190_12, bk190_16, bk190_23, bk190_27, bk190_29, bk190_34, bk190_43, bk190_49, bk190_57, bk190_71, bk190_72, bk190_80, bk190_96, U_iload_n, U_i2l, U_lconst, U_ldc2_w, U_invokestatic3, U_if_ne, U_lreturn, U_aload_n, U_invokevirtual0, U_iconst, U_istore_n, U_icmp_gt, U_invokevirtual1, U_lstore_n, U_istore, U_iload, U_icmp_ge, U_lload_n, U_irem, U_getfield, U_lald, U_lmul, U_goto, U_lsub, U_iinc, U_ldiv, U_last, UN_cc, UN_cn, UN_nc, UN_nn, UJ, lget, lset, lset2, entL, wsm, wcat, Option.toList_some, Option.toList_none, List.cons_append, List.nil_append, List.mem_cons, List.not_mem_nil, Prod.mk.injEq, or_false, false_or, or_true, true_or, and_true, true_and, and_false, false_and, and_self, ne_eq, not_false_eq_true, not_true_eq_false, forall_const, true_implies, false_implies, Nat.add_zero, Nat.zero_add, Nat.le_refl, Nat.zero_le, List.set_cons_zero, List.set_cons_succ, List.set_nil, ↓reduceIte, Nat.reduceAdd, Nat.reduceSub, Nat.reduceEqDiff, Nat.reduceLeDiff, Int.reduceEq, Int.reduceNe, Int.reduceNeg, reduceCtorEq]
      exact ⟨r3 (by omega), hQ N h (clF.rf N)⟩
    · rw [if_neg q]
      rw [if_neg q] at hQ
      obtain ⟨n, rfl⟩ : ∃ n : Nat, k = n := ⟨k.toNat, by omega⟩
      have hg := (V.cv q).2.2.1.1
      simp only [bk190_0, bk190_12, bk190_16, bk190_23, bk190_27, bk190_29, bk190_34, bk190_43, bk190_49, bk190_57, bk190_71, bk190_72, bk190_80, bk190_96, U_iload_n, U_i2l, U_lconst, U_ldc2_w, U_invokestatic3, U_if_ne, U_lreturn, U_aload_n, U_invokevirtual0, U_iconst, U_istore_n, U_icmp_gt, U_invokevirtual1, U_lstore_n, U_istore, U_iload, U_icmp_ge, U_lload_n, U_irem, U_getfield, U_lald, U_lmul, U_goto, U_lsub, U_iinc, U_ldiv, U_last, UN_cc, UN_cn, UN_nc, UN_nn, UJ, lget, lset, lset2, entL, wsm, wcat, Option.toList_some, Option.toList_none, List.cons_append, List.nil_append, List.mem_cons, List.not_mem_nil, Prod.mk.injEq, or_false, false_or, or_true, true_or, and_true, true_and, and_false, false_and, and_self, ne_eq, not_false_eq_true, not_true_eq_false, forall_const, true_implies, false_implies, Nat.add_zero, Nat.zero_add, Nat.le_refl, Nat.zero_le, List.set_cons_zero, List.set_cons_succ, List.set_nil, ↓reduceIte, Nat.reduceAdd, Nat.reduceSub, Nat.reduceEqDiff, Nat.reduceLeDiff, Int.reduceEq, Int.reduceNe, Int.reduceNeg, reduceCtorEq]
      refine ⟨r3 (by omega), ?_⟩
      refine l_mplO (N := N) (f := f) (g := g) (d := n) V.1 hg (by omega) (fun k k1 k2 => ?_) (fun N1 s1 s2 => hQ N1 (h.sc (s2.mo rfl rfl) s1.rw) (s2.cl rfl)) n 1 _ _ _ N (by omega) (by omega) (h.mg q).1 (FM.rf _ _ _) (fun j j1 j2 => by omega)
      have := (pl_rg (P := ptO f g) (fun k k1 k2 => ptO_rg V.1 f hg k k1 k2) k k1 k2).1
      exact r6 (by omega)
  · rw [if_neg q0]
    rw [if_pos q0] at hQ
    simp only [bk190_0, bk190_12, bk190_16, bk190_23, bk190_27, bk190_29, bk190_34, bk190_43, bk190_49, bk190_57, bk190_71, bk190_72, bk190_80, bk190_96, U_iload_n, U_i2l, U_lconst, U_ldc2_w, U_invokestatic3, U_if_ne, U_lreturn, U_aload_n, U_invokevirtual0, U_iconst, U_istore_n, U_icmp_gt, U_invokevirtual1, U_lstore_n, U_istore, U_iload, U_icmp_ge, U_lload_n, U_irem, U_getfield, U_lald, U_lmul, U_goto, U_lsub, U_iinc, U_ldiv, U_last, UN_cc, UN_cn, UN_nc, UN_nn, UJ, lget, lset, lset2, entL, wsm, wcat, Option.toList_some, Option.toList_none, List.cons_append, List.nil_append, List.mem_cons, List.not_mem_nil, Prod.mk.injEq, or_false, false_or, or_true, true_or, and_true, true_and, and_false, false_and, and_self, ne_eq, not_false_eq_true, not_true_eq_false, forall_const, true_implies, false_implies, Nat.add_zero, Nat.zero_add, Nat.le_refl, Nat.zero_le, List.set_cons_zero, List.set_cons_succ, List.set_nil, ↓reduceIte, Nat.reduceAdd, Nat.reduceSub, Nat.reduceEqDiff, Nat.reduceLeDiff, Int.reduceEq, Int.reduceNe, Int.reduceNeg, reduceCtorEq]
    exact ⟨r3 (by omega), hQ N h (clF.rf N)⟩
theorem ptl_x {p : Int} (f : Pz p) : ∀ n q, q ∈ ptl f n → 0 ≤ q.1 ∧ q.1 < (n : Int) := by
  intro n q hq
  unfold ptl at hq
  obtain ⟨x, hx, hq⟩ := List.mem_flatMap.mp hq
  unfold rowP at hq
  obtain ⟨y, -, rfl⟩ := List.mem_map.mp hq
  have := List.mem_range.mp hx
  constructor
  · show (0 : Int) ≤ (x : Int); omega
  · show (x : Int) < n; omega
theorem ptl_nd {p : Int} (f : Pz p) : ∀ n, (ptl f n).Nodup
  | 0 => List.nodup_nil
  | n + 1 => by
    rw [ptl_s]
    refine List.nodup_append.mpr ⟨ptl_nd f n, ?_, fun a ha b hb e => ?_⟩
    · unfold rowP rowY
      exact nodup_map (fun a _ b _ e => by have h2 : (a : Int) = (b : Int) := congrArg Prod.snd e; omega) (List.nodup_range.filter _)
    · have h1 := (ptl_x f n a ha).2
      unfold rowP at hb
      obtain ⟨y, -, rfl⟩ := List.mem_map.mp hb
      subst e
      have h2 : ((n : Int), (y : Int)).1 < (n : Int) := h1
      exact absurd h2 (by show ¬ ((n : Int) < n); omega)
/-- the last place that fits -/
def mpA (L : List (Int × Int)) (x y : Int) : Nat → Nat
  | 0 => 0
  | k + 1 => match L[k]? with
    | none => mpA L x y k
    | some q => if q.1 = x ∧ q.2 = y then k + 1 else mpA L x y k
theorem idx_0 {L : List (Int × Int)} {x y : Int} (h : (x, y) ∉ L) : ∀ n i, idxOf L x y i n = 0
  | 0, _ => rfl
  | n + 1, i => by
    unfold idxOf
    cases e : L[i]? with
    | none => rfl
    | some q =>
      show (if q.1 = x ∧ q.2 = y then i + 1 else idxOf L x y (i + 1) n) = 0
      rw [if_neg (fun w => h (by
        have := List.mem_of_getElem? e
        rw [show q = (x, y) from Prod.ext w.1 w.2] at this; exact this)), idx_0 h n]
theorem mpA_0 {L : List (Int × Int)} {x y : Int} (h : (x, y) ∉ L) : ∀ k, mpA L x y k = 0
  | 0 => rfl
  | k + 1 => by
    unfold mpA
    cases e : L[k]? with
    | none => exact mpA_0 h k
    | some q =>
      show (if q.1 = x ∧ q.2 = y then k + 1 else mpA L x y k) = 0
      rw [if_neg (fun w => h (by
        have := List.mem_of_getElem? e
        rw [show q = (x, y) from Prod.ext w.1 w.2] at this; exact this)), mpA_0 h k]
theorem nd_un {L : List (Int × Int)} (hn : L.Nodup) {i j : Nat} {q : Int × Int} (h1 : L[i]? = some q) (h2 : L[j]? = some q) : i = j := by
  have i1 := (List.getElem?_eq_some_iff.mp h1).1
  exact (List.getElem?_inj i1 hn).mp (h1.trans h2.symm)
theorem idx_j {L : List (Int × Int)} (hn : L.Nodup) {x y : Int} {j : Nat} (h : L[j]? = some (x, y)) : ∀ n i, i ≤ j → j < i + n → idxOf L x y i n = j + 1
  | 0, i, h1, h2 => by omega
  | n + 1, i, h1, h2 => by
    have hj := (List.getElem?_eq_some_iff.mp h).1
    unfold idxOf
    rw [List.getElem?_eq_getElem (show i < L.length by omega)]
    show (if (L[i]).1 = x ∧ (L[i]).2 = y then i + 1 else idxOf L x y (i + 1) n) = j + 1
    by_cases e : i = j
    · subst e
      have e2 : L[i] = (x, y) := by
        rw [List.getElem?_eq_getElem (show i < L.length by omega)] at h
        exact Option.some.inj h
      rw [if_pos (by rw [e2]; exact ⟨rfl, rfl⟩)]
    · rw [if_neg (fun w => e (nd_un hn (by rw [List.getElem?_eq_getElem (show i < L.length by omega)]; exact congrArg some (Prod.ext w.1 w.2)) h)), idx_j hn h n (i + 1) (by omega) (by omega)]
theorem mpA_j {L : List (Int × Int)} (hn : L.Nodup) {x y : Int} {j : Nat} (h : L[j]? = some (x, y)) : ∀ k, mpA L x y k = if j < k then j + 1 else 0
  | 0 => by rw [if_neg (by omega)]; rfl
  | k + 1 => by
    have ih := mpA_j hn h k
    unfold mpA
    cases e : L[k]? with
    | none =>
      show mpA L x y k = _
      have hk := List.getElem?_eq_none_iff.mp e
      have hj := (List.getElem?_eq_some_iff.mp h).1
      rw [ih, if_pos (by omega), if_pos (by omega)]
    | some q =>
      show (if q.1 = x ∧ q.2 = y then k + 1 else mpA L x y k) = _
      by_cases w : q.1 = x ∧ q.2 = y
      · have hjk : k = j := nd_un hn (by rw [e]; exact congrArg some (Prod.ext w.1 w.2)) h
        rw [if_pos w, if_pos (by omega), hjk]
      · have hjk : j ≠ k := fun c => w (by
          rw [← c, h] at e
          have := Option.some.inj e
          rw [← this]; exact ⟨rfl, rfl⟩)
        rw [if_neg w, ih]
        by_cases c : j < k
        · rw [if_pos c, if_pos (by omega)]
        · rw [if_neg c, if_neg (by omega)]
theorem mpA_is {L : List (Int × Int)} (hn : L.Nodup) (x y : Int) : mpA L x y L.length = idxOf L x y 0 L.length := by
  by_cases h : (x, y) ∈ L
  · obtain ⟨j, hj⟩ := List.getElem?_of_mem h
    have hl := (List.getElem?_eq_some_iff.mp hj).1
    rw [mpA_j hn hj, if_pos hl, idx_j hn hj L.length 0 (by omega) (by omega)]
  · rw [mpA_0 h, idx_0 h]
set_option maxHeartbeats 8000000 in
theorem m_pointAt {p : Int} {N : Mem} {Q : Post} {f : Pz p} {g : Nat} {x y : Int} (h : MG f g N) (hA : PtA N 192 193 (ptl f p.toNat)) (hp : Pr p) (hx : 0 ≤ x ∧ x < 13) (hy : 0 ≤ y ∧ y < 13) (hQ : Q (some (0, (idxOf (ptl f p.toNat) x y 0 (ptl f p.toNat).length : Int))) NN N) : CL 178 [(2, 190), (0, x), (0, y), (9, 0), (9, 0)] NN N Q := by
  have hpp := hp.pos
  have h26 := ptl_26 hp f
  obtain ⟨hz, hP⟩ := h.mt
  have h5 := h.2.2.2
  have hb : ∀ k, mpA (ptl f p.toNat) x y k ≤ k := fun k => by
    induction k with
    | zero => exact Nat.le_refl _
    | succ k ih =>
      unfold mpA
      cases e : (ptl f p.toNat)[k]? with
      | none => show mpA _ x y k ≤ _; omega
      | some q => show (if q.1 = x ∧ q.2 = y then k + 1 else mpA _ x y k) ≤ _; split <;> omega
  have key : ∀ (n k : Nat), k + n = (ptl f p.toNat).length → WP 178 (0, 0) 5 [(2, 190), (0, x), (0, y), (0, (mpA (ptl f p.toNat) x y k : Int)), (0, (k : Int) + 1)] [] NN N Q := by
    intro n
    induction n with
    | zero =>
      intro k hk
      obtain rfl : k = (ptl f p.toNat).length := by omega
      rw [mpA_is (ptl_nd f _)]
      refine WP.run [(178, 5)] [] 60 ?_
      simp only [bk178_0, bk178_5, bk178_14, bk178_25, bk178_36, bk178_41, bk178_42, bk178_49, U_iconst, U_istore_n, U_istore, U_iload, U_aload_n, U_getfield, U_icmp_ge, U_iald, U_iload_n, U_icmp_ne, U_goto, U_iinc, U_ireturn, UN_cc, UN_cn, UN_nc, UN_nn, UJ, lget, lset, lset2, entL, wsm, wcat, Option.toList_some, Option.toList_none, List.cons_append, List.nil_append, List.mem_cons, List.not_mem_nil, Prod.mk.injEq, or_false, false_or, or_true, true_or, and_true, true_and, and_false, false_and, and_self, ne_eq, not_false_eq_true, not_true_eq_false, forall_const, true_implies, false_implies, Nat.add_zero, Nat.zero_add, Nat.le_refl, Nat.zero_le, List.set_cons_zero, List.set_cons_succ, List.set_nil, ↓reduceIte, Nat.reduceAdd, Nat.reduceSub, Nat.reduceEqDiff, Nat.reduceLeDiff, Int.reduceEq, Int.reduceNe, Int.reduceNeg, reduceCtorEq, kd190, h5]
      exact ⟨rr (by omega), fun e => absurd e (by omega), fun _ => hQ⟩
    | succ n ih =>
      intro k hk
      have hkl : k < (ptl f p.toNat).length := by omega
      have eq := List.getElem?_eq_getElem hkl
      generalize (ptl f p.toNat)[k] = q at eq
      obtain ⟨a1, a2⟩ := hA k q eq
      have hr := ptl_rg hp f p.toNat (by omega) q (List.mem_of_getElem? eq)
      have nx := ih (k + 1) (by omega)
      have es : mpA (ptl f p.toNat) x y (k + 1) = if q.1 = x ∧ q.2 = y then k + 1 else mpA (ptl f p.toNat) x y k := by
        show (match (ptl f p.toNat)[k]? with | none => mpA (ptl f p.toNat) x y k | some q => if q.1 = x ∧ q.2 = y then k + 1 else mpA (ptl f p.toNat) x y k) = _
        rw [eq]
      have hbk := hb k
      refine WP.run [(178, 5)] [] 60 ?_
      simp only [bk178_0, bk178_5, bk178_14, bk178_25, bk178_36, bk178_41, bk178_42, bk178_49, U_iconst, U_istore_n, U_istore, U_iload, U_aload_n, U_getfield, U_icmp_ge, U_iald, U_iload_n, U_icmp_ne, U_goto, U_iinc, U_ireturn, UN_cc, UN_cn, UN_nc, UN_nn, UJ, lget, lset, lset2, entL, wsm, wcat, Option.toList_some, Option.toList_none, List.cons_append, List.nil_append, List.mem_cons, List.not_mem_nil, Prod.mk.injEq, or_false, false_or, or_true, true_or, and_true, true_and, and_false, false_and, and_self, ne_eq, not_false_eq_true, not_true_eq_false, forall_const, true_implies, false_implies, Nat.add_zero, Nat.zero_add, Nat.le_refl, Nat.zero_le, List.set_cons_zero, List.set_cons_succ, List.set_nil, ↓reduceIte, Nat.reduceAdd, Nat.reduceSub, Nat.reduceEqDiff, Nat.reduceLeDiff, Int.reduceEq, Int.reduceNe, Int.reduceNeg, reduceCtorEq, kd190, kd192, kd193, ln192, ln193, z190_6 hz, z190_7 hz, h5, a1, a2]
      have no : ¬ (q.1 = x ∧ q.2 = y) → WP 178 (0, 0) 5 [(2, 190), (0, x), (0, y), (0, (mpA (ptl f p.toNat) x y k : Int)), (0, (k : Int) + 1 + 1)] [] NN N Q := fun e => by
        rw [es, if_neg e] at nx; exact nx
      refine ⟨rr (by omega), fun _ => ⟨by omega, by omega, rr (by omega), fun e1 => ⟨by omega, by omega, rr (by omega), fun e2 => ?_, fun e2 => no (fun w => e2 w.2)⟩, fun e1 => no (fun w => e1 w.1)⟩, fun e => absurd (by omega) e⟩
      rw [es, if_pos ⟨e1, e2⟩] at nx; exact nx
  refine WP.run [(178, 5)] [] 60 ?_
  simp only [bk178_0, bk178_5, bk178_14, bk178_25, bk178_36, bk178_41, bk178_42, bk178_49, U_iconst, U_istore_n, U_istore, U_iload, U_aload_n, U_getfield, U_icmp_ge, U_iald, U_iload_n, U_icmp_ne, U_goto, U_iinc, U_ireturn, UN_cc, UN_cn, UN_nc, UN_nn, UJ, lget, lset, lset2, entL, wsm, wcat, Option.toList_some, Option.toList_none, List.cons_append, List.nil_append, List.mem_cons, List.not_mem_nil, Prod.mk.injEq, or_false, false_or, or_true, true_or, and_true, true_and, and_false, false_and, and_self, ne_eq, not_false_eq_true, not_true_eq_false, forall_const, true_implies, false_implies, Nat.add_zero, Nat.zero_add, Nat.le_refl, Nat.zero_le, List.set_cons_zero, List.set_cons_succ, List.set_nil, ↓reduceIte, Nat.reduceAdd, Nat.reduceSub, Nat.reduceEqDiff, Nat.reduceLeDiff, Int.reduceEq, Int.reduceNe, Int.reduceNeg, reduceCtorEq]
  exact key (ptl f p.toNat).length 0 (by omega)
set_option maxHeartbeats 8000000 in
theorem q_point {p : Int} {g : Nat} {f : Pz p} {pu : List Int} {rg : Nat → Pz p × Pz p} {A tl : Nat → Int} {E : Nat → Nat} {N : Mem} {Q : Post} {i w : Int} (h : MS g f pu rg A tl E N) (V : VS g f pu rg A tl E) (hi : R32 i) (hw : R32 w) (hQ : Q (some (0, oPoint g f i w)) NN N) : CL 179 [(2, 190), (0, i), (0, w)] NN N Q := by
  have hpp := V.1.pos
  have h26 := ptl_26 V.1 f
  unfold oPoint at hQ
  have bad : (¬ (0 ≤ i ∧ i < nPt g f) ∨ ¬ (0 ≤ w ∧ w ≤ 2)) → Q (some (0, -2)) NN N := fun e => by rw [if_pos e] at hQ; exact hQ
  have hn := nPt_le V.1 g f
  refine WP.run [] [] 90 ?_
  simp only [bk179_0, bk179_12, bk179_24, bk179_27, bk179_34, bk179_37, bk179_45, bk179_48, bk179_52, bk179_57, bk179_61, bk179_62, bk179_63, bk179_67, bk179_76, bk179_81, bk179_90, bk179_111, U_iload_n, U_i2l, U_lconst, U_ldc2_w, U_invokestatic3, U_if_eq, U_if_ne, U_bipush, U_ireturn, U_aload_n, U_invokevirtual0, U_invokevirtual1, U_iconst, U_icmp_ne, U_goto, U_getfield, U_iald, U_ineg, U_invokevirtual2, UN_cc, UN_cn, UN_nc, UN_nn, UJ, lget, lset, lset2, entL, wsm, wcat, Option.toList_some, Option.toList_none, List.cons_append, List.nil_append, List.mem_cons, List.not_mem_nil, Prod.mk.injEq, or_false, false_or, or_true, true_or, and_true, true_and, and_false, false_and, and_self, ne_eq, not_false_eq_true, not_true_eq_false, forall_const, true_implies, false_implies, Nat.add_zero, Nat.zero_add, Nat.le_refl, Nat.zero_le, List.set_cons_zero, List.set_cons_succ, List.set_nil, ↓reduceIte, Nat.reduceAdd, Nat.reduceSub, Nat.reduceEqDiff, Nat.reduceLeDiff, Int.reduceEq, Int.reduceNe, Int.reduceNeg, reduceCtorEq]
  refine ⟨hw, m_in hw.l (r64 (by omega)) (r64 (by omega)) ?_⟩
  by_cases q1 : 0 ≤ w ∧ w ≤ 2
  · rw [if_pos q1]
    simp only [bk179_0, bk179_12, bk179_24, bk179_27, bk179_34, bk179_37, bk179_45, bk179_48, bk179_52, bk179_57, bk179_61, bk179_62, bk179_63, bk179_67, bk179_76, bk179_81, bk179_90, bk179_111, U_iload_n, U_i2l, U_lconst, U_ldc2_w, U_invokestatic3, U_if_eq, U_if_ne, U_bipush, U_ireturn, U_aload_n, U_invokevirtual0, U_invokevirtual1, U_iconst, U_icmp_ne, U_goto, U_getfield, U_iald, U_ineg, U_invokevirtual2, UN_cc, UN_cn, UN_nc, UN_nn, UJ, lget, lset, lset2, entL, wsm, wcat, Option.toList_some, Option.toList_none, List.cons_append, List.nil_append, List.mem_cons, List.not_mem_nil, Prod.mk.injEq, or_false, false_or, or_true, true_or, and_true, true_and, and_false, false_and, and_self, ne_eq, not_false_eq_true, not_true_eq_false, forall_const, true_implies, false_implies, Nat.add_zero, Nat.zero_add, Nat.le_refl, Nat.zero_le, List.set_cons_zero, List.set_cons_succ, List.set_nil, ↓reduceIte, Nat.reduceAdd, Nat.reduceSub, Nat.reduceEqDiff, Nat.reduceLeDiff, Int.reduceEq, Int.reduceNe, Int.reduceNeg, reduceCtorEq]
    refine ⟨r3 (by omega), hi, m_in hi.l (r64 (by omega)) (r64 (by omega)) ?_⟩
    by_cases q2 : 0 ≤ i ∧ i ≤ 26
    · rw [if_pos q2]
      simp only [bk179_0, bk179_12, bk179_24, bk179_27, bk179_34, bk179_37, bk179_45, bk179_48, bk179_52, bk179_57, bk179_61, bk179_62, bk179_63, bk179_67, bk179_76, bk179_81, bk179_90, bk179_111, U_iload_n, U_i2l, U_lconst, U_ldc2_w, U_invokestatic3, U_if_eq, U_if_ne, U_bipush, U_ireturn, U_aload_n, U_invokevirtual0, U_invokevirtual1, U_iconst, U_icmp_ne, U_goto, U_getfield, U_iald, U_ineg, U_invokevirtual2, UN_cc, UN_cn, UN_nc, UN_nn, UJ, lget, lset, lset2, entL, wsm, wcat, Option.toList_some, Option.toList_none, List.cons_append, List.nil_append, List.mem_cons, List.not_mem_nil, Prod.mk.injEq, or_false, false_or, or_true, true_or, and_true, true_and, and_false, false_and, and_self, ne_eq, not_false_eq_true, not_true_eq_false, forall_const, true_implies, false_implies, Nat.add_zero, Nat.zero_add, Nat.le_refl, Nat.zero_le, List.set_cons_zero, List.set_cons_succ, List.set_nil, ↓reduceIte, Nat.reduceAdd, Nat.reduceSub, Nat.reduceEqDiff, Nat.reduceLeDiff, Int.reduceEq, Int.reduceNe, Int.reduceNeg, reduceCtorEq, kd190]
      refine ⟨r3 (by omega), m_std h V ?_⟩
      by_cases q : g = 0
      · rw [if_pos q]
        have e27 : nPt g f = 27 := by unfold nPt; rw [if_pos q]
        rw [if_neg (show ¬ (¬ (0 ≤ i ∧ i < nPt g f) ∨ ¬ (0 ≤ w ∧ w ≤ 2)) by omega), if_pos q] at hQ
        simp only [bk179_0, bk179_12, bk179_24, bk179_27, bk179_34, bk179_37, bk179_45, bk179_48, bk179_52, bk179_57, bk179_61, bk179_62, bk179_63, bk179_67, bk179_76, bk179_81, bk179_90, bk179_111, U_iload_n, U_i2l, U_lconst, U_ldc2_w, U_invokestatic3, U_if_eq, U_if_ne, U_bipush, U_ireturn, U_aload_n, U_invokevirtual0, U_invokevirtual1, U_iconst, U_icmp_ne, U_goto, U_getfield, U_iald, U_ineg, U_invokevirtual2, UN_cc, UN_cn, UN_nc, UN_nn, UJ, lget, lset, lset2, entL, wsm, wcat, Option.toList_some, Option.toList_none, List.cons_append, List.nil_append, List.mem_cons, List.not_mem_nil, Prod.mk.injEq, or_false, false_or, or_true, true_or, and_true, true_and, and_false, false_and, and_self, ne_eq, not_false_eq_true, not_true_eq_false, forall_const, true_implies, false_implies, Nat.add_zero, Nat.zero_add, Nat.le_refl, Nat.zero_le, List.set_cons_zero, List.set_cons_succ, List.set_nil, ↓reduceIte, Nat.reduceAdd, Nat.reduceSub, Nat.reduceEqDiff, Nat.reduceLeDiff, Int.reduceEq, Int.reduceNe, Int.reduceNeg, reduceCtorEq]
        exact ⟨r3 (by omega), hQ⟩
      · rw [if_neg q]
        obtain ⟨G, hA⟩ := h.mg q
        obtain ⟨hz, hP⟩ := G.mt
        have en : nPt g f = (ptl f p.toNat).length + 1 := by unfold nPt; rw [if_neg q]
        simp only [bk179_0, bk179_12, bk179_24, bk179_27, bk179_34, bk179_37, bk179_45, bk179_48, bk179_52, bk179_57, bk179_61, bk179_62, bk179_63, bk179_67, bk179_76, bk179_81, bk179_90, bk179_111, U_iload_n, U_i2l, U_lconst, U_ldc2_w, U_invokestatic3, U_if_eq, U_if_ne, U_bipush, U_ireturn, U_aload_n, U_invokevirtual0, U_invokevirtual1, U_iconst, U_icmp_ne, U_goto, U_getfield, U_iald, U_ineg, U_invokevirtual2, UN_cc, UN_cn, UN_nc, UN_nn, UJ, lget, lset, lset2, entL, wsm, wcat, Option.toList_some, Option.toList_none, List.cons_append, List.nil_append, List.mem_cons, List.not_mem_nil, Prod.mk.injEq, or_false, false_or, or_true, true_or, and_true, true_and, and_false, false_and, and_self, ne_eq, not_false_eq_true, not_true_eq_false, forall_const, true_implies, false_implies, Nat.add_zero, Nat.zero_add, Nat.le_refl, Nat.zero_le, List.set_cons_zero, List.set_cons_succ, List.set_nil, ↓reduceIte, Nat.reduceAdd, Nat.reduceSub, Nat.reduceEqDiff, Nat.reduceLeDiff, Int.reduceEq, Int.reduceNe, Int.reduceNeg, reduceCtorEq, kd190]
        refine ⟨r3 (by omega), m_isPt (m := nPt g f) hi (by rw [G.2.2.2, en]; rfl) (by omega) ?_⟩
        by_cases q3 : 0 ≤ i ∧ i < nPt g f
        · rw [if_pos q3]
          rw [if_neg (show ¬ (¬ (0 ≤ i ∧ i < nPt g f) ∨ ¬ (0 ≤ w ∧ w ≤ 2)) by omega), if_neg q] at hQ
          simp only [bk179_0, bk179_12, bk179_24, bk179_27, bk179_34, bk179_37, bk179_45, bk179_48, bk179_52, bk179_57, bk179_61, bk179_62, bk179_63, bk179_67, bk179_76, bk179_81, bk179_90, bk179_111, U_iload_n, U_i2l, U_lconst, U_ldc2_w, U_invokestatic3, U_if_eq, U_if_ne, U_bipush, U_ireturn, U_aload_n, U_invokevirtual0, U_invokevirtual1, U_iconst, U_icmp_ne, U_goto, U_getfield, U_iald, U_ineg, U_invokevirtual2, UN_cc, UN_cn, UN_nc, UN_nn, UJ, lget, lset, lset2, entL, wsm, wcat, Option.toList_some, Option.toList_none, List.cons_append, List.nil_append, List.mem_cons, List.not_mem_nil, Prod.mk.injEq, or_false, false_or, or_true, true_or, and_true, true_and, and_false, false_and, and_self, ne_eq, not_false_eq_true, not_true_eq_false, forall_const, true_implies, false_implies, Nat.add_zero, Nat.zero_add, Nat.le_refl, Nat.zero_le, List.set_cons_zero, List.set_cons_succ, List.set_nil, ↓reduceIte, Nat.reduceAdd, Nat.reduceSub, Nat.reduceEqDiff, Nat.reduceLeDiff, Int.reduceEq, Int.reduceNe, Int.reduceNeg, reduceCtorEq, kd190, kd192, kd193, ln192, ln193, z190_6 hz, z190_7 hz]
          by_cases i0 : i = 0
          · rw [if_pos i0] at hQ
            refine ⟨r3 (by omega), hi, fun _ => ⟨rr (by omega), fun e => ?_, fun e => ?_⟩, fun e => absurd i0 e⟩
            · rw [if_pos e] at hQ; exact hQ
            · rw [if_neg e] at hQ; exact hQ
          · rw [if_neg i0] at hQ
            have pt := ptAt_is f (i := i.toNat) (by omega) (by omega)
            obtain ⟨a1, a2⟩ := hA _ _ pt
            rw [show ((i.toNat - 1 : Nat) : Int) + 1 = i by omega] at a1 a2
            have hr := ptl_rg V.1 f p.toNat (by omega) _ (List.mem_of_getElem? pt)
            refine ⟨r3 (by omega), hi, fun e => absurd e i0, fun _ => ⟨hw, fun e => ?_, fun e => ⟨rr (by omega), fun e2 => ?_, fun e2 => ?_⟩⟩⟩
            · rw [if_neg (by omega), if_pos e] at hQ
              rw [a1]
              exact ⟨by omega, by omega, hQ⟩
            · rw [if_neg (by omega), if_neg e] at hQ
              rw [a2]
              exact ⟨by omega, by omega, hQ⟩
            · rw [if_pos (by omega)] at hQ
              rw [a1, a2]
              refine ⟨by omega, by omega, by omega, by omega, m_mod V.1 hP (r3 (by omega)) ?_⟩
              have m1 := Int.emod_nonneg (-(ptAt f i.toNat).2) (show p ≠ 0 by omega)
              have m2 := Int.emod_lt_of_pos (-(ptAt f i.toNat).2) (show 0 < p by omega)
              simp only [bk179_0, bk179_12, bk179_24, bk179_27, bk179_34, bk179_37, bk179_45, bk179_48, bk179_52, bk179_57, bk179_61, bk179_62, bk179_63, bk179_67, bk179_76, bk179_81, bk179_90, bk179_111, U_iload_n, U_i2l, U_lconst, U_ldc2_w, U_invokestatic3, U_if_eq, U_if_ne, U_bipush, U_ireturn, U_aload_n, U_invokevirtual0, U_invokevirtual1, U_iconst, U_icmp_ne, U_goto, U_getfield, U_iald, U_ineg, U_invokevirtual2, UN_cc, UN_cn, UN_nc, UN_nn, UJ, lget, lset, lset2, entL, wsm, wcat, Option.toList_some, Option.toList_none, List.cons_append, List.nil_append, List.mem_cons, List.not_mem_nil, Prod.mk.injEq, or_false, false_or, or_true, true_or, and_true, true_and, and_false, false_and, and_self, ne_eq, not_false_eq_true, not_true_eq_false, forall_const, true_implies, false_implies, Nat.add_zero, Nat.zero_add, Nat.le_refl, Nat.zero_le, List.set_cons_zero, List.set_cons_succ, List.set_nil, ↓reduceIte, Nat.reduceAdd, Nat.reduceSub, Nat.reduceEqDiff, Nat.reduceLeDiff, Int.reduceEq, Int.reduceNe, Int.reduceNeg, reduceCtorEq, kd190]
              refine m_pointAt G hA V.1 (by omega) (by omega) ?_
              simp only [bk179_0, bk179_12, bk179_24, bk179_27, bk179_34, bk179_37, bk179_45, bk179_48, bk179_52, bk179_57, bk179_61, bk179_62, bk179_63, bk179_67, bk179_76, bk179_81, bk179_90, bk179_111, U_iload_n, U_i2l, U_lconst, U_ldc2_w, U_invokestatic3, U_if_eq, U_if_ne, U_bipush, U_ireturn, U_aload_n, U_invokevirtual0, U_invokevirtual1, U_iconst, U_icmp_ne, U_goto, U_getfield, U_iald, U_ineg, U_invokevirtual2, UN_cc, UN_cn, UN_nc, UN_nn, UJ, lget, lset, lset2, entL, wsm, wcat, Option.toList_some, Option.toList_none, List.cons_append, List.nil_append, List.mem_cons, List.not_mem_nil, Prod.mk.injEq, or_false, false_or, or_true, true_or, and_true, true_and, and_false, false_and, and_self, ne_eq, not_false_eq_true, not_true_eq_false, forall_const, true_implies, false_implies, Nat.add_zero, Nat.zero_add, Nat.le_refl, Nat.zero_le, List.set_cons_zero, List.set_cons_succ, List.set_nil, ↓reduceIte, Nat.reduceAdd, Nat.reduceSub, Nat.reduceEqDiff, Nat.reduceLeDiff, Int.reduceEq, Int.reduceNe, Int.reduceNeg, reduceCtorEq]
              exact hQ
        · rw [if_neg q3]
          simp only [bk179_0, bk179_12, bk179_24, bk179_27, bk179_34, bk179_37, bk179_45, bk179_48, bk179_52, bk179_57, bk179_61, bk179_62, bk179_63, bk179_67, bk179_76, bk179_81, bk179_90, bk179_111, U_iload_n, U_i2l, U_lconst, U_ldc2_w, U_invokestatic3, U_if_eq, U_if_ne, U_bipush, U_ireturn, U_aload_n, U_invokevirtual0, U_invokevirtual1, U_iconst, U_icmp_ne, U_goto, U_getfield, U_iald, U_ineg, U_invokevirtual2, UN_cc, UN_cn, UN_nc, UN_nn, UJ, lget, lset, lset2, entL, wsm, wcat, Option.toList_some, Option.toList_none, List.cons_append, List.nil_append, List.mem_cons, List.not_mem_nil, Prod.mk.injEq, or_false, false_or, or_true, true_or, and_true, true_and, and_false, false_and, and_self, ne_eq, not_false_eq_true, not_true_eq_false, forall_const, true_implies, false_implies, Nat.add_zero, Nat.zero_add, Nat.le_refl, Nat.zero_le, List.set_cons_zero, List.set_cons_succ, List.set_nil, ↓reduceIte, Nat.reduceAdd, Nat.reduceSub, Nat.reduceEqDiff, Nat.reduceLeDiff, Int.reduceEq, Int.reduceNe, Int.reduceNeg, reduceCtorEq]
          exact ⟨r3 (by omega), bad (Or.inl q3)⟩
    · rw [if_neg q2]
      simp only [bk179_0, bk179_12, bk179_24, bk179_27, bk179_34, bk179_37, bk179_45, bk179_48, bk179_52, bk179_57, bk179_61, bk179_62, bk179_63, bk179_67, bk179_76, bk179_81, bk179_90, bk179_111, U_iload_n, U_i2l, U_lconst, U_ldc2_w, U_invokestatic3, U_if_eq, U_if_ne, U_bipush, U_ireturn, U_aload_n, U_invokevirtual0, U_invokevirtual1, U_iconst, U_icmp_ne, U_goto, U_getfield, U_iald, U_ineg, U_invokevirtual2, UN_cc, UN_cn, UN_nc, UN_nn, UJ, lget, lset, lset2, entL, wsm, wcat, Option.toList_some, Option.toList_none, List.cons_append, List.nil_append, List.mem_cons, List.not_mem_nil, Prod.mk.injEq, or_false, false_or, or_true, true_or, and_true, true_and, and_false, false_and, and_self, ne_eq, not_false_eq_true, not_true_eq_false, forall_const, true_implies, false_implies, Nat.add_zero, Nat.zero_add, Nat.le_refl, Nat.zero_le, List.set_cons_zero, List.set_cons_succ, List.set_nil, ↓reduceIte, Nat.reduceAdd, Nat.reduceSub, Nat.reduceEqDiff, Nat.reduceLeDiff, Int.reduceEq, Int.reduceNe, Int.reduceNeg, reduceCtorEq]
      exact ⟨r3 (by omega), bad (Or.inl (by omega))⟩
  · rw [if_neg q1]
    simp only [bk179_0, bk179_12, bk179_24, bk179_27, bk179_34, bk179_37, bk179_45, bk179_48, bk179_52, bk179_57, bk179_61, bk179_62, bk179_63, bk179_67, bk179_76, bk179_81, bk179_90, bk179_111, U_iload_n, U_i2l, U_lconst, U_ldc2_w, U_invokestatic3, U_if_eq, U_if_ne, U_bipush, U_ireturn, U_aload_n, U_invokevirtual0, U_invokevirtual1, U_iconst, U_icmp_ne, U_goto, U_getfield, U_iald, U_ineg, U_invokevirtual2, UN_cc, UN_cn, UN_nc, UN_nn, UJ, lget, lset, lset2, entL, wsm, wcat, Option.toList_some, Option.toList_none, List.cons_append, List.nil_append, List.mem_cons, List.not_mem_nil, Prod.mk.injEq, or_false, false_or, or_true, true_or, and_true, true_and, and_false, false_and, and_self, ne_eq, not_false_eq_true, not_true_eq_false, forall_const, true_implies, false_implies, Nat.add_zero, Nat.zero_add, Nat.le_refl, Nat.zero_le, List.set_cons_zero, List.set_cons_succ, List.set_nil, ↓reduceIte, Nat.reduceAdd, Nat.reduceSub, Nat.reduceEqDiff, Nat.reduceLeDiff, Int.reduceEq, Int.reduceNe, Int.reduceNeg, reduceCtorEq]
    exact ⟨r3 (by omega), bad (Or.inr q1)⟩
