/-! THE MODEL'S CALLS: turns, covers -/
theorem VS.d6 {p : Int} {g : Nat} {f : Pz p} {pu : List Int} {rg : Nat → Pz p × Pz p} {A tl : Nat → Int} {E : Nat → Nat} (V : VS g f pu rg A tl E) (hg : g ≠ 0) : dg f ≤ 6 ∧ pmo f := by
  have h := (V.cv hg).2.2.1
  have h2 := V.g2
  exact ⟨by have := h.2.1; omega, h.2.2.1⟩
theorem oTurns_t {p : Int} {g : Nat} {f : Pz p} {w : Int} (h1 : ¬ w < -1) (h2 : g ≠ 0) : oTurns g f w = tuO f w := by
  unfold oTurns tuO; rw [if_neg h1, if_neg h2]
set_option maxHeartbeats 8000000 in
theorem q_turns {p : Int} {g : Nat} {f : Pz p} {pu : List Int} {rg : Nat → Pz p × Pz p} {A tl : Nat → Int} {E : Nat → Nat} {N : Mem} {Q : Post} {w : Int} (h : MS g f pu rg A tl E N) (V : VS g f pu rg A tl E) (hw : R32 w) (hQ : ∀ N', MS g f pu rg A tl E N' → clF N N' → Q (some (0, oTurns g f w)) NN N') : CL 238 [(2, 190), (0, w)] NN N Q := by
  have hw' := hw
  obtain ⟨w1, w2⟩ := hw'
  refine WP.run [] [] 60 ?_
  simp only [bk238_0, bk238_5, bk238_8, bk238_15, bk238_23, bk238_25, U_iload_n, U_iconst, U_icmp_ge, U_bipush, U_ireturn, U_aload_n, U_invokevirtual0, U_if_eq, U_invokevirtual1, U_goto, UN_cc, UN_cn, UN_nc, UN_nn, UJ, lget, lset, lset2, entL, wsm, wcat, Option.toList_some, Option.toList_none, List.cons_append, List.nil_append, List.mem_cons, List.not_mem_nil, Prod.mk.injEq, or_false, false_or, or_true, true_or, and_true, true_and, and_false, false_and, and_self, ne_eq, not_false_eq_true, not_true_eq_false, forall_const, true_implies, false_implies, Nat.add_zero, Nat.zero_add, Nat.le_refl, Nat.zero_le, List.set_cons_zero, List.set_cons_succ, List.set_nil, ↓reduceIte, Nat.reduceAdd, Nat.reduceSub, Nat.reduceEqDiff, Nat.reduceLeDiff, Int.reduceEq, Int.reduceNe, Int.reduceNeg, reduceCtorEq, kd190]
  by_cases q1 : w < -1
  · have e : oTurns g f w = -2 := by unfold oTurns; rw [if_pos q1]
    have := hQ N h (clF.rf N)
    rw [e] at this
    exact ⟨rr (by omega), fun _ => this, fun e => absurd q1 e⟩
  refine ⟨rr (by omega), fun e => absurd e q1, fun _ => m_std h V ?_⟩
  by_cases q : g = 0
  · rw [if_pos q]
    have e : oTurns g f w = -3 := by unfold oTurns; rw [if_neg q1, if_pos q]
    have := hQ N h (clF.rf N)
    rw [e] at this
    simp only [bk238_0, bk238_5, bk238_8, bk238_15, bk238_23, bk238_25, U_iload_n, U_iconst, U_icmp_ge, U_bipush, U_ireturn, U_aload_n, U_invokevirtual0, U_if_eq, U_invokevirtual1, U_goto, UN_cc, UN_cn, UN_nc, UN_nn, UJ, lget, lset, lset2, entL, wsm, wcat, Option.toList_some, Option.toList_none, List.cons_append, List.nil_append, List.mem_cons, List.not_mem_nil, Prod.mk.injEq, or_false, false_or, or_true, true_or, and_true, true_and, and_false, false_and, and_self, ne_eq, not_false_eq_true, not_true_eq_false, forall_const, true_implies, false_implies, Nat.add_zero, Nat.zero_add, Nat.le_refl, Nat.zero_le, List.set_cons_zero, List.set_cons_succ, List.set_nil, ↓reduceIte, Nat.reduceAdd, Nat.reduceSub, Nat.reduceEqDiff, Nat.reduceLeDiff, Int.reduceEq, Int.reduceNe, Int.reduceNeg, reduceCtorEq]
    exact ⟨r3 (by omega), this⟩
  · rw [if_neg q]
    rw [oTurns_t q1 q] at hQ
    obtain ⟨d6, hm⟩ := V.d6 q
    simp only [bk238_0, bk238_5, bk238_8, bk238_15, bk238_23, bk238_25, U_iload_n, U_iconst, U_icmp_ge, U_bipush, U_ireturn, U_aload_n, U_invokevirtual0, U_if_eq, U_invokevirtual1, U_goto, UN_cc, UN_cn, UN_nc, UN_nn, UJ, lget, lset, lset2, entL, wsm, wcat, Option.toList_some, Option.toList_none, List.cons_append, List.nil_append, List.mem_cons, List.not_mem_nil, Prod.mk.injEq, or_false, false_or, or_true, true_or, and_true, true_and, and_false, false_and, and_self, ne_eq, not_false_eq_true, not_true_eq_false, forall_const, true_implies, false_implies, Nat.add_zero, Nat.zero_add, Nat.le_refl, Nat.zero_le, List.set_cons_zero, List.set_cons_succ, List.set_nil, ↓reduceIte, Nat.reduceAdd, Nat.reduceSub, Nat.reduceEqDiff, Nat.reduceLeDiff, Int.reduceEq, Int.reduceNe, Int.reduceNeg, reduceCtorEq, kd190]
    refine ⟨r3 (by omega), m_turnOf (h.mg q).1 V.1 d6 hm ⟨by omega, hw⟩ fun N1 s1 s2 => ?_⟩
    simp only [bk238_0, bk238_5, bk238_8, bk238_15, bk238_23, bk238_25, U_iload_n, U_iconst, U_icmp_ge, U_bipush, U_ireturn, U_aload_n, U_invokevirtual0, U_if_eq, U_invokevirtual1, U_goto, UN_cc, UN_cn, UN_nc, UN_nn, UJ, lget, lset, lset2, entL, wsm, wcat, Option.toList_some, Option.toList_none, List.cons_append, List.nil_append, List.mem_cons, List.not_mem_nil, Prod.mk.injEq, or_false, false_or, or_true, true_or, and_true, true_and, and_false, false_and, and_self, ne_eq, not_false_eq_true, not_true_eq_false, forall_const, true_implies, false_implies, Nat.add_zero, Nat.zero_add, Nat.le_refl, Nat.zero_le, List.set_cons_zero, List.set_cons_succ, List.set_nil, ↓reduceIte, Nat.reduceAdd, Nat.reduceSub, Nat.reduceEqDiff, Nat.reduceLeDiff, Int.reduceEq, Int.reduceNe, Int.reduceNeg, reduceCtorEq]
    exact hQ N1 (h.sc (s2.mo rfl rfl) s1.rw) (s2.cl rfl)
set_option maxHeartbeats 8000000 in
theorem q_turned {p : Int} {g : Nat} {f : Pz p} {pu : List Int} {rg : Nat → Pz p × Pz p} {A tl : Nat → Int} {E : Nat → Nat} {N : Mem} {Q : Post} {i pt : Int} (h : MS g f pu rg A tl E N) (V : VS g f pu rg A tl E) (hi : R32 i) (hpt : R32 pt) (hQ : ∀ N', MS g f pu rg A tl E N' → clF N N' → Q (some (0, oTurned g f i pt)) NN N') : CL 239 [(2, 190), (0, i), (0, pt), (9, 0)] NN N Q := by
  have hpp := V.1.pos
  have h26 := ptl_26 V.1 f
  have hn := nPt_le V.1 g f
  have hi' := hi
  obtain ⟨i1, i2⟩ := hi'
  have bad : ∀ N', MS g f pu rg A tl E N' → clF N N' → (i < 0 ∨ ¬ (0 ≤ pt ∧ pt < nPt g f)) → Q (some (0, -2)) NN N' := fun N' a b e => by
    have := hQ N' a b
    unfold oTurned at this
    rw [if_pos e] at this; exact this
  refine WP.run [] [] 90 ?_
  simp only [bk239_0, bk239_4, bk239_16, bk239_19, bk239_26, bk239_29, bk239_40, bk239_48, bk239_51, bk239_55, bk239_57, U_iload_n, U_if_lt, U_i2l, U_lconst, U_ldc2_w, U_invokestatic3, U_if_ne, U_bipush, U_ireturn, U_aload_n, U_invokevirtual0, U_invokevirtual1, U_istore_n, U_iconst, U_icmp_eq, U_sipush, U_idiv, U_getfield, U_iald, U_imul, U_irem, U_iadd, U_invokevirtual2, UN_cc, UN_cn, UN_nc, UN_nn, UJ, lget, lset, lset2, entL, wsm, wcat, Option.toList_some, Option.toList_none, List.cons_append, List.nil_append, List.mem_cons, List.not_mem_nil, Prod.mk.injEq, or_false, false_or, or_true, true_or, and_true, true_and, and_false, false_and, and_self, ne_eq, not_false_eq_true, not_true_eq_false, forall_const, true_implies, false_implies, Nat.add_zero, Nat.zero_add, Nat.le_refl, Nat.zero_le, List.set_cons_zero, List.set_cons_succ, List.set_nil, ↓reduceIte, Nat.reduceAdd, Nat.reduceSub, Nat.reduceEqDiff, Nat.reduceLeDiff, Int.reduceEq, Int.reduceNe, Int.reduceNeg, reduceCtorEq]
  by_cases q1 : i < 0
  · exact ⟨hi, fun _ => bad N h (clF.rf N) (Or.inl q1), fun e => absurd q1 e⟩
  refine ⟨hi, fun e => absurd e q1, fun _ => ⟨hpt, m_in hpt.l (r64 (by omega)) (r64 (by omega)) ?_⟩⟩
  by_cases q2 : 0 ≤ pt ∧ pt ≤ 26
  · rw [if_pos q2]
    simp only [bk239_0, bk239_4, bk239_16, bk239_19, bk239_26, bk239_29, bk239_40, bk239_48, bk239_51, bk239_55, bk239_57, U_iload_n, U_if_lt, U_i2l, U_lconst, U_ldc2_w, U_invokestatic3, U_if_ne, U_bipush, U_ireturn, U_aload_n, U_invokevirtual0, U_invokevirtual1, U_istore_n, U_iconst, U_icmp_eq, U_sipush, U_idiv, U_getfield, U_iald, U_imul, U_irem, U_iadd, U_invokevirtual2, UN_cc, UN_cn, UN_nc, UN_nn, UJ, lget, lset, lset2, entL, wsm, wcat, Option.toList_some, Option.toList_none, List.cons_append, List.nil_append, List.mem_cons, List.not_mem_nil, Prod.mk.injEq, or_false, false_or, or_true, true_or, and_true, true_and, and_false, false_and, and_self, ne_eq, not_false_eq_true, not_true_eq_false, forall_const, true_implies, false_implies, Nat.add_zero, Nat.zero_add, Nat.le_refl, Nat.zero_le, List.set_cons_zero, List.set_cons_succ, List.set_nil, ↓reduceIte, Nat.reduceAdd, Nat.reduceSub, Nat.reduceEqDiff, Nat.reduceLeDiff, Int.reduceEq, Int.reduceNe, Int.reduceNeg, reduceCtorEq, kd190]
    refine ⟨r3 (by omega), m_std h V ?_⟩
    by_cases q : g = 0
    · rw [if_pos q]
      have e27 : nPt g f = 27 := by unfold nPt; rw [if_pos q]
      have := hQ N h (clF.rf N)
      unfold oTurned at this
      rw [if_neg (by omega), if_pos q] at this
      simp only [bk239_0, bk239_4, bk239_16, bk239_19, bk239_26, bk239_29, bk239_40, bk239_48, bk239_51, bk239_55, bk239_57, U_iload_n, U_if_lt, U_i2l, U_lconst, U_ldc2_w, U_invokestatic3, U_if_ne, U_bipush, U_ireturn, U_aload_n, U_invokevirtual0, U_invokevirtual1, U_istore_n, U_iconst, U_icmp_eq, U_sipush, U_idiv, U_getfield, U_iald, U_imul, U_irem, U_iadd, U_invokevirtual2, UN_cc, UN_cn, UN_nc, UN_nn, UJ, lget, lset, lset2, entL, wsm, wcat, Option.toList_some, Option.toList_none, List.cons_append, List.nil_append, List.mem_cons, List.not_mem_nil, Prod.mk.injEq, or_false, false_or, or_true, true_or, and_true, true_and, and_false, false_and, and_self, ne_eq, not_false_eq_true, not_true_eq_false, forall_const, true_implies, false_implies, Nat.add_zero, Nat.zero_add, Nat.le_refl, Nat.zero_le, List.set_cons_zero, List.set_cons_succ, List.set_nil, ↓reduceIte, Nat.reduceAdd, Nat.reduceSub, Nat.reduceEqDiff, Nat.reduceLeDiff, Int.reduceEq, Int.reduceNe, Int.reduceNeg, reduceCtorEq]
      exact ⟨r3 (by omega), this⟩
    · rw [if_neg q]
      obtain ⟨d6, hm⟩ := V.d6 q
      obtain ⟨G, hA⟩ := h.mg q
      have en : nPt g f = (ptl f p.toNat).length + 1 := by unfold nPt; rw [if_neg q]
      simp only [bk239_0, bk239_4, bk239_16, bk239_19, bk239_26, bk239_29, bk239_40, bk239_48, bk239_51, bk239_55, bk239_57, U_iload_n, U_if_lt, U_i2l, U_lconst, U_ldc2_w, U_invokestatic3, U_if_ne, U_bipush, U_ireturn, U_aload_n, U_invokevirtual0, U_invokevirtual1, U_istore_n, U_iconst, U_icmp_eq, U_sipush, U_idiv, U_getfield, U_iald, U_imul, U_irem, U_iadd, U_invokevirtual2, UN_cc, UN_cn, UN_nc, UN_nn, UJ, lget, lset, lset2, entL, wsm, wcat, Option.toList_some, Option.toList_none, List.cons_append, List.nil_append, List.mem_cons, List.not_mem_nil, Prod.mk.injEq, or_false, false_or, or_true, true_or, and_true, true_and, and_false, false_and, and_self, ne_eq, not_false_eq_true, not_true_eq_false, forall_const, true_implies, false_implies, Nat.add_zero, Nat.zero_add, Nat.le_refl, Nat.zero_le, List.set_cons_zero, List.set_cons_succ, List.set_nil, ↓reduceIte, Nat.reduceAdd, Nat.reduceSub, Nat.reduceEqDiff, Nat.reduceLeDiff, Int.reduceEq, Int.reduceNe, Int.reduceNeg, reduceCtorEq, kd190]
      refine ⟨r3 (by omega), m_turnOf G V.1 d6 hm ⟨by omega, hi⟩ fun N1 s1 s2 => ?_⟩
      have S1 := h.sc (s2.mo rfl rfl) s1.rw
      have C1 : clF N N1 := s2.cl rfl
      have A1 : PtA N1 192 193 (ptl f p.toNat) := by unfold PtA; rw [s2.1 192 (by decide) (by decide), s2.1 193 (by decide) (by decide)]; exact hA
      obtain ⟨hz, hP⟩ := s1.mt
      have hq := hQ N1 S1 C1
      simp only [bk239_0, bk239_4, bk239_16, bk239_19, bk239_26, bk239_29, bk239_40, bk239_48, bk239_51, bk239_55, bk239_57, U_iload_n, U_if_lt, U_i2l, U_lconst, U_ldc2_w, U_invokestatic3, U_if_ne, U_bipush, U_ireturn, U_aload_n, U_invokevirtual0, U_invokevirtual1, U_istore_n, U_iconst, U_icmp_eq, U_sipush, U_idiv, U_getfield, U_iald, U_imul, U_irem, U_iadd, U_invokevirtual2, UN_cc, UN_cn, UN_nc, UN_nn, UJ, lget, lset, lset2, entL, wsm, wcat, Option.toList_some, Option.toList_none, List.cons_append, List.nil_append, List.mem_cons, List.not_mem_nil, Prod.mk.injEq, or_false, false_or, or_true, true_or, and_true, true_and, and_false, false_and, and_self, ne_eq, not_false_eq_true, not_true_eq_false, forall_const, true_implies, false_implies, Nat.add_zero, Nat.zero_add, Nat.le_refl, Nat.zero_le, List.set_cons_zero, List.set_cons_succ, List.set_nil, ↓reduceIte, Nat.reduceAdd, Nat.reduceSub, Nat.reduceEqDiff, Nat.reduceLeDiff, Int.reduceEq, Int.reduceNe, Int.reduceNeg, reduceCtorEq, kd190]
      have e0 : tuO f i = ((tuL f p.toNat)[i.toNat]?).getD (-1) := by unfold tuO; rw [if_neg (by omega)]
      rw [e0]
      cases ht : (tuL f p.toNat)[i.toNat]? with
      | none =>
        show RR (-1) (-1) ∧ _ ∧ _
        refine ⟨rr (by omega), fun _ => ?_, fun e => absurd rfl e⟩
        by_cases q3 : 0 ≤ pt ∧ pt < nPt g f
        · unfold oTurned at hq
          rw [if_neg (by omega), if_neg q, ht] at hq; exact hq
        · exact bad N1 S1 C1 (Or.inr q3)
      | some t =>
        have htr := tuL_rg V.1 (List.mem_of_getElem? ht)
        show RR t (-1) ∧ _ ∧ _
        refine ⟨rr (by omega), fun e => absurd e (by show ¬ t = -1; omega), fun _ => ?_⟩
        refine m_isPt (m := nPt g f) hpt (by rw [s1.2.2.2, en]; rfl) (by omega) ?_
        by_cases q3 : 0 ≤ pt ∧ pt < nPt g f
        · rw [if_pos q3]
          unfold oTurned at hq
          rw [if_neg (by omega), if_neg q, ht] at hq
          have hq' : Q (some (0, if pt = 0 then 0 else (tuMv f t (ptAt f pt.toNat) : Int))) NN N1 := hq
          simp only [bk239_0, bk239_4, bk239_16, bk239_19, bk239_26, bk239_29, bk239_40, bk239_48, bk239_51, bk239_55, bk239_57, U_iload_n, U_if_lt, U_i2l, U_lconst, U_ldc2_w, U_invokestatic3, U_if_ne, U_bipush, U_ireturn, U_aload_n, U_invokevirtual0, U_invokevirtual1, U_istore_n, U_iconst, U_icmp_eq, U_sipush, U_idiv, U_getfield, U_iald, U_imul, U_irem, U_iadd, U_invokevirtual2, UN_cc, UN_cn, UN_nc, UN_nn, UJ, lget, lset, lset2, entL, wsm, wcat, Option.toList_some, Option.toList_none, List.cons_append, List.nil_append, List.mem_cons, List.not_mem_nil, Prod.mk.injEq, or_false, false_or, or_true, true_or, and_true, true_and, and_false, false_and, and_self, ne_eq, not_false_eq_true, not_true_eq_false, forall_const, true_implies, false_implies, Nat.add_zero, Nat.zero_add, Nat.le_refl, Nat.zero_le, List.set_cons_zero, List.set_cons_succ, List.set_nil, ↓reduceIte, Nat.reduceAdd, Nat.reduceSub, Nat.reduceEqDiff, Nat.reduceLeDiff, Int.reduceEq, Int.reduceNe, Int.reduceNeg, reduceCtorEq, kd190, kd192, kd193, ln192, ln193, z190_6 hz, z190_7 hz, hP, Option.getD_some]
          by_cases p0 : pt = 0
          · rw [if_pos p0] at hq'
            exact ⟨r3 (by omega), hpt, fun _ => hq', fun e => absurd p0 e⟩
          · rw [if_neg p0] at hq'
            have pta := ptAt_is f (i := pt.toNat) (by omega) (by omega)
            obtain ⟨a1, a2⟩ := A1 _ _ pta
            rw [show ((pt.toNat - 1 : Nat) : Int) + 1 = pt by omega] at a1 a2
            have hr := ptl_rg V.1 f p.toNat (by omega) _ (List.mem_of_getElem? pta)
            rw [a1, a2]
            unfold tuMv at hq'
            generalize ptAt f pt.toNat = P at *
            have d1 : t.tdiv 10000 = t / 10000 := Int.tdiv_eq_ediv_of_nonneg (by omega)
            have d2 : t.tdiv 100 = t / 100 := Int.tdiv_eq_ediv_of_nonneg (by omega)
            have d3 : (t / 100).tmod 100 = t / 100 % 100 := tm_nn (by omega)
            have d4 : t.tmod 100 = t % 100 := tm_nn (by omega)
            have n1 : 0 ≤ t / 10000 * P.1 := Int.mul_nonneg (by omega) hr.1
            have n2 : 0 ≤ t % 100 * P.2 := Int.mul_nonneg (by omega) hr.2.2.1
            have b1 := ab_mul (A := 14) (B := 13) (a := t / 10000) (b := P.1) (by omega) (by omega)
            have b2 := ab_mul (A := 100) (B := 13) (a := t % 100) (b := P.2) (by omega) (by omega)
            have x1 := Int.emod_nonneg (t / 10000 * P.1 + t / 100 % 100) (show p ≠ 0 by omega)
            have x2 := Int.emod_lt_of_pos (t / 10000 * P.1 + t / 100 % 100) (show 0 < p by omega)
            have y1 := Int.emod_nonneg (t % 100 * P.2) (show p ≠ 0 by omega)
            have y2 := Int.emod_lt_of_pos (t % 100 * P.2) (show 0 < p by omega)
            rw [d1, d2, d3, d4, tm_nn (show 0 ≤ t / 10000 * P.1 + t / 100 % 100 by omega), tm_nn n2]
            refine ⟨r3 (by omega), hpt, fun e => absurd e p0, fun _ => ?_⟩
            repeat (first | refine And.intro (by first | omega | exact not_false) ?_ | refine And.intro (rr (by omega)) ?_ | refine And.intro (r3 (by omega)) ?_ | refine And.intro (r6 (by omega)) ?_)
            refine m_pointAt s1 A1 V.1 (by omega) (by omega) ?_
            simp only [bk239_0, bk239_4, bk239_16, bk239_19, bk239_26, bk239_29, bk239_40, bk239_48, bk239_51, bk239_55, bk239_57, U_iload_n, U_if_lt, U_i2l, U_lconst, U_ldc2_w, U_invokestatic3, U_if_ne, U_bipush, U_ireturn, U_aload_n, U_invokevirtual0, U_invokevirtual1, U_istore_n, U_iconst, U_icmp_eq, U_sipush, U_idiv, U_getfield, U_iald, U_imul, U_irem, U_iadd, U_invokevirtual2, UN_cc, UN_cn, UN_nc, UN_nn, UJ, lget, lset, lset2, entL, wsm, wcat, Option.toList_some, Option.toList_none, List.cons_append, List.nil_append, List.mem_cons, List.not_mem_nil, Prod.mk.injEq, or_false, false_or, or_true, true_or, and_true, true_and, and_false, false_and, and_self, ne_eq, not_false_eq_true, not_true_eq_false, forall_const, true_implies, false_implies, Nat.add_zero, Nat.zero_add, Nat.le_refl, Nat.zero_le, List.set_cons_zero, List.set_cons_succ, List.set_nil, ↓reduceIte, Nat.reduceAdd, Nat.reduceSub, Nat.reduceEqDiff, Nat.reduceLeDiff, Int.reduceEq, Int.reduceNe, Int.reduceNeg, reduceCtorEq]
            exact hq'
        · rw [if_neg q3]
          simp only [bk239_0, bk239_4, bk239_16, bk239_19, bk239_26, bk239_29, bk239_40, bk239_48, bk239_51, bk239_55, bk239_57, U_iload_n, U_if_lt, U_i2l, U_lconst, U_ldc2_w, U_invokestatic3, U_if_ne, U_bipush, U_ireturn, U_aload_n, U_invokevirtual0, U_invokevirtual1, U_istore_n, U_iconst, U_icmp_eq, U_sipush, U_idiv, U_getfield, U_iald, U_imul, U_irem, U_iadd, U_invokevirtual2, UN_cc, UN_cn, UN_nc, UN_nn, UJ, lget, lset, lset2, entL, wsm, wcat, Option.toList_some, Option.toList_none, List.cons_append, List.nil_append, List.mem_cons, List.not_mem_nil, Prod.mk.injEq, or_false, false_or, or_true, true_or, and_true, true_and, and_false, false_and, and_self, ne_eq, not_false_eq_true, not_true_eq_false, forall_const, true_implies, false_implies, Nat.add_zero, Nat.zero_add, Nat.le_refl, Nat.zero_le, List.set_cons_zero, List.set_cons_succ, List.set_nil, ↓reduceIte, Nat.reduceAdd, Nat.reduceSub, Nat.reduceEqDiff, Nat.reduceLeDiff, Int.reduceEq, Int.reduceNe, Int.reduceNeg, reduceCtorEq]
          exact ⟨r3 (by omega), bad N1 S1 C1 (Or.inr q3)⟩
  · rw [if_neg q2]
    simp only [bk239_0, bk239_4, bk239_16, bk239_19, bk239_26, bk239_29, bk239_40, bk239_48, bk239_51, bk239_55, bk239_57, U_iload_n, U_if_lt, U_i2l, U_lconst, U_ldc2_w, U_invokestatic3, U_if_ne, U_bipush, U_ireturn, U_aload_n, U_invokevirtual0, U_invokevirtual1, U_istore_n, U_iconst, U_icmp_eq, U_sipush, U_idiv, U_getfield, U_iald, U_imul, U_irem, U_iadd, U_invokevirtual2, UN_cc, UN_cn, UN_nc, UN_nn, UJ, lget, lset, lset2, entL, wsm, wcat, Option.toList_some, Option.toList_none, List.cons_append, List.nil_append, List.mem_cons, List.not_mem_nil, Prod.mk.injEq, or_false, false_or, or_true, true_or, and_true, true_and, and_false, false_and, and_self, ne_eq, not_false_eq_true, not_true_eq_false, forall_const, true_implies, false_implies, Nat.add_zero, Nat.zero_add, Nat.le_refl, Nat.zero_le, List.set_cons_zero, List.set_cons_succ, List.set_nil, ↓reduceIte, Nat.reduceAdd, Nat.reduceSub, Nat.reduceEqDiff, Nat.reduceLeDiff, Int.reduceEq, Int.reduceNe, Int.reduceNeg, reduceCtorEq]
    exact ⟨r3 (by omega), bad N h (clF.rf N) (Or.inr (by omega))⟩
set_option maxHeartbeats 4000000 in
theorem m_divisor {N : Mem} {Q : Post} {a b : Nat} (ha : a ≤ 100000) (hb : b ≤ 100000) (hQ : Q (some (0, ((Nat.gcd a b : Nat) : Int))) NN N) : CL 241 [(0, (a : Int)), (0, (b : Int)), (9, 0), (9, 0), (9, 0)] NN N Q := by
  have key : ∀ (n x y : Nat) (v : V), y ≤ n → x ≤ 100000 → y ≤ 100000 → Nat.gcd x y = Nat.gcd a b → WP 241 (0, 0) 4 [(0, (a : Int)), (0, (b : Int)), (0, (x : Int)), (0, (y : Int)), v] [] NN N Q := by
    intro n
    induction n with
    | zero =>
      intro x y v h1 h2 h3 h4
      obtain rfl : y = 0 := by omega
      rw [Nat.gcd_zero_right] at h4
      rw [← h4] at hQ
      refine WP.run [(241, 4)] [] 40 ?_
      simp only [bk241_0, bk241_4, bk241_8, bk241_21, U_iload_n, U_istore_n, U_if_eq, U_irem, U_istore, U_iload, U_goto, U_ireturn, UN_cc, UN_cn, UN_nc, UN_nn, UJ, lget, lset, lset2, entL, wsm, wcat, Option.toList_some, Option.toList_none, List.cons_append, List.nil_append, List.mem_cons, List.not_mem_nil, Prod.mk.injEq, or_false, false_or, or_true, true_or, and_true, true_and, and_false, false_and, and_self, ne_eq, not_false_eq_true, not_true_eq_false, forall_const, true_implies, false_implies, Nat.add_zero, Nat.zero_add, Nat.le_refl, Nat.zero_le, List.set_cons_zero, List.set_cons_succ, List.set_nil, ↓reduceIte, Nat.reduceAdd, Nat.reduceSub, Nat.reduceEqDiff, Nat.reduceLeDiff, Int.reduceEq, Int.reduceNe, Int.reduceNeg, reduceCtorEq]
      exact ⟨r3 (by omega), fun _ => hQ, fun e => absurd rfl e⟩
    | succ n ih =>
      intro x y v h1 h2 h3 h4
      by_cases c : y = 0
      · subst c
        rw [Nat.gcd_zero_right] at h4
        rw [← h4] at hQ
        refine WP.run [(241, 4)] [] 40 ?_
        simp only [bk241_0, bk241_4, bk241_8, bk241_21, U_iload_n, U_istore_n, U_if_eq, U_irem, U_istore, U_iload, U_goto, U_ireturn, UN_cc, UN_cn, UN_nc, UN_nn, UJ, lget, lset, lset2, entL, wsm, wcat, Option.toList_some, Option.toList_none, List.cons_append, List.nil_append, List.mem_cons, List.not_mem_nil, Prod.mk.injEq, or_false, false_or, or_true, true_or, and_true, true_and, and_false, false_and, and_self, ne_eq, not_false_eq_true, not_true_eq_false, forall_const, true_implies, false_implies, Nat.add_zero, Nat.zero_add, Nat.le_refl, Nat.zero_le, List.set_cons_zero, List.set_cons_succ, List.set_nil, ↓reduceIte, Nat.reduceAdd, Nat.reduceSub, Nat.reduceEqDiff, Nat.reduceLeDiff, Int.reduceEq, Int.reduceNe, Int.reduceNeg, reduceCtorEq]
        exact ⟨r3 (by omega), fun _ => hQ, fun e => absurd rfl e⟩
      · have em : (x : Int).tmod (y : Int) = ((x % y : Nat) : Int) := by rw [tm_nn (by omega), Int.natCast_emod]
        have hm : x % y < y := Nat.mod_lt _ (by omega)
        refine WP.run [(241, 4)] [] 40 ?_
        simp only [bk241_0, bk241_4, bk241_8, bk241_21, U_iload_n, U_istore_n, U_if_eq, U_irem, U_istore, U_iload, U_goto, U_ireturn, UN_cc, UN_cn, UN_nc, UN_nn, UJ, lget, lset, lset2, entL, wsm, wcat, Option.toList_some, Option.toList_none, List.cons_append, List.nil_append, List.mem_cons, List.not_mem_nil, Prod.mk.injEq, or_false, false_or, or_true, true_or, and_true, true_and, and_false, false_and, and_self, ne_eq, not_false_eq_true, not_true_eq_false, forall_const, true_implies, false_implies, Nat.add_zero, Nat.zero_add, Nat.le_refl, Nat.zero_le, List.set_cons_zero, List.set_cons_succ, List.set_nil, ↓reduceIte, Nat.reduceAdd, Nat.reduceSub, Nat.reduceEqDiff, Nat.reduceLeDiff, Int.reduceEq, Int.reduceNe, Int.reduceNeg, reduceCtorEq, em]
        refine ⟨r3 (by omega), fun e => absurd e (by omega), fun _ => ⟨r3 (by omega), r3 (by omega), by omega, ?_⟩⟩
        refine ih y (x % y) _ (by omega) h3 (by omega) ?_
        rw [← h4, Nat.gcd_comm x y, Nat.gcd_rec y x, Nat.gcd_comm]
  refine WP.run [(241, 4)] [] 40 ?_
  simp only [bk241_0, bk241_4, bk241_8, bk241_21, U_iload_n, U_istore_n, U_if_eq, U_irem, U_istore, U_iload, U_goto, U_ireturn, UN_cc, UN_cn, UN_nc, UN_nn, UJ, lget, lset, lset2, entL, wsm, wcat, Option.toList_some, Option.toList_none, List.cons_append, List.nil_append, List.mem_cons, List.not_mem_nil, Prod.mk.injEq, or_false, false_or, or_true, true_or, and_true, true_and, and_false, false_and, and_self, ne_eq, not_false_eq_true, not_true_eq_false, forall_const, true_implies, false_implies, Nat.add_zero, Nat.zero_add, Nat.le_refl, Nat.zero_le, List.set_cons_zero, List.set_cons_succ, List.set_nil, ↓reduceIte, Nat.reduceAdd, Nat.reduceSub, Nat.reduceEqDiff, Nat.reduceLeDiff, Int.reduceEq, Int.reduceNe, Int.reduceNeg, reduceCtorEq]
  exact key b a b _ (Nat.le_refl _) ha hb rfl
theorem nsum_more {E : Nat → Nat} {P : Nat} (h : ∀ a, P ≤ a → E a = 0) : ∀ d, nsum E (P + d) = nsum E P
  | 0 => rfl
  | d + 1 => by show nsum E (P + d) + E (P + d) = _; rw [nsum_more h d, h _ (by omega), Nat.add_zero]
theorem nsum_one {E : Nat → Nat} {a : Nat} : ∀ n, nsum (fun j => if j = a then E j else 0) n = if a < n then E a else 0
  | 0 => by rw [if_neg (by omega)]; rfl
  | n + 1 => by
    show nsum _ n + (if n = a then E n else 0) = _
    rw [nsum_one n]
    by_cases e : n = a
    · subst e; rw [if_neg (by omega), if_pos rfl, if_pos (by omega), Nat.zero_add]
    · rw [if_neg e, Nat.add_zero]
      by_cases c : a < n
      · rw [if_pos c, if_pos (by omega)]
      · rw [if_neg c, if_neg (by omega)]
theorem nsum_cg {E F : Nat → Nat} : ∀ n, (∀ j, j < n → E j = F j) → nsum E n = nsum F n
  | 0, _ => rfl
  | n + 1, h => by show nsum E n + E n = nsum F n + F n; rw [nsum_cg n (fun j hj => h j (by omega)), h n (by omega)]
/-- what is shared with one amount, or with all together -/
def shE (p : Int) (E : Nat → Nat) (a : Int) : Nat := if a = p then nsum E 13 else E a.toNat
set_option maxHeartbeats 8000000 in
theorem m_shared {p : Int} {N : Mem} {Q : Post} {E : Nat → Nat} {n : Nat} {a : Int} (hp : Pr p) (hz : Fz N) (hP : N 190 0 = p) (hE : ∀ a : Nat, a < 13 → N 197 (a : Int) = (E a : Int)) (hB : ∀ a, E a ≤ 20) (h0 : ∀ a : Nat, p ≤ (a : Int) → E a = 0) (hn : n ≤ 12) (ha : 0 ≤ a ∧ a ≤ p) (hQ : Q (some (0, ((Nat.gcd n (shE p E a) : Nat) : Int))) NN N) : CL 242 [(2, 190), (0, (n : Int)), (0, a), (9, 0), (9, 0)] NN N Q := by
  have hpp := hp.pos
  have fin : nsum (fun j => if (j : Int) = a ∨ a = p then E j else 0) p.toNat = shE p E a := by
    unfold shE
    by_cases c : a = p
    · rw [if_pos c, nsum_cg (F := E) _ (fun j _ => if_pos (Or.inr c))]
      have := nsum_more (E := E) (P := p.toNat) (fun a h => h0 a (by omega)) (13 - p.toNat)
      rw [show p.toNat + (13 - p.toNat) = 13 by omega] at this
      exact this.symm
    · rw [if_neg c, nsum_cg (F := fun j => if j = a.toNat then E j else 0) _ (fun j _ => by
        by_cases w : (j : Int) = a
        · rw [if_pos (Or.inl w), if_pos (by omega)]
        · rw [if_neg (by omega), if_neg (by omega)]), nsum_one, if_pos (by omega)]
  have hb := nsum_le (E := fun j => if (j : Int) = a ∨ a = p then E j else 0) (B := 20) (fun k => by have := hB k; show (if (k : Int) = a ∨ a = p then E k else 0) ≤ 20; split <;> omega)
  have key : ∀ (m k : Nat), k + m = p.toNat → WP 242 (0, 0) 5 [(2, 190), (0, (n : Int)), (0, a), (0, (nsum (fun j => if (j : Int) = a ∨ a = p then E j else 0) k : Int)), (0, (k : Int))] [] NN N Q := by
    intro m
    induction m with
    | zero =>
      intro k hk
      obtain rfl : k = p.toNat := by omega
      have hbk := hb p.toNat
      refine WP.run [(242, 5)] [] 60 ?_
      simp only [bk242_0, bk242_5, bk242_14, bk242_21, bk242_29, bk242_39, bk242_40, bk242_48, U_iconst, U_istore_n, U_istore, U_iload, U_aload_n, U_getfield, U_icmp_ge, U_iload_n, U_icmp_eq, U_icmp_ne, U_iald, U_goto, U_iadd, U_iinc, U_invokestatic2, U_ireturn, UN_cc, UN_cn, UN_nc, UN_nn, UJ, lget, lset, lset2, entL, wsm, wcat, Option.toList_some, Option.toList_none, List.cons_append, List.nil_append, List.mem_cons, List.not_mem_nil, Prod.mk.injEq, or_false, false_or, or_true, true_or, and_true, true_and, and_false, false_and, and_self, ne_eq, not_false_eq_true, not_true_eq_false, forall_const, true_implies, false_implies, Nat.add_zero, Nat.zero_add, Nat.le_refl, Nat.zero_le, List.set_cons_zero, List.set_cons_succ, List.set_nil, ↓reduceIte, Nat.reduceAdd, Nat.reduceSub, Nat.reduceEqDiff, Nat.reduceLeDiff, Int.reduceEq, Int.reduceNe, Int.reduceNeg, reduceCtorEq, kd190, hP]
      refine ⟨rr (by omega), fun e => absurd e (by omega), fun _ => ?_⟩
      rw [fin] at hbk ⊢
      refine m_divisor (by omega) (by omega) ?_
      simp only [bk242_0, bk242_5, bk242_14, bk242_21, bk242_29, bk242_39, bk242_40, bk242_48, U_iconst, U_istore_n, U_istore, U_iload, U_aload_n, U_getfield, U_icmp_ge, U_iload_n, U_icmp_eq, U_icmp_ne, U_iald, U_goto, U_iadd, U_iinc, U_invokestatic2, U_ireturn, UN_cc, UN_cn, UN_nc, UN_nn, UJ, lget, lset, lset2, entL, wsm, wcat, Option.toList_some, Option.toList_none, List.cons_append, List.nil_append, List.mem_cons, List.not_mem_nil, Prod.mk.injEq, or_false, false_or, or_true, true_or, and_true, true_and, and_false, false_and, and_self, ne_eq, not_false_eq_true, not_true_eq_false, forall_const, true_implies, false_implies, Nat.add_zero, Nat.zero_add, Nat.le_refl, Nat.zero_le, List.set_cons_zero, List.set_cons_succ, List.set_nil, ↓reduceIte, Nat.reduceAdd, Nat.reduceSub, Nat.reduceEqDiff, Nat.reduceLeDiff, Int.reduceEq, Int.reduceNe, Int.reduceNeg, reduceCtorEq]
      exact hQ
    | succ m ih =>
      intro k hk
      have e1 := hE k (by omega)
      have nx := ih (k + 1) (by omega)
      have es : nsum (fun j => if (j : Int) = a ∨ a = p then E j else 0) (k + 1) = nsum (fun j => if (j : Int) = a ∨ a = p then E j else 0) k + (if (k : Int) = a ∨ a = p then E k else 0) := rfl
      rw [es] at nx
      generalize nsum (fun j => if (j : Int) = a ∨ a = p then E j else 0) k = S at *
      refine WP.run [(242, 5)] [] 60 ?_
      simp only [bk242_0, bk242_5, bk242_14, bk242_21, bk242_29, bk242_39, bk242_40, bk242_48, U_iconst, U_istore_n, U_istore, U_iload, U_aload_n, U_getfield, U_icmp_ge, U_iload_n, U_icmp_eq, U_icmp_ne, U_iald, U_goto, U_iadd, U_iinc, U_invokestatic2, U_ireturn, UN_cc, UN_cn, UN_nc, UN_nn, UJ, lget, lset, lset2, entL, wsm, wcat, Option.toList_some, Option.toList_none, List.cons_append, List.nil_append, List.mem_cons, List.not_mem_nil, Prod.mk.injEq, or_false, false_or, or_true, true_or, and_true, true_and, and_false, false_and, and_self, ne_eq, not_false_eq_true, not_true_eq_false, forall_const, true_implies, false_implies, Nat.add_zero, Nat.zero_add, Nat.le_refl, Nat.zero_le, List.set_cons_zero, List.set_cons_succ, List.set_nil, ↓reduceIte, Nat.reduceAdd, Nat.reduceSub, Nat.reduceEqDiff, Nat.reduceLeDiff, Int.reduceEq, Int.reduceNe, Int.reduceNeg, reduceCtorEq, kd190, kd197, ln197, z190_11 hz, hP, e1]
      have yes : ((k : Int) = a ∨ a = p) → WP 242 (0, 0) 5 [(2, 190), (0, (n : Int)), (0, a), (0, (S : Int) + (E k : Int)), (0, (k : Int) + 1)] [] NN N Q := fun e => by
        rw [if_pos e] at nx; exact nx
      refine ⟨rr (by omega), fun _ => ⟨rr (by omega), fun e => ⟨by omega, by omega, yes (Or.inl e)⟩, fun e => ⟨rr (by omega), fun e2 => ⟨by omega, by omega, yes (Or.inr e2)⟩, fun e2 => ?_⟩⟩, fun e => absurd (by omega) e⟩
      rw [if_neg (by omega)] at nx
      rw [Int.add_zero]; exact nx
  refine WP.run [(242, 5)] [] 60 ?_
  simp only [bk242_0, bk242_5, bk242_14, bk242_21, bk242_29, bk242_39, bk242_40, bk242_48, U_iconst, U_istore_n, U_istore, U_iload, U_aload_n, U_getfield, U_icmp_ge, U_iload_n, U_icmp_eq, U_icmp_ne, U_iald, U_goto, U_iadd, U_iinc, U_invokestatic2, U_ireturn, UN_cc, UN_cn, UN_nc, UN_nn, UJ, lget, lset, lset2, entL, wsm, wcat, Option.toList_some, Option.toList_none, List.cons_append, List.nil_append, List.mem_cons, List.not_mem_nil, Prod.mk.injEq, or_false, false_or, or_true, true_or, and_true, true_and, and_false, false_and, and_self, ne_eq, not_false_eq_true, not_true_eq_false, forall_const, true_implies, false_implies, Nat.add_zero, Nat.zero_add, Nat.le_refl, Nat.zero_le, List.set_cons_zero, List.set_cons_succ, List.set_nil, ↓reduceIte, Nat.reduceAdd, Nat.reduceSub, Nat.reduceEqDiff, Nat.reduceLeDiff, Int.reduceEq, Int.reduceNe, Int.reduceNeg, reduceCtorEq]
  exact key p.toNat 0 (by omega)
set_option maxHeartbeats 4000000 in
theorem m_isFold {p : Int} {N : Mem} {Q : Post} {n : Int} (hp : Pr p) (hP : N 190 0 = p) (hn : R32 n) (h1 : isRt p n → Q (some (0, 1)) NN N) (h0 : ¬ isRt p n → Q (some (0, 0)) NN N) : CL 243 [(2, 190), (0, n)] NN N Q := by
  have hpp := hp.pos
  refine WP.run [] [] 60 ?_
  simp only [bk243_0, bk243_14, bk243_23, bk243_27, bk243_28, U_iload_n, U_i2l, U_ldc2_w, U_invokestatic3, U_if_eq, U_aload_n, U_getfield, U_irem, U_iconst, U_goto, U_ireturn, UN_cc, UN_cn, UN_nc, UN_nn, UJ, lget, lset, lset2, entL, wsm, wcat, Option.toList_some, Option.toList_none, List.cons_append, List.nil_append, List.mem_cons, List.not_mem_nil, Prod.mk.injEq, or_false, false_or, or_true, true_or, and_true, true_and, and_false, false_and, and_self, ne_eq, not_false_eq_true, not_true_eq_false, forall_const, true_implies, false_implies, Nat.add_zero, Nat.zero_add, Nat.le_refl, Nat.zero_le, List.set_cons_zero, List.set_cons_succ, List.set_nil, ↓reduceIte, Nat.reduceAdd, Nat.reduceSub, Nat.reduceEqDiff, Nat.reduceLeDiff, Int.reduceEq, Int.reduceNe, Int.reduceNeg, reduceCtorEq]
  refine ⟨hn, m_in hn.l (r64 (by omega)) (r64 (by omega)) ?_⟩
  by_cases q : 2 ≤ n ∧ n ≤ 12
  · rw [if_pos q]
    simp only [bk243_0, bk243_14, bk243_23, bk243_27, bk243_28, U_iload_n, U_i2l, U_ldc2_w, U_invokestatic3, U_if_eq, U_aload_n, U_getfield, U_irem, U_iconst, U_goto, U_ireturn, UN_cc, UN_cn, UN_nc, UN_nn, UJ, lget, lset, lset2, entL, wsm, wcat, Option.toList_some, Option.toList_none, List.cons_append, List.nil_append, List.mem_cons, List.not_mem_nil, Prod.mk.injEq, or_false, false_or, or_true, true_or, and_true, true_and, and_false, false_and, and_self, ne_eq, not_false_eq_true, not_true_eq_false, forall_const, true_implies, false_implies, Nat.add_zero, Nat.zero_add, Nat.le_refl, Nat.zero_le, List.set_cons_zero, List.set_cons_succ, List.set_nil, ↓reduceIte, Nat.reduceAdd, Nat.reduceSub, Nat.reduceEqDiff, Nat.reduceLeDiff, Int.reduceEq, Int.reduceNe, Int.reduceNeg, reduceCtorEq, kd190, hP]
    rw [tm_nn (by omega)]
    have m1 := Int.emod_nonneg n (show p ≠ 0 by omega)
    have m2 := Int.emod_lt_of_pos n (show 0 < p by omega)
    refine ⟨r3 (by omega), hn, r3 (by omega), by omega, r3 (by omega), fun e => ?_, fun e => ?_⟩
    · exact h0 (fun w => w.2.2 e)
    · exact h1 ⟨q.1, q.2, e⟩
  · rw [if_neg q]
    simp only [bk243_0, bk243_14, bk243_23, bk243_27, bk243_28, U_iload_n, U_i2l, U_ldc2_w, U_invokestatic3, U_if_eq, U_aload_n, U_getfield, U_irem, U_iconst, U_goto, U_ireturn, UN_cc, UN_cn, UN_nc, UN_nn, UJ, lget, lset, lset2, entL, wsm, wcat, Option.toList_some, Option.toList_none, List.cons_append, List.nil_append, List.mem_cons, List.not_mem_nil, Prod.mk.injEq, or_false, false_or, or_true, true_or, and_true, true_and, and_false, false_and, and_self, ne_eq, not_false_eq_true, not_true_eq_false, forall_const, true_implies, false_implies, Nat.add_zero, Nat.zero_add, Nat.le_refl, Nat.zero_le, List.set_cons_zero, List.set_cons_succ, List.set_nil, ↓reduceIte, Nat.reduceAdd, Nat.reduceSub, Nat.reduceEqDiff, Nat.reduceLeDiff, Int.reduceEq, Int.reduceNe, Int.reduceNeg, reduceCtorEq]
    exact ⟨r3 (by omega), h0 (fun w => q ⟨w.1, w.2.1⟩)⟩
theorem gcf_more {E : Nat → Nat} {n P : Nat} (h : ∀ a, P ≤ a → E a = 0) : ∀ d, gcf n E (P + d) = gcf n E P
  | 0 => rfl
  | d + 1 => by show Nat.gcd (gcf n E (P + d)) (E (P + d)) = _; rw [gcf_more h d, h _ (by omega), Nat.gcd_zero_right]
theorem wis_more {E : Nat → Nat} {n P : Nat} (h : ∀ a, P ≤ a → E a = 0) : ∀ d, wis n E (P + d) = wis n E P
  | 0 => rfl
  | d + 1 => by
    show wis n E (P + d) + ((n : Int) - ((Nat.gcd n (E (P + d)) : Nat) : Int)) = _
    rw [wis_more h d, h _ (by omega), Nat.gcd_zero_right, Int.sub_self, Int.add_zero]
set_option maxHeartbeats 8000000 in
theorem q_genus {p : Int} {g : Nat} {f : Pz p} {pu : List Int} {rg : Nat → Pz p × Pz p} {A tl : Nat → Int} {E : Nat → Nat} {N : Mem} {Q : Post} {n : Int} (h : MS g f pu rg A tl E N) (V : VS g f pu rg A tl E) (hn : R32 n) (hQ : Q (some (0, oGenus p E n)) NN N) : CL 244 [(2, 190), (0, n), (9, 0), (9, 0), (9, 0)] NN N Q := by
  have hp := V.1
  have hpp := hp.pos
  have hz := h.fz
  have hP := h.p0
  have hE := h.2.2.2.2.2.2.1
  have hB := V.2.2.2.2.2.1
  have h0 := V.2.2.2.2.2.2
  unfold oGenus at hQ
  refine WP.run [(244, 21)] [] 60 ?_
  simp only [bk244_0, bk244_8, bk244_11, bk244_21, bk244_30, bk244_51, bk244_65, bk244_66, bk244_73, bk244_78, bk244_83, bk244_88, U_aload_n, U_iload_n, U_invokevirtual1, U_if_ne, U_bipush, U_ireturn, U_istore_n, U_imul, U_iconst, U_istore, U_iload, U_getfield, U_icmp_gt, U_invokevirtual2, U_isub, U_iadd, U_icmp_ge, U_iald, U_invokestatic2, U_goto, U_iinc, U_icmp_le, U_idiv, UN_cc, UN_cn, UN_nc, UN_nn, UJ, lget, lset, lset2, entL, wsm, wcat, Option.toList_some, Option.toList_none, List.cons_append, List.nil_append, List.mem_cons, List.not_mem_nil, Prod.mk.injEq, or_false, false_or, or_true, true_or, and_true, true_and, and_false, false_and, and_self, ne_eq, not_false_eq_true, not_true_eq_false, forall_const, true_implies, false_implies, Nat.add_zero, Nat.zero_add, Nat.le_refl, Nat.zero_le, List.set_cons_zero, List.set_cons_succ, List.set_nil, ↓reduceIte, Nat.reduceAdd, Nat.reduceSub, Nat.reduceEqDiff, Nat.reduceLeDiff, Int.reduceEq, Int.reduceNe, Int.reduceNeg, reduceCtorEq, kd190]
  refine m_isFold hp hP hn (fun q => ?_) (fun q => ?_)
  · rw [if_pos q] at hQ
    obtain ⟨n, rfl⟩ : ∃ m : Nat, n = m := ⟨n.toNat, by have := q.1; omega⟩
    have n2 := q.1
    have n12 := q.2.1
    rw [Int.toNat_natCast] at hQ
    have eg := gcf_more (E := E) (n := n) (P := p.toNat) (fun a h => h0 a (by omega)) (13 - p.toNat)
    have ew := wis_more (E := E) (n := n) (P := p.toNat) (fun a h => h0 a (by omega)) (13 - p.toNat)
    rw [show p.toNat + (13 - p.toNat) = 13 by omega] at eg ew
    rw [eg, ew] at hQ
    have gl := gcf_le n E (by omega)
    have wl := wis_rg (n := n) E (by omega)
    have key : ∀ (m a : Nat), a + m = p.toNat → WP 244 (0, 0) 21 [(2, 190), (0, (n : Int)), (0, (gcf n E a : Int)), (0, -2 * (n : Int) + wis n E a), (0, (a : Int))] [] NN N Q := by
      intro m
      induction m with
      | zero =>
        intro a ha
        obtain rfl : a = p.toNat := by omega
        have w1 := wl p.toNat
        have g1 := gl p.toNat
        have gg : Nat.gcd n (nsum E 13) ≤ n := Nat.le_of_dvd (by omega) (Nat.gcd_dvd_left _ _)
        have esh : shE p E ((p.toNat : Nat) : Int) = nsum E 13 := by unfold shE; rw [if_pos (by omega)]
        refine WP.run [(244, 21)] [] 60 ?_
        simp only [bk244_0, bk244_8, bk244_11, bk244_21, bk244_30, bk244_51, bk244_65, bk244_66, bk244_73, bk244_78, bk244_83, bk244_88, U_aload_n, U_iload_n, U_invokevirtual1, U_if_ne, U_bipush, U_ireturn, U_istore_n, U_imul, U_iconst, U_istore, U_iload, U_getfield, U_icmp_gt, U_invokevirtual2, U_isub, U_iadd, U_icmp_ge, U_iald, U_invokestatic2, U_goto, U_iinc, U_icmp_le, U_idiv, UN_cc, UN_cn, UN_nc, UN_nn, UJ, lget, lset, lset2, entL, wsm, wcat, Option.toList_some, Option.toList_none, List.cons_append, List.nil_append, List.mem_cons, List.not_mem_nil, Prod.mk.injEq, or_false, false_or, or_true, true_or, and_true, true_and, and_false, false_and, and_self, ne_eq, not_false_eq_true, not_true_eq_false, forall_const, true_implies, false_implies, Nat.add_zero, Nat.zero_add, Nat.le_refl, Nat.zero_le, List.set_cons_zero, List.set_cons_succ, List.set_nil, ↓reduceIte, Nat.reduceAdd, Nat.reduceSub, Nat.reduceEqDiff, Nat.reduceLeDiff, Int.reduceEq, Int.reduceNe, Int.reduceNeg, reduceCtorEq, kd190, hP]
        refine ⟨rr (by omega), fun e => absurd e (by omega), fun _ => ?_⟩
        refine m_shared hp hz hP hE hB h0 (by omega) (by omega) ?_
        rw [esh]
        simp only [bk244_0, bk244_8, bk244_11, bk244_21, bk244_30, bk244_51, bk244_65, bk244_66, bk244_73, bk244_78, bk244_83, bk244_88, U_aload_n, U_iload_n, U_invokevirtual1, U_if_ne, U_bipush, U_ireturn, U_istore_n, U_imul, U_iconst, U_istore, U_iload, U_getfield, U_icmp_gt, U_invokevirtual2, U_isub, U_iadd, U_icmp_ge, U_iald, U_invokestatic2, U_goto, U_iinc, U_icmp_le, U_idiv, UN_cc, UN_cn, UN_nc, UN_nn, UJ, lget, lset, lset2, entL, wsm, wcat, Option.toList_some, Option.toList_none, List.cons_append, List.nil_append, List.mem_cons, List.not_mem_nil, Prod.mk.injEq, or_false, false_or, or_true, true_or, and_true, true_and, and_false, false_and, and_self, ne_eq, not_false_eq_true, not_true_eq_false, forall_const, true_implies, false_implies, Nat.add_zero, Nat.zero_add, Nat.le_refl, Nat.zero_le, List.set_cons_zero, List.set_cons_succ, List.set_nil, ↓reduceIte, Nat.reduceAdd, Nat.reduceSub, Nat.reduceEqDiff, Nat.reduceLeDiff, Int.reduceEq, Int.reduceNe, Int.reduceNeg, reduceCtorEq, kd190, hP]
        refine ⟨rr (by omega), fun e => absurd e (by omega), fun _ => ?_⟩
        refine WP.run [] [] 60 ?_
        simp only [bk244_0, bk244_8, bk244_11, bk244_21, bk244_30, bk244_51, bk244_65, bk244_66, bk244_73, bk244_78, bk244_83, bk244_88, U_aload_n, U_iload_n, U_invokevirtual1, U_if_ne, U_bipush, U_ireturn, U_istore_n, U_imul, U_iconst, U_istore, U_iload, U_getfield, U_icmp_gt, U_invokevirtual2, U_isub, U_iadd, U_icmp_ge, U_iald, U_invokestatic2, U_goto, U_iinc, U_icmp_le, U_idiv, UN_cc, UN_cn, UN_nc, UN_nn, UJ, lget, lset, lset2, entL, wsm, wcat, Option.toList_some, Option.toList_none, List.cons_append, List.nil_append, List.mem_cons, List.not_mem_nil, Prod.mk.injEq, or_false, false_or, or_true, true_or, and_true, true_and, and_false, false_and, and_self, ne_eq, not_false_eq_true, not_true_eq_false, forall_const, true_implies, false_implies, Nat.add_zero, Nat.zero_add, Nat.le_refl, Nat.zero_le, List.set_cons_zero, List.set_cons_succ, List.set_nil, ↓reduceIte, Nat.reduceAdd, Nat.reduceSub, Nat.reduceEqDiff, Nat.reduceLeDiff, Int.reduceEq, Int.reduceNe, Int.reduceNeg, reduceCtorEq, kd190, hP]
        refine ⟨rr (by omega), fun _ => ⟨rr (by omega), fun e => ?_, fun e => ?_⟩, fun e => absurd (by omega) e⟩
        · rw [if_neg (by omega)] at hQ; exact hQ
        · rw [if_pos (by omega)] at hQ
          rw [show -2 * (n : Int) + wis n E p.toNat + ((n : Int) - ((Nat.gcd n (nsum E 13) : Nat) : Int)) + 2 = 2 - 2 * (n : Int) + (n : Int) - ((Nat.gcd n (nsum E 13) : Nat) : Int) + wis n E p.toNat by omega]
          exact ⟨r3 (by omega), r3 (by omega), hQ⟩
      | succ m ih =>
        intro a ha
        have e1 := hE a (by omega)
        have w1 := wl a
        have g1 := gl a
        have b1 := hB a
        have esh : shE p E (a : Int) = E a := by unfold shE; rw [if_neg (by omega), Int.toNat_natCast]
        have nx := ih (a + 1) (by omega)
        have es : wis n E (a + 1) = wis n E a + ((n : Int) - ((Nat.gcd n (E a) : Nat) : Int)) := rfl
        rw [es, ← Int.add_assoc] at nx
        refine WP.run [(244, 21)] [] 60 ?_
        simp only [bk244_0, bk244_8, bk244_11, bk244_21, bk244_30, bk244_51, bk244_65, bk244_66, bk244_73, bk244_78, bk244_83, bk244_88, U_aload_n, U_iload_n, U_invokevirtual1, U_if_ne, U_bipush, U_ireturn, U_istore_n, U_imul, U_iconst, U_istore, U_iload, U_getfield, U_icmp_gt, U_invokevirtual2, U_isub, U_iadd, U_icmp_ge, U_iald, U_invokestatic2, U_goto, U_iinc, U_icmp_le, U_idiv, UN_cc, UN_cn, UN_nc, UN_nn, UJ, lget, lset, lset2, entL, wsm, wcat, Option.toList_some, Option.toList_none, List.cons_append, List.nil_append, List.mem_cons, List.not_mem_nil, Prod.mk.injEq, or_false, false_or, or_true, true_or, and_true, true_and, and_false, false_and, and_self, ne_eq, not_false_eq_true, not_true_eq_false, forall_const, true_implies, false_implies, Nat.add_zero, Nat.zero_add, Nat.le_refl, Nat.zero_le, List.set_cons_zero, List.set_cons_succ, List.set_nil, ↓reduceIte, Nat.reduceAdd, Nat.reduceSub, Nat.reduceEqDiff, Nat.reduceLeDiff, Int.reduceEq, Int.reduceNe, Int.reduceNeg, reduceCtorEq, kd190, hP]
        refine ⟨rr (by omega), fun e => absurd e (by omega), fun _ => ?_⟩
        refine m_shared hp hz hP hE hB h0 (by omega) (by omega) ?_
        rw [esh]
        simp only [bk244_0, bk244_8, bk244_11, bk244_21, bk244_30, bk244_51, bk244_65, bk244_66, bk244_73, bk244_78, bk244_83, bk244_88, U_aload_n, U_iload_n, U_invokevirtual1, U_if_ne, U_bipush, U_ireturn, U_istore_n, U_imul, U_iconst, U_istore, U_iload, U_getfield, U_icmp_gt, U_invokevirtual2, U_isub, U_iadd, U_icmp_ge, U_iald, U_invokestatic2, U_goto, U_iinc, U_icmp_le, U_idiv, UN_cc, UN_cn, UN_nc, UN_nn, UJ, lget, lset, lset2, entL, wsm, wcat, Option.toList_some, Option.toList_none, List.cons_append, List.nil_append, List.mem_cons, List.not_mem_nil, Prod.mk.injEq, or_false, false_or, or_true, true_or, and_true, true_and, and_false, false_and, and_self, ne_eq, not_false_eq_true, not_true_eq_false, forall_const, true_implies, false_implies, Nat.add_zero, Nat.zero_add, Nat.le_refl, Nat.zero_le, List.set_cons_zero, List.set_cons_succ, List.set_nil, ↓reduceIte, Nat.reduceAdd, Nat.reduceSub, Nat.reduceEqDiff, Nat.reduceLeDiff, Int.reduceEq, Int.reduceNe, Int.reduceNeg, reduceCtorEq, kd190, kd197, ln197, z190_11 hz, hP, e1]
        refine ⟨rr (by omega), fun _ => ⟨by omega, by omega, ?_⟩, fun e => absurd (by omega) e⟩
        refine m_divisor (a := gcf n E a) (b := E a) (by omega) (by omega) ?_
        simp only [bk244_0, bk244_8, bk244_11, bk244_21, bk244_30, bk244_51, bk244_65, bk244_66, bk244_73, bk244_78, bk244_83, bk244_88, U_aload_n, U_iload_n, U_invokevirtual1, U_if_ne, U_bipush, U_ireturn, U_istore_n, U_imul, U_iconst, U_istore, U_iload, U_getfield, U_icmp_gt, U_invokevirtual2, U_isub, U_iadd, U_icmp_ge, U_iald, U_invokestatic2, U_goto, U_iinc, U_icmp_le, U_idiv, UN_cc, UN_cn, UN_nc, UN_nn, UJ, lget, lset, lset2, entL, wsm, wcat, Option.toList_some, Option.toList_none, List.cons_append, List.nil_append, List.mem_cons, List.not_mem_nil, Prod.mk.injEq, or_false, false_or, or_true, true_or, and_true, true_and, and_false, false_and, and_self, ne_eq, not_false_eq_true, not_true_eq_false, forall_const, true_implies, false_implies, Nat.add_zero, Nat.zero_add, Nat.le_refl, Nat.zero_le, List.set_cons_zero, List.set_cons_succ, List.set_nil, ↓reduceIte, Nat.reduceAdd, Nat.reduceSub, Nat.reduceEqDiff, Nat.reduceLeDiff, Int.reduceEq, Int.reduceNe, Int.reduceNeg, reduceCtorEq]
        exact nx
    have K := key p.toNat 0 (by omega)
    simp only [bk244_0, bk244_8, bk244_11, bk244_21, bk244_30, bk244_51, bk244_65, bk244_66, bk244_73, bk244_78, bk244_83, bk244_88, U_aload_n, U_iload_n, U_invokevirtual1, U_if_ne, U_bipush, U_ireturn, U_istore_n, U_imul, U_iconst, U_istore, U_iload, U_getfield, U_icmp_gt, U_invokevirtual2, U_isub, U_iadd, U_icmp_ge, U_iald, U_invokestatic2, U_goto, U_iinc, U_icmp_le, U_idiv, UN_cc, UN_cn, UN_nc, UN_nn, UJ, lget, lset, lset2, entL, wsm, wcat, Option.toList_some, Option.toList_none, List.cons_append, List.nil_append, List.mem_cons, List.not_mem_nil, Prod.mk.injEq, or_false, false_or, or_true, true_or, and_true, true_and, and_false, false_and, and_self, ne_eq, not_false_eq_true, not_true_eq_false, forall_const, true_implies, false_implies, Nat.add_zero, Nat.zero_add, Nat.le_refl, Nat.zero_le, List.set_cons_zero, List.set_cons_succ, List.set_nil, ↓reduceIte, Nat.reduceAdd, Nat.reduceSub, Nat.reduceEqDiff, Nat.reduceLeDiff, Int.reduceEq, Int.reduceNe, Int.reduceNeg, reduceCtorEq]
    refine ⟨r3 (by omega), ?_⟩
    have e0 : -2 * (n : Int) + wis n E 0 = -2 * (n : Int) := Int.add_zero _
    rw [e0] at K
    exact K
  · rw [if_neg q] at hQ
    simp only [bk244_0, bk244_8, bk244_11, bk244_21, bk244_30, bk244_51, bk244_65, bk244_66, bk244_73, bk244_78, bk244_83, bk244_88, U_aload_n, U_iload_n, U_invokevirtual1, U_if_ne, U_bipush, U_ireturn, U_istore_n, U_imul, U_iconst, U_istore, U_iload, U_getfield, U_icmp_gt, U_invokevirtual2, U_isub, U_iadd, U_icmp_ge, U_iald, U_invokestatic2, U_goto, U_iinc, U_icmp_le, U_idiv, UN_cc, UN_cn, UN_nc, UN_nn, UJ, lget, lset, lset2, entL, wsm, wcat, Option.toList_some, Option.toList_none, List.cons_append, List.nil_append, List.mem_cons, List.not_mem_nil, Prod.mk.injEq, or_false, false_or, or_true, true_or, and_true, true_and, and_false, false_and, and_self, ne_eq, not_false_eq_true, not_true_eq_false, forall_const, true_implies, false_implies, Nat.add_zero, Nat.zero_add, Nat.le_refl, Nat.zero_le, List.set_cons_zero, List.set_cons_succ, List.set_nil, ↓reduceIte, Nat.reduceAdd, Nat.reduceSub, Nat.reduceEqDiff, Nat.reduceLeDiff, Int.reduceEq, Int.reduceNe, Int.reduceNeg, reduceCtorEq]
    exact ⟨r3 (by omega), hQ⟩
set_option maxHeartbeats 4000000 in
theorem q_above {p : Int} {g : Nat} {f : Pz p} {pu : List Int} {rg : Nat → Pz p × Pz p} {A tl : Nat → Int} {E : Nat → Nat} {N : Mem} {Q : Post} {n a : Int} (h : MS g f pu rg A tl E N) (V : VS g f pu rg A tl E) (hn : R32 n) (ha : R32 a) (hQ : Q (some (0, oAbove p E n a)) NN N) : CL 245 [(2, 190), (0, n), (0, a)] NN N Q := by
  have hp := V.1
  have hpp := hp.pos
  have hP := h.p0
  unfold oAbove at hQ
  refine WP.run [] [] 60 ?_
  simp only [bk245_0, bk245_8, bk245_22, bk245_31, bk245_33, U_aload_n, U_iload_n, U_invokevirtual1, U_if_eq, U_i2l, U_lconst, U_getfield, U_invokestatic3, U_invokevirtual2, U_goto, U_bipush, U_ireturn, UN_cc, UN_cn, UN_nc, UN_nn, UJ, lget, lset, lset2, entL, wsm, wcat, Option.toList_some, Option.toList_none, List.cons_append, List.nil_append, List.mem_cons, List.not_mem_nil, Prod.mk.injEq, or_false, false_or, or_true, true_or, and_true, true_and, and_false, false_and, and_self, ne_eq, not_false_eq_true, not_true_eq_false, forall_const, true_implies, false_implies, Nat.add_zero, Nat.zero_add, Nat.le_refl, Nat.zero_le, List.set_cons_zero, List.set_cons_succ, List.set_nil, ↓reduceIte, Nat.reduceAdd, Nat.reduceSub, Nat.reduceEqDiff, Nat.reduceLeDiff, Int.reduceEq, Int.reduceNe, Int.reduceNeg, reduceCtorEq, kd190]
  refine m_isFold hp hP hn (fun q => ?_) (fun q => ?_)
  · simp only [bk245_0, bk245_8, bk245_22, bk245_31, bk245_33, U_aload_n, U_iload_n, U_invokevirtual1, U_if_eq, U_i2l, U_lconst, U_getfield, U_invokestatic3, U_invokevirtual2, U_goto, U_bipush, U_ireturn, UN_cc, UN_cn, UN_nc, UN_nn, UJ, lget, lset, lset2, entL, wsm, wcat, Option.toList_some, Option.toList_none, List.cons_append, List.nil_append, List.mem_cons, List.not_mem_nil, Prod.mk.injEq, or_false, false_or, or_true, true_or, and_true, true_and, and_false, false_and, and_self, ne_eq, not_false_eq_true, not_true_eq_false, forall_const, true_implies, false_implies, Nat.add_zero, Nat.zero_add, Nat.le_refl, Nat.zero_le, List.set_cons_zero, List.set_cons_succ, List.set_nil, ↓reduceIte, Nat.reduceAdd, Nat.reduceSub, Nat.reduceEqDiff, Nat.reduceLeDiff, Int.reduceEq, Int.reduceNe, Int.reduceNeg, reduceCtorEq, kd190, hP]
    refine ⟨r3 (by omega), ha, r3 (by omega), m_in ha.l (r64 (by omega)) (r64 (by omega)) ?_⟩
    by_cases q1 : 0 ≤ a ∧ a ≤ p
    · rw [if_pos q1]
      rw [if_pos ⟨q, q1⟩] at hQ
      obtain ⟨n, rfl⟩ : ∃ m : Nat, n = m := ⟨n.toNat, by have := q.1; omega⟩
      have n12 := q.2.1
      rw [Int.toNat_natCast] at hQ
      simp only [bk245_0, bk245_8, bk245_22, bk245_31, bk245_33, U_aload_n, U_iload_n, U_invokevirtual1, U_if_eq, U_i2l, U_lconst, U_getfield, U_invokestatic3, U_invokevirtual2, U_goto, U_bipush, U_ireturn, UN_cc, UN_cn, UN_nc, UN_nn, UJ, lget, lset, lset2, entL, wsm, wcat, Option.toList_some, Option.toList_none, List.cons_append, List.nil_append, List.mem_cons, List.not_mem_nil, Prod.mk.injEq, or_false, false_or, or_true, true_or, and_true, true_and, and_false, false_and, and_self, ne_eq, not_false_eq_true, not_true_eq_false, forall_const, true_implies, false_implies, Nat.add_zero, Nat.zero_add, Nat.le_refl, Nat.zero_le, List.set_cons_zero, List.set_cons_succ, List.set_nil, ↓reduceIte, Nat.reduceAdd, Nat.reduceSub, Nat.reduceEqDiff, Nat.reduceLeDiff, Int.reduceEq, Int.reduceNe, Int.reduceNeg, reduceCtorEq, kd190]
      refine ⟨r3 (by omega), m_shared hp h.fz hP h.2.2.2.2.2.2.1 V.2.2.2.2.2.1 V.2.2.2.2.2.2 (by omega) q1 ?_⟩
      simp only [bk245_0, bk245_8, bk245_22, bk245_31, bk245_33, U_aload_n, U_iload_n, U_invokevirtual1, U_if_eq, U_i2l, U_lconst, U_getfield, U_invokestatic3, U_invokevirtual2, U_goto, U_bipush, U_ireturn, UN_cc, UN_cn, UN_nc, UN_nn, UJ, lget, lset, lset2, entL, wsm, wcat, Option.toList_some, Option.toList_none, List.cons_append, List.nil_append, List.mem_cons, List.not_mem_nil, Prod.mk.injEq, or_false, false_or, or_true, true_or, and_true, true_and, and_false, false_and, and_self, ne_eq, not_false_eq_true, not_true_eq_false, forall_const, true_implies, false_implies, Nat.add_zero, Nat.zero_add, Nat.le_refl, Nat.zero_le, List.set_cons_zero, List.set_cons_succ, List.set_nil, ↓reduceIte, Nat.reduceAdd, Nat.reduceSub, Nat.reduceEqDiff, Nat.reduceLeDiff, Int.reduceEq, Int.reduceNe, Int.reduceNeg, reduceCtorEq]
      exact hQ
    · rw [if_neg q1]
      rw [if_neg (fun w => q1 w.2)] at hQ
      simp only [bk245_0, bk245_8, bk245_22, bk245_31, bk245_33, U_aload_n, U_iload_n, U_invokevirtual1, U_if_eq, U_i2l, U_lconst, U_getfield, U_invokestatic3, U_invokevirtual2, U_goto, U_bipush, U_ireturn, UN_cc, UN_cn, UN_nc, UN_nn, UJ, lget, lset, lset2, entL, wsm, wcat, Option.toList_some, Option.toList_none, List.cons_append, List.nil_append, List.mem_cons, List.not_mem_nil, Prod.mk.injEq, or_false, false_or, or_true, true_or, and_true, true_and, and_false, false_and, and_self, ne_eq, not_false_eq_true, not_true_eq_false, forall_const, true_implies, false_implies, Nat.add_zero, Nat.zero_add, Nat.le_refl, Nat.zero_le, List.set_cons_zero, List.set_cons_succ, List.set_nil, ↓reduceIte, Nat.reduceAdd, Nat.reduceSub, Nat.reduceEqDiff, Nat.reduceLeDiff, Int.reduceEq, Int.reduceNe, Int.reduceNeg, reduceCtorEq]
      exact ⟨r3 (by omega), hQ⟩
  · rw [if_neg (fun w => q w.1)] at hQ
    simp only [bk245_0, bk245_8, bk245_22, bk245_31, bk245_33, U_aload_n, U_iload_n, U_invokevirtual1, U_if_eq, U_i2l, U_lconst, U_getfield, U_invokestatic3, U_invokevirtual2, U_goto, U_bipush, U_ireturn, UN_cc, UN_cn, UN_nc, UN_nn, UJ, lget, lset, lset2, entL, wsm, wcat, Option.toList_some, Option.toList_none, List.cons_append, List.nil_append, List.mem_cons, List.not_mem_nil, Prod.mk.injEq, or_false, false_or, or_true, true_or, and_true, true_and, and_false, false_and, and_self, ne_eq, not_false_eq_true, not_true_eq_false, forall_const, true_implies, false_implies, Nat.add_zero, Nat.zero_add, Nat.le_refl, Nat.zero_le, List.set_cons_zero, List.set_cons_succ, List.set_nil, ↓reduceIte, Nat.reduceAdd, Nat.reduceSub, Nat.reduceEqDiff, Nat.reduceLeDiff, Int.reduceEq, Int.reduceNe, Int.reduceNeg, reduceCtorEq]
    exact ⟨r3 (by omega), hQ⟩
