/-! THE MODEL'S CALLS: codes -/
set_option maxHeartbeats 8000000 in
theorem q_fc {p : Int} {g : Nat} {f : Pz p} {pu : List Int} {rg : Nat → Pz p × Pz p} {A tl : Nat → Int} {E : Nat → Nat} {N : Mem} {Q : Post} {m : Nat} (h : MS g f pu rg A tl E N) (V : VS g f pu rg A tl E) (q0 : g ≠ 0) (hm : m ≤ 30) (hQ : ∀ N', MS g f pu rg A tl E N' → MG f g N' → CoM N' f (cdL f (m + 1)) → FM [214, 217] [32, 35, 36] N N' → Q none NN N') : CL 227 [(2, 190), (0, (m : Int)), (9, 0), (9, 0)] NN N Q := by
  obtain ⟨G, hA⟩ := h.mg q0
  refine m_findCode G hA V.1 (V.cv q0).1.1 hm fun N1 s1 s2 s3 => ?_
  exact hQ N1 (h.sc (s2.mo rfl rfl) s1.rw) s1 s3 s2
set_option maxHeartbeats 8000000 in
theorem q_code {p : Int} {g : Nat} {f : Pz p} {pu : List Int} {rg : Nat → Pz p × Pz p} {A tl : Nat → Int} {E : Nat → Nat} {N : Mem} {Q : Post} {m w : Int} (h : MS g f pu rg A tl E N) (V : VS g f pu rg A tl E) (hm : R32 m) (hw : R32 w) (hQ : ∀ N', MS g f pu rg A tl E N' → clF N N' → Q (some (0, oCode g f m w)) NN N') : CL 229 [(2, 190), (0, m), (0, w)] NN N Q := by
  have bad : (¬ (0 ≤ m ∧ m ≤ 30) ∨ ¬ (0 ≤ w ∧ w ≤ 1)) → Q (some (0, -2)) NN N := fun e => by
    have := hQ N h (clF.rf N)
    unfold oCode at this
    rw [if_pos e] at this; exact this
  refine WP.run [] [] 60 ?_
  simp only [bk229_0, bk229_7, bk229_17, bk229_20, bk229_27, bk229_30, bk229_39, bk229_46, bk229_50, U_iload_n, U_invokestatic1, U_if_eq, U_i2l, U_lconst, U_invokestatic3, U_if_ne, U_bipush, U_ireturn, U_aload_n, U_invokevirtual0, U_invokevirtual1, U_getfield, U_goto, UN_cc, UN_cn, UN_nc, UN_nn, UJ, lget, lset, lset2, entL, wsm, wcat, Option.toList_some, Option.toList_none, List.cons_append, List.nil_append, List.mem_cons, List.not_mem_nil, Prod.mk.injEq, or_false, false_or, or_true, true_or, and_true, true_and, and_false, false_and, and_self, ne_eq, not_false_eq_true, not_true_eq_false, forall_const, true_implies, false_implies, Nat.add_zero, Nat.zero_add, Nat.le_refl, Nat.zero_le, List.set_cons_zero, List.set_cons_succ, List.set_nil, ↓reduceIte, Nat.reduceAdd, Nat.reduceSub, Nat.reduceEqDiff, Nat.reduceLeDiff, Int.reduceEq, Int.reduceNe, Int.reduceNeg, reduceCtorEq]
  refine m_isPole hm ?_
  by_cases q : 0 ≤ m ∧ m ≤ 30
  · rw [if_pos q]
    simp only [bk229_0, bk229_7, bk229_17, bk229_20, bk229_27, bk229_30, bk229_39, bk229_46, bk229_50, U_iload_n, U_invokestatic1, U_if_eq, U_i2l, U_lconst, U_invokestatic3, U_if_ne, U_bipush, U_ireturn, U_aload_n, U_invokevirtual0, U_invokevirtual1, U_getfield, U_goto, UN_cc, UN_cn, UN_nc, UN_nn, UJ, lget, lset, lset2, entL, wsm, wcat, Option.toList_some, Option.toList_none, List.cons_append, List.nil_append, List.mem_cons, List.not_mem_nil, Prod.mk.injEq, or_false, false_or, or_true, true_or, and_true, true_and, and_false, false_and, and_self, ne_eq, not_false_eq_true, not_true_eq_false, forall_const, true_implies, false_implies, Nat.add_zero, Nat.zero_add, Nat.le_refl, Nat.zero_le, List.set_cons_zero, List.set_cons_succ, List.set_nil, ↓reduceIte, Nat.reduceAdd, Nat.reduceSub, Nat.reduceEqDiff, Nat.reduceLeDiff, Int.reduceEq, Int.reduceNe, Int.reduceNeg, reduceCtorEq]
    refine ⟨r3 (by omega), hw, m_in hw.l (r64 (by omega)) (r64 (by omega)) ?_⟩
    by_cases q1 : 0 ≤ w ∧ w ≤ 1
    · rw [if_pos q1]
      simp only [bk229_0, bk229_7, bk229_17, bk229_20, bk229_27, bk229_30, bk229_39, bk229_46, bk229_50, U_iload_n, U_invokestatic1, U_if_eq, U_i2l, U_lconst, U_invokestatic3, U_if_ne, U_bipush, U_ireturn, U_aload_n, U_invokevirtual0, U_invokevirtual1, U_getfield, U_goto, UN_cc, UN_cn, UN_nc, UN_nn, UJ, lget, lset, lset2, entL, wsm, wcat, Option.toList_some, Option.toList_none, List.cons_append, List.nil_append, List.mem_cons, List.not_mem_nil, Prod.mk.injEq, or_false, false_or, or_true, true_or, and_true, true_and, and_false, false_and, and_self, ne_eq, not_false_eq_true, not_true_eq_false, forall_const, true_implies, false_implies, Nat.add_zero, Nat.zero_add, Nat.le_refl, Nat.zero_le, List.set_cons_zero, List.set_cons_succ, List.set_nil, ↓reduceIte, Nat.reduceAdd, Nat.reduceSub, Nat.reduceEqDiff, Nat.reduceLeDiff, Int.reduceEq, Int.reduceNe, Int.reduceNeg, reduceCtorEq, kd190]
      refine ⟨r3 (by omega), m_std h V ?_⟩
      unfold oCode at hQ
      rw [if_neg (by omega)] at hQ
      by_cases q0 : g = 0
      · rw [if_pos q0]
        rw [if_pos q0] at hQ
        simp only [bk229_0, bk229_7, bk229_17, bk229_20, bk229_27, bk229_30, bk229_39, bk229_46, bk229_50, U_iload_n, U_invokestatic1, U_if_eq, U_i2l, U_lconst, U_invokestatic3, U_if_ne, U_bipush, U_ireturn, U_aload_n, U_invokevirtual0, U_invokevirtual1, U_getfield, U_goto, UN_cc, UN_cn, UN_nc, UN_nn, UJ, lget, lset, lset2, entL, wsm, wcat, Option.toList_some, Option.toList_none, List.cons_append, List.nil_append, List.mem_cons, List.not_mem_nil, Prod.mk.injEq, or_false, false_or, or_true, true_or, and_true, true_and, and_false, false_and, and_self, ne_eq, not_false_eq_true, not_true_eq_false, forall_const, true_implies, false_implies, Nat.add_zero, Nat.zero_add, Nat.le_refl, Nat.zero_le, List.set_cons_zero, List.set_cons_succ, List.set_nil, ↓reduceIte, Nat.reduceAdd, Nat.reduceSub, Nat.reduceEqDiff, Nat.reduceLeDiff, Int.reduceEq, Int.reduceNe, Int.reduceNeg, reduceCtorEq]
        exact ⟨r3 (by omega), hQ N h (clF.rf N)⟩
      · rw [if_neg q0]
        rw [if_neg q0] at hQ
        obtain ⟨k, rfl⟩ : ∃ k : Nat, m = k := ⟨m.toNat, by omega⟩
        rw [Int.toNat_natCast] at hQ
        simp only [bk229_0, bk229_7, bk229_17, bk229_20, bk229_27, bk229_30, bk229_39, bk229_46, bk229_50, U_iload_n, U_invokestatic1, U_if_eq, U_i2l, U_lconst, U_invokestatic3, U_if_ne, U_bipush, U_ireturn, U_aload_n, U_invokevirtual0, U_invokevirtual1, U_getfield, U_goto, UN_cc, UN_cn, UN_nc, UN_nn, UJ, lget, lset, lset2, entL, wsm, wcat, Option.toList_some, Option.toList_none, List.cons_append, List.nil_append, List.mem_cons, List.not_mem_nil, Prod.mk.injEq, or_false, false_or, or_true, true_or, and_true, true_and, and_false, false_and, and_self, ne_eq, not_false_eq_true, not_true_eq_false, forall_const, true_implies, false_implies, Nat.add_zero, Nat.zero_add, Nat.le_refl, Nat.zero_le, List.set_cons_zero, List.set_cons_succ, List.set_nil, ↓reduceIte, Nat.reduceAdd, Nat.reduceSub, Nat.reduceEqDiff, Nat.reduceLeDiff, Int.reduceEq, Int.reduceNe, Int.reduceNeg, reduceCtorEq, kd190]
        refine ⟨r3 (by omega), q_fc h V q0 (by omega) fun N1 S1 G1 C1 F1 => ?_⟩
        obtain ⟨c1, c2, -⟩ := C1.wd (by omega)
        have hq := hQ N1 S1 (F1.cl rfl)
        simp only [bk229_0, bk229_7, bk229_17, bk229_20, bk229_27, bk229_30, bk229_39, bk229_46, bk229_50, U_iload_n, U_invokestatic1, U_if_eq, U_i2l, U_lconst, U_invokestatic3, U_if_ne, U_bipush, U_ireturn, U_aload_n, U_invokevirtual0, U_invokevirtual1, U_getfield, U_goto, UN_cc, UN_cn, UN_nc, UN_nn, UJ, lget, lset, lset2, entL, wsm, wcat, Option.toList_some, Option.toList_none, List.cons_append, List.nil_append, List.mem_cons, List.not_mem_nil, Prod.mk.injEq, or_false, false_or, or_true, true_or, and_true, true_and, and_false, false_and, and_self, ne_eq, not_false_eq_true, not_true_eq_false, forall_const, true_implies, false_implies, Nat.add_zero, Nat.zero_add, Nat.le_refl, Nat.zero_le, List.set_cons_zero, List.set_cons_succ, List.set_nil, ↓reduceIte, Nat.reduceAdd, Nat.reduceSub, Nat.reduceEqDiff, Nat.reduceLeDiff, Int.reduceEq, Int.reduceNe, Int.reduceNeg, reduceCtorEq, kd190, c1, c2]
        by_cases w0 : w = 0
        · rw [if_pos w0] at hq
          exact ⟨hw, fun _ => hq, fun e => absurd w0 e⟩
        · rw [if_neg w0] at hq
          exact ⟨hw, fun e => absurd e w0, fun _ => hq⟩
    · rw [if_neg q1]
      simp only [bk229_0, bk229_7, bk229_17, bk229_20, bk229_27, bk229_30, bk229_39, bk229_46, bk229_50, U_iload_n, U_invokestatic1, U_if_eq, U_i2l, U_lconst, U_invokestatic3, U_if_ne, U_bipush, U_ireturn, U_aload_n, U_invokevirtual0, U_invokevirtual1, U_getfield, U_goto, UN_cc, UN_cn, UN_nc, UN_nn, UJ, lget, lset, lset2, entL, wsm, wcat, Option.toList_some, Option.toList_none, List.cons_append, List.nil_append, List.mem_cons, List.not_mem_nil, Prod.mk.injEq, or_false, false_or, or_true, true_or, and_true, true_and, and_false, false_and, and_self, ne_eq, not_false_eq_true, not_true_eq_false, forall_const, true_implies, false_implies, Nat.add_zero, Nat.zero_add, Nat.le_refl, Nat.zero_le, List.set_cons_zero, List.set_cons_succ, List.set_nil, ↓reduceIte, Nat.reduceAdd, Nat.reduceSub, Nat.reduceEqDiff, Nat.reduceLeDiff, Int.reduceEq, Int.reduceNe, Int.reduceNeg, reduceCtorEq]
      exact ⟨r3 (by omega), bad (Or.inr q1)⟩
  · rw [if_neg q]
    simp only [bk229_0, bk229_7, bk229_17, bk229_20, bk229_27, bk229_30, bk229_39, bk229_46, bk229_50, U_iload_n, U_invokestatic1, U_if_eq, U_i2l, U_lconst, U_invokestatic3, U_if_ne, U_bipush, U_ireturn, U_aload_n, U_invokevirtual0, U_invokevirtual1, U_getfield, U_goto, UN_cc, UN_cn, UN_nc, UN_nn, UJ, lget, lset, lset2, entL, wsm, wcat, Option.toList_some, Option.toList_none, List.cons_append, List.nil_append, List.mem_cons, List.not_mem_nil, Prod.mk.injEq, or_false, false_or, or_true, true_or, and_true, true_and, and_false, false_and, and_self, ne_eq, not_false_eq_true, not_true_eq_false, forall_const, true_implies, false_implies, Nat.add_zero, Nat.zero_add, Nat.le_refl, Nat.zero_le, List.set_cons_zero, List.set_cons_succ, List.set_nil, ↓reduceIte, Nat.reduceAdd, Nat.reduceSub, Nat.reduceEqDiff, Nat.reduceLeDiff, Int.reduceEq, Int.reduceNe, Int.reduceNeg, reduceCtorEq]
    exact ⟨r3 (by omega), bad (Or.inl q)⟩
set_option maxHeartbeats 8000000 in
theorem q_read {p : Int} {g : Nat} {f : Pz p} {pu : List Int} {rg : Nat → Pz p × Pz p} {A tl : Nat → Int} {E : Nat → Nat} {N : Mem} {Q : Post} {m i pt : Int} (h : MS g f pu rg A tl E N) (V : VS g f pu rg A tl E) (hm : R32 m) (hi : R32 i) (hpt : R32 pt) (hQ : ∀ N', MS g f pu rg A tl E N' → clF N N' → Q (some (0, oRead g f m i pt)) NN N') : CL 230 [(2, 190), (0, m), (0, i), (0, pt)] NN N Q := by
  have hpp := V.1.pos
  have hn := nPt_le V.1 g f
  have hi' := hi
  obtain ⟨i1, i2⟩ := hi'
  have bad : ∀ N', MS g f pu rg A tl E N' → clF N N' → (¬ (0 ≤ m ∧ m ≤ 30) ∨ i < 0 ∨ ¬ (1 ≤ pt ∧ pt < nPt g f)) → Q (some (0, -2)) NN N' := fun N' a b e => by
    have := hQ N' a b
    unfold oRead at this
    rw [if_pos e] at this; exact this
  refine WP.run [] [] 60 ?_
  simp only [bk230_0, bk230_7, bk230_11, bk230_23, bk230_26, bk230_33, bk230_36, bk230_49, bk230_57, bk230_73, bk230_75, U_iload_n, U_invokestatic1, U_if_eq, U_if_lt, U_i2l, U_lconst, U_ldc2_w, U_invokestatic3, U_if_ne, U_bipush, U_ireturn, U_aload_n, U_invokevirtual0, U_invokevirtual1, U_getfield, U_icmp_ge, U_imul, U_iadd, U_iconst, U_isub, U_iald, U_goto, UN_cc, UN_cn, UN_nc, UN_nn, UJ, lget, lset, lset2, entL, wsm, wcat, Option.toList_some, Option.toList_none, List.cons_append, List.nil_append, List.mem_cons, List.not_mem_nil, Prod.mk.injEq, or_false, false_or, or_true, true_or, and_true, true_and, and_false, false_and, and_self, ne_eq, not_false_eq_true, not_true_eq_false, forall_const, true_implies, false_implies, Nat.add_zero, Nat.zero_add, Nat.le_refl, Nat.zero_le, List.set_cons_zero, List.set_cons_succ, List.set_nil, ↓reduceIte, Nat.reduceAdd, Nat.reduceSub, Nat.reduceEqDiff, Nat.reduceLeDiff, Int.reduceEq, Int.reduceNe, Int.reduceNeg, reduceCtorEq]
  refine m_isPole hm ?_
  by_cases q : 0 ≤ m ∧ m ≤ 30
  · rw [if_pos q]
    simp only [bk230_0, bk230_7, bk230_11, bk230_23, bk230_26, bk230_33, bk230_36, bk230_49, bk230_57, bk230_73, bk230_75, U_iload_n, U_invokestatic1, U_if_eq, U_if_lt, U_i2l, U_lconst, U_ldc2_w, U_invokestatic3, U_if_ne, U_bipush, U_ireturn, U_aload_n, U_invokevirtual0, U_invokevirtual1, U_getfield, U_icmp_ge, U_imul, U_iadd, U_iconst, U_isub, U_iald, U_goto, UN_cc, UN_cn, UN_nc, UN_nn, UJ, lget, lset, lset2, entL, wsm, wcat, Option.toList_some, Option.toList_none, List.cons_append, List.nil_append, List.mem_cons, List.not_mem_nil, Prod.mk.injEq, or_false, false_or, or_true, true_or, and_true, true_and, and_false, false_and, and_self, ne_eq, not_false_eq_true, not_true_eq_false, forall_const, true_implies, false_implies, Nat.add_zero, Nat.zero_add, Nat.le_refl, Nat.zero_le, List.set_cons_zero, List.set_cons_succ, List.set_nil, ↓reduceIte, Nat.reduceAdd, Nat.reduceSub, Nat.reduceEqDiff, Nat.reduceLeDiff, Int.reduceEq, Int.reduceNe, Int.reduceNeg, reduceCtorEq]
    by_cases q1 : i < 0
    · exact ⟨r3 (by omega), hi, fun _ => bad N h (clF.rf N) (Or.inr (Or.inl q1)), fun e => absurd q1 e⟩
    refine ⟨r3 (by omega), hi, fun e => absurd e q1, fun _ => ⟨hpt, m_in hpt.l (r64 (by omega)) (r64 (by omega)) ?_⟩⟩
    by_cases q2 : 1 ≤ pt ∧ pt ≤ 26
    · rw [if_pos q2]
      simp only [bk230_0, bk230_7, bk230_11, bk230_23, bk230_26, bk230_33, bk230_36, bk230_49, bk230_57, bk230_73, bk230_75, U_iload_n, U_invokestatic1, U_if_eq, U_if_lt, U_i2l, U_lconst, U_ldc2_w, U_invokestatic3, U_if_ne, U_bipush, U_ireturn, U_aload_n, U_invokevirtual0, U_invokevirtual1, U_getfield, U_icmp_ge, U_imul, U_iadd, U_iconst, U_isub, U_iald, U_goto, UN_cc, UN_cn, UN_nc, UN_nn, UJ, lget, lset, lset2, entL, wsm, wcat, Option.toList_some, Option.toList_none, List.cons_append, List.nil_append, List.mem_cons, List.not_mem_nil, Prod.mk.injEq, or_false, false_or, or_true, true_or, and_true, true_and, and_false, false_and, and_self, ne_eq, not_false_eq_true, not_true_eq_false, forall_const, true_implies, false_implies, Nat.add_zero, Nat.zero_add, Nat.le_refl, Nat.zero_le, List.set_cons_zero, List.set_cons_succ, List.set_nil, ↓reduceIte, Nat.reduceAdd, Nat.reduceSub, Nat.reduceEqDiff, Nat.reduceLeDiff, Int.reduceEq, Int.reduceNe, Int.reduceNeg, reduceCtorEq, kd190]
      refine ⟨r3 (by omega), m_std h V ?_⟩
      by_cases q0 : g = 0
      · rw [if_pos q0]
        have e27 : nPt g f = 27 := by unfold nPt; rw [if_pos q0]
        have := hQ N h (clF.rf N)
        unfold oRead at this
        rw [if_neg (by omega), if_pos q0] at this
        simp only [bk230_0, bk230_7, bk230_11, bk230_23, bk230_26, bk230_33, bk230_36, bk230_49, bk230_57, bk230_73, bk230_75, U_iload_n, U_invokestatic1, U_if_eq, U_if_lt, U_i2l, U_lconst, U_ldc2_w, U_invokestatic3, U_if_ne, U_bipush, U_ireturn, U_aload_n, U_invokevirtual0, U_invokevirtual1, U_getfield, U_icmp_ge, U_imul, U_iadd, U_iconst, U_isub, U_iald, U_goto, UN_cc, UN_cn, UN_nc, UN_nn, UJ, lget, lset, lset2, entL, wsm, wcat, Option.toList_some, Option.toList_none, List.cons_append, List.nil_append, List.mem_cons, List.not_mem_nil, Prod.mk.injEq, or_false, false_or, or_true, true_or, and_true, true_and, and_false, false_and, and_self, ne_eq, not_false_eq_true, not_true_eq_false, forall_const, true_implies, false_implies, Nat.add_zero, Nat.zero_add, Nat.le_refl, Nat.zero_le, List.set_cons_zero, List.set_cons_succ, List.set_nil, ↓reduceIte, Nat.reduceAdd, Nat.reduceSub, Nat.reduceEqDiff, Nat.reduceLeDiff, Int.reduceEq, Int.reduceNe, Int.reduceNeg, reduceCtorEq]
        exact ⟨r3 (by omega), this⟩
      · rw [if_neg q0]
        have en : nPt g f = (ptl f p.toNat).length + 1 := by unfold nPt; rw [if_neg q0]
        obtain ⟨k, rfl⟩ : ∃ k : Nat, m = k := ⟨m.toNat, by omega⟩
        simp only [bk230_0, bk230_7, bk230_11, bk230_23, bk230_26, bk230_33, bk230_36, bk230_49, bk230_57, bk230_73, bk230_75, U_iload_n, U_invokestatic1, U_if_eq, U_if_lt, U_i2l, U_lconst, U_ldc2_w, U_invokestatic3, U_if_ne, U_bipush, U_ireturn, U_aload_n, U_invokevirtual0, U_invokevirtual1, U_getfield, U_icmp_ge, U_imul, U_iadd, U_iconst, U_isub, U_iald, U_goto, UN_cc, UN_cn, UN_nc, UN_nn, UJ, lget, lset, lset2, entL, wsm, wcat, Option.toList_some, Option.toList_none, List.cons_append, List.nil_append, List.mem_cons, List.not_mem_nil, Prod.mk.injEq, or_false, false_or, or_true, true_or, and_true, true_and, and_false, false_and, and_self, ne_eq, not_false_eq_true, not_true_eq_false, forall_const, true_implies, false_implies, Nat.add_zero, Nat.zero_add, Nat.le_refl, Nat.zero_le, List.set_cons_zero, List.set_cons_succ, List.set_nil, ↓reduceIte, Nat.reduceAdd, Nat.reduceSub, Nat.reduceEqDiff, Nat.reduceLeDiff, Int.reduceEq, Int.reduceNe, Int.reduceNeg, reduceCtorEq, kd190]
        refine ⟨r3 (by omega), q_fc h V q0 (by omega) fun N1 S1 G1 C1 F1 => ?_⟩
        obtain ⟨c1, c2, c3⟩ := C1.wd (by omega)
        have hw := cwd_le V.1 f k
        have C1' : clF N N1 := F1.cl rfl
        have hq := hQ N1 S1 C1'
        have hz := G1.mt.1
        simp only [bk230_0, bk230_7, bk230_11, bk230_23, bk230_26, bk230_33, bk230_36, bk230_49, bk230_57, bk230_73, bk230_75, U_iload_n, U_invokestatic1, U_if_eq, U_if_lt, U_i2l, U_lconst, U_ldc2_w, U_invokestatic3, U_if_ne, U_bipush, U_ireturn, U_aload_n, U_invokevirtual0, U_invokevirtual1, U_getfield, U_icmp_ge, U_imul, U_iadd, U_iconst, U_isub, U_iald, U_goto, UN_cc, UN_cn, UN_nc, UN_nn, UJ, lget, lset, lset2, entL, wsm, wcat, Option.toList_some, Option.toList_none, List.cons_append, List.nil_append, List.mem_cons, List.not_mem_nil, Prod.mk.injEq, or_false, false_or, or_true, true_or, and_true, true_and, and_false, false_and, and_self, ne_eq, not_false_eq_true, not_true_eq_false, forall_const, true_implies, false_implies, Nat.add_zero, Nat.zero_add, Nat.le_refl, Nat.zero_le, List.set_cons_zero, List.set_cons_succ, List.set_nil, ↓reduceIte, Nat.reduceAdd, Nat.reduceSub, Nat.reduceEqDiff, Nat.reduceLeDiff, Int.reduceEq, Int.reduceNe, Int.reduceNeg, reduceCtorEq, kd190, kd217, ln217, z190_37 hz, c1]
        refine ⟨rr (by omega), fun e => ?_, fun e => ?_⟩
        · refine m_isPt (m := nPt g f) hpt (by rw [G1.2.2.2, en]; rfl) (by omega) ?_
          by_cases q3 : 0 ≤ pt ∧ pt < nPt g f
          · rw [if_pos q3]
            unfold oRead at hq
            rw [if_neg (by omega), if_neg q0, Int.toNat_natCast, if_neg (by omega)] at hq
            have e1 := c3 i.toNat (pt.toNat - 1) (by omega) (by omega)
            rw [show 26 * ((i.toNat : Nat) : Int) + ((pt.toNat - 1 : Nat) : Int) = 26 * i + pt - 1 by omega] at e1
            simp only [bk230_0, bk230_7, bk230_11, bk230_23, bk230_26, bk230_33, bk230_36, bk230_49, bk230_57, bk230_73, bk230_75, U_iload_n, U_invokestatic1, U_if_eq, U_if_lt, U_i2l, U_lconst, U_ldc2_w, U_invokestatic3, U_if_ne, U_bipush, U_ireturn, U_aload_n, U_invokevirtual0, U_invokevirtual1, U_getfield, U_icmp_ge, U_imul, U_iadd, U_iconst, U_isub, U_iald, U_goto, UN_cc, UN_cn, UN_nc, UN_nn, UJ, lget, lset, lset2, entL, wsm, wcat, Option.toList_some, Option.toList_none, List.cons_append, List.nil_append, List.mem_cons, List.not_mem_nil, Prod.mk.injEq, or_false, false_or, or_true, true_or, and_true, true_and, and_false, false_and, and_self, ne_eq, not_false_eq_true, not_true_eq_false, forall_const, true_implies, false_implies, Nat.add_zero, Nat.zero_add, Nat.le_refl, Nat.zero_le, List.set_cons_zero, List.set_cons_succ, List.set_nil, ↓reduceIte, Nat.reduceAdd, Nat.reduceSub, Nat.reduceEqDiff, Nat.reduceLeDiff, Int.reduceEq, Int.reduceNe, Int.reduceNeg, reduceCtorEq, kd190, kd217, ln217, z190_37 hz, e1]
            repeat (first | refine And.intro (by first | omega | exact not_false) ?_ | refine And.intro (rr (by omega)) ?_ | refine And.intro (r3 (by omega)) ?_ | refine And.intro (r6 (by omega)) ?_)
            exact hq
          · rw [if_neg q3]
            simp only [bk230_0, bk230_7, bk230_11, bk230_23, bk230_26, bk230_33, bk230_36, bk230_49, bk230_57, bk230_73, bk230_75, U_iload_n, U_invokestatic1, U_if_eq, U_if_lt, U_i2l, U_lconst, U_ldc2_w, U_invokestatic3, U_if_ne, U_bipush, U_ireturn, U_aload_n, U_invokevirtual0, U_invokevirtual1, U_getfield, U_icmp_ge, U_imul, U_iadd, U_iconst, U_isub, U_iald, U_goto, UN_cc, UN_cn, UN_nc, UN_nn, UJ, lget, lset, lset2, entL, wsm, wcat, Option.toList_some, Option.toList_none, List.cons_append, List.nil_append, List.mem_cons, List.not_mem_nil, Prod.mk.injEq, or_false, false_or, or_true, true_or, and_true, true_and, and_false, false_and, and_self, ne_eq, not_false_eq_true, not_true_eq_false, forall_const, true_implies, false_implies, Nat.add_zero, Nat.zero_add, Nat.le_refl, Nat.zero_le, List.set_cons_zero, List.set_cons_succ, List.set_nil, ↓reduceIte, Nat.reduceAdd, Nat.reduceSub, Nat.reduceEqDiff, Nat.reduceLeDiff, Int.reduceEq, Int.reduceNe, Int.reduceNeg, reduceCtorEq]
            exact ⟨r3 (by omega), bad N1 S1 C1' (Or.inr (Or.inr (by omega)))⟩
        · by_cases q3 : 1 ≤ pt ∧ pt < nPt g f
          · unfold oRead at hq
            rw [if_neg (by omega), if_neg q0, Int.toNat_natCast, if_pos (by omega)] at hq
            exact hq
          · exact bad N1 S1 C1' (Or.inr (Or.inr q3))
    · rw [if_neg q2]
      simp only [bk230_0, bk230_7, bk230_11, bk230_23, bk230_26, bk230_33, bk230_36, bk230_49, bk230_57, bk230_73, bk230_75, U_iload_n, U_invokestatic1, U_if_eq, U_if_lt, U_i2l, U_lconst, U_ldc2_w, U_invokestatic3, U_if_ne, U_bipush, U_ireturn, U_aload_n, U_invokevirtual0, U_invokevirtual1, U_getfield, U_icmp_ge, U_imul, U_iadd, U_iconst, U_isub, U_iald, U_goto, UN_cc, UN_cn, UN_nc, UN_nn, UJ, lget, lset, lset2, entL, wsm, wcat, Option.toList_some, Option.toList_none, List.cons_append, List.nil_append, List.mem_cons, List.not_mem_nil, Prod.mk.injEq, or_false, false_or, or_true, true_or, and_true, true_and, and_false, false_and, and_self, ne_eq, not_false_eq_true, not_true_eq_false, forall_const, true_implies, false_implies, Nat.add_zero, Nat.zero_add, Nat.le_refl, Nat.zero_le, List.set_cons_zero, List.set_cons_succ, List.set_nil, ↓reduceIte, Nat.reduceAdd, Nat.reduceSub, Nat.reduceEqDiff, Nat.reduceLeDiff, Int.reduceEq, Int.reduceNe, Int.reduceNeg, reduceCtorEq]
      exact ⟨r3 (by omega), bad N h (clF.rf N) (Or.inr (Or.inr (by omega)))⟩
  · rw [if_neg q]
    simp only [bk230_0, bk230_7, bk230_11, bk230_23, bk230_26, bk230_33, bk230_36, bk230_49, bk230_57, bk230_73, bk230_75, U_iload_n, U_invokestatic1, U_if_eq, U_if_lt, U_i2l, U_lconst, U_ldc2_w, U_invokestatic3, U_if_ne, U_bipush, U_ireturn, U_aload_n, U_invokevirtual0, U_invokevirtual1, U_getfield, U_icmp_ge, U_imul, U_iadd, U_iconst, U_isub, U_iald, U_goto, UN_cc, UN_cn, UN_nc, UN_nn, UJ, lget, lset, lset2, entL, wsm, wcat, Option.toList_some, Option.toList_none, List.cons_append, List.nil_append, List.mem_cons, List.not_mem_nil, Prod.mk.injEq, or_false, false_or, or_true, true_or, and_true, true_and, and_false, false_and, and_self, ne_eq, not_false_eq_true, not_true_eq_false, forall_const, true_implies, false_implies, Nat.add_zero, Nat.zero_add, Nat.le_refl, Nat.zero_le, List.set_cons_zero, List.set_cons_succ, List.set_nil, ↓reduceIte, Nat.reduceAdd, Nat.reduceSub, Nat.reduceEqDiff, Nat.reduceLeDiff, Int.reduceEq, Int.reduceNe, Int.reduceNeg, reduceCtorEq]
    exact ⟨r3 (by omega), bad N h (clF.rf N) (Or.inl q)⟩
theorem fst_1 {D : Nat → Nat} : IsFst D 1 0 := ⟨by omega, fun n hn => by obtain rfl : n = 0 := by omega
                                                                         exact Nat.le_refl _, fun n hn => by omega⟩
theorem fst_s {D : Nat → Nat} {n b : Nat} (h : IsFst D n b) : IsFst D (n + 1) (if D n < D b then n else b) := by
  obtain ⟨h1, h2, h3⟩ := h
  by_cases c : D n < D b
  · rw [if_pos c]
    refine ⟨by omega, fun m hm => ?_, fun m hm => ?_⟩
    · by_cases e : m = n
      · rw [e]; exact Nat.le_refl _
      · have := h2 m (by omega); omega
    · have := h2 m (by omega); omega
  · rw [if_neg c]
    refine ⟨by omega, fun m hm => ?_, fun m hm => h3 m hm⟩
    by_cases e : m = n
    · rw [e]; omega
    · exact h2 m (by omega)
theorem difN_le (P : Nat) (p : Int) (W : Nat → Nat → Int) (tl : Nat → Int) (w L n : Nat) : difN P p W tl w L n ≤ L := cntE_le _ _ _
set_option maxHeartbeats 16000000 in
theorem q_near {p : Int} {g : Nat} {f : Pz p} {pu : List Int} {rg : Nat → Pz p × Pz p} {A tl : Nat → Int} {E : Nat → Nat} {N : Mem} {Q : Post} {m w : Int} (h : MS g f pu rg A tl E N) (V : VS g f pu rg A tl E) (hm : R32 m) (hw : R32 w) (hQ : ∀ N', MS g f pu rg A tl E N' → clF N N' → Q (some (0, oNear g f tl m w)) NN N') : CL 234 [(2, 190), (0, m), (0, w), (9, 0), (9, 0), (9, 0), (9, 0), (9, 0)] NN N Q := by
  have hp := V.1
  have hpp := hp.pos
  have hw' := hw
  obtain ⟨w1, w2⟩ := hw'
  have bad : (¬ (0 ≤ m ∧ m ≤ 30) ∨ w < -1) → Q (some (0, -2)) NN N := fun e => by
    have := hQ N h (clF.rf N)
    unfold oNear at this
    rw [if_pos e] at this; exact this
  refine WP.run [(234, 59)] [] 90 ?_
  simp only [bk234_0, bk234_7, bk234_12, bk234_15, bk234_22, bk234_25, bk234_42, bk234_45, bk234_59, bk234_65, bk234_81, bk234_86, bk234_88, bk234_97, bk234_102, bk234_104, bk234_112, bk234_117, bk234_120, bk234_127, bk234_133, bk234_142, bk234_157, bk234_165, bk234_175, bk234_176, U_iload_n, U_invokestatic1, U_if_eq, U_iconst, U_icmp_ge, U_bipush, U_ireturn, U_aload_n, U_invokevirtual0, U_if_ne, U_invokevirtual1, U_istore_n, U_sipush, U_icmp_le, U_istore, U_invokevirtual2, U_iload, U_goto, U_iinc, U_icmp_ne, U_getfield, U_idiv, U_irem, UN_cc, UN_cn, UN_nc, UN_nn, UJ, lget, lset, lset2, entL, wsm, wcat, Option.toList_some, Option.toList_none, List.cons_append, List.nil_append, List.mem_cons, List.not_mem_nil, Prod.mk.injEq, or_false, false_or, or_true, true_or, and_true, true_and, and_false, false_and, and_self, ne_eq, not_false_eq_true, not_true_eq_false, forall_const, true_implies, false_implies, Nat.add_zero, Nat.zero_add, Nat.le_refl, Nat.zero_le, List.set_cons_zero, List.set_cons_succ, List.set_nil, ↓reduceIte, Nat.reduceAdd, Nat.reduceSub, Nat.reduceEqDiff, Nat.reduceLeDiff, Int.reduceEq, Int.reduceNe, Int.reduceNeg, reduceCtorEq]
  refine m_isPole hm ?_
  by_cases q : 0 ≤ m ∧ m ≤ 30
  · rw [if_pos q]
    simp only [bk234_0, bk234_7, bk234_12, bk234_15, bk234_22, bk234_25, bk234_42, bk234_45, bk234_59, bk234_65, bk234_81, bk234_86, bk234_88, bk234_97, bk234_102, bk234_104, bk234_112, bk234_117, bk234_120, bk234_127, bk234_133, bk234_142, bk234_157, bk234_165, bk234_175, bk234_176, U_iload_n, U_invokestatic1, U_if_eq, U_iconst, U_icmp_ge, U_bipush, U_ireturn, U_aload_n, U_invokevirtual0, U_if_ne, U_invokevirtual1, U_istore_n, U_sipush, U_icmp_le, U_istore, U_invokevirtual2, U_iload, U_goto, U_iinc, U_icmp_ne, U_getfield, U_idiv, U_irem, UN_cc, UN_cn, UN_nc, UN_nn, UJ, lget, lset, lset2, entL, wsm, wcat, Option.toList_some, Option.toList_none, List.cons_append, List.nil_append, List.mem_cons, List.not_mem_nil, Prod.mk.injEq, or_false, false_or, or_true, true_or, and_true, true_and, and_false, false_and, and_self, ne_eq, not_false_eq_true, not_true_eq_false, forall_const, true_implies, false_implies, Nat.add_zero, Nat.zero_add, Nat.le_refl, Nat.zero_le, List.set_cons_zero, List.set_cons_succ, List.set_nil, ↓reduceIte, Nat.reduceAdd, Nat.reduceSub, Nat.reduceEqDiff, Nat.reduceLeDiff, Int.reduceEq, Int.reduceNe, Int.reduceNeg, reduceCtorEq, kd190]
    by_cases q1 : w < -1
    · exact ⟨r3 (by omega), rr (by omega), fun _ => bad (Or.inr q1), fun e => absurd q1 e⟩
    refine ⟨r3 (by omega), rr (by omega), fun e => absurd e q1, fun _ => m_std h V ?_⟩
    unfold oNear at hQ
    rw [if_neg (by omega)] at hQ
    by_cases q0 : g = 0
    · rw [if_pos q0]
      rw [if_pos q0] at hQ
      simp only [bk234_0, bk234_7, bk234_12, bk234_15, bk234_22, bk234_25, bk234_42, bk234_45, bk234_59, bk234_65, bk234_81, bk234_86, bk234_88, bk234_97, bk234_102, bk234_104, bk234_112, bk234_117, bk234_120, bk234_127, bk234_133, bk234_142, bk234_157, bk234_165, bk234_175, bk234_176, U_iload_n, U_invokestatic1, U_if_eq, U_iconst, U_icmp_ge, U_bipush, U_ireturn, U_aload_n, U_invokevirtual0, U_if_ne, U_invokevirtual1, U_istore_n, U_sipush, U_icmp_le, U_istore, U_invokevirtual2, U_iload, U_goto, U_iinc, U_icmp_ne, U_getfield, U_idiv, U_irem, UN_cc, UN_cn, UN_nc, UN_nn, UJ, lget, lset, lset2, entL, wsm, wcat, Option.toList_some, Option.toList_none, List.cons_append, List.nil_append, List.mem_cons, List.not_mem_nil, Prod.mk.injEq, or_false, false_or, or_true, true_or, and_true, true_and, and_false, false_and, and_self, ne_eq, not_false_eq_true, not_true_eq_false, forall_const, true_implies, false_implies, Nat.add_zero, Nat.zero_add, Nat.le_refl, Nat.zero_le, List.set_cons_zero, List.set_cons_succ, List.set_nil, ↓reduceIte, Nat.reduceAdd, Nat.reduceSub, Nat.reduceEqDiff, Nat.reduceLeDiff, Int.reduceEq, Int.reduceNe, Int.reduceNeg, reduceCtorEq]
      exact ⟨r3 (by omega), hQ N h (clF.rf N)⟩
    · rw [if_neg q0]
      rw [if_neg q0] at hQ
      obtain ⟨k, rfl⟩ : ∃ k : Nat, m = k := ⟨m.toNat, by omega⟩
      rw [Int.toNat_natCast] at hQ
      simp only [bk234_0, bk234_7, bk234_12, bk234_15, bk234_22, bk234_25, bk234_42, bk234_45, bk234_59, bk234_65, bk234_81, bk234_86, bk234_88, bk234_97, bk234_102, bk234_104, bk234_112, bk234_117, bk234_120, bk234_127, bk234_133, bk234_142, bk234_157, bk234_165, bk234_175, bk234_176, U_iload_n, U_invokestatic1, U_if_eq, U_iconst, U_icmp_ge, U_bipush, U_ireturn, U_aload_n, U_invokevirtual0, U_if_ne, U_invokevirtual1, U_istore_n, U_sipush, U_icmp_le, U_istore, U_invokevirtual2, U_iload, U_goto, U_iinc, U_icmp_ne, U_getfield, U_idiv, U_irem, UN_cc, UN_cn, UN_nc, UN_nn, UJ, lget, lset, lset2, entL, wsm, wcat, Option.toList_some, Option.toList_none, List.cons_append, List.nil_append, List.mem_cons, List.not_mem_nil, Prod.mk.injEq, or_false, false_or, or_true, true_or, and_true, true_and, and_false, false_and, and_self, ne_eq, not_false_eq_true, not_true_eq_false, forall_const, true_implies, false_implies, Nat.add_zero, Nat.zero_add, Nat.le_refl, Nat.zero_le, List.set_cons_zero, List.set_cons_succ, List.set_nil, ↓reduceIte, Nat.reduceAdd, Nat.reduceSub, Nat.reduceEqDiff, Nat.reduceLeDiff, Int.reduceEq, Int.reduceNe, Int.reduceNeg, reduceCtorEq, kd190]
      refine ⟨r3 (by omega), q_fc h V q0 (by omega) fun N1 S1 G1 C1 F1 => ?_⟩
      have cw := C1.cw hp (by omega)
      have hq := hQ N1 S1 (F1.cl rfl)
      obtain ⟨hz, hP⟩ := G1.mt
      have h26 := ptl_26 hp f
      have hcw := (cwd_le hp f k).2
      have hT : ∀ j : Nat, j < 26 → N1 196 (j : Int) = tl j := S1.2.2.2.2.2.1
      have hTr : ∀ j, 0 ≤ tl j ∧ tl j ≤ 12 := fun j => by have := V.2.2.2.2.1 j; omega
      have hpos : 0 < p.toNat ^ cwd f k := Nat.pow_pos (by omega)
      simp only [bk234_0, bk234_7, bk234_12, bk234_15, bk234_22, bk234_25, bk234_42, bk234_45, bk234_59, bk234_65, bk234_81, bk234_86, bk234_88, bk234_97, bk234_102, bk234_104, bk234_112, bk234_117, bk234_120, bk234_127, bk234_133, bk234_142, bk234_157, bk234_165, bk234_175, bk234_176, U_iload_n, U_invokestatic1, U_if_eq, U_iconst, U_icmp_ge, U_bipush, U_ireturn, U_aload_n, U_invokevirtual0, U_if_ne, U_invokevirtual1, U_istore_n, U_sipush, U_icmp_le, U_istore, U_invokevirtual2, U_iload, U_goto, U_iinc, U_icmp_ne, U_getfield, U_idiv, U_irem, UN_cc, UN_cn, UN_nc, UN_nn, UJ, lget, lset, lset2, entL, wsm, wcat, Option.toList_some, Option.toList_none, List.cons_append, List.nil_append, List.mem_cons, List.not_mem_nil, Prod.mk.injEq, or_false, false_or, or_true, true_or, and_true, true_and, and_false, false_and, and_self, ne_eq, not_false_eq_true, not_true_eq_false, forall_const, true_implies, false_implies, Nat.add_zero, Nat.zero_add, Nat.le_refl, Nat.zero_le, List.set_cons_zero, List.set_cons_succ, List.set_nil, ↓reduceIte, Nat.reduceAdd, Nat.reduceSub, Nat.reduceEqDiff, Nat.reduceLeDiff, Int.reduceEq, Int.reduceNe, Int.reduceNeg, reduceCtorEq, kd190]
      refine m_words hp hP cw ?_
      by_cases big : p.toNat ^ cwd f k ≤ 20000
      · rw [if_pos big]
        rw [if_neg (by omega)] at hq
        have hDd : dfF f tl k = difN p.toNat p (wdK f) tl (cwd f k) (ptl f p.toNat).length := rfl
        have hD : ∀ n, dfF f tl k n ≤ 26 := fun n => by rw [hDd]; have := difN_le p.toNat p (wdK f) tl (cwd f k) (ptl f p.toNat).length n; omega
        have hz0 : cwd f k = 0 → dfF f tl k 0 = 0 := fun e => by
          have := cwd_0 f e
          have h2 := difN_le p.toNat p (wdK f) tl (cwd f k) (ptl f p.toNat).length 0
          rw [hDd]; omega
        generalize hal : p.toNat ^ cwd f k = al at *
        have dif : ∀ (n : Nat) (Q' : Post), n ≤ 20000 → Q' (some (0, (dfF f tl k n : Int))) NN N1 → CL 233 [(2, 190), (0, (n : Int)), (0, 1), (9, 0), (9, 0), (9, 0), (9, 0), (9, 0)] NN N1 Q' := fun n Q' hn hq' =>
          m_differs hp hz hP cw hn (Or.inl ⟨rfl, hT⟩) hTr (by rw [hDd] at hq'; exact hq')
        generalize dfF f tl k = D at *
        -- the digit asked for
        have dg' : ∀ (fr : Nat) (a b c : Int), fr < 20001 → ¬ w = -1 → (Q (some (0, if (cwd f k : Int) ≤ w then -1 else ((fr / p.toNat ^ w.toNat % p.toNat : Nat) : Int))) NN N1) → WP 234 (0, 0) 120 [(2, 190), (0, (k : Int)), (0, w), (0, a), (0, (fr : Int)), (0, b), (0, c), (9, 0)] [] NN N1 Q ∧ ∀ e : Int, WP 234 (0, 0) 120 [(2, 190), (0, (k : Int)), (0, w), (0, a), (0, (fr : Int)), (0, b), (0, c), (0, e)] [] NN N1 Q := fun fr a b c hfr hw1 hqq => by
          have hpn : ((p.toNat : Nat) : Int) = p := by omega
          have lp : ∀ (n i : Nat) (a b : Int), (i : Int) + n = (if (cwd f k : Int) ≤ w then (cwd f k : Int) else w) → WP 234 (0, 0) 127 [(2, 190), (0, (k : Int)), (0, w), (0, a), (0, (fr : Int)), (0, b), (0, ((fr / p.toNat ^ i : Nat) : Int)), (0, (i : Int))] [] NN N1 Q := by
            intro n
            induction n with
            | zero =>
              intro i a b hi
              have hle : fr / p.toNat ^ i ≤ fr := Nat.div_le_self _ _
              have tm : ((fr / p.toNat ^ i : Nat) : Int).tmod p = ((fr / p.toNat ^ i % p.toNat : Nat) : Int) := by rw [tm_nn (Int.natCast_nonneg _), Int.natCast_emod, hpn]
              have hR1 : R32 ((fr / p.toNat ^ i : Nat) : Int) := by generalize fr / p.toNat ^ i = E' at hle ⊢; exact r3 (by omega)
              refine WP.run [(234, 127)] [] 60 ?_
              simp only [bk234_0, bk234_7, bk234_12, bk234_15, bk234_22, bk234_25, bk234_42, bk234_45, bk234_59, bk234_65, bk234_81, bk234_86, bk234_88, bk234_97, bk234_102, bk234_104, bk234_112, bk234_117, bk234_120, bk234_127, bk234_133, bk234_142, bk234_157, bk234_165, bk234_175, bk234_176, U_iload_n, U_invokestatic1, U_if_eq, U_iconst, U_icmp_ge, U_bipush, U_ireturn, U_aload_n, U_invokevirtual0, U_if_ne, U_invokevirtual1, U_istore_n, U_sipush, U_icmp_le, U_istore, U_invokevirtual2, U_iload, U_goto, U_iinc, U_icmp_ne, U_getfield, U_idiv, U_irem, UN_cc, UN_cn, UN_nc, UN_nn, UJ, lget, lset, lset2, entL, wsm, wcat, Option.toList_some, Option.toList_none, List.cons_append, List.nil_append, List.mem_cons, List.not_mem_nil, Prod.mk.injEq, or_false, false_or, or_true, true_or, and_true, true_and, and_false, false_and, and_self, ne_eq, not_false_eq_true, not_true_eq_false, forall_const, true_implies, false_implies, Nat.add_zero, Nat.zero_add, Nat.le_refl, Nat.zero_le, List.set_cons_zero, List.set_cons_succ, List.set_nil, ↓reduceIte, Nat.reduceAdd, Nat.reduceSub, Nat.reduceEqDiff, Nat.reduceLeDiff, Int.reduceEq, Int.reduceNe, Int.reduceNeg, reduceCtorEq, kd190, cw.1, hP, tm]
              by_cases c : (cwd f k : Int) ≤ w
              · rw [if_pos c] at hi hqq
                have fin : RR w (cwd f k : Int) ∧ (w < (cwd f k : Int) → R32 ((fr / p.toNat ^ i : Nat) : Int) ∧ R32 p ∧ ¬ p = 0 ∧ Q (some (0, ((fr / p.toNat ^ i % p.toNat : Nat) : Int))) NN N1) ∧ (¬ w < (cwd f k : Int) → Q (some (0, -1)) NN N1) := ⟨rr (by omega), fun e => absurd e (by omega), fun _ => hqq⟩
                refine ⟨rr (by omega), fun _ => ⟨rr (by omega), fun e => absurd e (by omega), fun _ => fin⟩, fun _ => fin⟩
              · rw [if_neg c] at hi hqq
                have ei : i = w.toNat := by omega
                subst ei
                have fin : RR w (cwd f k : Int) ∧ (w < (cwd f k : Int) → R32 ((fr / p.toNat ^ w.toNat : Nat) : Int) ∧ R32 p ∧ ¬ p = 0 ∧ Q (some (0, ((fr / p.toNat ^ w.toNat % p.toNat : Nat) : Int))) NN N1) ∧ (¬ w < (cwd f k : Int) → Q (some (0, -1)) NN N1) := ⟨rr (by omega), fun _ => ⟨hR1, r3 (by omega), by omega, hqq⟩, fun e => absurd (by omega) e⟩
                refine ⟨rr (by omega), fun e => absurd e (by omega), fun _ => fin⟩
            | succ n ih =>
              intro i a b hi
              have hlt : (i : Int) < w ∧ (i : Int) < (cwd f k : Int) := by split at hi <;> omega
              have hle : fr / p.toNat ^ i ≤ fr := Nat.div_le_self _ _
              have td : ((fr / p.toNat ^ i : Nat) : Int).tdiv p = ((fr / p.toNat ^ (i + 1) : Nat) : Int) := by rw [Int.tdiv_eq_ediv_of_nonneg (Int.natCast_nonneg _), ← div_pow_s, Int.natCast_ediv (fr / p.toNat ^ i) p.toNat, hpn]
              have hR1 : R32 ((fr / p.toNat ^ i : Nat) : Int) := by generalize fr / p.toNat ^ i = E' at hle ⊢; exact r3 (by omega)
              refine WP.run [(234, 127), (234, 157)] [] 60 ?_
              simp only [bk234_0, bk234_7, bk234_12, bk234_15, bk234_22, bk234_25, bk234_42, bk234_45, bk234_59, bk234_65, bk234_81, bk234_86, bk234_88, bk234_97, bk234_102, bk234_104, bk234_112, bk234_117, bk234_120, bk234_127, bk234_133, bk234_142, bk234_157, bk234_165, bk234_175, bk234_176, U_iload_n, U_invokestatic1, U_if_eq, U_iconst, U_icmp_ge, U_bipush, U_ireturn, U_aload_n, U_invokevirtual0, U_if_ne, U_invokevirtual1, U_istore_n, U_sipush, U_icmp_le, U_istore, U_invokevirtual2, U_iload, U_goto, U_iinc, U_icmp_ne, U_getfield, U_idiv, U_irem, UN_cc, UN_cn, UN_nc, UN_nn, UJ, lget, lset, lset2, entL, wsm, wcat, Option.toList_some, Option.toList_none, List.cons_append, List.nil_append, List.mem_cons, List.not_mem_nil, Prod.mk.injEq, or_false, false_or, or_true, true_or, and_true, true_and, and_false, false_and, and_self, ne_eq, not_false_eq_true, not_true_eq_false, forall_const, true_implies, false_implies, Nat.add_zero, Nat.zero_add, Nat.le_refl, Nat.zero_le, List.set_cons_zero, List.set_cons_succ, List.set_nil, ↓reduceIte, Nat.reduceAdd, Nat.reduceSub, Nat.reduceEqDiff, Nat.reduceLeDiff, Int.reduceEq, Int.reduceNe, Int.reduceNeg, reduceCtorEq, kd190, cw.1, hP, td]
              refine ⟨rr (by omega), fun _ => ⟨rr (by omega), fun _ => ⟨hR1, r3 (by omega), by omega, ih (i + 1) _ _ (by omega)⟩, fun e => absurd hlt.2 e⟩, fun e => absurd hlt.1 e⟩
          have L := lp (if (cwd f k : Int) ≤ w then (cwd f k : Int) else w).toNat 0 a b (by split <;> omega)
          rw [Nat.pow_zero, Nat.div_one] at L
          refine ⟨?_, fun e => ?_⟩
          · refine WP.run [(234, 127)] [] 60 ?_
            simp only [bk234_0, bk234_7, bk234_12, bk234_15, bk234_22, bk234_25, bk234_42, bk234_45, bk234_59, bk234_65, bk234_81, bk234_86, bk234_88, bk234_97, bk234_102, bk234_104, bk234_112, bk234_117, bk234_120, bk234_127, bk234_133, bk234_142, bk234_157, bk234_165, bk234_175, bk234_176, U_iload_n, U_invokestatic1, U_if_eq, U_iconst, U_icmp_ge, U_bipush, U_ireturn, U_aload_n, U_invokevirtual0, U_if_ne, U_invokevirtual1, U_istore_n, U_sipush, U_icmp_le, U_istore, U_invokevirtual2, U_iload, U_goto, U_iinc, U_icmp_ne, U_getfield, U_idiv, U_irem, UN_cc, UN_cn, UN_nc, UN_nn, UJ, lget, lset, lset2, entL, wsm, wcat, Option.toList_some, Option.toList_none, List.cons_append, List.nil_append, List.mem_cons, List.not_mem_nil, Prod.mk.injEq, or_false, false_or, or_true, true_or, and_true, true_and, and_false, false_and, and_self, ne_eq, not_false_eq_true, not_true_eq_false, forall_const, true_implies, false_implies, Nat.add_zero, Nat.zero_add, Nat.le_refl, Nat.zero_le, List.set_cons_zero, List.set_cons_succ, List.set_nil, ↓reduceIte, Nat.reduceAdd, Nat.reduceSub, Nat.reduceEqDiff, Nat.reduceLeDiff, Int.reduceEq, Int.reduceNe, Int.reduceNeg, reduceCtorEq]
            exact L
          · refine WP.run [(234, 127)] [] 60 ?_
            simp only [bk234_0, bk234_7, bk234_12, bk234_15, bk234_22, bk234_25, bk234_42, bk234_45, bk234_59, bk234_65, bk234_81, bk234_86, bk234_88, bk234_97, bk234_102, bk234_104, bk234_112, bk234_117, bk234_120, bk234_127, bk234_133, bk234_142, bk234_157, bk234_165, bk234_175, bk234_176, U_iload_n, U_invokestatic1, U_if_eq, U_iconst, U_icmp_ge, U_bipush, U_ireturn, U_aload_n, U_invokevirtual0, U_if_ne, U_invokevirtual1, U_istore_n, U_sipush, U_icmp_le, U_istore, U_invokevirtual2, U_iload, U_goto, U_iinc, U_icmp_ne, U_getfield, U_idiv, U_irem, UN_cc, UN_cn, UN_nc, UN_nn, UJ, lget, lset, lset2, entL, wsm, wcat, Option.toList_some, Option.toList_none, List.cons_append, List.nil_append, List.mem_cons, List.not_mem_nil, Prod.mk.injEq, or_false, false_or, or_true, true_or, and_true, true_and, and_false, false_and, and_self, ne_eq, not_false_eq_true, not_true_eq_false, forall_const, true_implies, false_implies, Nat.add_zero, Nat.zero_add, Nat.le_refl, Nat.zero_le, List.set_cons_zero, List.set_cons_succ, List.set_nil, ↓reduceIte, Nat.reduceAdd, Nat.reduceSub, Nat.reduceEqDiff, Nat.reduceLeDiff, Int.reduceEq, Int.reduceNe, Int.reduceNeg, reduceCtorEq]
            exact L
        -- the loop over all words
        have key : ∀ (x n b : Nat) (e : Nat × Int), n + x = al → 1 ≤ n → IsFst D n b → (e = (9, 0) ∨ ∃ c : Int, e = (0, c)) → WP 234 (0, 0) 59 [(2, 190), (0, (k : Int)), (0, w), (0, (al : Int)), (0, (b : Int)), (0, (D b : Int)), (0, (n : Int)), e] [] NN N1 Q := by
          intro x
          induction x with
          | zero =>
            intro n b e hn h1 hF he
            obtain rfl : n = al := by omega
            have hbl := hF.1
            have hDb := hD b
            rw [frN_is hF] at hq
            refine WP.run [(234, 120)] [] 60 ?_
            simp only [bk234_0, bk234_7, bk234_12, bk234_15, bk234_22, bk234_25, bk234_42, bk234_45, bk234_59, bk234_65, bk234_81, bk234_86, bk234_88, bk234_97, bk234_102, bk234_104, bk234_112, bk234_117, bk234_120, bk234_127, bk234_133, bk234_142, bk234_157, bk234_165, bk234_175, bk234_176, U_iload_n, U_invokestatic1, U_if_eq, U_iconst, U_icmp_ge, U_bipush, U_ireturn, U_aload_n, U_invokevirtual0, U_if_ne, U_invokevirtual1, U_istore_n, U_sipush, U_icmp_le, U_istore, U_invokevirtual2, U_iload, U_goto, U_iinc, U_icmp_ne, U_getfield, U_idiv, U_irem, UN_cc, UN_cn, UN_nc, UN_nn, UJ, lget, lset, lset2, entL, wsm, wcat, Option.toList_some, Option.toList_none, List.cons_append, List.nil_append, List.mem_cons, List.not_mem_nil, Prod.mk.injEq, or_false, false_or, or_true, true_or, and_true, true_and, and_false, false_and, and_self, ne_eq, not_false_eq_true, not_true_eq_false, forall_const, true_implies, false_implies, Nat.add_zero, Nat.zero_add, Nat.le_refl, Nat.zero_le, List.set_cons_zero, List.set_cons_succ, List.set_nil, ↓reduceIte, Nat.reduceAdd, Nat.reduceSub, Nat.reduceEqDiff, Nat.reduceLeDiff, Int.reduceEq, Int.reduceNe, Int.reduceNeg, reduceCtorEq]
            refine ⟨rr (by omega), fun e => absurd e (by omega), fun _ => ⟨rr (by omega), fun ew => ?_, fun ew => ?_⟩⟩
            · rw [if_neg (by omega), if_pos ew] at hq
              by_cases c0 : cwd f k = 0
              · rw [if_pos c0] at hq
                have : b = 0 := by
                  have : n = 1 := by rw [← hal, c0, Nat.pow_zero]
                  omega
                rw [this, hz0 c0]; exact hq
              · rw [if_neg c0] at hq; exact hq
            · have hq' : Q (some (0, if (cwd f k : Int) ≤ w then -1 else ((b / p.toNat ^ w.toNat % p.toNat : Nat) : Int))) NN N1 := by
                by_cases c : (cwd f k : Int) ≤ w
                · rw [if_pos c] at hq ⊢; exact hq
                · rw [if_neg c, if_neg ew] at hq
                  rw [if_neg c]; exact hq
              have W := dg' b (n : Int) (D b : Int) (n : Int) (by omega) ew hq'
              rcases he with rfl | ⟨c, rfl⟩
              · exact W.1
              · exact W.2 c
          | succ x ih =>
            intro n b e hn h1 hF he
            have hbl := hF.1
            have hDb := hD b
            have hDn := hD n
            have nx := ih (n + 1) (if D n < D b then n else b) (0, (D n : Int)) (by omega) (by omega) (fst_s hF) (Or.inr ⟨_, rfl⟩)
            refine WP.run [(234, 59)] [] 60 ?_
            simp only [bk234_0, bk234_7, bk234_12, bk234_15, bk234_22, bk234_25, bk234_42, bk234_45, bk234_59, bk234_65, bk234_81, bk234_86, bk234_88, bk234_97, bk234_102, bk234_104, bk234_112, bk234_117, bk234_120, bk234_127, bk234_133, bk234_142, bk234_157, bk234_165, bk234_175, bk234_176, U_iload_n, U_invokestatic1, U_if_eq, U_iconst, U_icmp_ge, U_bipush, U_ireturn, U_aload_n, U_invokevirtual0, U_if_ne, U_invokevirtual1, U_istore_n, U_sipush, U_icmp_le, U_istore, U_invokevirtual2, U_iload, U_goto, U_iinc, U_icmp_ne, U_getfield, U_idiv, U_irem, UN_cc, UN_cn, UN_nc, UN_nn, UJ, lget, lset, lset2, entL, wsm, wcat, Option.toList_some, Option.toList_none, List.cons_append, List.nil_append, List.mem_cons, List.not_mem_nil, Prod.mk.injEq, or_false, false_or, or_true, true_or, and_true, true_and, and_false, false_and, and_self, ne_eq, not_false_eq_true, not_true_eq_false, forall_const, true_implies, false_implies, Nat.add_zero, Nat.zero_add, Nat.le_refl, Nat.zero_le, List.set_cons_zero, List.set_cons_succ, List.set_nil, ↓reduceIte, Nat.reduceAdd, Nat.reduceSub, Nat.reduceEqDiff, Nat.reduceLeDiff, Int.reduceEq, Int.reduceNe, Int.reduceNeg, reduceCtorEq, kd190]
            refine ⟨rr (by omega), fun _ => dif n _ (by omega) ?_, fun e => absurd (by omega) e⟩
            simp only [bk234_0, bk234_7, bk234_12, bk234_15, bk234_22, bk234_25, bk234_42, bk234_45, bk234_59, bk234_65, bk234_81, bk234_86, bk234_88, bk234_97, bk234_102, bk234_104, bk234_112, bk234_117, bk234_120, bk234_127, bk234_133, bk234_142, bk234_157, bk234_165, bk234_175, bk234_176, U_iload_n, U_invokestatic1, U_if_eq, U_iconst, U_icmp_ge, U_bipush, U_ireturn, U_aload_n, U_invokevirtual0, U_if_ne, U_invokevirtual1, U_istore_n, U_sipush, U_icmp_le, U_istore, U_invokevirtual2, U_iload, U_goto, U_iinc, U_icmp_ne, U_getfield, U_idiv, U_irem, UN_cc, UN_cn, UN_nc, UN_nn, UJ, lget, lset, lset2, entL, wsm, wcat, Option.toList_some, Option.toList_none, List.cons_append, List.nil_append, List.mem_cons, List.not_mem_nil, Prod.mk.injEq, or_false, false_or, or_true, true_or, and_true, true_and, and_false, false_and, and_self, ne_eq, not_false_eq_true, not_true_eq_false, forall_const, true_implies, false_implies, Nat.add_zero, Nat.zero_add, Nat.le_refl, Nat.zero_le, List.set_cons_zero, List.set_cons_succ, List.set_nil, ↓reduceIte, Nat.reduceAdd, Nat.reduceSub, Nat.reduceEqDiff, Nat.reduceLeDiff, Int.reduceEq, Int.reduceNe, Int.reduceNeg, reduceCtorEq]
            by_cases c : D n < D b
            · rw [if_pos c] at nx
              refine ⟨rr (by omega), fun _ => ⟨rr (by omega), fun _ => nx, fun e => absurd (by omega) e⟩, fun e => absurd (by omega) e⟩
            · rw [if_neg c] at nx
              refine ⟨rr (by omega), fun e => absurd e (by omega), fun _ => ⟨rr (by omega), fun e => absurd e (by omega), fun _ => nx⟩⟩
        simp only [bk234_0, bk234_7, bk234_12, bk234_15, bk234_22, bk234_25, bk234_42, bk234_45, bk234_59, bk234_65, bk234_81, bk234_86, bk234_88, bk234_97, bk234_102, bk234_104, bk234_112, bk234_117, bk234_120, bk234_127, bk234_133, bk234_142, bk234_157, bk234_165, bk234_175, bk234_176, U_iload_n, U_invokestatic1, U_if_eq, U_iconst, U_icmp_ge, U_bipush, U_ireturn, U_aload_n, U_invokevirtual0, U_if_ne, U_invokevirtual1, U_istore_n, U_sipush, U_icmp_le, U_istore, U_invokevirtual2, U_iload, U_goto, U_iinc, U_icmp_ne, U_getfield, U_idiv, U_irem, UN_cc, UN_cn, UN_nc, UN_nn, UJ, lget, lset, lset2, entL, wsm, wcat, Option.toList_some, Option.toList_none, List.cons_append, List.nil_append, List.mem_cons, List.not_mem_nil, Prod.mk.injEq, or_false, false_or, or_true, true_or, and_true, true_and, and_false, false_and, and_self, ne_eq, not_false_eq_true, not_true_eq_false, forall_const, true_implies, false_implies, Nat.add_zero, Nat.zero_add, Nat.le_refl, Nat.zero_le, List.set_cons_zero, List.set_cons_succ, List.set_nil, ↓reduceIte, Nat.reduceAdd, Nat.reduceSub, Nat.reduceEqDiff, Nat.reduceLeDiff, Int.reduceEq, Int.reduceNe, Int.reduceNeg, reduceCtorEq, kd190]
        refine ⟨rr (by omega), fun e => absurd e (by omega), fun _ => dif 0 _ (by omega) ?_⟩
        simp only [bk234_0, bk234_7, bk234_12, bk234_15, bk234_22, bk234_25, bk234_42, bk234_45, bk234_59, bk234_65, bk234_81, bk234_86, bk234_88, bk234_97, bk234_102, bk234_104, bk234_112, bk234_117, bk234_120, bk234_127, bk234_133, bk234_142, bk234_157, bk234_165, bk234_175, bk234_176, U_iload_n, U_invokestatic1, U_if_eq, U_iconst, U_icmp_ge, U_bipush, U_ireturn, U_aload_n, U_invokevirtual0, U_if_ne, U_invokevirtual1, U_istore_n, U_sipush, U_icmp_le, U_istore, U_invokevirtual2, U_iload, U_goto, U_iinc, U_icmp_ne, U_getfield, U_idiv, U_irem, UN_cc, UN_cn, UN_nc, UN_nn, UJ, lget, lset, lset2, entL, wsm, wcat, Option.toList_some, Option.toList_none, List.cons_append, List.nil_append, List.mem_cons, List.not_mem_nil, Prod.mk.injEq, or_false, false_or, or_true, true_or, and_true, true_and, and_false, false_and, and_self, ne_eq, not_false_eq_true, not_true_eq_false, forall_const, true_implies, false_implies, Nat.add_zero, Nat.zero_add, Nat.le_refl, Nat.zero_le, List.set_cons_zero, List.set_cons_succ, List.set_nil, ↓reduceIte, Nat.reduceAdd, Nat.reduceSub, Nat.reduceEqDiff, Nat.reduceLeDiff, Int.reduceEq, Int.reduceNe, Int.reduceNeg, reduceCtorEq]
        exact key (al - 1) 1 0 (9, 0) (by omega) (by omega) fst_1 (Or.inl rfl)
      · rw [if_neg big]
        rw [if_pos (by omega)] at hq
        simp only [bk234_0, bk234_7, bk234_12, bk234_15, bk234_22, bk234_25, bk234_42, bk234_45, bk234_59, bk234_65, bk234_81, bk234_86, bk234_88, bk234_97, bk234_102, bk234_104, bk234_112, bk234_117, bk234_120, bk234_127, bk234_133, bk234_142, bk234_157, bk234_165, bk234_175, bk234_176, U_iload_n, U_invokestatic1, U_if_eq, U_iconst, U_icmp_ge, U_bipush, U_ireturn, U_aload_n, U_invokevirtual0, U_if_ne, U_invokevirtual1, U_istore_n, U_sipush, U_icmp_le, U_istore, U_invokevirtual2, U_iload, U_goto, U_iinc, U_icmp_ne, U_getfield, U_idiv, U_irem, UN_cc, UN_cn, UN_nc, UN_nn, UJ, lget, lset, lset2, entL, wsm, wcat, Option.toList_some, Option.toList_none, List.cons_append, List.nil_append, List.mem_cons, List.not_mem_nil, Prod.mk.injEq, or_false, false_or, or_true, true_or, and_true, true_and, and_false, false_and, and_self, ne_eq, not_false_eq_true, not_true_eq_false, forall_const, true_implies, false_implies, Nat.add_zero, Nat.zero_add, Nat.le_refl, Nat.zero_le, List.set_cons_zero, List.set_cons_succ, List.set_nil, ↓reduceIte, Nat.reduceAdd, Nat.reduceSub, Nat.reduceEqDiff, Nat.reduceLeDiff, Int.reduceEq, Int.reduceNe, Int.reduceNeg, reduceCtorEq]
        exact ⟨rr (by omega), fun _ => hq, fun e => absurd (by omega) e⟩
  · rw [if_neg q]
    simp only [bk234_0, bk234_7, bk234_12, bk234_15, bk234_22, bk234_25, bk234_42, bk234_45, bk234_59, bk234_65, bk234_81, bk234_86, bk234_88, bk234_97, bk234_102, bk234_104, bk234_112, bk234_117, bk234_120, bk234_127, bk234_133, bk234_142, bk234_157, bk234_165, bk234_175, bk234_176, U_iload_n, U_invokestatic1, U_if_eq, U_iconst, U_icmp_ge, U_bipush, U_ireturn, U_aload_n, U_invokevirtual0, U_if_ne, U_invokevirtual1, U_istore_n, U_sipush, U_icmp_le, U_istore, U_invokevirtual2, U_iload, U_goto, U_iinc, U_icmp_ne, U_getfield, U_idiv, U_irem, UN_cc, UN_cn, UN_nc, UN_nn, UJ, lget, lset, lset2, entL, wsm, wcat, Option.toList_some, Option.toList_none, List.cons_append, List.nil_append, List.mem_cons, List.not_mem_nil, Prod.mk.injEq, or_false, false_or, or_true, true_or, and_true, true_and, and_false, false_and, and_self, ne_eq, not_false_eq_true, not_true_eq_false, forall_const, true_implies, false_implies, Nat.add_zero, Nat.zero_add, Nat.le_refl, Nat.zero_le, List.set_cons_zero, List.set_cons_succ, List.set_nil, ↓reduceIte, Nat.reduceAdd, Nat.reduceSub, Nat.reduceEqDiff, Nat.reduceLeDiff, Int.reduceEq, Int.reduceNe, Int.reduceNeg, reduceCtorEq]
    exact ⟨r3 (by omega), bad (Or.inl q)⟩
