/-! THE MODEL'S CALLS: amounts, the told row, the cover, the row pushed, the prime -/
theorem MS.am {p : Int} {g : Nat} {f : Pz p} {pu : List Int} {rg : Nat → Pz p × Pz p} {A tl : Nat → Int} {E : Nat → Nat} {N : Mem} (h : MS g f pu rg A tl E N) (a : Nat) (v : Int) : MS g f pu rg (upr A a v) tl E (ust N 194 (a : Int) v) := by
  obtain ⟨a0, a1, a2, a3, a4, a5, a6, a7, a8⟩ := h
  have e : FM [194] [] N (ust N 194 (a : Int) v) := (FM.rf _ _ _).us _ _ (by simp) (by decide)
  refine ⟨a0.fm e (fzk rfl rfl) (by decide) (by decide) (by decide), a1.fx (e.2 _ (by decide)) (e.2 _ (by decide)) (e.2 _ (by decide)) (e.1 _ (by decide) (by decide)) (e.1 _ (by decide) (by decide)), ?_, fun r hr => (a3 r hr).fx (e.1 _ (by decide) (by decide)), fun i hi => ?_, ?_, ?_, a7.fx (e.2 _ (by decide)) (e.1 _ (by decide) (by decide)), a8.fx (e.2 _ (by decide)) (e.1 _ (by decide) (by decide))⟩
  · rw [e.2 4 (by decide), e.1 191 (by decide) (by decide)]; exact a2
  · unfold upr
    rw [ust_at]
    by_cases c : i = a
    · rw [if_pos (by omega), if_pos c]
    · rw [if_neg (by omega), if_neg c]; exact a4 i hi
  · rw [e.1 196 (by decide) (by decide)]; exact a5
  · rw [e.1 197 (by decide) (by decide)]; exact a6
theorem MS.td {p : Int} {g : Nat} {f : Pz p} {pu : List Int} {rg : Nat → Pz p × Pz p} {A tl : Nat → Int} {E : Nat → Nat} {N : Mem} (h : MS g f pu rg A tl E N) (a : Nat) (v : Int) : MS g f pu rg A (upr tl a v) E (ust N 196 (a : Int) v) := by
  obtain ⟨a0, a1, a2, a3, a4, a5, a6, a7, a8⟩ := h
  have e : FM [196] [] N (ust N 196 (a : Int) v) := (FM.rf _ _ _).us _ _ (by simp) (by decide)
  refine ⟨a0.fm e (fzk rfl rfl) (by decide) (by decide) (by decide), a1.fx (e.2 _ (by decide)) (e.2 _ (by decide)) (e.2 _ (by decide)) (e.1 _ (by decide) (by decide)) (e.1 _ (by decide) (by decide)), ?_, fun r hr => (a3 r hr).fx (e.1 _ (by decide) (by decide)), ?_, fun i hi => ?_, ?_, a7.fx (e.2 _ (by decide)) (e.1 _ (by decide) (by decide)), a8.fx (e.2 _ (by decide)) (e.1 _ (by decide) (by decide))⟩
  · rw [e.2 4 (by decide), e.1 191 (by decide) (by decide)]; exact a2
  · rw [e.1 194 (by decide) (by decide)]; exact a4
  · unfold upr
    rw [ust_at]
    by_cases c : i = a
    · rw [if_pos (by omega), if_pos c]
    · rw [if_neg (by omega), if_neg c]; exact a5 i hi
  · rw [e.1 197 (by decide) (by decide)]; exact a6
theorem MS.co {p : Int} {g : Nat} {f : Pz p} {pu : List Int} {rg : Nat → Pz p × Pz p} {A tl : Nat → Int} {E : Nat → Nat} {N : Mem} (h : MS g f pu rg A tl E N) (a v : Nat) : MS g f pu rg A tl (upr E a v) (ust N 197 (a : Int) (v : Int)) := by
  obtain ⟨a0, a1, a2, a3, a4, a5, a6, a7, a8⟩ := h
  have e : FM [197] [] N (ust N 197 (a : Int) (v : Int)) := (FM.rf _ _ _).us _ _ (by simp) (by decide)
  refine ⟨a0.fm e (fzk rfl rfl) (by decide) (by decide) (by decide), a1.fx (e.2 _ (by decide)) (e.2 _ (by decide)) (e.2 _ (by decide)) (e.1 _ (by decide) (by decide)) (e.1 _ (by decide) (by decide)), ?_, fun r hr => (a3 r hr).fx (e.1 _ (by decide) (by decide)), ?_, ?_, fun i hi => ?_, a7.fx (e.2 _ (by decide)) (e.1 _ (by decide) (by decide)), a8.fx (e.2 _ (by decide)) (e.1 _ (by decide) (by decide))⟩
  · rw [e.2 4 (by decide), e.1 191 (by decide) (by decide)]; exact a2
  · rw [e.1 194 (by decide) (by decide)]; exact a4
  · rw [e.1 196 (by decide) (by decide)]; exact a5
  · unfold upr
    rw [ust_at]
    by_cases c : i = a
    · rw [if_pos (by omega), if_pos c]
    · rw [if_neg (by omega), if_neg c]; exact a6 i hi
theorem MS.pu {p : Int} {g : Nat} {f : Pz p} {pu : List Int} {rg : Nat → Pz p × Pz p} {A tl : Nat → Int} {E : Nat → Nat} {N : Mem} (h : MS g f pu rg A tl E N) (v : Int) : MS g f (pu ++ [v]) rg A tl E (ust (ust N 191 (pu.length : Int) v) 190 4 ((pu.length : Int) + 1)) := by
  obtain ⟨a0, a1, a2, a3, a4, a5, a6, a7, a8⟩ := h
  have e : FM [191] [4] N (ust (ust N 191 (pu.length : Int) v) 190 4 ((pu.length : Int) + 1)) := ((FM.rf _ _ _).us _ _ (by simp) (by decide)).uf _ (by simp)
  refine ⟨a0.fm e (fzk rfl rfl) (by decide) (by decide) (by decide), a1.fx (e.2 _ (by decide)) (e.2 _ (by decide)) (e.2 _ (by decide)) (e.1 _ (by decide) (by decide)) (e.1 _ (by decide) (by decide)), ⟨?_, fun i w hw => ?_⟩, fun r hr => (a3 r hr).fx (e.1 _ (by decide) (by decide)), ?_, ?_, ?_, a7.fx (e.2 _ (by decide)) (e.1 _ (by decide) (by decide)), a8.fx (e.2 _ (by decide)) (e.1 _ (by decide) (by decide))⟩
  · rw [ust_at, if_pos rfl, List.length_append]; simp
  · rw [ust_ne (by decide), ust_at]
    by_cases c : i < pu.length
    · rw [if_neg (by omega)]
      rw [List.getElem?_append_left c] at hw
      exact a2.2 i w hw
    · rw [List.getElem?_append_right (by omega)] at hw
      have hi : i - pu.length < 1 := by
        have := (List.getElem?_eq_some_iff.mp hw).1
        simpa using this
      obtain rfl : i = pu.length := by omega
      rw [Nat.sub_self] at hw
      rw [if_pos rfl]
      simpa using hw
  · rw [e.1 194 (by decide) (by decide)]; exact a4
  · rw [e.1 196 (by decide) (by decide)]; exact a5
  · rw [e.1 197 (by decide) (by decide)]; exact a6
theorem clU {N : Mem} {a : Int} (i x : Int) (h : 190 ≤ a) : clF N (ust N a i x) := fun b hb => ust_ne (by omega)
set_option maxHeartbeats 8000000 in
theorem q_amount {p : Int} {g : Nat} {f : Pz p} {pu : List Int} {rg : Nat → Pz p × Pz p} {A tl : Nat → Int} {E : Nat → Nat} {N : Mem} {Q : Post} {pt v : Int} (h : MS g f pu rg A tl E N) (V : VS g f pu rg A tl E) (hpt : R32 pt) (hv : R32 v)
    (hQ1 : ¬ okAmount g f pt v → Q (some (0, oAmount g f A pt v)) NN N) (hQ2 : okAmount g f pt v → ∀ N', MS g f pu rg (upr A pt.toNat v) tl E N' → clF N N' → Q (some (0, oAmount g f A pt v)) NN N') : CL 223 [(2, 190), (0, pt), (0, v), (9, 0)] NN N Q := by
  have hn := nPt_le V.1 g f
  have hz := h.fz
  have bad : (¬ (0 ≤ pt ∧ pt < nPt g f) ∨ ¬ (-(if pt = 0 then 30 else 4) ≤ v ∧ v ≤ (if pt = 0 then 30 else 4))) → Q (some (0, -100)) NN N := fun e => by
    have h1 := hQ1 (fun w => by rcases e with e | e; exact e w.1; exact e w.2.1)
    unfold oAmount at h1
    rw [if_pos e] at h1; exact h1
  -- behind the numbers' test
  have go : (0 ≤ pt ∧ pt ≤ 26) → (-(if pt = 0 then 30 else 4) ≤ v ∧ v ≤ (if pt = 0 then 30 else 4)) → WP 223 (0, 0) 50 [(2, 190), (0, pt), (0, v), (9, 0)] [] NN N Q := fun q1 q2 => by
    refine WP.run [] [] 60 ?_
    simp only [bk223_0, bk223_12, bk223_16, bk223_30, bk223_33, bk223_47, bk223_50, bk223_57, bk223_61, bk223_69, bk223_72, U_iload_n, U_i2l, U_lconst, U_ldc2_w, U_invokestatic3, U_if_eq, U_if_ne, U_goto, U_bipush, U_ireturn, U_aload_n, U_invokevirtual0, U_sipush, U_invokevirtual1, U_getfield, U_iald, U_istore_n, U_iast, UN_cc, UN_cn, UN_nc, UN_nn, UJ, lget, lset, lset2, entL, wsm, wcat, Option.toList_some, Option.toList_none, List.cons_append, List.nil_append, List.mem_cons, List.not_mem_nil, Prod.mk.injEq, or_false, false_or, or_true, true_or, and_true, true_and, and_false, false_and, and_self, ne_eq, not_false_eq_true, not_true_eq_false, forall_const, true_implies, false_implies, Nat.add_zero, Nat.zero_add, Nat.le_refl, Nat.zero_le, List.set_cons_zero, List.set_cons_succ, List.set_nil, ↓reduceIte, Nat.reduceAdd, Nat.reduceSub, Nat.reduceEqDiff, Nat.reduceLeDiff, Int.reduceEq, Int.reduceNe, Int.reduceNeg, reduceCtorEq, kd190]
    refine m_std h V ?_
    by_cases q : g = 0
    · rw [if_pos q]
      have e27 : nPt g f = 27 := by unfold nPt; rw [if_pos q]
      have h1 := hQ1 (fun w => w.2.2 q)
      unfold oAmount at h1
      rw [if_neg (fun w => by rcases w with w | w; exact w ⟨q1.1, by omega⟩; exact w q2), if_pos q] at h1
      simp only [bk223_0, bk223_12, bk223_16, bk223_30, bk223_33, bk223_47, bk223_50, bk223_57, bk223_61, bk223_69, bk223_72, U_iload_n, U_i2l, U_lconst, U_ldc2_w, U_invokestatic3, U_if_eq, U_if_ne, U_goto, U_bipush, U_ireturn, U_aload_n, U_invokevirtual0, U_sipush, U_invokevirtual1, U_getfield, U_iald, U_istore_n, U_iast, UN_cc, UN_cn, UN_nc, UN_nn, UJ, lget, lset, lset2, entL, wsm, wcat, Option.toList_some, Option.toList_none, List.cons_append, List.nil_append, List.mem_cons, List.not_mem_nil, Prod.mk.injEq, or_false, false_or, or_true, true_or, and_true, true_and, and_false, false_and, and_self, ne_eq, not_false_eq_true, not_true_eq_false, forall_const, true_implies, false_implies, Nat.add_zero, Nat.zero_add, Nat.le_refl, Nat.zero_le, List.set_cons_zero, List.set_cons_succ, List.set_nil, ↓reduceIte, Nat.reduceAdd, Nat.reduceSub, Nat.reduceEqDiff, Nat.reduceLeDiff, Int.reduceEq, Int.reduceNe, Int.reduceNeg, reduceCtorEq]
      exact ⟨r3 (by omega), h1⟩
    · rw [if_neg q]
      have G := (h.mg q).1
      have en : nPt g f = (ptl f p.toNat).length + 1 := by unfold nPt; rw [if_neg q]
      simp only [bk223_0, bk223_12, bk223_16, bk223_30, bk223_33, bk223_47, bk223_50, bk223_57, bk223_61, bk223_69, bk223_72, U_iload_n, U_i2l, U_lconst, U_ldc2_w, U_invokestatic3, U_if_eq, U_if_ne, U_goto, U_bipush, U_ireturn, U_aload_n, U_invokevirtual0, U_sipush, U_invokevirtual1, U_getfield, U_iald, U_istore_n, U_iast, UN_cc, UN_cn, UN_nc, UN_nn, UJ, lget, lset, lset2, entL, wsm, wcat, Option.toList_some, Option.toList_none, List.cons_append, List.nil_append, List.mem_cons, List.not_mem_nil, Prod.mk.injEq, or_false, false_or, or_true, true_or, and_true, true_and, and_false, false_and, and_self, ne_eq, not_false_eq_true, not_true_eq_false, forall_const, true_implies, false_implies, Nat.add_zero, Nat.zero_add, Nat.le_refl, Nat.zero_le, List.set_cons_zero, List.set_cons_succ, List.set_nil, ↓reduceIte, Nat.reduceAdd, Nat.reduceSub, Nat.reduceEqDiff, Nat.reduceLeDiff, Int.reduceEq, Int.reduceNe, Int.reduceNeg, reduceCtorEq, kd190]
      refine ⟨r3 (by omega), m_isPt (m := nPt g f) hpt (by rw [G.2.2.2, en]; rfl) (by omega) ?_⟩
      by_cases q3 : 0 ≤ pt ∧ pt < nPt g f
      · rw [if_pos q3]
        obtain ⟨m, rfl⟩ : ∃ m : Nat, pt = m := ⟨pt.toNat, by omega⟩
        have h1 := hQ2 ⟨q3, q2, q⟩
        unfold oAmount at h1
        rw [if_neg (fun w => by rcases w with w | w; exact w q3; exact w q2), if_neg q] at h1
        simp only [Int.toNat_natCast] at h1
        have e1 := h.2.2.2.2.1 m (by omega)
        simp only [bk223_0, bk223_12, bk223_16, bk223_30, bk223_33, bk223_47, bk223_50, bk223_57, bk223_61, bk223_69, bk223_72, U_iload_n, U_i2l, U_lconst, U_ldc2_w, U_invokestatic3, U_if_eq, U_if_ne, U_goto, U_bipush, U_ireturn, U_aload_n, U_invokevirtual0, U_sipush, U_invokevirtual1, U_getfield, U_iald, U_istore_n, U_iast, UN_cc, UN_cn, UN_nc, UN_nn, UJ, lget, lset, lset2, entL, wsm, wcat, Option.toList_some, Option.toList_none, List.cons_append, List.nil_append, List.mem_cons, List.not_mem_nil, Prod.mk.injEq, or_false, false_or, or_true, true_or, and_true, true_and, and_false, false_and, and_self, ne_eq, not_false_eq_true, not_true_eq_false, forall_const, true_implies, false_implies, Nat.add_zero, Nat.zero_add, Nat.le_refl, Nat.zero_le, List.set_cons_zero, List.set_cons_succ, List.set_nil, ↓reduceIte, Nat.reduceAdd, Nat.reduceSub, Nat.reduceEqDiff, Nat.reduceLeDiff, Int.reduceEq, Int.reduceNe, Int.reduceNeg, reduceCtorEq, kd190, kd194, ln194, z190_8 hz, e1]
        repeat (first | refine And.intro (by first | omega | exact not_false) ?_ | refine And.intro (rr (by omega)) ?_ | refine And.intro (r3 (by omega)) ?_ | refine And.intro (r6 (by omega)) ?_)
        exact h1 _ (h.am m v) (clU _ _ (by decide))
      · rw [if_neg q3]
        simp only [bk223_0, bk223_12, bk223_16, bk223_30, bk223_33, bk223_47, bk223_50, bk223_57, bk223_61, bk223_69, bk223_72, U_iload_n, U_i2l, U_lconst, U_ldc2_w, U_invokestatic3, U_if_eq, U_if_ne, U_goto, U_bipush, U_ireturn, U_aload_n, U_invokevirtual0, U_sipush, U_invokevirtual1, U_getfield, U_iald, U_istore_n, U_iast, UN_cc, UN_cn, UN_nc, UN_nn, UJ, lget, lset, lset2, entL, wsm, wcat, Option.toList_some, Option.toList_none, List.cons_append, List.nil_append, List.mem_cons, List.not_mem_nil, Prod.mk.injEq, or_false, false_or, or_true, true_or, and_true, true_and, and_false, false_and, and_self, ne_eq, not_false_eq_true, not_true_eq_false, forall_const, true_implies, false_implies, Nat.add_zero, Nat.zero_add, Nat.le_refl, Nat.zero_le, List.set_cons_zero, List.set_cons_succ, List.set_nil, ↓reduceIte, Nat.reduceAdd, Nat.reduceSub, Nat.reduceEqDiff, Nat.reduceLeDiff, Int.reduceEq, Int.reduceNe, Int.reduceNeg, reduceCtorEq]
        exact ⟨r3 (by omega), bad (Or.inl q3)⟩
  refine WP.run [(223, 50)] [] 60 ?_
  simp only [bk223_0, bk223_12, bk223_16, bk223_30, bk223_33, bk223_47, bk223_50, bk223_57, bk223_61, bk223_69, bk223_72, U_iload_n, U_i2l, U_lconst, U_ldc2_w, U_invokestatic3, U_if_eq, U_if_ne, U_goto, U_bipush, U_ireturn, U_aload_n, U_invokevirtual0, U_sipush, U_invokevirtual1, U_getfield, U_iald, U_istore_n, U_iast, UN_cc, UN_cn, UN_nc, UN_nn, UJ, lget, lset, lset2, entL, wsm, wcat, Option.toList_some, Option.toList_none, List.cons_append, List.nil_append, List.mem_cons, List.not_mem_nil, Prod.mk.injEq, or_false, false_or, or_true, true_or, and_true, true_and, and_false, false_and, and_self, ne_eq, not_false_eq_true, not_true_eq_false, forall_const, true_implies, false_implies, Nat.add_zero, Nat.zero_add, Nat.le_refl, Nat.zero_le, List.set_cons_zero, List.set_cons_succ, List.set_nil, ↓reduceIte, Nat.reduceAdd, Nat.reduceSub, Nat.reduceEqDiff, Nat.reduceLeDiff, Int.reduceEq, Int.reduceNe, Int.reduceNeg, reduceCtorEq]
  refine ⟨hpt, m_in hpt.l (r64 (by omega)) (r64 (by omega)) ?_⟩
  by_cases q1 : 0 ≤ pt ∧ pt ≤ 26
  · rw [if_pos q1]
    simp only [bk223_0, bk223_12, bk223_16, bk223_30, bk223_33, bk223_47, bk223_50, bk223_57, bk223_61, bk223_69, bk223_72, U_iload_n, U_i2l, U_lconst, U_ldc2_w, U_invokestatic3, U_if_eq, U_if_ne, U_goto, U_bipush, U_ireturn, U_aload_n, U_invokevirtual0, U_sipush, U_invokevirtual1, U_getfield, U_iald, U_istore_n, U_iast, UN_cc, UN_cn, UN_nc, UN_nn, UJ, lget, lset, lset2, entL, wsm, wcat, Option.toList_some, Option.toList_none, List.cons_append, List.nil_append, List.mem_cons, List.not_mem_nil, Prod.mk.injEq, or_false, false_or, or_true, true_or, and_true, true_and, and_false, false_and, and_self, ne_eq, not_false_eq_true, not_true_eq_false, forall_const, true_implies, false_implies, Nat.add_zero, Nat.zero_add, Nat.le_refl, Nat.zero_le, List.set_cons_zero, List.set_cons_succ, List.set_nil, ↓reduceIte, Nat.reduceAdd, Nat.reduceSub, Nat.reduceEqDiff, Nat.reduceLeDiff, Int.reduceEq, Int.reduceNe, Int.reduceNeg, reduceCtorEq]
    by_cases p0 : pt = 0
    · refine ⟨r3 (by omega), hpt, fun _ => ⟨hv, m_in hv.l (r64 (by omega)) (r64 (by omega)) ?_⟩, fun e => absurd p0 e⟩
      by_cases q2 : -30 ≤ v ∧ v ≤ 30
      · rw [if_pos q2]
        simp only [bk223_0, bk223_12, bk223_16, bk223_30, bk223_33, bk223_47, bk223_50, bk223_57, bk223_61, bk223_69, bk223_72, U_iload_n, U_i2l, U_lconst, U_ldc2_w, U_invokestatic3, U_if_eq, U_if_ne, U_goto, U_bipush, U_ireturn, U_aload_n, U_invokevirtual0, U_sipush, U_invokevirtual1, U_getfield, U_iald, U_istore_n, U_iast, UN_cc, UN_cn, UN_nc, UN_nn, UJ, lget, lset, lset2, entL, wsm, wcat, Option.toList_some, Option.toList_none, List.cons_append, List.nil_append, List.mem_cons, List.not_mem_nil, Prod.mk.injEq, or_false, false_or, or_true, true_or, and_true, true_and, and_false, false_and, and_self, ne_eq, not_false_eq_true, not_true_eq_false, forall_const, true_implies, false_implies, Nat.add_zero, Nat.zero_add, Nat.le_refl, Nat.zero_le, List.set_cons_zero, List.set_cons_succ, List.set_nil, ↓reduceIte, Nat.reduceAdd, Nat.reduceSub, Nat.reduceEqDiff, Nat.reduceLeDiff, Int.reduceEq, Int.reduceNe, Int.reduceNeg, reduceCtorEq]
        exact ⟨r3 (by omega), go q1 (by rw [if_pos p0]; exact q2)⟩
      · rw [if_neg q2]
        simp only [bk223_0, bk223_12, bk223_16, bk223_30, bk223_33, bk223_47, bk223_50, bk223_57, bk223_61, bk223_69, bk223_72, U_iload_n, U_i2l, U_lconst, U_ldc2_w, U_invokestatic3, U_if_eq, U_if_ne, U_goto, U_bipush, U_ireturn, U_aload_n, U_invokevirtual0, U_sipush, U_invokevirtual1, U_getfield, U_iald, U_istore_n, U_iast, UN_cc, UN_cn, UN_nc, UN_nn, UJ, lget, lset, lset2, entL, wsm, wcat, Option.toList_some, Option.toList_none, List.cons_append, List.nil_append, List.mem_cons, List.not_mem_nil, Prod.mk.injEq, or_false, false_or, or_true, true_or, and_true, true_and, and_false, false_and, and_self, ne_eq, not_false_eq_true, not_true_eq_false, forall_const, true_implies, false_implies, Nat.add_zero, Nat.zero_add, Nat.le_refl, Nat.zero_le, List.set_cons_zero, List.set_cons_succ, List.set_nil, ↓reduceIte, Nat.reduceAdd, Nat.reduceSub, Nat.reduceEqDiff, Nat.reduceLeDiff, Int.reduceEq, Int.reduceNe, Int.reduceNeg, reduceCtorEq]
        exact ⟨r3 (by omega), bad (Or.inr (by rw [if_pos p0]; exact q2))⟩
    · refine ⟨r3 (by omega), hpt, fun e => absurd e p0, fun _ => ⟨hv, m_in hv.l (r64 (by omega)) (r64 (by omega)) ?_⟩⟩
      by_cases q2 : -4 ≤ v ∧ v ≤ 4
      · rw [if_pos q2]
        simp only [bk223_0, bk223_12, bk223_16, bk223_30, bk223_33, bk223_47, bk223_50, bk223_57, bk223_61, bk223_69, bk223_72, U_iload_n, U_i2l, U_lconst, U_ldc2_w, U_invokestatic3, U_if_eq, U_if_ne, U_goto, U_bipush, U_ireturn, U_aload_n, U_invokevirtual0, U_sipush, U_invokevirtual1, U_getfield, U_iald, U_istore_n, U_iast, UN_cc, UN_cn, UN_nc, UN_nn, UJ, lget, lset, lset2, entL, wsm, wcat, Option.toList_some, Option.toList_none, List.cons_append, List.nil_append, List.mem_cons, List.not_mem_nil, Prod.mk.injEq, or_false, false_or, or_true, true_or, and_true, true_and, and_false, false_and, and_self, ne_eq, not_false_eq_true, not_true_eq_false, forall_const, true_implies, false_implies, Nat.add_zero, Nat.zero_add, Nat.le_refl, Nat.zero_le, List.set_cons_zero, List.set_cons_succ, List.set_nil, ↓reduceIte, Nat.reduceAdd, Nat.reduceSub, Nat.reduceEqDiff, Nat.reduceLeDiff, Int.reduceEq, Int.reduceNe, Int.reduceNeg, reduceCtorEq]
        exact ⟨r3 (by omega), go q1 (by rw [if_neg p0]; exact q2)⟩
      · rw [if_neg q2]
        simp only [bk223_0, bk223_12, bk223_16, bk223_30, bk223_33, bk223_47, bk223_50, bk223_57, bk223_61, bk223_69, bk223_72, U_iload_n, U_i2l, U_lconst, U_ldc2_w, U_invokestatic3, U_if_eq, U_if_ne, U_goto, U_bipush, U_ireturn, U_aload_n, U_invokevirtual0, U_sipush, U_invokevirtual1, U_getfield, U_iald, U_istore_n, U_iast, UN_cc, UN_cn, UN_nc, UN_nn, UJ, lget, lset, lset2, entL, wsm, wcat, Option.toList_some, Option.toList_none, List.cons_append, List.nil_append, List.mem_cons, List.not_mem_nil, Prod.mk.injEq, or_false, false_or, or_true, true_or, and_true, true_and, and_false, false_and, and_self, ne_eq, not_false_eq_true, not_true_eq_false, forall_const, true_implies, false_implies, Nat.add_zero, Nat.zero_add, Nat.le_refl, Nat.zero_le, List.set_cons_zero, List.set_cons_succ, List.set_nil, ↓reduceIte, Nat.reduceAdd, Nat.reduceSub, Nat.reduceEqDiff, Nat.reduceLeDiff, Int.reduceEq, Int.reduceNe, Int.reduceNeg, reduceCtorEq]
        exact ⟨r3 (by omega), bad (Or.inr (by rw [if_neg p0]; exact q2))⟩
  · rw [if_neg q1]
    simp only [bk223_0, bk223_12, bk223_16, bk223_30, bk223_33, bk223_47, bk223_50, bk223_57, bk223_61, bk223_69, bk223_72, U_iload_n, U_i2l, U_lconst, U_ldc2_w, U_invokestatic3, U_if_eq, U_if_ne, U_goto, U_bipush, U_ireturn, U_aload_n, U_invokevirtual0, U_sipush, U_invokevirtual1, U_getfield, U_iald, U_istore_n, U_iast, UN_cc, UN_cn, UN_nc, UN_nn, UJ, lget, lset, lset2, entL, wsm, wcat, Option.toList_some, Option.toList_none, List.cons_append, List.nil_append, List.mem_cons, List.not_mem_nil, Prod.mk.injEq, or_false, false_or, or_true, true_or, and_true, true_and, and_false, false_and, and_self, ne_eq, not_false_eq_true, not_true_eq_false, forall_const, true_implies, false_implies, Nat.add_zero, Nat.zero_add, Nat.le_refl, Nat.zero_le, List.set_cons_zero, List.set_cons_succ, List.set_nil, ↓reduceIte, Nat.reduceAdd, Nat.reduceSub, Nat.reduceEqDiff, Nat.reduceLeDiff, Int.reduceEq, Int.reduceNe, Int.reduceNeg, reduceCtorEq]
    exact ⟨r3 (by omega), bad (Or.inl (by omega))⟩
set_option maxHeartbeats 8000000 in
theorem q_tell {p : Int} {g : Nat} {f : Pz p} {pu : List Int} {rg : Nat → Pz p × Pz p} {A tl : Nat → Int} {E : Nat → Nat} {N : Mem} {Q : Post} {j v : Int} (h : MS g f pu rg A tl E N) (V : VS g f pu rg A tl E) (hj : R32 j) (hv : R32 v)
    (hQ : ∀ N' tl', MS g f pu rg A tl' E N' → clF N N' → tl' = (if (0 ≤ j ∧ j < 26) ∧ (0 ≤ v ∧ v < p) then upr tl j.toNat v else tl) → Q (some (0, oTell g f tl j v)) NN N') : CL 231 [(2, 190), (0, j), (0, v), (9, 0)] NN N Q := by
  have hpp := V.1.pos
  have hz := h.fz
  have hP := h.p0
  have bad : (¬ (0 ≤ j ∧ j < 26) ∨ ¬ (0 ≤ v ∧ v < p)) → Q (some (0, -2)) NN N := fun e => by
    have h1 := hQ N tl h (clF.rf N) (by rw [if_neg (fun w => by rcases e with e | e; exact e w.1; exact e w.2)])
    unfold oTell at h1
    rw [if_pos e] at h1; exact h1
  refine WP.run [] [] 60 ?_
  simp only [bk231_0, bk231_12, bk231_28, bk231_31, U_iload_n, U_i2l, U_lconst, U_ldc2_w, U_invokestatic3, U_if_eq, U_aload_n, U_getfield, U_iconst, U_isub, U_if_ne, U_bipush, U_ireturn, U_iald, U_istore_n, U_iast, UN_cc, UN_cn, UN_nc, UN_nn, UJ, lget, lset, lset2, entL, wsm, wcat, Option.toList_some, Option.toList_none, List.cons_append, List.nil_append, List.mem_cons, List.not_mem_nil, Prod.mk.injEq, or_false, false_or, or_true, true_or, and_true, true_and, and_false, false_and, and_self, ne_eq, not_false_eq_true, not_true_eq_false, forall_const, true_implies, false_implies, Nat.add_zero, Nat.zero_add, Nat.le_refl, Nat.zero_le, List.set_cons_zero, List.set_cons_succ, List.set_nil, ↓reduceIte, Nat.reduceAdd, Nat.reduceSub, Nat.reduceEqDiff, Nat.reduceLeDiff, Int.reduceEq, Int.reduceNe, Int.reduceNeg, reduceCtorEq]
  refine ⟨hj, m_in hj.l (r64 (by omega)) (r64 (by omega)) ?_⟩
  by_cases q1 : 0 ≤ j ∧ j ≤ 25
  · rw [if_pos q1]
    simp only [bk231_0, bk231_12, bk231_28, bk231_31, U_iload_n, U_i2l, U_lconst, U_ldc2_w, U_invokestatic3, U_if_eq, U_aload_n, U_getfield, U_iconst, U_isub, U_if_ne, U_bipush, U_ireturn, U_iald, U_istore_n, U_iast, UN_cc, UN_cn, UN_nc, UN_nn, UJ, lget, lset, lset2, entL, wsm, wcat, Option.toList_some, Option.toList_none, List.cons_append, List.nil_append, List.mem_cons, List.not_mem_nil, Prod.mk.injEq, or_false, false_or, or_true, true_or, and_true, true_and, and_false, false_and, and_self, ne_eq, not_false_eq_true, not_true_eq_false, forall_const, true_implies, false_implies, Nat.add_zero, Nat.zero_add, Nat.le_refl, Nat.zero_le, List.set_cons_zero, List.set_cons_succ, List.set_nil, ↓reduceIte, Nat.reduceAdd, Nat.reduceSub, Nat.reduceEqDiff, Nat.reduceLeDiff, Int.reduceEq, Int.reduceNe, Int.reduceNeg, reduceCtorEq, kd190, hP]
    refine ⟨r3 (by omega), hv, r3 (by omega), m_in hv.l (r64 (by omega)) (r64 (by omega)) ?_⟩
    by_cases q2 : 0 ≤ v ∧ v ≤ p - 1
    · rw [if_pos q2]
      obtain ⟨m, rfl⟩ : ∃ m : Nat, j = m := ⟨j.toNat, by omega⟩
      have e1 := h.2.2.2.2.2.1 m (by omega)
      have h1 := fun N' a b => hQ N' (upr tl m v) a b (by rw [if_pos ⟨⟨by omega, by omega⟩, ⟨by omega, by omega⟩⟩]; rfl)
      unfold oTell at h1
      rw [if_neg (by omega)] at h1
      simp only [Int.toNat_natCast] at h1
      simp only [bk231_0, bk231_12, bk231_28, bk231_31, U_iload_n, U_i2l, U_lconst, U_ldc2_w, U_invokestatic3, U_if_eq, U_aload_n, U_getfield, U_iconst, U_isub, U_if_ne, U_bipush, U_ireturn, U_iald, U_istore_n, U_iast, UN_cc, UN_cn, UN_nc, UN_nn, UJ, lget, lset, lset2, entL, wsm, wcat, Option.toList_some, Option.toList_none, List.cons_append, List.nil_append, List.mem_cons, List.not_mem_nil, Prod.mk.injEq, or_false, false_or, or_true, true_or, and_true, true_and, and_false, false_and, and_self, ne_eq, not_false_eq_true, not_true_eq_false, forall_const, true_implies, false_implies, Nat.add_zero, Nat.zero_add, Nat.le_refl, Nat.zero_le, List.set_cons_zero, List.set_cons_succ, List.set_nil, ↓reduceIte, Nat.reduceAdd, Nat.reduceSub, Nat.reduceEqDiff, Nat.reduceLeDiff, Int.reduceEq, Int.reduceNe, Int.reduceNeg, reduceCtorEq, kd190, kd196, ln196, z190_10 hz, e1]
      repeat (first | refine And.intro (by first | omega | exact not_false) ?_ | refine And.intro (rr (by omega)) ?_ | refine And.intro (r3 (by omega)) ?_ | refine And.intro (r6 (by omega)) ?_)
      exact h1 _ (h.td m v) (clU _ _ (by decide))
    · rw [if_neg q2]
      simp only [bk231_0, bk231_12, bk231_28, bk231_31, U_iload_n, U_i2l, U_lconst, U_ldc2_w, U_invokestatic3, U_if_eq, U_aload_n, U_getfield, U_iconst, U_isub, U_if_ne, U_bipush, U_ireturn, U_iald, U_istore_n, U_iast, UN_cc, UN_cn, UN_nc, UN_nn, UJ, lget, lset, lset2, entL, wsm, wcat, Option.toList_some, Option.toList_none, List.cons_append, List.nil_append, List.mem_cons, List.not_mem_nil, Prod.mk.injEq, or_false, false_or, or_true, true_or, and_true, true_and, and_false, false_and, and_self, ne_eq, not_false_eq_true, not_true_eq_false, forall_const, true_implies, false_implies, Nat.add_zero, Nat.zero_add, Nat.le_refl, Nat.zero_le, List.set_cons_zero, List.set_cons_succ, List.set_nil, ↓reduceIte, Nat.reduceAdd, Nat.reduceSub, Nat.reduceEqDiff, Nat.reduceLeDiff, Int.reduceEq, Int.reduceNe, Int.reduceNeg, reduceCtorEq]
      exact ⟨r3 (by omega), bad (Or.inr (by omega))⟩
  · rw [if_neg q1]
    simp only [bk231_0, bk231_12, bk231_28, bk231_31, U_iload_n, U_i2l, U_lconst, U_ldc2_w, U_invokestatic3, U_if_eq, U_aload_n, U_getfield, U_iconst, U_isub, U_if_ne, U_bipush, U_ireturn, U_iald, U_istore_n, U_iast, UN_cc, UN_cn, UN_nc, UN_nn, UJ, lget, lset, lset2, entL, wsm, wcat, Option.toList_some, Option.toList_none, List.cons_append, List.nil_append, List.mem_cons, List.not_mem_nil, Prod.mk.injEq, or_false, false_or, or_true, true_or, and_true, true_and, and_false, false_and, and_self, ne_eq, not_false_eq_true, not_true_eq_false, forall_const, true_implies, false_implies, Nat.add_zero, Nat.zero_add, Nat.le_refl, Nat.zero_le, List.set_cons_zero, List.set_cons_succ, List.set_nil, ↓reduceIte, Nat.reduceAdd, Nat.reduceSub, Nat.reduceEqDiff, Nat.reduceLeDiff, Int.reduceEq, Int.reduceNe, Int.reduceNeg, reduceCtorEq]
    exact ⟨r3 (by omega), bad (Or.inl (by omega))⟩
set_option maxHeartbeats 8000000 in
theorem q_cover {p : Int} {g : Nat} {f : Pz p} {pu : List Int} {rg : Nat → Pz p × Pz p} {A tl : Nat → Int} {E : Nat → Nat} {N : Mem} {Q : Post} {a e : Int} (h : MS g f pu rg A tl E N) (V : VS g f pu rg A tl E) (ha : R32 a) (he : R32 e)
    (hQ : ∀ N' E', MS g f pu rg A tl E' N' → clF N N' → E' = (if (0 ≤ a ∧ a < p) ∧ (0 ≤ e ∧ e ≤ 20) then upr E a.toNat e.toNat else E) → Q (some (0, oCover p E a e)) NN N') : CL 240 [(2, 190), (0, a), (0, e), (9, 0)] NN N Q := by
  have hpp := V.1.pos
  have hz := h.fz
  have hP := h.p0
  have bad : (¬ (0 ≤ a ∧ a < p) ∨ ¬ (0 ≤ e ∧ e ≤ 20)) → Q (some (0, -2)) NN N := fun w => by
    have h1 := hQ N E h (clF.rf N) (by rw [if_neg (fun u => by rcases w with w | w; exact w u.1; exact w u.2)])
    unfold oCover at h1
    rw [if_pos w] at h1; exact h1
  refine WP.run [] [] 60 ?_
  simp only [bk240_0, bk240_16, bk240_28, bk240_31, U_iload_n, U_i2l, U_lconst, U_aload_n, U_getfield, U_iconst, U_isub, U_invokestatic3, U_if_eq, U_ldc2_w, U_if_ne, U_bipush, U_ireturn, U_iald, U_istore_n, U_iast, UN_cc, UN_cn, UN_nc, UN_nn, UJ, lget, lset, lset2, entL, wsm, wcat, Option.toList_some, Option.toList_none, List.cons_append, List.nil_append, List.mem_cons, List.not_mem_nil, Prod.mk.injEq, or_false, false_or, or_true, true_or, and_true, true_and, and_false, false_and, and_self, ne_eq, not_false_eq_true, not_true_eq_false, forall_const, true_implies, false_implies, Nat.add_zero, Nat.zero_add, Nat.le_refl, Nat.zero_le, List.set_cons_zero, List.set_cons_succ, List.set_nil, ↓reduceIte, Nat.reduceAdd, Nat.reduceSub, Nat.reduceEqDiff, Nat.reduceLeDiff, Int.reduceEq, Int.reduceNe, Int.reduceNeg, reduceCtorEq, kd190, hP]
  refine ⟨ha, r3 (by omega), m_in ha.l (r64 (by omega)) (r64 (by omega)) ?_⟩
  by_cases q1 : 0 ≤ a ∧ a ≤ p - 1
  · rw [if_pos q1]
    simp only [bk240_0, bk240_16, bk240_28, bk240_31, U_iload_n, U_i2l, U_lconst, U_aload_n, U_getfield, U_iconst, U_isub, U_invokestatic3, U_if_eq, U_ldc2_w, U_if_ne, U_bipush, U_ireturn, U_iald, U_istore_n, U_iast, UN_cc, UN_cn, UN_nc, UN_nn, UJ, lget, lset, lset2, entL, wsm, wcat, Option.toList_some, Option.toList_none, List.cons_append, List.nil_append, List.mem_cons, List.not_mem_nil, Prod.mk.injEq, or_false, false_or, or_true, true_or, and_true, true_and, and_false, false_and, and_self, ne_eq, not_false_eq_true, not_true_eq_false, forall_const, true_implies, false_implies, Nat.add_zero, Nat.zero_add, Nat.le_refl, Nat.zero_le, List.set_cons_zero, List.set_cons_succ, List.set_nil, ↓reduceIte, Nat.reduceAdd, Nat.reduceSub, Nat.reduceEqDiff, Nat.reduceLeDiff, Int.reduceEq, Int.reduceNe, Int.reduceNeg, reduceCtorEq]
    refine ⟨r3 (by omega), he, m_in he.l (r64 (by omega)) (r64 (by omega)) ?_⟩
    by_cases q2 : 0 ≤ e ∧ e ≤ 20
    · rw [if_pos q2]
      obtain ⟨m, rfl⟩ : ∃ m : Nat, a = m := ⟨a.toNat, by omega⟩
      obtain ⟨k, rfl⟩ : ∃ k : Nat, e = k := ⟨e.toNat, by omega⟩
      have e1 := h.2.2.2.2.2.2.1 m (by omega)
      have h1 := fun N' a b => hQ N' (upr E m k) a b (by rw [if_pos ⟨⟨by omega, by omega⟩, ⟨by omega, by omega⟩⟩]; rfl)
      unfold oCover at h1
      rw [if_neg (by omega)] at h1
      simp only [Int.toNat_natCast] at h1
      simp only [bk240_0, bk240_16, bk240_28, bk240_31, U_iload_n, U_i2l, U_lconst, U_aload_n, U_getfield, U_iconst, U_isub, U_invokestatic3, U_if_eq, U_ldc2_w, U_if_ne, U_bipush, U_ireturn, U_iald, U_istore_n, U_iast, UN_cc, UN_cn, UN_nc, UN_nn, UJ, lget, lset, lset2, entL, wsm, wcat, Option.toList_some, Option.toList_none, List.cons_append, List.nil_append, List.mem_cons, List.not_mem_nil, Prod.mk.injEq, or_false, false_or, or_true, true_or, and_true, true_and, and_false, false_and, and_self, ne_eq, not_false_eq_true, not_true_eq_false, forall_const, true_implies, false_implies, Nat.add_zero, Nat.zero_add, Nat.le_refl, Nat.zero_le, List.set_cons_zero, List.set_cons_succ, List.set_nil, ↓reduceIte, Nat.reduceAdd, Nat.reduceSub, Nat.reduceEqDiff, Nat.reduceLeDiff, Int.reduceEq, Int.reduceNe, Int.reduceNeg, reduceCtorEq, kd190, kd197, ln197, z190_11 hz, e1]
      repeat (first | refine And.intro (by first | omega | exact not_false) ?_ | refine And.intro (rr (by omega)) ?_ | refine And.intro (r3 (by omega)) ?_ | refine And.intro (r6 (by omega)) ?_)
      exact h1 _ (h.co m k) (clU _ _ (by decide))
    · rw [if_neg q2]
      simp only [bk240_0, bk240_16, bk240_28, bk240_31, U_iload_n, U_i2l, U_lconst, U_aload_n, U_getfield, U_iconst, U_isub, U_invokestatic3, U_if_eq, U_ldc2_w, U_if_ne, U_bipush, U_ireturn, U_iald, U_istore_n, U_iast, UN_cc, UN_cn, UN_nc, UN_nn, UJ, lget, lset, lset2, entL, wsm, wcat, Option.toList_some, Option.toList_none, List.cons_append, List.nil_append, List.mem_cons, List.not_mem_nil, Prod.mk.injEq, or_false, false_or, or_true, true_or, and_true, true_and, and_false, false_and, and_self, ne_eq, not_false_eq_true, not_true_eq_false, forall_const, true_implies, false_implies, Nat.add_zero, Nat.zero_add, Nat.le_refl, Nat.zero_le, List.set_cons_zero, List.set_cons_succ, List.set_nil, ↓reduceIte, Nat.reduceAdd, Nat.reduceSub, Nat.reduceEqDiff, Nat.reduceLeDiff, Int.reduceEq, Int.reduceNe, Int.reduceNeg, reduceCtorEq]
      exact ⟨r3 (by omega), bad (Or.inr (by omega))⟩
  · rw [if_neg q1]
    simp only [bk240_0, bk240_16, bk240_28, bk240_31, U_iload_n, U_i2l, U_lconst, U_aload_n, U_getfield, U_iconst, U_isub, U_invokestatic3, U_if_eq, U_ldc2_w, U_if_ne, U_bipush, U_ireturn, U_iald, U_istore_n, U_iast, UN_cc, UN_cn, UN_nc, UN_nn, UJ, lget, lset, lset2, entL, wsm, wcat, Option.toList_some, Option.toList_none, List.cons_append, List.nil_append, List.mem_cons, List.not_mem_nil, Prod.mk.injEq, or_false, false_or, or_true, true_or, and_true, true_and, and_false, false_and, and_self, ne_eq, not_false_eq_true, not_true_eq_false, forall_const, true_implies, false_implies, Nat.add_zero, Nat.zero_add, Nat.le_refl, Nat.zero_le, List.set_cons_zero, List.set_cons_succ, List.set_nil, ↓reduceIte, Nat.reduceAdd, Nat.reduceSub, Nat.reduceEqDiff, Nat.reduceLeDiff, Int.reduceEq, Int.reduceNe, Int.reduceNeg, reduceCtorEq]
    exact ⟨r3 (by omega), bad (Or.inl (by omega))⟩
set_option maxHeartbeats 8000000 in
theorem q_push {p : Int} {g : Nat} {f : Pz p} {pu : List Int} {rg : Nat → Pz p × Pz p} {A tl : Nat → Int} {E : Nat → Nat} {N : Mem} {Q : Post} {v : Int} (h : MS g f pu rg A tl E N) (V : VS g f pu rg A tl E) (hv : R32 v)
    (hQ : ∀ N' pu', MS g f pu' rg A tl E N' → clF N N' → pu' = (if (0 ≤ v ∧ v < p) ∧ pu.length < 6 then pu ++ [v] else pu) → Q (some (0, oPush p pu v)) NN N') : CL 174 [(2, 190), (0, v)] NN N Q := by
  have hpp := V.1.pos
  have hz := h.fz
  have hP := h.p0
  have h4 := h.2.2.1.1
  have hl := V.2.2.1.1
  refine WP.run [] [] 60 ?_
  simp only [bk174_0, bk174_16, bk174_19, bk174_28, bk174_31, U_iload_n, U_i2l, U_lconst, U_aload_n, U_getfield, U_iconst, U_isub, U_invokestatic3, U_if_ne, U_bipush, U_ireturn, U_icmp_ne, U_iast, U_dup, U_iadd, U_putfield, UN_cc, UN_cn, UN_nc, UN_nn, UJ, lget, lset, lset2, entL, wsm, wcat, Option.toList_some, Option.toList_none, List.cons_append, List.nil_append, List.mem_cons, List.not_mem_nil, Prod.mk.injEq, or_false, false_or, or_true, true_or, and_true, true_and, and_false, false_and, and_self, ne_eq, not_false_eq_true, not_true_eq_false, forall_const, true_implies, false_implies, Nat.add_zero, Nat.zero_add, Nat.le_refl, Nat.zero_le, List.set_cons_zero, List.set_cons_succ, List.set_nil, ↓reduceIte, Nat.reduceAdd, Nat.reduceSub, Nat.reduceEqDiff, Nat.reduceLeDiff, Int.reduceEq, Int.reduceNe, Int.reduceNeg, reduceCtorEq, kd190, hP]
  refine ⟨hv, r3 (by omega), m_in hv.l (r64 (by omega)) (r64 (by omega)) ?_⟩
  by_cases q1 : 0 ≤ v ∧ v ≤ p - 1
  · rw [if_pos q1]
    simp only [bk174_0, bk174_16, bk174_19, bk174_28, bk174_31, U_iload_n, U_i2l, U_lconst, U_aload_n, U_getfield, U_iconst, U_isub, U_invokestatic3, U_if_ne, U_bipush, U_ireturn, U_icmp_ne, U_iast, U_dup, U_iadd, U_putfield, UN_cc, UN_cn, UN_nc, UN_nn, UJ, lget, lset, lset2, entL, wsm, wcat, Option.toList_some, Option.toList_none, List.cons_append, List.nil_append, List.mem_cons, List.not_mem_nil, Prod.mk.injEq, or_false, false_or, or_true, true_or, and_true, true_and, and_false, false_and, and_self, ne_eq, not_false_eq_true, not_true_eq_false, forall_const, true_implies, false_implies, Nat.add_zero, Nat.zero_add, Nat.le_refl, Nat.zero_le, List.set_cons_zero, List.set_cons_succ, List.set_nil, ↓reduceIte, Nat.reduceAdd, Nat.reduceSub, Nat.reduceEqDiff, Nat.reduceLeDiff, Int.reduceEq, Int.reduceNe, Int.reduceNeg, reduceCtorEq, kd190, kd191, ln191, z190_3 hz, h4, ust_r]
    by_cases c : pu.length = 6
    · have h1 := hQ N pu h (clF.rf N) (by rw [if_neg (by omega)])
      unfold oPush at h1
      rw [if_neg (by omega), if_pos (by omega)] at h1
      exact ⟨r3 (by omega), rr (by omega), fun _ => h1, fun e => absurd (by omega) e⟩
    · have h1 := hQ _ _ (h.pu v) ((clU _ _ (by decide)).tr (clU _ _ (by decide))) (by rw [if_pos ⟨⟨by omega, by omega⟩, by omega⟩])
      unfold oPush at h1
      rw [if_neg (by omega), if_neg (by omega)] at h1
      refine ⟨r3 (by omega), rr (by omega), fun e => absurd e (by omega), fun _ => ?_⟩
      repeat (first | refine And.intro (by first | omega | exact not_false) ?_ | refine And.intro (rr (by omega)) ?_ | refine And.intro (r3 (by omega)) ?_ | refine And.intro (r6 (by omega)) ?_)
      exact h1
  · rw [if_neg q1]
    have h1 := hQ N pu h (clF.rf N) (by rw [if_neg (by omega)])
    unfold oPush at h1
    rw [if_pos (by omega)] at h1
    simp only [bk174_0, bk174_16, bk174_19, bk174_28, bk174_31, U_iload_n, U_i2l, U_lconst, U_aload_n, U_getfield, U_iconst, U_isub, U_invokestatic3, U_if_ne, U_bipush, U_ireturn, U_icmp_ne, U_iast, U_dup, U_iadd, U_putfield, UN_cc, UN_cn, UN_nc, UN_nn, UJ, lget, lset, lset2, entL, wsm, wcat, Option.toList_some, Option.toList_none, List.cons_append, List.nil_append, List.mem_cons, List.not_mem_nil, Prod.mk.injEq, or_false, false_or, or_true, true_or, and_true, true_and, and_false, false_and, and_self, ne_eq, not_false_eq_true, not_true_eq_false, forall_const, true_implies, false_implies, Nat.add_zero, Nat.zero_add, Nat.le_refl, Nat.zero_le, List.set_cons_zero, List.set_cons_succ, List.set_nil, ↓reduceIte, Nat.reduceAdd, Nat.reduceSub, Nat.reduceEqDiff, Nat.reduceLeDiff, Int.reduceEq, Int.reduceNe, Int.reduceNeg, reduceCtorEq]
    exact ⟨r3 (by omega), h1⟩
