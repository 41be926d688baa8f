/-! CALLS OF THE CLASS: those that change nothing -/
noncomputable def oPoints {p : Int} (g : Nat) (f : Pz p) : Int := if g = 0 then -3 else ((ptl f p.toNat).length : Int) + 1
noncomputable def oCountAll {p : Int} (g : Nat) (f : Pz p) : Int := if g = 0 then -3 else nn2 f + 1
noncomputable def oClasses {p : Int} (g : Nat) (f : Pz p) : Int := if g = 0 then -3 else hcl f g
noncomputable def oShare {p : Int} (g : Nat) (f : Pz p) (i : Int) : Int := if i < 0 then -2000000000 else if g = 0 then -2100000000 else if 2 * (g : Int) < i then -1000000000 else shs f g i.toNat
noncomputable def oCount {p : Int} (g : Nat) (f : Pz p) (k : Int) : Int := if ¬ (1 ≤ k ∧ k ≤ 6) then -2 else if g = 0 then -3 else ptO f g k.toNat
noncomputable def oPlaces {p : Int} (g : Nat) (f : Pz p) (k : Int) : Int := if ¬ (1 ≤ k ∧ k ≤ 6) then -2 else if g = 0 then -3 else plc f g k.toNat
/-- point i, from 1 on -/
noncomputable def ptAt {p : Int} (f : Pz p) (i : Nat) : Int × Int := ((ptl f p.toNat)[i - 1]?).getD (0, 0)
noncomputable def oPoint {p : Int} (g : Nat) (f : Pz p) (i what : Int) : Int :=
  if ¬ (0 ≤ i ∧ i < nPt g f) ∨ ¬ (0 ≤ what ∧ what ≤ 2) then -2 else if g = 0 then -3 else
  if i = 0 then (if what = 2 then 0 else -1) else if what = 2 then (othr f (ptAt f i.toNat) : Int) else if what = 0 then (ptAt f i.toNat).1 else (ptAt f i.toNat).2
theorem ptAt_is {p : Int} (f : Pz p) {i : Nat} (h1 : 1 ≤ i) (h2 : i ≤ (ptl f p.toNat).length) : (ptl f p.toNat)[i - 1]? = some (ptAt f i) := by
  unfold ptAt
  rw [List.getElem?_eq_getElem (by omega)]; rfl
def mhP {p : Int} (f : Pz p) (g : Nat) : Prop := hcl f g = ((tkl f g).length : Int) ∧ (tkl f g).length ≤ 450 ∧ ∀ ad z ng, GG f g ad z ng → ∀ q, Prm q → klN ad z (cll f g z) q < q ^ 5
set_option maxHeartbeats 4000000 in
theorem k_points {p : Int} {g : Nat} {f : Pz p} {pu : List Int} {rg : Nat → Pz p × Pz p} {A tl : Nat → Int} {E : Nat → Nat} {N : Mem} {Q : Post} (h : CS g f pu rg A tl E N) (V : VS g f pu rg A tl E) (hQ : Q (some (0, oPoints g f)) NN N) : CL 121 [(2, 1)] NN N Q := by
  obtain ⟨⟨ρ, S, R⟩, hPu, hCr, -⟩ := h
  unfold oPoints at hQ
  refine WP.run [] [] 60 ?_
  simp only [bk121_0, bk121_10, bk121_20, bk121_22, U_aload_n, U_getfield, U_invokevirtual0, U_if_eq, U_goto, U_bipush, U_ireturn, UN_cc, UN_cn, UN_nc, UN_nn, UJ, lget, lset, lset2, entL, wsm, wcat, Option.toList_some, Option.toList_none, List.cons_append, List.nil_append, List.mem_cons, List.not_mem_nil, Prod.mk.injEq, or_false, false_or, or_true, true_or, and_true, true_and, and_false, false_and, and_self, ne_eq, not_false_eq_true, not_true_eq_false, forall_const, true_implies, false_implies, Nat.add_zero, Nat.zero_add, Nat.le_refl, Nat.zero_le, List.set_cons_zero, List.set_cons_succ, List.set_nil, ↓reduceIte, Nat.reduceAdd, Nat.reduceSub, Nat.reduceEqDiff, Nat.reduceLeDiff, Int.reduceEq, Int.reduceNe, Int.reduceNeg, reduceCtorEq, kd1, kd21, z1_4 S.1.1]
  refine c_std hCr V.g2 ?_
  by_cases q : g = 0
  · rw [if_pos q] at hQ ⊢
    simp only [bk121_0, bk121_10, bk121_20, bk121_22, U_aload_n, U_getfield, U_invokevirtual0, U_if_eq, U_goto, U_bipush, U_ireturn, UN_cc, UN_cn, UN_nc, UN_nn, UJ, lget, lset, lset2, entL, wsm, wcat, Option.toList_some, Option.toList_none, List.cons_append, List.nil_append, List.mem_cons, List.not_mem_nil, Prod.mk.injEq, or_false, false_or, or_true, true_or, and_true, true_and, and_false, false_and, and_self, ne_eq, not_false_eq_true, not_true_eq_false, forall_const, true_implies, false_implies, Nat.add_zero, Nat.zero_add, Nat.le_refl, Nat.zero_le, List.set_cons_zero, List.set_cons_succ, List.set_nil, ↓reduceIte, Nat.reduceAdd, Nat.reduceSub, Nat.reduceEqDiff, Nat.reduceLeDiff, Int.reduceEq, Int.reduceNe, Int.reduceNeg, reduceCtorEq]
    exact ⟨r3 (by omega), hQ⟩
  · rw [if_neg q] at hQ ⊢
    have hc := (hCr.resolve_left (fun e => q e.1)).2
    simp only [bk121_0, bk121_10, bk121_20, bk121_22, U_aload_n, U_getfield, U_invokevirtual0, U_if_eq, U_goto, U_bipush, U_ireturn, UN_cc, UN_cn, UN_nc, UN_nn, UJ, lget, lset, lset2, entL, wsm, wcat, Option.toList_some, Option.toList_none, List.cons_append, List.nil_append, List.mem_cons, List.not_mem_nil, Prod.mk.injEq, or_false, false_or, or_true, true_or, and_true, true_and, and_false, false_and, and_self, ne_eq, not_false_eq_true, not_true_eq_false, forall_const, true_implies, false_implies, Nat.add_zero, Nat.zero_add, Nat.le_refl, Nat.zero_le, List.set_cons_zero, List.set_cons_succ, List.set_nil, ↓reduceIte, Nat.reduceAdd, Nat.reduceSub, Nat.reduceEqDiff, Nat.reduceLeDiff, Int.reduceEq, Int.reduceNe, Int.reduceNeg, reduceCtorEq, kd1, kd21, z1_4 S.1.1, hc.2.1.1]
    exact ⟨r3 (by omega), hQ⟩
set_option maxHeartbeats 4000000 in
theorem k_countAll {p : Int} {g : Nat} {f : Pz p} {pu : List Int} {rg : Nat → Pz p × Pz p} {A tl : Nat → Int} {E : Nat → Nat} {N : Mem} {Q : Post} (h : CS g f pu rg A tl E N) (V : VS g f pu rg A tl E) (hQ : Q (some (0, oCountAll g f)) NN N) : CL 125 [(2, 1)] NN N Q := by
  obtain ⟨⟨ρ, S, R⟩, hPu, hCr, -⟩ := h
  unfold oCountAll at hQ
  refine WP.run [] [] 60 ?_
  simp only [bk125_0, bk125_10, bk125_20, bk125_22, U_aload_n, U_getfield, U_invokevirtual0, U_if_eq, U_goto, U_bipush, U_ireturn, UN_cc, UN_cn, UN_nc, UN_nn, UJ, lget, lset, lset2, entL, wsm, wcat, Option.toList_some, Option.toList_none, List.cons_append, List.nil_append, List.mem_cons, List.not_mem_nil, Prod.mk.injEq, or_false, false_or, or_true, true_or, and_true, true_and, and_false, false_and, and_self, ne_eq, not_false_eq_true, not_true_eq_false, forall_const, true_implies, false_implies, Nat.add_zero, Nat.zero_add, Nat.le_refl, Nat.zero_le, List.set_cons_zero, List.set_cons_succ, List.set_nil, ↓reduceIte, Nat.reduceAdd, Nat.reduceSub, Nat.reduceEqDiff, Nat.reduceLeDiff, Int.reduceEq, Int.reduceNe, Int.reduceNeg, reduceCtorEq, kd1, kd21, z1_4 S.1.1]
  refine c_std hCr V.g2 ?_
  by_cases q : g = 0
  · rw [if_pos q] at hQ ⊢
    simp only [bk125_0, bk125_10, bk125_20, bk125_22, U_aload_n, U_getfield, U_invokevirtual0, U_if_eq, U_goto, U_bipush, U_ireturn, UN_cc, UN_cn, UN_nc, UN_nn, UJ, lget, lset, lset2, entL, wsm, wcat, Option.toList_some, Option.toList_none, List.cons_append, List.nil_append, List.mem_cons, List.not_mem_nil, Prod.mk.injEq, or_false, false_or, or_true, true_or, and_true, true_and, and_false, false_and, and_self, ne_eq, not_false_eq_true, not_true_eq_false, forall_const, true_implies, false_implies, Nat.add_zero, Nat.zero_add, Nat.le_refl, Nat.zero_le, List.set_cons_zero, List.set_cons_succ, List.set_nil, ↓reduceIte, Nat.reduceAdd, Nat.reduceSub, Nat.reduceEqDiff, Nat.reduceLeDiff, Int.reduceEq, Int.reduceNe, Int.reduceNeg, reduceCtorEq]
    exact ⟨r3 (by omega), hQ⟩
  · rw [if_neg q] at hQ ⊢
    have hc := (hCr.resolve_left (fun e => q e.1)).2
    simp only [bk125_0, bk125_10, bk125_20, bk125_22, U_aload_n, U_getfield, U_invokevirtual0, U_if_eq, U_goto, U_bipush, U_ireturn, UN_cc, UN_cn, UN_nc, UN_nn, UJ, lget, lset, lset2, entL, wsm, wcat, Option.toList_some, Option.toList_none, List.cons_append, List.nil_append, List.mem_cons, List.not_mem_nil, Prod.mk.injEq, or_false, false_or, or_true, true_or, and_true, true_and, and_false, false_and, and_self, ne_eq, not_false_eq_true, not_true_eq_false, forall_const, true_implies, false_implies, Nat.add_zero, Nat.zero_add, Nat.le_refl, Nat.zero_le, List.set_cons_zero, List.set_cons_succ, List.set_nil, ↓reduceIte, Nat.reduceAdd, Nat.reduceSub, Nat.reduceEqDiff, Nat.reduceLeDiff, Int.reduceEq, Int.reduceNe, Int.reduceNeg, reduceCtorEq, kd1, kd21, z1_4 S.1.1, hc.2.2.1]
    exact ⟨r3 (by omega), hQ⟩
set_option maxHeartbeats 4000000 in
theorem k_classes {p : Int} {g : Nat} {f : Pz p} {pu : List Int} {rg : Nat → Pz p × Pz p} {A tl : Nat → Int} {E : Nat → Nat} {N : Mem} {Q : Post} (h : CS g f pu rg A tl E N) (V : VS g f pu rg A tl E) (M : g ≠ 0 → mhP f g) (hQ : Q (some (1, oClasses g f)) NN N) : CL 127 [(2, 1)] NN N Q := by
  obtain ⟨⟨ρ, S, R⟩, hPu, hCr, -⟩ := h
  unfold oClasses at hQ
  refine WP.run [] [] 60 ?_
  simp only [bk127_0, bk127_10, bk127_21, bk127_24, U_aload_n, U_getfield, U_invokevirtual0, U_if_eq, U_i2l, U_goto, U_ldc2_w, U_lreturn, UN_cc, UN_cn, UN_nc, UN_nn, UJ, lget, lset, lset2, entL, wsm, wcat, Option.toList_some, Option.toList_none, List.cons_append, List.nil_append, List.mem_cons, List.not_mem_nil, Prod.mk.injEq, or_false, false_or, or_true, true_or, and_true, true_and, and_false, false_and, and_self, ne_eq, not_false_eq_true, not_true_eq_false, forall_const, true_implies, false_implies, Nat.add_zero, Nat.zero_add, Nat.le_refl, Nat.zero_le, List.set_cons_zero, List.set_cons_succ, List.set_nil, ↓reduceIte, Nat.reduceAdd, Nat.reduceSub, Nat.reduceEqDiff, Nat.reduceLeDiff, Int.reduceEq, Int.reduceNe, Int.reduceNeg, reduceCtorEq, kd1, kd21, z1_4 S.1.1]
  refine c_std hCr V.g2 ?_
  by_cases q : g = 0
  · rw [if_pos q] at hQ ⊢
    simp only [bk127_0, bk127_10, bk127_21, bk127_24, U_aload_n, U_getfield, U_invokevirtual0, U_if_eq, U_i2l, U_goto, U_ldc2_w, U_lreturn, UN_cc, UN_cn, UN_nc, UN_nn, UJ, lget, lset, lset2, entL, wsm, wcat, Option.toList_some, Option.toList_none, List.cons_append, List.nil_append, List.mem_cons, List.not_mem_nil, Prod.mk.injEq, or_false, false_or, or_true, true_or, and_true, true_and, and_false, false_and, and_self, ne_eq, not_false_eq_true, not_true_eq_false, forall_const, true_implies, false_implies, Nat.add_zero, Nat.zero_add, Nat.le_refl, Nat.zero_le, List.set_cons_zero, List.set_cons_succ, List.set_nil, ↓reduceIte, Nat.reduceAdd, Nat.reduceSub, Nat.reduceEqDiff, Nat.reduceLeDiff, Int.reduceEq, Int.reduceNe, Int.reduceNeg, reduceCtorEq]
    exact ⟨r3 (by omega), hQ⟩
  · rw [if_neg q] at hQ ⊢
    have hc := (hCr.resolve_left (fun e => q e.1)).2
    have m := M q
    have m1 := m.1
    have m2 := m.2.1
    simp only [bk127_0, bk127_10, bk127_21, bk127_24, U_aload_n, U_getfield, U_invokevirtual0, U_if_eq, U_i2l, U_goto, U_ldc2_w, U_lreturn, UN_cc, UN_cn, UN_nc, UN_nn, UJ, lget, lset, lset2, entL, wsm, wcat, Option.toList_some, Option.toList_none, List.cons_append, List.nil_append, List.mem_cons, List.not_mem_nil, Prod.mk.injEq, or_false, false_or, or_true, true_or, and_true, true_and, and_false, false_and, and_self, ne_eq, not_false_eq_true, not_true_eq_false, forall_const, true_implies, false_implies, Nat.add_zero, Nat.zero_add, Nat.le_refl, Nat.zero_le, List.set_cons_zero, List.set_cons_succ, List.set_nil, ↓reduceIte, Nat.reduceAdd, Nat.reduceSub, Nat.reduceEqDiff, Nat.reduceLeDiff, Int.reduceEq, Int.reduceNe, Int.reduceNeg, reduceCtorEq, kd1, kd21, z1_4 S.1.1, hc.2.2.2.2.2]
    exact ⟨r3 (by omega), r3 (by omega), hQ⟩
set_option maxHeartbeats 4000000 in
theorem k_share {p : Int} {g : Nat} {f : Pz p} {pu : List Int} {rg : Nat → Pz p × Pz p} {A tl : Nat → Int} {E : Nat → Nat} {N : Mem} {Q : Post} {i : Int} (h : CS g f pu rg A tl E N) (V : VS g f pu rg A tl E) (hi : R32 i) (hQ : Q (some (1, oShare g f i)) NN N) : CL 126 [(2, 1), (0, i)] NN N Q := by
  obtain ⟨⟨ρ, S, R⟩, hPu, hCr, -⟩ := h
  have hi' := hi
  obtain ⟨i1, i2⟩ := hi'
  have g2 := V.g2
  unfold oShare at hQ
  refine WP.run [] [] 60 ?_
  simp only [bk126_0, bk126_4, bk126_8, bk126_18, bk126_22, bk126_35, bk126_41, bk126_49, U_iload_n, U_if_ge, U_ldc2_w, U_lreturn, U_aload_n, U_getfield, U_invokevirtual0, U_if_ne, U_iconst, U_imul, U_icmp_le, U_goto, U_invokevirtual1, UN_cc, UN_cn, UN_nc, UN_nn, UJ, lget, lset, lset2, entL, wsm, wcat, Option.toList_some, Option.toList_none, List.cons_append, List.nil_append, List.mem_cons, List.not_mem_nil, Prod.mk.injEq, or_false, false_or, or_true, true_or, and_true, true_and, and_false, false_and, and_self, ne_eq, not_false_eq_true, not_true_eq_false, forall_const, true_implies, false_implies, Nat.add_zero, Nat.zero_add, Nat.le_refl, Nat.zero_le, List.set_cons_zero, List.set_cons_succ, List.set_nil, ↓reduceIte, Nat.reduceAdd, Nat.reduceSub, Nat.reduceEqDiff, Nat.reduceLeDiff, Int.reduceEq, Int.reduceNe, Int.reduceNeg, reduceCtorEq, kd1, kd21, z1_4 S.1.1]
  refine ⟨hi, fun e => ?_, fun e => ?_⟩
  · rw [if_pos e] at hQ; exact hQ
  · rw [if_neg e] at hQ
    refine c_std hCr V.g2 ?_
    by_cases q : g = 0
    · rw [if_pos q] at hQ ⊢
      simp only [bk126_0, bk126_4, bk126_8, bk126_18, bk126_22, bk126_35, bk126_41, bk126_49, U_iload_n, U_if_ge, U_ldc2_w, U_lreturn, U_aload_n, U_getfield, U_invokevirtual0, U_if_ne, U_iconst, U_imul, U_icmp_le, U_goto, U_invokevirtual1, UN_cc, UN_cn, UN_nc, UN_nn, UJ, lget, lset, lset2, entL, wsm, wcat, Option.toList_some, Option.toList_none, List.cons_append, List.nil_append, List.mem_cons, List.not_mem_nil, Prod.mk.injEq, or_false, false_or, or_true, true_or, and_true, true_and, and_false, false_and, and_self, ne_eq, not_false_eq_true, not_true_eq_false, forall_const, true_implies, false_implies, Nat.add_zero, Nat.zero_add, Nat.le_refl, Nat.zero_le, List.set_cons_zero, List.set_cons_succ, List.set_nil, ↓reduceIte, Nat.reduceAdd, Nat.reduceSub, Nat.reduceEqDiff, Nat.reduceLeDiff, Int.reduceEq, Int.reduceNe, Int.reduceNeg, reduceCtorEq]
      exact ⟨r3 (by omega), hQ⟩
    · rw [if_neg q] at hQ ⊢
      have hc := (hCr.resolve_left (fun e => q e.1)).2
      simp only [bk126_0, bk126_4, bk126_8, bk126_18, bk126_22, bk126_35, bk126_41, bk126_49, U_iload_n, U_if_ge, U_ldc2_w, U_lreturn, U_aload_n, U_getfield, U_invokevirtual0, U_if_ne, U_iconst, U_imul, U_icmp_le, U_goto, U_invokevirtual1, UN_cc, UN_cn, UN_nc, UN_nn, UJ, lget, lset, lset2, entL, wsm, wcat, Option.toList_some, Option.toList_none, List.cons_append, List.nil_append, List.mem_cons, List.not_mem_nil, Prod.mk.injEq, or_false, false_or, or_true, true_or, and_true, true_and, and_false, false_and, and_self, ne_eq, not_false_eq_true, not_true_eq_false, forall_const, true_implies, false_implies, Nat.add_zero, Nat.zero_add, Nat.le_refl, Nat.zero_le, List.set_cons_zero, List.set_cons_succ, List.set_nil, ↓reduceIte, Nat.reduceAdd, Nat.reduceSub, Nat.reduceEqDiff, Nat.reduceLeDiff, Int.reduceEq, Int.reduceNe, Int.reduceNeg, reduceCtorEq, kd1, kd21, z1_4 S.1.1, hc.1]
      refine ⟨r3 (by omega), rr (by omega), fun e2 => ?_, fun e2 => ?_⟩
      · rw [if_pos e2] at hQ; exact hQ
      · rw [if_neg e2] at hQ
        refine c_shareOf S.1.1 hc hi ?_
        rw [if_pos (by omega)]
        simp only [bk126_0, bk126_4, bk126_8, bk126_18, bk126_22, bk126_35, bk126_41, bk126_49, U_iload_n, U_if_ge, U_ldc2_w, U_lreturn, U_aload_n, U_getfield, U_invokevirtual0, U_if_ne, U_iconst, U_imul, U_icmp_le, U_goto, U_invokevirtual1, UN_cc, UN_cn, UN_nc, UN_nn, UJ, lget, lset, lset2, entL, wsm, wcat, Option.toList_some, Option.toList_none, List.cons_append, List.nil_append, List.mem_cons, List.not_mem_nil, Prod.mk.injEq, or_false, false_or, or_true, true_or, and_true, true_and, and_false, false_and, and_self, ne_eq, not_false_eq_true, not_true_eq_false, forall_const, true_implies, false_implies, Nat.add_zero, Nat.zero_add, Nat.le_refl, Nat.zero_le, List.set_cons_zero, List.set_cons_succ, List.set_nil, ↓reduceIte, Nat.reduceAdd, Nat.reduceSub, Nat.reduceEqDiff, Nat.reduceLeDiff, Int.reduceEq, Int.reduceNe, Int.reduceNeg, reduceCtorEq]
        exact hQ
set_option maxHeartbeats 4000000 in
theorem k_count {p : Int} {g : Nat} {f : Pz p} {pu : List Int} {rg : Nat → Pz p × Pz p} {A tl : Nat → Int} {E : Nat → Nat} {N : Mem} {Q : Post} {k : Int} (h : CS g f pu rg A tl E N) (V : VS g f pu rg A tl E) (hk : R32 k) (hQ : Q (some (1, oCount g f k)) NN N) : CL 124 [(2, 1), (0, k)] NN N Q := by
  obtain ⟨⟨ρ, S, R⟩, hPu, hCr, -⟩ := h
  have hk' := hk
  obtain ⟨i1, i2⟩ := hk'
  unfold oCount at hQ
  refine WP.run [] [] 60 ?_
  simp only [bk124_0, bk124_5, bk124_11, bk124_15, bk124_25, bk124_29, U_iload_n, U_iconst, U_icmp_lt, U_bipush, U_icmp_le, U_ldc2_w, U_lreturn, U_aload_n, U_getfield, U_invokevirtual0, U_if_ne, U_invokevirtual1, UN_cc, UN_cn, UN_nc, UN_nn, UJ, lget, lset, lset2, entL, wsm, wcat, Option.toList_some, Option.toList_none, List.cons_append, List.nil_append, List.mem_cons, List.not_mem_nil, Prod.mk.injEq, or_false, false_or, or_true, true_or, and_true, true_and, and_false, false_and, and_self, ne_eq, not_false_eq_true, not_true_eq_false, forall_const, true_implies, false_implies, Nat.add_zero, Nat.zero_add, Nat.le_refl, Nat.zero_le, List.set_cons_zero, List.set_cons_succ, List.set_nil, ↓reduceIte, Nat.reduceAdd, Nat.reduceSub, Nat.reduceEqDiff, Nat.reduceLeDiff, Int.reduceEq, Int.reduceNe, Int.reduceNeg, reduceCtorEq, kd1, kd21, z1_4 S.1.1]
  refine ⟨rr (by omega), fun e => ?_, fun e => ⟨rr (by omega), fun e2 => ?_, fun e2 => ?_⟩⟩
  · rw [if_pos (by omega)] at hQ; exact hQ
  · rw [if_pos (by omega)] at hQ; exact hQ
  · rw [if_neg (by omega)] at hQ
    refine c_std hCr V.g2 ?_
    by_cases q : g = 0
    · rw [if_pos q] at hQ ⊢
      simp only [bk124_0, bk124_5, bk124_11, bk124_15, bk124_25, bk124_29, U_iload_n, U_iconst, U_icmp_lt, U_bipush, U_icmp_le, U_ldc2_w, U_lreturn, U_aload_n, U_getfield, U_invokevirtual0, U_if_ne, U_invokevirtual1, UN_cc, UN_cn, UN_nc, UN_nn, UJ, lget, lset, lset2, entL, wsm, wcat, Option.toList_some, Option.toList_none, List.cons_append, List.nil_append, List.mem_cons, List.not_mem_nil, Prod.mk.injEq, or_false, false_or, or_true, true_or, and_true, true_and, and_false, false_and, and_self, ne_eq, not_false_eq_true, not_true_eq_false, forall_const, true_implies, false_implies, Nat.add_zero, Nat.zero_add, Nat.le_refl, Nat.zero_le, List.set_cons_zero, List.set_cons_succ, List.set_nil, ↓reduceIte, Nat.reduceAdd, Nat.reduceSub, Nat.reduceEqDiff, Nat.reduceLeDiff, Int.reduceEq, Int.reduceNe, Int.reduceNeg, reduceCtorEq]
      exact ⟨r3 (by omega), hQ⟩
    · rw [if_neg q] at hQ ⊢
      have hc := (hCr.resolve_left (fun e => q e.1)).2
      simp only [bk124_0, bk124_5, bk124_11, bk124_15, bk124_25, bk124_29, U_iload_n, U_iconst, U_icmp_lt, U_bipush, U_icmp_le, U_ldc2_w, U_lreturn, U_aload_n, U_getfield, U_invokevirtual0, U_if_ne, U_invokevirtual1, UN_cc, UN_cn, UN_nc, UN_nn, UJ, lget, lset, lset2, entL, wsm, wcat, Option.toList_some, Option.toList_none, List.cons_append, List.nil_append, List.mem_cons, List.not_mem_nil, Prod.mk.injEq, or_false, false_or, or_true, true_or, and_true, true_and, and_false, false_and, and_self, ne_eq, not_false_eq_true, not_true_eq_false, forall_const, true_implies, false_implies, Nat.add_zero, Nat.zero_add, Nat.le_refl, Nat.zero_le, List.set_cons_zero, List.set_cons_succ, List.set_nil, ↓reduceIte, Nat.reduceAdd, Nat.reduceSub, Nat.reduceEqDiff, Nat.reduceLeDiff, Int.reduceEq, Int.reduceNe, Int.reduceNeg, reduceCtorEq, kd1, kd21, z1_4 S.1.1]
      obtain ⟨n, rfl⟩ : ∃ n : Nat, k = n := ⟨k.toNat, by omega⟩
      refine ⟨r3 (by omega), s_pointsOver S hc ⟨by omega, by omega⟩ ?_⟩
      simp only [bk124_0, bk124_5, bk124_11, bk124_15, bk124_25, bk124_29, U_iload_n, U_iconst, U_icmp_lt, U_bipush, U_icmp_le, U_ldc2_w, U_lreturn, U_aload_n, U_getfield, U_invokevirtual0, U_if_ne, U_invokevirtual1, UN_cc, UN_cn, UN_nc, UN_nn, UJ, lget, lset, lset2, entL, wsm, wcat, Option.toList_some, Option.toList_none, List.cons_append, List.nil_append, List.mem_cons, List.not_mem_nil, Prod.mk.injEq, or_false, false_or, or_true, true_or, and_true, true_and, and_false, false_and, and_self, ne_eq, not_false_eq_true, not_true_eq_false, forall_const, true_implies, false_implies, Nat.add_zero, Nat.zero_add, Nat.le_refl, Nat.zero_le, List.set_cons_zero, List.set_cons_succ, List.set_nil, ↓reduceIte, Nat.reduceAdd, Nat.reduceSub, Nat.reduceEqDiff, Nat.reduceLeDiff, Int.reduceEq, Int.reduceNe, Int.reduceNeg, reduceCtorEq]
      exact hQ
set_option maxHeartbeats 4000000 in
theorem k_places {p : Int} {g : Nat} {f : Pz p} {pu : List Int} {rg : Nat → Pz p × Pz p} {A tl : Nat → Int} {E : Nat → Nat} {N : Mem} {Q : Post} {k : Int} (h : CS g f pu rg A tl E N) (V : VS g f pu rg A tl E) (hk : R32 k) (hQ : ∀ N', CS g f pu rg A tl E N' → mdF N N' → Q (some (1, oPlaces g f k)) NN N') : CL 128 [(2, 1), (0, k)] NN N Q := by
  have h0 := h
  obtain ⟨⟨ρ, S, R⟩, hPu, hCr, -⟩ := h
  have hk' := hk
  obtain ⟨i1, i2⟩ := hk'
  unfold oPlaces at hQ
  refine WP.run [] [] 60 ?_
  simp only [bk128_0, bk128_5, bk128_11, bk128_15, bk128_25, bk128_29, U_iload_n, U_iconst, U_icmp_lt, U_bipush, U_icmp_le, U_ldc2_w, U_lreturn, U_aload_n, U_getfield, U_invokevirtual0, U_if_ne, U_invokevirtual1, UN_cc, UN_cn, UN_nc, UN_nn, UJ, lget, lset, lset2, entL, wsm, wcat, Option.toList_some, Option.toList_none, List.cons_append, List.nil_append, List.mem_cons, List.not_mem_nil, Prod.mk.injEq, or_false, false_or, or_true, true_or, and_true, true_and, and_false, false_and, and_self, ne_eq, not_false_eq_true, not_true_eq_false, forall_const, true_implies, false_implies, Nat.add_zero, Nat.zero_add, Nat.le_refl, Nat.zero_le, List.set_cons_zero, List.set_cons_succ, List.set_nil, ↓reduceIte, Nat.reduceAdd, Nat.reduceSub, Nat.reduceEqDiff, Nat.reduceLeDiff, Int.reduceEq, Int.reduceNe, Int.reduceNeg, reduceCtorEq, kd1, kd21, z1_4 S.1.1]
  refine ⟨rr (by omega), fun e => ?_, fun e => ⟨rr (by omega), fun e2 => ?_, fun e2 => ?_⟩⟩
  · rw [if_pos (by omega)] at hQ; exact hQ N h0 (mdF.rf N)
  · rw [if_pos (by omega)] at hQ; exact hQ N h0 (mdF.rf N)
  · rw [if_neg (by omega)] at hQ
    refine c_std hCr V.g2 ?_
    by_cases q : g = 0
    · rw [if_pos q] at hQ ⊢
      simp only [bk128_0, bk128_5, bk128_11, bk128_15, bk128_25, bk128_29, U_iload_n, U_iconst, U_icmp_lt, U_bipush, U_icmp_le, U_ldc2_w, U_lreturn, U_aload_n, U_getfield, U_invokevirtual0, U_if_ne, U_invokevirtual1, UN_cc, UN_cn, UN_nc, UN_nn, UJ, lget, lset, lset2, entL, wsm, wcat, Option.toList_some, Option.toList_none, List.cons_append, List.nil_append, List.mem_cons, List.not_mem_nil, Prod.mk.injEq, or_false, false_or, or_true, true_or, and_true, true_and, and_false, false_and, and_self, ne_eq, not_false_eq_true, not_true_eq_false, forall_const, true_implies, false_implies, Nat.add_zero, Nat.zero_add, Nat.le_refl, Nat.zero_le, List.set_cons_zero, List.set_cons_succ, List.set_nil, ↓reduceIte, Nat.reduceAdd, Nat.reduceSub, Nat.reduceEqDiff, Nat.reduceLeDiff, Int.reduceEq, Int.reduceNe, Int.reduceNeg, reduceCtorEq]
      exact ⟨r3 (by omega), hQ N h0 (mdF.rf N)⟩
    · rw [if_neg q] at hQ ⊢
      have hc := (hCr.resolve_left (fun e => q e.1)).2
      simp only [bk128_0, bk128_5, bk128_11, bk128_15, bk128_25, bk128_29, U_iload_n, U_iconst, U_icmp_lt, U_bipush, U_icmp_le, U_ldc2_w, U_lreturn, U_aload_n, U_getfield, U_invokevirtual0, U_if_ne, U_invokevirtual1, UN_cc, UN_cn, UN_nc, UN_nn, UJ, lget, lset, lset2, entL, wsm, wcat, Option.toList_some, Option.toList_none, List.cons_append, List.nil_append, List.mem_cons, List.not_mem_nil, Prod.mk.injEq, or_false, false_or, or_true, true_or, and_true, true_and, and_false, false_and, and_self, ne_eq, not_false_eq_true, not_true_eq_false, forall_const, true_implies, false_implies, Nat.add_zero, Nat.zero_add, Nat.le_refl, Nat.zero_le, List.set_cons_zero, List.set_cons_succ, List.set_nil, ↓reduceIte, Nat.reduceAdd, Nat.reduceSub, Nat.reduceEqDiff, Nat.reduceLeDiff, Int.reduceEq, Int.reduceNe, Int.reduceNeg, reduceCtorEq, kd1, kd21, z1_4 S.1.1]
      obtain ⟨n, rfl⟩ : ∃ n : Nat, k = n := ⟨k.toNat, by omega⟩
      refine ⟨r3 (by omega), s_placesOf S hc (V.cv q).2.2.1.1 ⟨by omega, by omega⟩ fun N' S1 F1 => ?_⟩
      simp only [bk128_0, bk128_5, bk128_11, bk128_15, bk128_25, bk128_29, U_iload_n, U_iconst, U_icmp_lt, U_bipush, U_icmp_le, U_ldc2_w, U_lreturn, U_aload_n, U_getfield, U_invokevirtual0, U_if_ne, U_invokevirtual1, UN_cc, UN_cn, UN_nc, UN_nn, UJ, lget, lset, lset2, entL, wsm, wcat, Option.toList_some, Option.toList_none, List.cons_append, List.nil_append, List.mem_cons, List.not_mem_nil, Prod.mk.injEq, or_false, false_or, or_true, true_or, and_true, true_and, and_false, false_and, and_self, ne_eq, not_false_eq_true, not_true_eq_false, forall_const, true_implies, false_implies, Nat.add_zero, Nat.zero_add, Nat.le_refl, Nat.zero_le, List.set_cons_zero, List.set_cons_succ, List.set_nil, ↓reduceIte, Nat.reduceAdd, Nat.reduceSub, Nat.reduceEqDiff, Nat.reduceLeDiff, Int.reduceEq, Int.reduceNe, Int.reduceNeg, reduceCtorEq]
      exact hQ N' (h0.st S1 R (fun b hb => F1 b (csC_inR hb) (fun e => by rw [List.mem_singleton.mp e] at hb; exact absurd hb (by decide)))) (F1.md (by decide))
set_option maxHeartbeats 8000000 in
theorem k_point {p : Int} {g : Nat} {f : Pz p} {pu : List Int} {rg : Nat → Pz p × Pz p} {A tl : Nat → Int} {E : Nat → Nat} {N : Mem} {Q : Post} {i w : Int} (h : CS g f pu rg A tl E N) (V : VS g f pu rg A tl E) (hi : R32 i) (hw : R32 w) (hQ : Q (some (0, oPoint g f i w)) NN N) : CL 123 [(2, 1), (0, i), (0, w)] NN N Q := by
  obtain ⟨⟨ρ, S, R⟩, hPu, hCr, -⟩ := h
  have hi' := hi
  have hw' := hw
  obtain ⟨i1, i2⟩ := hi'
  obtain ⟨w1, w2⟩ := hw'
  have hp := V.1
  unfold oPoint at hQ
  refine WP.run [] [] 90 ?_
  simp only [bk123_0, bk123_8, bk123_12, bk123_17, bk123_20, bk123_30, bk123_33, bk123_38, bk123_47, bk123_51, bk123_53, bk123_57, bk123_68, bk123_76, U_aload_n, U_iload_n, U_invokevirtual1, U_if_eq, U_if_lt, U_iconst, U_icmp_le, U_bipush, U_ireturn, U_getfield, U_invokevirtual0, U_if_ne, U_icmp_ne, U_goto, UN_cc, UN_cn, UN_nc, UN_nn, UJ, lget, lset, lset2, entL, wsm, wcat, Option.toList_some, Option.toList_none, List.cons_append, List.nil_append, List.mem_cons, List.not_mem_nil, Prod.mk.injEq, or_false, false_or, or_true, true_or, and_true, true_and, and_false, false_and, and_self, ne_eq, not_false_eq_true, not_true_eq_false, forall_const, true_implies, false_implies, Nat.add_zero, Nat.zero_add, Nat.le_refl, Nat.zero_le, List.set_cons_zero, List.set_cons_succ, List.set_nil, ↓reduceIte, Nat.reduceAdd, Nat.reduceSub, Nat.reduceEqDiff, Nat.reduceLeDiff, Int.reduceEq, Int.reduceNe, Int.reduceNeg, reduceCtorEq, kd1]
  refine c_isPt S.1.1 hp hCr V.g2 hi ?_
  by_cases q : 0 ≤ i ∧ i < nPt g f
  · rw [if_pos q]
    simp only [bk123_0, bk123_8, bk123_12, bk123_17, bk123_20, bk123_30, bk123_33, bk123_38, bk123_47, bk123_51, bk123_53, bk123_57, bk123_68, bk123_76, U_aload_n, U_iload_n, U_invokevirtual1, U_if_eq, U_if_lt, U_iconst, U_icmp_le, U_bipush, U_ireturn, U_getfield, U_invokevirtual0, U_if_ne, U_icmp_ne, U_goto, UN_cc, UN_cn, UN_nc, UN_nn, UJ, lget, lset, lset2, entL, wsm, wcat, Option.toList_some, Option.toList_none, List.cons_append, List.nil_append, List.mem_cons, List.not_mem_nil, Prod.mk.injEq, or_false, false_or, or_true, true_or, and_true, true_and, and_false, false_and, and_self, ne_eq, not_false_eq_true, not_true_eq_false, forall_const, true_implies, false_implies, Nat.add_zero, Nat.zero_add, Nat.le_refl, Nat.zero_le, List.set_cons_zero, List.set_cons_succ, List.set_nil, ↓reduceIte, Nat.reduceAdd, Nat.reduceSub, Nat.reduceEqDiff, Nat.reduceLeDiff, Int.reduceEq, Int.reduceNe, Int.reduceNeg, reduceCtorEq, kd1, kd21, z1_4 S.1.1]
    refine ⟨r3 (by omega), hw, fun e => ?_, fun e => ⟨rr (by omega), fun e2 => ?_, fun e2 => ?_⟩⟩
    · rw [if_pos (Or.inr (by omega))] at hQ; exact hQ
    · rw [if_pos (Or.inr (by omega))] at hQ; exact hQ
    · rw [if_neg (show ¬ (¬ (0 ≤ i ∧ i < nPt g f) ∨ ¬ (0 ≤ w ∧ w ≤ 2)) by omega)] at hQ
      refine c_std hCr V.g2 ?_
      by_cases q0 : g = 0
      · rw [if_pos q0] at hQ ⊢
        simp only [bk123_0, bk123_8, bk123_12, bk123_17, bk123_20, bk123_30, bk123_33, bk123_38, bk123_47, bk123_51, bk123_53, bk123_57, bk123_68, bk123_76, U_aload_n, U_iload_n, U_invokevirtual1, U_if_eq, U_if_lt, U_iconst, U_icmp_le, U_bipush, U_ireturn, U_getfield, U_invokevirtual0, U_if_ne, U_icmp_ne, U_goto, UN_cc, UN_cn, UN_nc, UN_nn, UJ, lget, lset, lset2, entL, wsm, wcat, Option.toList_some, Option.toList_none, List.cons_append, List.nil_append, List.mem_cons, List.not_mem_nil, Prod.mk.injEq, or_false, false_or, or_true, true_or, and_true, true_and, and_false, false_and, and_self, ne_eq, not_false_eq_true, not_true_eq_false, forall_const, true_implies, false_implies, Nat.add_zero, Nat.zero_add, Nat.le_refl, Nat.zero_le, List.set_cons_zero, List.set_cons_succ, List.set_nil, ↓reduceIte, Nat.reduceAdd, Nat.reduceSub, Nat.reduceEqDiff, Nat.reduceLeDiff, Int.reduceEq, Int.reduceNe, Int.reduceNeg, reduceCtorEq]
        exact ⟨r3 (by omega), hQ⟩
      · rw [if_neg q0] at hQ ⊢
        have hc := (hCr.resolve_left (fun e => q0 e.1)).2
        obtain ⟨n, rfl⟩ : ∃ n : Nat, i = n := ⟨i.toNat, by omega⟩
        have hn : n ≤ (ptl f p.toNat).length := by
          have := q.2
          unfold nPt at this
          rw [if_neg q0] at this
          omega
        simp only [bk123_0, bk123_8, bk123_12, bk123_17, bk123_20, bk123_30, bk123_33, bk123_38, bk123_47, bk123_51, bk123_53, bk123_57, bk123_68, bk123_76, U_aload_n, U_iload_n, U_invokevirtual1, U_if_eq, U_if_lt, U_iconst, U_icmp_le, U_bipush, U_ireturn, U_getfield, U_invokevirtual0, U_if_ne, U_icmp_ne, U_goto, UN_cc, UN_cn, UN_nc, UN_nn, UJ, lget, lset, lset2, entL, wsm, wcat, Option.toList_some, Option.toList_none, List.cons_append, List.nil_append, List.mem_cons, List.not_mem_nil, Prod.mk.injEq, or_false, false_or, or_true, true_or, and_true, true_and, and_false, false_and, and_self, ne_eq, not_false_eq_true, not_true_eq_false, forall_const, true_implies, false_implies, Nat.add_zero, Nat.zero_add, Nat.le_refl, Nat.zero_le, List.set_cons_zero, List.set_cons_succ, List.set_nil, ↓reduceIte, Nat.reduceAdd, Nat.reduceSub, Nat.reduceEqDiff, Nat.reduceLeDiff, Int.reduceEq, Int.reduceNe, Int.reduceNeg, reduceCtorEq, kd1, kd21, z1_4 S.1.1]
        by_cases n0 : n = 0
        · subst n0
          rw [if_pos (by rfl)] at hQ
          refine ⟨r3 (by omega), rr (by omega), fun e => ?_, fun e => ?_⟩
          · rw [if_pos e] at hQ
            refine c_other0 ?_
            simp only [bk123_0, bk123_8, bk123_12, bk123_17, bk123_20, bk123_30, bk123_33, bk123_38, bk123_47, bk123_51, bk123_53, bk123_57, bk123_68, bk123_76, U_aload_n, U_iload_n, U_invokevirtual1, U_if_eq, U_if_lt, U_iconst, U_icmp_le, U_bipush, U_ireturn, U_getfield, U_invokevirtual0, U_if_ne, U_icmp_ne, U_goto, UN_cc, UN_cn, UN_nc, UN_nn, UJ, lget, lset, lset2, entL, wsm, wcat, Option.toList_some, Option.toList_none, List.cons_append, List.nil_append, List.mem_cons, List.not_mem_nil, Prod.mk.injEq, or_false, false_or, or_true, true_or, and_true, true_and, and_false, false_and, and_self, ne_eq, not_false_eq_true, not_true_eq_false, forall_const, true_implies, false_implies, Nat.add_zero, Nat.zero_add, Nat.le_refl, Nat.zero_le, List.set_cons_zero, List.set_cons_succ, List.set_nil, ↓reduceIte, Nat.reduceAdd, Nat.reduceSub, Nat.reduceEqDiff, Nat.reduceLeDiff, Int.reduceEq, Int.reduceNe, Int.reduceNeg, reduceCtorEq]
            exact hQ
          · rw [if_neg e] at hQ
            exact ⟨r3 (by omega), fun _ => hQ, fun e => absurd rfl e⟩
        · rw [if_neg (show ¬ ((n : Nat) : Int) = 0 by omega), Int.toNat_natCast] at hQ
          have hpt := ptAt_is f (i := n) (by omega) hn
          obtain ⟨m, rfl⟩ : ∃ m, n = m + 1 := ⟨n - 1, by omega⟩
          rw [Nat.add_sub_cancel] at hpt
          rw [show ((m + 1 : Nat) : Int) = (m : Int) + 1 by omega]
          refine ⟨r3 (by omega), rr (by omega), fun e => ?_, fun e => ⟨r3 (by omega), fun e2 => absurd e2 (by omega), fun _ => ⟨hw, fun e3 => ?_, fun e3 => ?_⟩⟩⟩
          · rw [if_pos e] at hQ
            refine c_other S.1 hc.2.1 m hpt ?_
            simp only [bk123_0, bk123_8, bk123_12, bk123_17, bk123_20, bk123_30, bk123_33, bk123_38, bk123_47, bk123_51, bk123_53, bk123_57, bk123_68, bk123_76, U_aload_n, U_iload_n, U_invokevirtual1, U_if_eq, U_if_lt, U_iconst, U_icmp_le, U_bipush, U_ireturn, U_getfield, U_invokevirtual0, U_if_ne, U_icmp_ne, U_goto, UN_cc, UN_cn, UN_nc, UN_nn, UJ, lget, lset, lset2, entL, wsm, wcat, Option.toList_some, Option.toList_none, List.cons_append, List.nil_append, List.mem_cons, List.not_mem_nil, Prod.mk.injEq, or_false, false_or, or_true, true_or, and_true, true_and, and_false, false_and, and_self, ne_eq, not_false_eq_true, not_true_eq_false, forall_const, true_implies, false_implies, Nat.add_zero, Nat.zero_add, Nat.le_refl, Nat.zero_le, List.set_cons_zero, List.set_cons_succ, List.set_nil, ↓reduceIte, Nat.reduceAdd, Nat.reduceSub, Nat.reduceEqDiff, Nat.reduceLeDiff, Int.reduceEq, Int.reduceNe, Int.reduceNeg, reduceCtorEq]
            exact hQ
          · rw [if_neg e, if_pos e3] at hQ
            refine c_xOf S.1.1 hp hc.2.1 m hpt ?_
            simp only [bk123_0, bk123_8, bk123_12, bk123_17, bk123_20, bk123_30, bk123_33, bk123_38, bk123_47, bk123_51, bk123_53, bk123_57, bk123_68, bk123_76, U_aload_n, U_iload_n, U_invokevirtual1, U_if_eq, U_if_lt, U_iconst, U_icmp_le, U_bipush, U_ireturn, U_getfield, U_invokevirtual0, U_if_ne, U_icmp_ne, U_goto, UN_cc, UN_cn, UN_nc, UN_nn, UJ, lget, lset, lset2, entL, wsm, wcat, Option.toList_some, Option.toList_none, List.cons_append, List.nil_append, List.mem_cons, List.not_mem_nil, Prod.mk.injEq, or_false, false_or, or_true, true_or, and_true, true_and, and_false, false_and, and_self, ne_eq, not_false_eq_true, not_true_eq_false, forall_const, true_implies, false_implies, Nat.add_zero, Nat.zero_add, Nat.le_refl, Nat.zero_le, List.set_cons_zero, List.set_cons_succ, List.set_nil, ↓reduceIte, Nat.reduceAdd, Nat.reduceSub, Nat.reduceEqDiff, Nat.reduceLeDiff, Int.reduceEq, Int.reduceNe, Int.reduceNeg, reduceCtorEq]
            exact hQ
          · rw [if_neg e, if_neg e3] at hQ
            refine c_yOf S.1.1 hp hc.2.1 m hpt ?_
            simp only [bk123_0, bk123_8, bk123_12, bk123_17, bk123_20, bk123_30, bk123_33, bk123_38, bk123_47, bk123_51, bk123_53, bk123_57, bk123_68, bk123_76, U_aload_n, U_iload_n, U_invokevirtual1, U_if_eq, U_if_lt, U_iconst, U_icmp_le, U_bipush, U_ireturn, U_getfield, U_invokevirtual0, U_if_ne, U_icmp_ne, U_goto, UN_cc, UN_cn, UN_nc, UN_nn, UJ, lget, lset, lset2, entL, wsm, wcat, Option.toList_some, Option.toList_none, List.cons_append, List.nil_append, List.mem_cons, List.not_mem_nil, Prod.mk.injEq, or_false, false_or, or_true, true_or, and_true, true_and, and_false, false_and, and_self, ne_eq, not_false_eq_true, not_true_eq_false, forall_const, true_implies, false_implies, Nat.add_zero, Nat.zero_add, Nat.le_refl, Nat.zero_le, List.set_cons_zero, List.set_cons_succ, List.set_nil, ↓reduceIte, Nat.reduceAdd, Nat.reduceSub, Nat.reduceEqDiff, Nat.reduceLeDiff, Int.reduceEq, Int.reduceNe, Int.reduceNeg, reduceCtorEq]
            exact hQ
  · rw [if_neg q]
    rw [if_pos (Or.inl q)] at hQ
    simp only [bk123_0, bk123_8, bk123_12, bk123_17, bk123_20, bk123_30, bk123_33, bk123_38, bk123_47, bk123_51, bk123_53, bk123_57, bk123_68, bk123_76, U_aload_n, U_iload_n, U_invokevirtual1, U_if_eq, U_if_lt, U_iconst, U_icmp_le, U_bipush, U_ireturn, U_getfield, U_invokevirtual0, U_if_ne, U_icmp_ne, U_goto, UN_cc, UN_cn, UN_nc, UN_nn, UJ, lget, lset, lset2, entL, wsm, wcat, Option.toList_some, Option.toList_none, List.cons_append, List.nil_append, List.mem_cons, List.not_mem_nil, Prod.mk.injEq, or_false, false_or, or_true, true_or, and_true, true_and, and_false, false_and, and_self, ne_eq, not_false_eq_true, not_true_eq_false, forall_const, true_implies, false_implies, Nat.add_zero, Nat.zero_add, Nat.le_refl, Nat.zero_le, List.set_cons_zero, List.set_cons_succ, List.set_nil, ↓reduceIte, Nat.reduceAdd, Nat.reduceSub, Nat.reduceEqDiff, Nat.reduceLeDiff, Int.reduceEq, Int.reduceNe, Int.reduceNeg, reduceCtorEq]
    exact ⟨r3 (by omega), hQ⟩
/-- a row's coefficient, -1 beyond its degree -/
noncomputable def oOf {p : Int} (g : Nat) (rg : Nat → Pz p × Pz p) (r w i : Int) : Int := if ¬ (0 ≤ r ∧ r < 6) ∨ ¬ (0 ≤ w ∧ w ≤ 1) ∨ i < 0 then -2 else if g = 0 then -3 else
  if (dg (if w = 0 then (rg r.toNat).1 else (rg r.toNat).2) : Int) ≤ i then -1 else (if w = 0 then (rg r.toNat).1 else (rg r.toNat).2).1 i.toNat
set_option maxHeartbeats 8000000 in
theorem k_of {p : Int} {g : Nat} {f : Pz p} {pu : List Int} {rg : Nat → Pz p × Pz p} {A tl : Nat → Int} {E : Nat → Nat} {N : Mem} {Q : Post} {r w i : Int} (h : CS g f pu rg A tl E N) (V : VS g f pu rg A tl E) (hr : R32 r) (hw : R32 w) (hi : R32 i) (hQ : Q (some (0, oOf g rg r w i)) NN N) : CL 134 [(2, 1), (0, r), (0, w), (0, i), (9, 0)] NN N Q := by
  obtain ⟨⟨ρ, S, R⟩, hPu, hCr, -⟩ := h
  have hi' := hi
  have hw' := hw
  have hr' := hr
  obtain ⟨i1, i2⟩ := hi'
  obtain ⟨w1, w2⟩ := hw'
  obtain ⟨r1, r2⟩ := hr'
  unfold oOf at hQ
  refine WP.run [] [] 90 ?_
  simp only [bk134_0, bk134_7, bk134_11, bk134_16, bk134_20, bk134_23, bk134_33, bk134_36, bk134_40, bk134_52, bk134_61, bk134_72, bk134_76, bk134_82, U_iload_n, U_invokestatic1, U_if_eq, U_if_lt, U_iconst, U_icmp_gt, U_if_ge, U_bipush, U_ireturn, U_aload_n, U_getfield, U_invokevirtual0, U_if_ne, U_aald, U_goto, U_astore, U_aload, U_icmp_le, U_invokevirtual1, UN_cc, UN_cn, UN_nc, UN_nn, UJ, lget, lset, lset2, entL, wsm, wcat, Option.toList_some, Option.toList_none, List.cons_append, List.nil_append, List.mem_cons, List.not_mem_nil, Prod.mk.injEq, or_false, false_or, or_true, true_or, and_true, true_and, and_false, false_and, and_self, ne_eq, not_false_eq_true, not_true_eq_false, forall_const, true_implies, false_implies, Nat.add_zero, Nat.zero_add, Nat.le_refl, Nat.zero_le, List.set_cons_zero, List.set_cons_succ, List.set_nil, ↓reduceIte, Nat.reduceAdd, Nat.reduceSub, Nat.reduceEqDiff, Nat.reduceLeDiff, Int.reduceEq, Int.reduceNe, Int.reduceNeg, reduceCtorEq, kd1]
  refine c_isReg hr ?_
  by_cases q : 0 ≤ r ∧ r < 6
  · rw [if_pos q]
    simp only [bk134_0, bk134_7, bk134_11, bk134_16, bk134_20, bk134_23, bk134_33, bk134_36, bk134_40, bk134_52, bk134_61, bk134_72, bk134_76, bk134_82, U_iload_n, U_invokestatic1, U_if_eq, U_if_lt, U_iconst, U_icmp_gt, U_if_ge, U_bipush, U_ireturn, U_aload_n, U_getfield, U_invokevirtual0, U_if_ne, U_aald, U_goto, U_astore, U_aload, U_icmp_le, U_invokevirtual1, UN_cc, UN_cn, UN_nc, UN_nn, UJ, lget, lset, lset2, entL, wsm, wcat, Option.toList_some, Option.toList_none, List.cons_append, List.nil_append, List.mem_cons, List.not_mem_nil, Prod.mk.injEq, or_false, false_or, or_true, true_or, and_true, true_and, and_false, false_and, and_self, ne_eq, not_false_eq_true, not_true_eq_false, forall_const, true_implies, false_implies, Nat.add_zero, Nat.zero_add, Nat.le_refl, Nat.zero_le, List.set_cons_zero, List.set_cons_succ, List.set_nil, ↓reduceIte, Nat.reduceAdd, Nat.reduceSub, Nat.reduceEqDiff, Nat.reduceLeDiff, Int.reduceEq, Int.reduceNe, Int.reduceNeg, reduceCtorEq, kd1, kd21, z1_4 S.1.1]
    refine ⟨r3 (by omega), hw, fun e => ?_, fun e => ⟨rr (by omega), fun e2 => ?_, fun e2 => ⟨hi, fun e3 => ?_, fun e3 => ?_⟩⟩⟩
    · rw [if_pos (by omega)] at hQ; exact hQ
    · rw [if_pos (by omega)] at hQ; exact hQ
    · rw [if_pos (by omega)] at hQ; exact hQ
    · rw [if_neg (show ¬ (¬ (0 ≤ r ∧ r < 6) ∨ ¬ (0 ≤ w ∧ w ≤ 1) ∨ i < 0) by omega)] at hQ
      refine c_std hCr V.g2 ?_
      by_cases q0 : g = 0
      · rw [if_pos q0] at hQ ⊢
        simp only [bk134_0, bk134_7, bk134_11, bk134_16, bk134_20, bk134_23, bk134_33, bk134_36, bk134_40, bk134_52, bk134_61, bk134_72, bk134_76, bk134_82, U_iload_n, U_invokestatic1, U_if_eq, U_if_lt, U_iconst, U_icmp_gt, U_if_ge, U_bipush, U_ireturn, U_aload_n, U_getfield, U_invokevirtual0, U_if_ne, U_aald, U_goto, U_astore, U_aload, U_icmp_le, U_invokevirtual1, UN_cc, UN_cn, UN_nc, UN_nn, UJ, lget, lset, lset2, entL, wsm, wcat, Option.toList_some, Option.toList_none, List.cons_append, List.nil_append, List.mem_cons, List.not_mem_nil, Prod.mk.injEq, or_false, false_or, or_true, true_or, and_true, true_and, and_false, false_and, and_self, ne_eq, not_false_eq_true, not_true_eq_false, forall_const, true_implies, false_implies, Nat.add_zero, Nat.zero_add, Nat.le_refl, Nat.zero_le, List.set_cons_zero, List.set_cons_succ, List.set_nil, ↓reduceIte, Nat.reduceAdd, Nat.reduceSub, Nat.reduceEqDiff, Nat.reduceLeDiff, Int.reduceEq, Int.reduceNe, Int.reduceNeg, reduceCtorEq]
        exact ⟨r3 (by omega), hQ⟩
      · rw [if_neg q0] at hQ ⊢
        obtain ⟨n, rfl⟩ : ∃ n : Nat, r = n := ⟨r.toNat, by omega⟩
        have kR := kdR q.1 q.2
        have hz := zpr S.1.1 kR
        have z57' := z57 S.1.1 (n : Int) q.1 q.2
        have hPH := R.2 n (by omega)
        have n0 : ¬ (58 + 5 * (n : Int) = 0) := by omega
        have n1 : ¬ (58 + 5 * (n : Int) + 1 = 0) := by omega
        have n3 : ¬ (58 + 5 * (n : Int) + 3 = 0) := by omega
        rw [Int.toNat_natCast] at hQ
        simp only [bk134_0, bk134_7, bk134_11, bk134_16, bk134_20, bk134_23, bk134_33, bk134_36, bk134_40, bk134_52, bk134_61, bk134_72, bk134_76, bk134_82, U_iload_n, U_invokestatic1, U_if_eq, U_if_lt, U_iconst, U_icmp_gt, U_if_ge, U_bipush, U_ireturn, U_aload_n, U_getfield, U_invokevirtual0, U_if_ne, U_aald, U_goto, U_astore, U_aload, U_icmp_le, U_invokevirtual1, UN_cc, UN_cn, UN_nc, UN_nn, UJ, lget, lset, lset2, entL, wsm, wcat, Option.toList_some, Option.toList_none, List.cons_append, List.nil_append, List.mem_cons, List.not_mem_nil, Prod.mk.injEq, or_false, false_or, or_true, true_or, and_true, true_and, and_false, false_and, and_self, ne_eq, not_false_eq_true, not_true_eq_false, forall_const, true_implies, false_implies, Nat.add_zero, Nat.zero_add, Nat.le_refl, Nat.zero_le, List.set_cons_zero, List.set_cons_succ, List.set_nil, ↓reduceIte, Nat.reduceAdd, Nat.reduceSub, Nat.reduceEqDiff, Nat.reduceLeDiff, Int.reduceEq, Int.reduceNe, Int.reduceNeg, reduceCtorEq, kd1, kd57, ln57, z1_6 S.1.1, z57', n0, kd_of kR (by decide), hz.1, hz.2.1, n1, n3, kd_of hz.2.2.1 (by decide), kd_of hz.2.2.2.1 (by decide)]
        refine ⟨r3 (by omega), hw, fun e => ?_, fun e => ?_⟩
        · have hrp := S.rp hz.2.2.1 hPH.1
          have d8 := hrp.2.2.1
          rw [if_pos e] at hQ
          simp only [bk134_0, bk134_7, bk134_11, bk134_16, bk134_20, bk134_23, bk134_33, bk134_36, bk134_40, bk134_52, bk134_61, bk134_72, bk134_76, bk134_82, U_iload_n, U_invokestatic1, U_if_eq, U_if_lt, U_iconst, U_icmp_gt, U_if_ge, U_bipush, U_ireturn, U_aload_n, U_getfield, U_invokevirtual0, U_if_ne, U_aald, U_goto, U_astore, U_aload, U_icmp_le, U_invokevirtual1, UN_cc, UN_cn, UN_nc, UN_nn, UJ, lget, lset, lset2, entL, wsm, wcat, Option.toList_some, Option.toList_none, List.cons_append, List.nil_append, List.mem_cons, List.not_mem_nil, Prod.mk.injEq, or_false, false_or, or_true, true_or, and_true, true_and, and_false, false_and, and_self, ne_eq, not_false_eq_true, not_true_eq_false, forall_const, true_implies, false_implies, Nat.add_zero, Nat.zero_add, Nat.le_refl, Nat.zero_le, List.set_cons_zero, List.set_cons_succ, List.set_nil, ↓reduceIte, Nat.reduceAdd, Nat.reduceSub, Nat.reduceEqDiff, Nat.reduceLeDiff, Int.reduceEq, Int.reduceNe, Int.reduceNeg, reduceCtorEq, kd_of hz.2.2.1 (by decide), hrp.2.2.2]
          refine ⟨q.1, q.2, rr (by omega), fun e2 => ?_, fun e2 => c_get hrp hi ?_⟩
          · rw [if_pos (by omega)] at hQ; exact hQ
          · rw [if_neg (by omega)] at hQ
            rw [if_pos (by omega)]
            simp only [bk134_0, bk134_7, bk134_11, bk134_16, bk134_20, bk134_23, bk134_33, bk134_36, bk134_40, bk134_52, bk134_61, bk134_72, bk134_76, bk134_82, U_iload_n, U_invokestatic1, U_if_eq, U_if_lt, U_iconst, U_icmp_gt, U_if_ge, U_bipush, U_ireturn, U_aload_n, U_getfield, U_invokevirtual0, U_if_ne, U_aald, U_goto, U_astore, U_aload, U_icmp_le, U_invokevirtual1, UN_cc, UN_cn, UN_nc, UN_nn, UJ, lget, lset, lset2, entL, wsm, wcat, Option.toList_some, Option.toList_none, List.cons_append, List.nil_append, List.mem_cons, List.not_mem_nil, Prod.mk.injEq, or_false, false_or, or_true, true_or, and_true, true_and, and_false, false_and, and_self, ne_eq, not_false_eq_true, not_true_eq_false, forall_const, true_implies, false_implies, Nat.add_zero, Nat.zero_add, Nat.le_refl, Nat.zero_le, List.set_cons_zero, List.set_cons_succ, List.set_nil, ↓reduceIte, Nat.reduceAdd, Nat.reduceSub, Nat.reduceEqDiff, Nat.reduceLeDiff, Int.reduceEq, Int.reduceNe, Int.reduceNeg, reduceCtorEq]
            exact hQ
        · have hrp := S.rp hz.2.2.2.1 hPH.2
          have d8 := hrp.2.2.1
          rw [if_neg e] at hQ
          simp only [bk134_0, bk134_7, bk134_11, bk134_16, bk134_20, bk134_23, bk134_33, bk134_36, bk134_40, bk134_52, bk134_61, bk134_72, bk134_76, bk134_82, U_iload_n, U_invokestatic1, U_if_eq, U_if_lt, U_iconst, U_icmp_gt, U_if_ge, U_bipush, U_ireturn, U_aload_n, U_getfield, U_invokevirtual0, U_if_ne, U_aald, U_goto, U_astore, U_aload, U_icmp_le, U_invokevirtual1, UN_cc, UN_cn, UN_nc, UN_nn, UJ, lget, lset, lset2, entL, wsm, wcat, Option.toList_some, Option.toList_none, List.cons_append, List.nil_append, List.mem_cons, List.not_mem_nil, Prod.mk.injEq, or_false, false_or, or_true, true_or, and_true, true_and, and_false, false_and, and_self, ne_eq, not_false_eq_true, not_true_eq_false, forall_const, true_implies, false_implies, Nat.add_zero, Nat.zero_add, Nat.le_refl, Nat.zero_le, List.set_cons_zero, List.set_cons_succ, List.set_nil, ↓reduceIte, Nat.reduceAdd, Nat.reduceSub, Nat.reduceEqDiff, Nat.reduceLeDiff, Int.reduceEq, Int.reduceNe, Int.reduceNeg, reduceCtorEq, kd_of hz.2.2.2.1 (by decide), hrp.2.2.2]
          refine ⟨q.1, q.2, rr (by omega), fun e2 => ?_, fun e2 => c_get hrp hi ?_⟩
          · rw [if_pos (by omega)] at hQ; exact hQ
          · rw [if_neg (by omega)] at hQ
            rw [if_pos (by omega)]
            simp only [bk134_0, bk134_7, bk134_11, bk134_16, bk134_20, bk134_23, bk134_33, bk134_36, bk134_40, bk134_52, bk134_61, bk134_72, bk134_76, bk134_82, U_iload_n, U_invokestatic1, U_if_eq, U_if_lt, U_iconst, U_icmp_gt, U_if_ge, U_bipush, U_ireturn, U_aload_n, U_getfield, U_invokevirtual0, U_if_ne, U_aald, U_goto, U_astore, U_aload, U_icmp_le, U_invokevirtual1, UN_cc, UN_cn, UN_nc, UN_nn, UJ, lget, lset, lset2, entL, wsm, wcat, Option.toList_some, Option.toList_none, List.cons_append, List.nil_append, List.mem_cons, List.not_mem_nil, Prod.mk.injEq, or_false, false_or, or_true, true_or, and_true, true_and, and_false, false_and, and_self, ne_eq, not_false_eq_true, not_true_eq_false, forall_const, true_implies, false_implies, Nat.add_zero, Nat.zero_add, Nat.le_refl, Nat.zero_le, List.set_cons_zero, List.set_cons_succ, List.set_nil, ↓reduceIte, Nat.reduceAdd, Nat.reduceSub, Nat.reduceEqDiff, Nat.reduceLeDiff, Int.reduceEq, Int.reduceNe, Int.reduceNeg, reduceCtorEq]
            exact hQ
  · rw [if_neg q]
    rw [if_pos (Or.inl q)] at hQ
    simp only [bk134_0, bk134_7, bk134_11, bk134_16, bk134_20, bk134_23, bk134_33, bk134_36, bk134_40, bk134_52, bk134_61, bk134_72, bk134_76, bk134_82, U_iload_n, U_invokestatic1, U_if_eq, U_if_lt, U_iconst, U_icmp_gt, U_if_ge, U_bipush, U_ireturn, U_aload_n, U_getfield, U_invokevirtual0, U_if_ne, U_aald, U_goto, U_astore, U_aload, U_icmp_le, U_invokevirtual1, UN_cc, UN_cn, UN_nc, UN_nn, UJ, lget, lset, lset2, entL, wsm, wcat, Option.toList_some, Option.toList_none, List.cons_append, List.nil_append, List.mem_cons, List.not_mem_nil, Prod.mk.injEq, or_false, false_or, or_true, true_or, and_true, true_and, and_false, false_and, and_self, ne_eq, not_false_eq_true, not_true_eq_false, forall_const, true_implies, false_implies, Nat.add_zero, Nat.zero_add, Nat.le_refl, Nat.zero_le, List.set_cons_zero, List.set_cons_succ, List.set_nil, ↓reduceIte, Nat.reduceAdd, Nat.reduceSub, Nat.reduceEqDiff, Nat.reduceLeDiff, Int.reduceEq, Int.reduceNe, Int.reduceNeg, reduceCtorEq]
    exact ⟨r3 (by omega), hQ⟩
