/-! CALLS OF THE CLASS: the curve -/
/-- the row pushed: its first k numbers -/
noncomputable def rwU (p : Int) (pu : List Int) : Nat → Pz p
  | 0 => pC p 0
  | k + 1 => pput (rwU p pu k) k (pu.getD k 0)
noncomputable def pzU (p : Int) (pu : List Int) : Pz p := rwU p pu pu.length
set_option maxHeartbeats 8000000 in
theorem l_cuL {p : Int} {N : Mem} {ρ : Int → Option (Pz p)} {Q : Post} {pu : List Int} (hpu : pu.length ≤ 6 ∧ ∀ v ∈ pu, 0 ≤ v ∧ v < p) (hP : PuA N pu) (hQ : ∀ N' x, ST p N' (upq ρ 19 (pzU p pu)) → FR N N' → WP 120 (0, 0) 43 [(2, 1), x] [] NN N' Q) :
    ∀ (n k : Nat) (Ni : Mem), k + n = pu.length → ST p Ni (upq ρ 19 (rwU p pu k)) → FR N Ni → WP 120 (0, 0) 9 [(2, 1), (0, (k : Int))] [] NN Ni Q := by
  intro n
  induction n with
  | zero =>
    intro k Ni hk hS hF
    obtain rfl : k = pu.length := by omega
    have e1 : Ni 1 2 = (pu.length : Int) := by rw [hF 1 rfl]; exact hP.1
    refine WP.run [(120, 9), (120, 43)] [] 60 ?_
    simp only [bk120_0, bk120_9, bk120_17, bk120_23, bk120_43, bk120_62, bk120_65, U_aload_n, U_getfield, U_invokevirtual0, U_iconst, U_istore_n, U_iload_n, U_icmp_ge, U_bipush, U_iald, U_invokevirtual2, U_iinc, U_goto, U_putfield, U_invokevirtual1, U_if_ne, U_ireturn, UN_cc, UN_cn, UN_nc, UN_nn, UJ, lget, lset, lset2, entL, wsm, wcat, Option.toList_some, Option.toList_none, List.cons_append, List.nil_append, List.mem_cons, List.not_mem_nil, Prod.mk.injEq, or_false, false_or, or_true, true_or, and_true, true_and, and_false, false_and, and_self, ne_eq, not_false_eq_true, not_true_eq_false, forall_const, true_implies, false_implies, Nat.add_zero, Nat.zero_add, Nat.le_refl, Nat.zero_le, List.set_cons_zero, List.set_cons_succ, List.set_nil, ↓reduceIte, Nat.reduceAdd, Nat.reduceSub, Nat.reduceEqDiff, Nat.reduceLeDiff, Int.reduceEq, Int.reduceNe, Int.reduceNeg, reduceCtorEq, kd1, e1]
    exact ⟨rr (by omega), fun e => absurd e (by omega), fun _ => hQ Ni _ hS hF⟩
  | succ n ih =>
    intro k Ni hk hS hF
    have e1 : Ni 1 2 = (pu.length : Int) := by rw [hF 1 rfl]; exact hP.1
    have hkl : k < pu.length := by omega
    have hv : Ni 18 (k : Int) = pu[k] := by rw [hF 18 rfl]; exact hP.2 k pu[k] (List.getElem?_eq_getElem hkl)
    have hm := hpu.2 _ (List.getElem_mem hkl)
    have hg : pu.getD k 0 = pu[k] := by rw [List.getD_eq_getElem?_getD, List.getElem?_eq_getElem hkl]; rfl
    refine WP.run [(120, 9), (120, 43)] [] 60 ?_
    simp only [bk120_0, bk120_9, bk120_17, bk120_23, bk120_43, bk120_62, bk120_65, U_aload_n, U_getfield, U_invokevirtual0, U_iconst, U_istore_n, U_iload_n, U_icmp_ge, U_bipush, U_iald, U_invokevirtual2, U_iinc, U_goto, U_putfield, U_invokevirtual1, U_if_ne, U_ireturn, UN_cc, UN_cn, UN_nc, UN_nn, UJ, lget, lset, lset2, entL, wsm, wcat, Option.toList_some, Option.toList_none, List.cons_append, List.nil_append, List.mem_cons, List.not_mem_nil, Prod.mk.injEq, or_false, false_or, or_true, true_or, and_true, true_and, and_false, false_and, and_self, ne_eq, not_false_eq_true, not_true_eq_false, forall_const, true_implies, false_implies, Nat.add_zero, Nat.zero_add, Nat.le_refl, Nat.zero_le, List.set_cons_zero, List.set_cons_succ, List.set_nil, ↓reduceIte, Nat.reduceAdd, Nat.reduceSub, Nat.reduceEqDiff, Nat.reduceLeDiff, Int.reduceEq, Int.reduceNe, Int.reduceNeg, reduceCtorEq, kd1, kd18, kd19, ln18, e1, z1_1 hS.1.1, z1_3 hS.1.1, hv]
    refine ⟨rr (by omega), fun _ => ⟨rr (by omega), fun _ => ⟨by omega, by omega, s_put hS rfl (upq_e _ _ _) k (by omega) (Int.emod_eq_of_lt hm.1 hm.2) fun N1 S1 F1 => ?_⟩, fun e => absurd (by omega) e⟩, fun e => absurd (by omega) e⟩
    rw [upq_u] at S1
    simp only [bk120_0, bk120_9, bk120_17, bk120_23, bk120_43, bk120_62, bk120_65, U_aload_n, U_getfield, U_invokevirtual0, U_iconst, U_istore_n, U_iload_n, U_icmp_ge, U_bipush, U_iald, U_invokevirtual2, U_iinc, U_goto, U_putfield, U_invokevirtual1, U_if_ne, U_ireturn, UN_cc, UN_cn, UN_nc, UN_nn, UJ, lget, lset, lset2, entL, wsm, wcat, Option.toList_some, Option.toList_none, List.cons_append, List.nil_append, List.mem_cons, List.not_mem_nil, Prod.mk.injEq, or_false, false_or, or_true, true_or, and_true, true_and, and_false, false_and, and_self, ne_eq, not_false_eq_true, not_true_eq_false, forall_const, true_implies, false_implies, Nat.add_zero, Nat.zero_add, Nat.le_refl, Nat.zero_le, List.set_cons_zero, List.set_cons_succ, List.set_nil, ↓reduceIte, Nat.reduceAdd, Nat.reduceSub, Nat.reduceEqDiff, Nat.reduceLeDiff, Int.reduceEq, Int.reduceNe, Int.reduceNeg, reduceCtorEq]
    refine ih (k + 1) N1 (by omega) ?_ (hF.tr F1)
    rw [show rwU p pu (k + 1) = pput (rwU p pu k) k pu[k] by rw [← hg]; rfl]
    exact S1
set_option maxHeartbeats 16000000 in
theorem k_curve {p : Int} {g : Nat} {f : Pz p} {pu : List Int} {rg : Nat → Pz p × Pz p} {A tl : Nat → Int} {E : Nat → Nat} {N : Mem} {Q : Post} (h : CS g f pu rg A tl E N) (V : VS g f pu rg A tl E) (hQ0 : ¬ Fit (pzU p pu) → ∀ N', CS g f [] rg A tl E N' → mdF N N' → Q (some (0, -3)) NN N')
    (hQ1 : Fit (pzU p pu) → ∀ N', CS (dg (pzU p pu) / 2 - 1) (pzU p pu) [] (fun _ => (pC p 1, pC p 0)) (fun _ => 0) tl E N' → mdF N N' → Q (some (0, ((dg (pzU p pu) / 2 - 1 : Nat) : Int))) NN N') : CL 120 [(2, 1), (9, 0)] NN N Q := by
  have h0 := h
  obtain ⟨⟨ρ, S, R⟩, a1, a2, a3, a4, a5, a6, a7, a8, a9⟩ := h
  refine WP.run [(120, 9), (120, 43)] [] 60 ?_
  simp only [bk120_0, bk120_9, bk120_17, bk120_23, bk120_43, bk120_62, bk120_65, U_aload_n, U_getfield, U_invokevirtual0, U_iconst, U_istore_n, U_iload_n, U_icmp_ge, U_bipush, U_iald, U_invokevirtual2, U_iinc, U_goto, U_putfield, U_invokevirtual1, U_if_ne, U_ireturn, UN_cc, UN_cn, UN_nc, UN_nn, UJ, lget, lset, lset2, entL, wsm, wcat, Option.toList_some, Option.toList_none, List.cons_append, List.nil_append, List.mem_cons, List.not_mem_nil, Prod.mk.injEq, or_false, false_or, or_true, true_or, and_true, true_and, and_false, false_and, and_self, ne_eq, not_false_eq_true, not_true_eq_false, forall_const, true_implies, false_implies, Nat.add_zero, Nat.zero_add, Nat.le_refl, Nat.zero_le, List.set_cons_zero, List.set_cons_succ, List.set_nil, ↓reduceIte, Nat.reduceAdd, Nat.reduceSub, Nat.reduceEqDiff, Nat.reduceLeDiff, Int.reduceEq, Int.reduceNe, Int.reduceNeg, reduceCtorEq, kd1, kd19, z1_3 S.1.1]
  refine s_clear S rfl fun N1 S1 F1 => ?_
  simp only [bk120_0, bk120_9, bk120_17, bk120_23, bk120_43, bk120_62, bk120_65, U_aload_n, U_getfield, U_invokevirtual0, U_iconst, U_istore_n, U_iload_n, U_icmp_ge, U_bipush, U_iald, U_invokevirtual2, U_iinc, U_goto, U_putfield, U_invokevirtual1, U_if_ne, U_ireturn, UN_cc, UN_cn, UN_nc, UN_nn, UJ, lget, lset, lset2, entL, wsm, wcat, Option.toList_some, Option.toList_none, List.cons_append, List.nil_append, List.mem_cons, List.not_mem_nil, Prod.mk.injEq, or_false, false_or, or_true, true_or, and_true, true_and, and_false, false_and, and_self, ne_eq, not_false_eq_true, not_true_eq_false, forall_const, true_implies, false_implies, Nat.add_zero, Nat.zero_add, Nat.le_refl, Nat.zero_le, List.set_cons_zero, List.set_cons_succ, List.set_nil, ↓reduceIte, Nat.reduceAdd, Nat.reduceSub, Nat.reduceEqDiff, Nat.reduceLeDiff, Int.reduceEq, Int.reduceNe, Int.reduceNeg, reduceCtorEq]
  have a1' : PuA N1 pu := a1.fx (F1 1 rfl) (F1 18 rfl)
  refine l_cuL (N := N1) V.2.2.1 a1' (fun N2 x S2 F2 => ?_) pu.length 0 N1 (by omega) S1 (FR.rf N1)
  refine WP.run [] [] 60 ?_
  have S3 : ST p (ust N2 1 2 0) (upq ρ 19 (pzU p pu)) := S2.ust _ _ rfl (by decide) (by decide) (by decide)
  have c3 : ∀ b, inR b = false → b ≠ 1 → ust N2 1 2 0 b = N b := fun b hb h1 => by rw [ust_ne h1, F2 b hb, F1 b hb]
  have p3 : ust N2 1 2 0 1 2 = 0 := by rw [ust_at, if_pos rfl]
  simp only [bk120_0, bk120_9, bk120_17, bk120_23, bk120_43, bk120_62, bk120_65, U_aload_n, U_getfield, U_invokevirtual0, U_iconst, U_istore_n, U_iload_n, U_icmp_ge, U_bipush, U_iald, U_invokevirtual2, U_iinc, U_goto, U_putfield, U_invokevirtual1, U_if_ne, U_ireturn, UN_cc, UN_cn, UN_nc, UN_nn, UJ, lget, lset, lset2, entL, wsm, wcat, Option.toList_some, Option.toList_none, List.cons_append, List.nil_append, List.mem_cons, List.not_mem_nil, Prod.mk.injEq, or_false, false_or, or_true, true_or, and_true, true_and, and_false, false_and, and_self, ne_eq, not_false_eq_true, not_true_eq_false, forall_const, true_implies, false_implies, Nat.add_zero, Nat.zero_add, Nat.le_refl, Nat.zero_le, List.set_cons_zero, List.set_cons_succ, List.set_nil, ↓reduceIte, Nat.reduceAdd, Nat.reduceSub, Nat.reduceEqDiff, Nat.reduceLeDiff, Int.reduceEq, Int.reduceNe, Int.reduceNeg, reduceCtorEq, kd1, kd19, kd21, z1_3 S3.1.1, z1_4 S3.1.1]
  refine s_isFit S3 rfl (by decide) (by unfold tmp; omega) (upq_e _ _ _) (fun N4 ρ4 S4 F4 R4 hfit => ?_) (fun N4 ρ4 S4 F4 R4 hfit => ?_)
  · have dgs := hfit.2.1
    simp only [bk120_0, bk120_9, bk120_17, bk120_23, bk120_43, bk120_62, bk120_65, U_aload_n, U_getfield, U_invokevirtual0, U_iconst, U_istore_n, U_iload_n, U_icmp_ge, U_bipush, U_iald, U_invokevirtual2, U_iinc, U_goto, U_putfield, U_invokevirtual1, U_if_ne, U_ireturn, UN_cc, UN_cn, UN_nc, UN_nn, UJ, lget, lset, lset2, entL, wsm, wcat, Option.toList_some, Option.toList_none, List.cons_append, List.nil_append, List.mem_cons, List.not_mem_nil, Prod.mk.injEq, or_false, false_or, or_true, true_or, and_true, true_and, and_false, false_and, and_self, ne_eq, not_false_eq_true, not_true_eq_false, forall_const, true_implies, false_implies, Nat.add_zero, Nat.zero_add, Nat.le_refl, Nat.zero_le, List.set_cons_zero, List.set_cons_succ, List.set_nil, ↓reduceIte, Nat.reduceAdd, Nat.reduceSub, Nat.reduceEqDiff, Nat.reduceLeDiff, Int.reduceEq, Int.reduceNe, Int.reduceNeg, reduceCtorEq, kd1, kd19, kd21, z1_3 S4.1.1, z1_4 S4.1.1]
    have e19 : ρ4 19 = some (pzU p pu) := (R4 19 (by unfold tmp; omega) (by decide)).trans (upq_e _ _ _)
    refine ⟨r3 (by omega), s_take S4 rfl (by decide) e19 hfit.1 rfl fun N5 S5 F5 V5 => ?_⟩
    simp only [bk120_0, bk120_9, bk120_17, bk120_23, bk120_43, bk120_62, bk120_65, U_aload_n, U_getfield, U_invokevirtual0, U_iconst, U_istore_n, U_iload_n, U_icmp_ge, U_bipush, U_iald, U_invokevirtual2, U_iinc, U_goto, U_putfield, U_invokevirtual1, U_if_ne, U_ireturn, UN_cc, UN_cn, UN_nc, UN_nn, UJ, lget, lset, lset2, entL, wsm, wcat, Option.toList_some, Option.toList_none, List.cons_append, List.nil_append, List.mem_cons, List.not_mem_nil, Prod.mk.injEq, or_false, false_or, or_true, true_or, and_true, true_and, and_false, false_and, and_self, ne_eq, not_false_eq_true, not_true_eq_false, forall_const, true_implies, false_implies, Nat.add_zero, Nat.zero_add, Nat.le_refl, Nat.zero_le, List.set_cons_zero, List.set_cons_succ, List.set_nil, ↓reduceIte, Nat.reduceAdd, Nat.reduceSub, Nat.reduceEqDiff, Nat.reduceLeDiff, Int.reduceEq, Int.reduceNe, Int.reduceNeg, reduceCtorEq, kd1]
    refine s_forget S5 fun N6 ρ6 S6 P6 R6 F6 b1 b2 b3 b4 b5 b6 => ?_
    have V6 : CvN N6 (pzU p pu) (dg (pzU p pu) / 2 - 1) := V5.fx (F6 21 rfl (by decide)) (F6 26 rfl (by decide)) (F6 27 rfl (by decide)) (F6 29 rfl (by decide)) (F6 30 rfl (by decide))
    have gp : 0 < dg (pzU p pu) / 2 - 1 := by have := hfit.1; omega
    simp only [bk120_0, bk120_9, bk120_17, bk120_23, bk120_43, bk120_62, bk120_65, U_aload_n, U_getfield, U_invokevirtual0, U_iconst, U_istore_n, U_iload_n, U_icmp_ge, U_bipush, U_iald, U_invokevirtual2, U_iinc, U_goto, U_putfield, U_invokevirtual1, U_if_ne, U_ireturn, UN_cc, UN_cn, UN_nc, UN_nn, UJ, lget, lset, lset2, entL, wsm, wcat, Option.toList_some, Option.toList_none, List.cons_append, List.nil_append, List.mem_cons, List.not_mem_nil, Prod.mk.injEq, or_false, false_or, or_true, true_or, and_true, true_and, and_false, false_and, and_self, ne_eq, not_false_eq_true, not_true_eq_false, forall_const, true_implies, false_implies, Nat.add_zero, Nat.zero_add, Nat.le_refl, Nat.zero_le, List.set_cons_zero, List.set_cons_succ, List.set_nil, ↓reduceIte, Nat.reduceAdd, Nat.reduceSub, Nat.reduceEqDiff, Nat.reduceLeDiff, Int.reduceEq, Int.reduceNe, Int.reduceNeg, reduceCtorEq, kd1, kd21, z1_4 S6.1.1, V6.1]
    refine hQ1 hfit N6 ⟨⟨ρ6, S6, fun _ => ?_, P6⟩, ⟨?_, fun i v e => by cases e⟩, Or.inr ⟨gp, V6⟩, fun i hi => b1 i hi, fun j hj => ?_, fun a ha => ?_, Or.inl b2, Or.inl b3, Or.inl b6, Or.inl b4, Or.inl b5⟩ (fun b hb => ?_)
    · rw [R6 22 (by omega)]; exact upq_e _ _ _
    · rw [F6 1 rfl (by decide), F5 1 rfl (by decide), F4 1 rfl, p3]; rfl
    · rw [F6 121 rfl (by decide), F5 121 rfl (by decide), F4 121 rfl, c3 121 rfl (by decide)]; exact a4 j hj
    · rw [F6 189 rfl (by decide), F5 189 rfl (by decide), F4 189 rfl, c3 189 rfl (by decide)]; exact a5 a ha
    · rw [F6.md (by decide) b hb, F5.md (by decide) b hb, F4.md b hb, c3 b (inR_md hb) (by omega)]
  · simp only [bk120_0, bk120_9, bk120_17, bk120_23, bk120_43, bk120_62, bk120_65, U_aload_n, U_getfield, U_invokevirtual0, U_iconst, U_istore_n, U_iload_n, U_icmp_ge, U_bipush, U_iald, U_invokevirtual2, U_iinc, U_goto, U_putfield, U_invokevirtual1, U_if_ne, U_ireturn, UN_cc, UN_cn, UN_nc, UN_nn, UJ, lget, lset, lset2, entL, wsm, wcat, Option.toList_some, Option.toList_none, List.cons_append, List.nil_append, List.mem_cons, List.not_mem_nil, Prod.mk.injEq, or_false, false_or, or_true, true_or, and_true, true_and, and_false, false_and, and_self, ne_eq, not_false_eq_true, not_true_eq_false, forall_const, true_implies, false_implies, Nat.add_zero, Nat.zero_add, Nat.le_refl, Nat.zero_le, List.set_cons_zero, List.set_cons_succ, List.set_nil, ↓reduceIte, Nat.reduceAdd, Nat.reduceSub, Nat.reduceEqDiff, Nat.reduceLeDiff, Int.reduceEq, Int.reduceNe, Int.reduceNeg, reduceCtorEq]
    refine ⟨r3 (by omega), hQ0 hfit N4 (h0.pu ⟨ρ4, S4, fun hg => ?_, fun r hr => ?_⟩ ⟨?_, fun i v e => by cases e⟩ fun b hb b1 b2 => ?_) (fun b hb => ?_)⟩
    · rw [R4 22 (by unfold tmp; omega) (by decide), upq_n (by decide)]; exact R.1 hg
    · have := R.2 r hr
      exact ⟨by rw [R4 _ (by unfold tmp; omega) (by omega), upq_n (by omega)]; exact this.1, by rw [R4 _ (by unfold tmp; omega) (by omega), upq_n (by omega)]; exact this.2⟩
    · rw [F4 1 rfl, p3]; rfl
    · rw [F4 b (csC_inR hb), c3 b (csC_inR hb) b1]
    · rw [F4.md b hb, c3 b (inR_md hb) (by omega)]
