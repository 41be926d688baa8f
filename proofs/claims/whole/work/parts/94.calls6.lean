/-! CALLS OF THE CLASS: turns, covers -/
theorem CS.tn {p : Int} {g : Nat} {f : Pz p} {pu : List Int} {rg : Nat → Pz p × Pz p} {A tl : Nat → Int} {E : Nat → Nat} {N : Mem} {N' : Mem} {ρ' : Int → Option (Pz p)} (h : CS g f pu rg A tl E N) (S : ST p N' ρ') (R : RgA ρ' g f rg) (F : FX [182, 183] N N') (T : TnA N' f g) : CS g f pu rg A tl E N' := by
  obtain ⟨-, a1, a2, a3, a4, a5, a6, a7, a8, a9⟩ := h
  have c : ∀ b, csC b = true → b ≠ 182 → b ≠ 183 → N' b = N b := fun b hb h1 h2 => F b (csC_inR hb) (by simp [h1, h2])
  exact ⟨⟨ρ', S, R⟩, a1.fx (c _ rfl (by decide) (by decide)) (c _ rfl (by decide) (by decide)), a2.fx (c _ rfl (by decide) (by decide)) (c _ rfl (by decide) (by decide)) (c _ rfl (by decide) (by decide)) (c _ rfl (by decide) (by decide)) (c _ rfl (by decide) (by decide)), fun i hi => by rw [c 109 rfl (by decide) (by decide)]; exact a3 i hi, fun i hi => by rw [c 121 rfl (by decide) (by decide)]; exact a4 i hi, fun i hi => by rw [c 189 rfl (by decide) (by decide)]; exact a5 i hi, a6.fx (c _ rfl (by decide) (by decide)) (c _ rfl (by decide) (by decide)), a7.fx (c _ rfl (by decide) (by decide)) (c _ rfl (by decide) (by decide)), T, a9.fx S.1.2.1 (c _ rfl (by decide) (by decide)) (c _ rfl (by decide) (by decide)) (c _ rfl (by decide) (by decide)) (c _ rfl (by decide) (by decide)) (fun b h1 h2 => c b (csC_cd (Or.inl ⟨h1, h2⟩)) (by omega) (by omega)) (fun b h1 h2 => c b (csC_cd (Or.inr ⟨h1, by omega⟩)) (by omega) (by omega))⟩
theorem tuL_338 {p : Int} (hp : Pr p) {f : Pz p} (hm : pmo f) : (tuL f p.toNat).length ≤ 312 := by
  have hpp := hp.pos
  have := tuL_2 hp hm (p.toNat - 1)
  rw [show p.toNat - 1 + 1 = p.toNat by omega] at this
  omega
set_option maxHeartbeats 8000000 in
theorem k_tsize {p : Int} {g : Nat} {f : Pz p} {pu : List Int} {rg : Nat → Pz p × Pz p} {A tl : Nat → Int} {E : Nat → Nat} {N : Mem} {Q : Post} (h : CS g f pu rg A tl E N) (V : VS g f pu rg A tl E) (q0 : g ≠ 0) (hQ : ∀ N', CS g f pu rg A tl E N' → mdF N N' → N' 21 = N 21 → TuA N' (tuL f p.toNat) → Q (some (0, ((tuL f p.toNat).length : Int))) NN N') : CL 112 [(2, 182)] NN N Q := by
  have h0 := h
  obtain ⟨⟨ρ, S, R⟩, hPu, hCr, -, -, -, -, -, hTn, -⟩ := h
  have cv := V.cv q0
  refine s_tuSize S cv.2.2.1.2.2.1 (R.1 (by omega)) (hTn.imp_right (fun e => e.2)) fun N1 ρ1 S1 F1 R1 a1 a2 => ?_
  exact hQ N1 (h0.tn S1 (R.kp (fun y hy => R1 y (by omega) (by omega))) F1 (Or.inr ⟨by omega, a1, a2⟩)) (F1.md (by decide)) (F1 21 (by decide) (by decide)) a2
noncomputable def oTurns {p : Int} (g : Nat) (f : Pz p) (w : Int) : Int := if w < -1 then -2 else if g = 0 then -3 else if w = -1 then ((tuL f p.toNat).length : Int) else ((tuL f p.toNat)[w.toNat]?).getD (-1)
set_option maxHeartbeats 8000000 in
theorem k_turns {p : Int} {g : Nat} {f : Pz p} {pu : List Int} {rg : Nat → Pz p × Pz p} {A tl : Nat → Int} {E : Nat → Nat} {N : Mem} {Q : Post} {w : Int} (h : CS g f pu rg A tl E N) (V : VS g f pu rg A tl E) (hw : R32 w) (hQ : ∀ N', CS g f pu rg A tl E N' → mdF N N' → Q (some (0, oTurns g f w)) NN N') : CL 148 [(2, 1), (0, w), (9, 0)] NN N Q := by
  have h0 := h
  obtain ⟨⟨ρ, S, R⟩, hPu, hCr, -⟩ := h
  have hw' := hw
  obtain ⟨w1, w2⟩ := hw'
  unfold oTurns at hQ
  refine WP.run [] [] 90 ?_
  simp only [bk148_0, bk148_5, bk148_8, bk148_18, bk148_21, bk148_34, bk148_36, bk148_41, bk148_45, bk148_53, U_iload_n, U_iconst, U_icmp_ge, U_bipush, U_ireturn, U_aload_n, U_getfield, U_invokevirtual0, U_if_ne, U_istore_n, U_icmp_ne, U_icmp_lt, U_goto, U_invokevirtual1, UN_cc, UN_cn, UN_nc, UN_nn, UJ, lget, lset, lset2, entL, wsm, wcat, Option.toList_some, Option.toList_none, List.cons_append, List.nil_append, List.mem_cons, List.not_mem_nil, Prod.mk.injEq, or_false, false_or, or_true, true_or, and_true, true_and, and_false, false_and, and_self, ne_eq, not_false_eq_true, not_true_eq_false, forall_const, true_implies, false_implies, Nat.add_zero, Nat.zero_add, Nat.le_refl, Nat.zero_le, List.set_cons_zero, List.set_cons_succ, List.set_nil, ↓reduceIte, Nat.reduceAdd, Nat.reduceSub, Nat.reduceEqDiff, Nat.reduceLeDiff, Int.reduceEq, Int.reduceNe, Int.reduceNeg, reduceCtorEq, kd1, kd21, z1_4 S.1.1]
  refine ⟨rr (by omega), fun e => ?_, fun e => c_std hCr V.g2 ?_⟩
  · rw [if_pos e] at hQ; exact hQ N h0 (mdF.rf N)
  · rw [if_neg e] at hQ
    by_cases q0 : g = 0
    · rw [if_pos q0] at hQ ⊢
      simp only [bk148_0, bk148_5, bk148_8, bk148_18, bk148_21, bk148_34, bk148_36, bk148_41, bk148_45, bk148_53, U_iload_n, U_iconst, U_icmp_ge, U_bipush, U_ireturn, U_aload_n, U_getfield, U_invokevirtual0, U_if_ne, U_istore_n, U_icmp_ne, U_icmp_lt, U_goto, U_invokevirtual1, UN_cc, UN_cn, UN_nc, UN_nn, UJ, lget, lset, lset2, entL, wsm, wcat, Option.toList_some, Option.toList_none, List.cons_append, List.nil_append, List.mem_cons, List.not_mem_nil, Prod.mk.injEq, or_false, false_or, or_true, true_or, and_true, true_and, and_false, false_and, and_self, ne_eq, not_false_eq_true, not_true_eq_false, forall_const, true_implies, false_implies, Nat.add_zero, Nat.zero_add, Nat.le_refl, Nat.zero_le, List.set_cons_zero, List.set_cons_succ, List.set_nil, ↓reduceIte, Nat.reduceAdd, Nat.reduceSub, Nat.reduceEqDiff, Nat.reduceLeDiff, Int.reduceEq, Int.reduceNe, Int.reduceNeg, reduceCtorEq]
      exact ⟨r3 (by omega), hQ N h0 (mdF.rf N)⟩
    · rw [if_neg q0] at hQ ⊢
      have hl := tuL_338 V.1 (V.cv q0).2.2.1.2.2.1
      simp only [bk148_0, bk148_5, bk148_8, bk148_18, bk148_21, bk148_34, bk148_36, bk148_41, bk148_45, bk148_53, U_iload_n, U_iconst, U_icmp_ge, U_bipush, U_ireturn, U_aload_n, U_getfield, U_invokevirtual0, U_if_ne, U_istore_n, U_icmp_ne, U_icmp_lt, U_goto, U_invokevirtual1, UN_cc, UN_cn, UN_nc, UN_nn, UJ, lget, lset, lset2, entL, wsm, wcat, Option.toList_some, Option.toList_none, List.cons_append, List.nil_append, List.mem_cons, List.not_mem_nil, Prod.mk.injEq, or_false, false_or, or_true, true_or, and_true, true_and, and_false, false_and, and_self, ne_eq, not_false_eq_true, not_true_eq_false, forall_const, true_implies, false_implies, Nat.add_zero, Nat.zero_add, Nat.le_refl, Nat.zero_le, List.set_cons_zero, List.set_cons_succ, List.set_nil, ↓reduceIte, Nat.reduceAdd, Nat.reduceSub, Nat.reduceEqDiff, Nat.reduceLeDiff, Int.reduceEq, Int.reduceNe, Int.reduceNeg, reduceCtorEq, kd1, kd182, z1_11 S.1.1]
      refine ⟨r3 (by omega), k_tsize h0 V q0 fun N1 C1 M1 e21 T1 => ?_⟩
      have hz1 := C1.1.choose_spec.1.1.1
      simp only [bk148_0, bk148_5, bk148_8, bk148_18, bk148_21, bk148_34, bk148_36, bk148_41, bk148_45, bk148_53, U_iload_n, U_iconst, U_icmp_ge, U_bipush, U_ireturn, U_aload_n, U_getfield, U_invokevirtual0, U_if_ne, U_istore_n, U_icmp_ne, U_icmp_lt, U_goto, U_invokevirtual1, UN_cc, UN_cn, UN_nc, UN_nn, UJ, lget, lset, lset2, entL, wsm, wcat, Option.toList_some, Option.toList_none, List.cons_append, List.nil_append, List.mem_cons, List.not_mem_nil, Prod.mk.injEq, or_false, false_or, or_true, true_or, and_true, true_and, and_false, false_and, and_self, ne_eq, not_false_eq_true, not_true_eq_false, forall_const, true_implies, false_implies, Nat.add_zero, Nat.zero_add, Nat.le_refl, Nat.zero_le, List.set_cons_zero, List.set_cons_succ, List.set_nil, ↓reduceIte, Nat.reduceAdd, Nat.reduceSub, Nat.reduceEqDiff, Nat.reduceLeDiff, Int.reduceEq, Int.reduceNe, Int.reduceNeg, reduceCtorEq, kd1, kd182, z1_11 hz1]
      refine ⟨rr (by omega), fun e1 => ?_, fun e1 => ⟨rr (by omega), fun e2 => ?_, fun e2 => ?_⟩⟩
      · rw [if_pos e1] at hQ; exact hQ N1 C1 M1
      · rw [if_neg e1] at hQ
        obtain ⟨n, rfl⟩ : ∃ n : Nat, w = n := ⟨w.toNat, by omega⟩
        obtain ⟨t, ht⟩ : ∃ t, (tuL f p.toNat)[n]? = some t := ⟨_, List.getElem?_eq_getElem (by omega)⟩
        rw [Int.toNat_natCast, ht] at hQ
        refine c_tuTok hz1 T1 (by omega) ht ?_
        simp only [bk148_0, bk148_5, bk148_8, bk148_18, bk148_21, bk148_34, bk148_36, bk148_41, bk148_45, bk148_53, U_iload_n, U_iconst, U_icmp_ge, U_bipush, U_ireturn, U_aload_n, U_getfield, U_invokevirtual0, U_if_ne, U_istore_n, U_icmp_ne, U_icmp_lt, U_goto, U_invokevirtual1, UN_cc, UN_cn, UN_nc, UN_nn, UJ, lget, lset, lset2, entL, wsm, wcat, Option.toList_some, Option.toList_none, List.cons_append, List.nil_append, List.mem_cons, List.not_mem_nil, Prod.mk.injEq, or_false, false_or, or_true, true_or, and_true, true_and, and_false, false_and, and_self, ne_eq, not_false_eq_true, not_true_eq_false, forall_const, true_implies, false_implies, Nat.add_zero, Nat.zero_add, Nat.le_refl, Nat.zero_le, List.set_cons_zero, List.set_cons_succ, List.set_nil, ↓reduceIte, Nat.reduceAdd, Nat.reduceSub, Nat.reduceEqDiff, Nat.reduceLeDiff, Int.reduceEq, Int.reduceNe, Int.reduceNeg, reduceCtorEq]
        exact hQ N1 C1 M1
      · rw [if_neg e1, List.getElem?_eq_none (by omega)] at hQ; exact hQ N1 C1 M1
noncomputable def oTurned {p : Int} (g : Nat) (f : Pz p) (i pt : Int) : Int := if i < 0 ∨ ¬ (0 ≤ pt ∧ pt < nPt g f) then -2 else if g = 0 then -3 else match (tuL f p.toNat)[i.toNat]? with
  | none => -2
  | some t => if pt = 0 then 0 else (tuMv f t (ptAt f pt.toNat) : Int)
set_option maxHeartbeats 8000000 in
theorem k_turned {p : Int} {g : Nat} {f : Pz p} {pu : List Int} {rg : Nat → Pz p × Pz p} {A tl : Nat → Int} {E : Nat → Nat} {N : Mem} {Q : Post} {i pt : Int} (h : CS g f pu rg A tl E N) (V : VS g f pu rg A tl E) (hi : R32 i) (hpt : R32 pt) (hQ : ∀ N', CS g f pu rg A tl E N' → mdF N N' → Q (some (0, oTurned g f i pt)) NN N') : CL 149 [(2, 1), (0, i), (0, pt)] NN N Q := by
  have h0 := h
  obtain ⟨⟨ρ, S, R⟩, hPu, hCr, -⟩ := h
  have hi' := hi
  obtain ⟨i1, i2⟩ := hi'
  unfold oTurned at hQ
  have bad : (i < 0 ∨ ¬ (0 ≤ pt ∧ pt < nPt g f)) → Q (some (0, -2)) NN N := fun e => by
    rw [if_pos e] at hQ; exact hQ N h0 (mdF.rf N)
  refine WP.run [] [] 90 ?_
  simp only [bk149_0, bk149_4, bk149_12, bk149_15, bk149_25, bk149_28, bk149_39, bk149_42, U_iload_n, U_if_lt, U_aload_n, U_invokevirtual1, U_if_ne, U_bipush, U_ireturn, U_getfield, U_invokevirtual0, U_icmp_lt, U_invokevirtual2, UN_cc, UN_cn, UN_nc, UN_nn, UJ, lget, lset, lset2, entL, wsm, wcat, Option.toList_some, Option.toList_none, List.cons_append, List.nil_append, List.mem_cons, List.not_mem_nil, Prod.mk.injEq, or_false, false_or, or_true, true_or, and_true, true_and, and_false, false_and, and_self, ne_eq, not_false_eq_true, not_true_eq_false, forall_const, true_implies, false_implies, Nat.add_zero, Nat.zero_add, Nat.le_refl, Nat.zero_le, List.set_cons_zero, List.set_cons_succ, List.set_nil, ↓reduceIte, Nat.reduceAdd, Nat.reduceSub, Nat.reduceEqDiff, Nat.reduceLeDiff, Int.reduceEq, Int.reduceNe, Int.reduceNeg, reduceCtorEq, kd1]
  refine ⟨hi, fun e => bad (Or.inl e), fun e => c_isPt S.1.1 V.1 hCr V.g2 hpt ?_⟩
  by_cases q : 0 ≤ pt ∧ pt < nPt g f
  · rw [if_pos q]
    rw [if_neg (show ¬ (i < 0 ∨ ¬ (0 ≤ pt ∧ pt < nPt g f)) by omega)] at hQ
    simp only [bk149_0, bk149_4, bk149_12, bk149_15, bk149_25, bk149_28, bk149_39, bk149_42, U_iload_n, U_if_lt, U_aload_n, U_invokevirtual1, U_if_ne, U_bipush, U_ireturn, U_getfield, U_invokevirtual0, U_icmp_lt, U_invokevirtual2, UN_cc, UN_cn, UN_nc, UN_nn, UJ, lget, lset, lset2, entL, wsm, wcat, Option.toList_some, Option.toList_none, List.cons_append, List.nil_append, List.mem_cons, List.not_mem_nil, Prod.mk.injEq, or_false, false_or, or_true, true_or, and_true, true_and, and_false, false_and, and_self, ne_eq, not_false_eq_true, not_true_eq_false, forall_const, true_implies, false_implies, Nat.add_zero, Nat.zero_add, Nat.le_refl, Nat.zero_le, List.set_cons_zero, List.set_cons_succ, List.set_nil, ↓reduceIte, Nat.reduceAdd, Nat.reduceSub, Nat.reduceEqDiff, Nat.reduceLeDiff, Int.reduceEq, Int.reduceNe, Int.reduceNeg, reduceCtorEq, kd1, kd21, z1_4 S.1.1]
    refine ⟨r3 (by omega), c_std hCr V.g2 ?_⟩
    by_cases q0 : g = 0
    · rw [if_pos q0] at hQ ⊢
      simp only [bk149_0, bk149_4, bk149_12, bk149_15, bk149_25, bk149_28, bk149_39, bk149_42, U_iload_n, U_if_lt, U_aload_n, U_invokevirtual1, U_if_ne, U_bipush, U_ireturn, U_getfield, U_invokevirtual0, U_icmp_lt, U_invokevirtual2, UN_cc, UN_cn, UN_nc, UN_nn, UJ, lget, lset, lset2, entL, wsm, wcat, Option.toList_some, Option.toList_none, List.cons_append, List.nil_append, List.mem_cons, List.not_mem_nil, Prod.mk.injEq, or_false, false_or, or_true, true_or, and_true, true_and, and_false, false_and, and_self, ne_eq, not_false_eq_true, not_true_eq_false, forall_const, true_implies, false_implies, Nat.add_zero, Nat.zero_add, Nat.le_refl, Nat.zero_le, List.set_cons_zero, List.set_cons_succ, List.set_nil, ↓reduceIte, Nat.reduceAdd, Nat.reduceSub, Nat.reduceEqDiff, Nat.reduceLeDiff, Int.reduceEq, Int.reduceNe, Int.reduceNeg, reduceCtorEq]
      exact ⟨r3 (by omega), hQ N h0 (mdF.rf N)⟩
    · rw [if_neg q0] at hQ ⊢
      have hl := tuL_338 V.1 (V.cv q0).2.2.1.2.2.1
      obtain ⟨n, rfl⟩ : ∃ n : Nat, i = n := ⟨i.toNat, by omega⟩
      rw [Int.toNat_natCast] at hQ
      simp only [bk149_0, bk149_4, bk149_12, bk149_15, bk149_25, bk149_28, bk149_39, bk149_42, U_iload_n, U_if_lt, U_aload_n, U_invokevirtual1, U_if_ne, U_bipush, U_ireturn, U_getfield, U_invokevirtual0, U_icmp_lt, U_invokevirtual2, UN_cc, UN_cn, UN_nc, UN_nn, UJ, lget, lset, lset2, entL, wsm, wcat, Option.toList_some, Option.toList_none, List.cons_append, List.nil_append, List.mem_cons, List.not_mem_nil, Prod.mk.injEq, or_false, false_or, or_true, true_or, and_true, true_and, and_false, false_and, and_self, ne_eq, not_false_eq_true, not_true_eq_false, forall_const, true_implies, false_implies, Nat.add_zero, Nat.zero_add, Nat.le_refl, Nat.zero_le, List.set_cons_zero, List.set_cons_succ, List.set_nil, ↓reduceIte, Nat.reduceAdd, Nat.reduceSub, Nat.reduceEqDiff, Nat.reduceLeDiff, Int.reduceEq, Int.reduceNe, Int.reduceNeg, reduceCtorEq, kd1, kd182, z1_11 S.1.1]
      refine ⟨r3 (by omega), k_tsize h0 V q0 fun N1 C1 M1 e21 T1 => ?_⟩
      obtain ⟨ρ1, S1, R1⟩ := C1.1
      have hz1 := S1.1.1
      simp only [bk149_0, bk149_4, bk149_12, bk149_15, bk149_25, bk149_28, bk149_39, bk149_42, U_iload_n, U_if_lt, U_aload_n, U_invokevirtual1, U_if_ne, U_bipush, U_ireturn, U_getfield, U_invokevirtual0, U_icmp_lt, U_invokevirtual2, UN_cc, UN_cn, UN_nc, UN_nn, UJ, lget, lset, lset2, entL, wsm, wcat, Option.toList_some, Option.toList_none, List.cons_append, List.nil_append, List.mem_cons, List.not_mem_nil, Prod.mk.injEq, or_false, false_or, or_true, true_or, and_true, true_and, and_false, false_and, and_self, ne_eq, not_false_eq_true, not_true_eq_false, forall_const, true_implies, false_implies, Nat.add_zero, Nat.zero_add, Nat.le_refl, Nat.zero_le, List.set_cons_zero, List.set_cons_succ, List.set_nil, ↓reduceIte, Nat.reduceAdd, Nat.reduceSub, Nat.reduceEqDiff, Nat.reduceLeDiff, Int.reduceEq, Int.reduceNe, Int.reduceNeg, reduceCtorEq, kd1, kd182, z1_11 hz1]
      refine ⟨rr (by omega), fun e2 => ?_, fun e2 => ?_⟩
      · obtain ⟨t, ht⟩ : ∃ t, (tuL f p.toNat)[n]? = some t := ⟨_, List.getElem?_eq_getElem (by omega)⟩
        rw [ht] at hQ
        by_cases p0 : pt = 0
        · subst p0
          refine c_tuMove0 ?_
          simp only [bk149_0, bk149_4, bk149_12, bk149_15, bk149_25, bk149_28, bk149_39, bk149_42, U_iload_n, U_if_lt, U_aload_n, U_invokevirtual1, U_if_ne, U_bipush, U_ireturn, U_getfield, U_invokevirtual0, U_icmp_lt, U_invokevirtual2, UN_cc, UN_cn, UN_nc, UN_nn, UJ, lget, lset, lset2, entL, wsm, wcat, Option.toList_some, Option.toList_none, List.cons_append, List.nil_append, List.mem_cons, List.not_mem_nil, Prod.mk.injEq, or_false, false_or, or_true, true_or, and_true, true_and, and_false, false_and, and_self, ne_eq, not_false_eq_true, not_true_eq_false, forall_const, true_implies, false_implies, Nat.add_zero, Nat.zero_add, Nat.le_refl, Nat.zero_le, List.set_cons_zero, List.set_cons_succ, List.set_nil, ↓reduceIte, Nat.reduceAdd, Nat.reduceSub, Nat.reduceEqDiff, Nat.reduceLeDiff, Int.reduceEq, Int.reduceNe, Int.reduceNeg, reduceCtorEq]
          exact hQ N1 C1 M1
        · have hQ' : ∀ N', CS g f pu rg A tl E N' → mdF N N' → Q (some (0, (tuMv f t (ptAt f pt.toNat) : Int))) NN N' := fun N' a b => by
            have := hQ N' a b
            simp only at this
            rw [if_neg p0] at this; exact this
          have hc1 := (C1.2.2.1.resolve_left (fun e => q0 e.1)).2
          obtain ⟨m, rfl⟩ : ∃ m : Nat, pt = ((m + 1 : Nat) : Int) := ⟨pt.toNat - 1, by omega⟩
          have hm : m + 1 ≤ (ptl f p.toNat).length := by
            have := q.2
            unfold nPt at this
            rw [if_neg q0] at this
            omega
          have hpt2 := ptAt_is f (i := m + 1) (by omega) hm
          rw [Nat.add_sub_cancel] at hpt2
          rw [show ((m + 1 : Nat) : Int) = (m : Int) + 1 by omega]
          refine c_tuMove S1.1 T1 hc1.2.1 (by omega) ht (tuL_rg V.1 (List.mem_of_getElem? ht)) hpt2 ?_
          simp only [bk149_0, bk149_4, bk149_12, bk149_15, bk149_25, bk149_28, bk149_39, bk149_42, U_iload_n, U_if_lt, U_aload_n, U_invokevirtual1, U_if_ne, U_bipush, U_ireturn, U_getfield, U_invokevirtual0, U_icmp_lt, U_invokevirtual2, UN_cc, UN_cn, UN_nc, UN_nn, UJ, lget, lset, lset2, entL, wsm, wcat, Option.toList_some, Option.toList_none, List.cons_append, List.nil_append, List.mem_cons, List.not_mem_nil, Prod.mk.injEq, or_false, false_or, or_true, true_or, and_true, true_and, and_false, false_and, and_self, ne_eq, not_false_eq_true, not_true_eq_false, forall_const, true_implies, false_implies, Nat.add_zero, Nat.zero_add, Nat.le_refl, Nat.zero_le, List.set_cons_zero, List.set_cons_succ, List.set_nil, ↓reduceIte, Nat.reduceAdd, Nat.reduceSub, Nat.reduceEqDiff, Nat.reduceLeDiff, Int.reduceEq, Int.reduceNe, Int.reduceNeg, reduceCtorEq]
          exact hQ' N1 C1 M1
      · rw [List.getElem?_eq_none (by omega)] at hQ
        exact hQ N1 C1 M1
  · rw [if_neg q]
    simp only [bk149_0, bk149_4, bk149_12, bk149_15, bk149_25, bk149_28, bk149_39, bk149_42, U_iload_n, U_if_lt, U_aload_n, U_invokevirtual1, U_if_ne, U_bipush, U_ireturn, U_getfield, U_invokevirtual0, U_icmp_lt, U_invokevirtual2, UN_cc, UN_cn, UN_nc, UN_nn, UJ, lget, lset, lset2, entL, wsm, wcat, Option.toList_some, Option.toList_none, List.cons_append, List.nil_append, List.mem_cons, List.not_mem_nil, Prod.mk.injEq, or_false, false_or, or_true, true_or, and_true, true_and, and_false, false_and, and_self, ne_eq, not_false_eq_true, not_true_eq_false, forall_const, true_implies, false_implies, Nat.add_zero, Nat.zero_add, Nat.le_refl, Nat.zero_le, List.set_cons_zero, List.set_cons_succ, List.set_nil, ↓reduceIte, Nat.reduceAdd, Nat.reduceSub, Nat.reduceEqDiff, Nat.reduceLeDiff, Int.reduceEq, Int.reduceNe, Int.reduceNeg, reduceCtorEq]
    exact ⟨r3 (by omega), bad (Or.inr q)⟩
/-! covers -/
theorem CS.co {p : Int} {g : Nat} {f : Pz p} {pu : List Int} {rg : Nat → Pz p × Pz p} {A tl : Nat → Int} {E : Nat → Nat} {N : Mem} {a e : Nat} (h : CS g f pu rg A tl E N) : CS g f pu rg A tl (upr E a e) (ust N 189 (a : Int) (e : Int)) := by
  obtain ⟨⟨ρ, S, R⟩, a1, a2, a3, a4, a5, a6, a7, a8, a9⟩ := h
  have c : ∀ b, b ≠ 189 → ust N 189 (a : Int) (e : Int) b = N b := fun b hb => ust_ne hb
  refine ⟨⟨ρ, S.ust _ _ (fz_arr (Or.inl rfl) _) (by decide) (by decide) (by decide), R⟩, a1.fx (c _ (by decide)) (c _ (by decide)), a2.fx (c _ (by decide)) (c _ (by decide)) (c _ (by decide)) (c _ (by decide)) (c _ (by decide)), fun i hi => by rw [c 109 (by decide)]; exact a3 i hi, fun i hi => by rw [c 121 (by decide)]; exact a4 i hi, fun i hi => ?_, a6.fx (c _ (by decide)) (c _ (by decide)), a7.fx (c _ (by decide)) (c _ (by decide)), a8.fx (c _ (by decide)) (c _ (by decide)), a9.fx S.1.2.1 (c _ (by decide)) (c _ (by decide)) (c _ (by decide)) (c _ (by decide)) (fun b h1 h2 => c b (by omega)) (fun b h1 h2 => c b (by omega))⟩
  rw [ust_at]
  unfold upr
  by_cases e2 : i = a
  · subst e2; rw [if_pos rfl, if_pos rfl]
  · rw [if_neg (by omega), if_neg e2]; exact a5 i hi
theorem VS.coa {p : Int} {g : Nat} {f : Pz p} {pu : List Int} {rg : Nat → Pz p × Pz p} {A tl : Nat → Int} {E : Nat → Nat} {N : Mem} (h : CS g f pu rg A tl E N) (V : VS g f pu rg A tl E) : CoA N E := ⟨h.2.2.2.2.2.1, V.2.2.2.2.2.1⟩
def oCover (p : Int) (E : Nat → Nat) (a e : Int) : Int := if ¬ (0 ≤ a ∧ a < p) ∨ ¬ (0 ≤ e ∧ e ≤ 20) then -2 else (E a.toNat : Int)
set_option maxHeartbeats 8000000 in
theorem k_cover {p : Int} {g : Nat} {f : Pz p} {pu : List Int} {rg : Nat → Pz p × Pz p} {A tl : Nat → Int} {E : Nat → Nat} {N : Mem} {Q : Post} {a e : Int} (h : CS g f pu rg A tl E N) (V : VS g f pu rg A tl E) (ha : R32 a) (he : R32 e)
    (hQ : ∀ N' E', CS g f pu rg A tl E' N' → mdF N N' → E' = (if (0 ≤ a ∧ a < p) ∧ (0 ≤ e ∧ e ≤ 20) then upr E a.toNat e.toNat else E) → Q (some (0, oCover p E a e)) NN N') : CL 150 [(2, 1), (0, a), (0, e)] NN N Q := by
  have h0 := h
  obtain ⟨⟨ρ, S, R⟩, -⟩ := h
  have he' := he
  obtain ⟨e1, e2⟩ := he'
  have hpp := V.1.pos
  unfold oCover at hQ
  have bad : (¬ (0 ≤ a ∧ a < p) ∨ ¬ (0 ≤ e ∧ e ≤ 20)) → Q (some (0, -2)) NN N := fun q => by
    rw [if_pos q] at hQ
    exact hQ N E h0 (mdF.rf N) (by rw [if_neg (by omega)])
  refine WP.run [] [] 90 ?_
  simp only [bk150_0, bk150_8, bk150_12, bk150_18, bk150_21, U_aload_n, U_iload_n, U_invokevirtual1, U_if_eq, U_if_lt, U_bipush, U_icmp_le, U_ireturn, U_getfield, U_invokevirtual2, UN_cc, UN_cn, UN_nc, UN_nn, UJ, lget, lset, lset2, entL, wsm, wcat, Option.toList_some, Option.toList_none, List.cons_append, List.nil_append, List.mem_cons, List.not_mem_nil, Prod.mk.injEq, or_false, false_or, or_true, true_or, and_true, true_and, and_false, false_and, and_self, ne_eq, not_false_eq_true, not_true_eq_false, forall_const, true_implies, false_implies, Nat.add_zero, Nat.zero_add, Nat.le_refl, Nat.zero_le, List.set_cons_zero, List.set_cons_succ, List.set_nil, ↓reduceIte, Nat.reduceAdd, Nat.reduceSub, Nat.reduceEqDiff, Nat.reduceLeDiff, Int.reduceEq, Int.reduceNe, Int.reduceNeg, reduceCtorEq, kd1]
  refine c_isNum S.1 ha ?_
  by_cases q : 0 ≤ a ∧ a < p
  · rw [if_pos q]
    simp only [bk150_0, bk150_8, bk150_12, bk150_18, bk150_21, U_aload_n, U_iload_n, U_invokevirtual1, U_if_eq, U_if_lt, U_bipush, U_icmp_le, U_ireturn, U_getfield, U_invokevirtual2, UN_cc, UN_cn, UN_nc, UN_nn, UJ, lget, lset, lset2, entL, wsm, wcat, Option.toList_some, Option.toList_none, List.cons_append, List.nil_append, List.mem_cons, List.not_mem_nil, Prod.mk.injEq, or_false, false_or, or_true, true_or, and_true, true_and, and_false, false_and, and_self, ne_eq, not_false_eq_true, not_true_eq_false, forall_const, true_implies, false_implies, Nat.add_zero, Nat.zero_add, Nat.le_refl, Nat.zero_le, List.set_cons_zero, List.set_cons_succ, List.set_nil, ↓reduceIte, Nat.reduceAdd, Nat.reduceSub, Nat.reduceEqDiff, Nat.reduceLeDiff, Int.reduceEq, Int.reduceNe, Int.reduceNeg, reduceCtorEq, kd1, kd188, z1_12 S.1.1]
    refine ⟨r3 (by omega), he, fun e3 => bad (by omega), fun e3 => ⟨rr (by omega), fun e4 => bad (by omega), fun e4 => ?_⟩⟩
    rw [if_neg (show ¬ (¬ (0 ≤ a ∧ a < p) ∨ ¬ (0 ≤ e ∧ e ≤ 20)) by omega)] at hQ
    obtain ⟨n, rfl⟩ : ∃ n : Nat, a = n := ⟨a.toNat, by omega⟩
    obtain ⟨k, rfl⟩ : ∃ k : Nat, e = k := ⟨e.toNat, by omega⟩
    refine c_coChange S.1.1 (V.coa h0) (by omega) ?_
    simp only [bk150_0, bk150_8, bk150_12, bk150_18, bk150_21, U_aload_n, U_iload_n, U_invokevirtual1, U_if_eq, U_if_lt, U_bipush, U_icmp_le, U_ireturn, U_getfield, U_invokevirtual2, UN_cc, UN_cn, UN_nc, UN_nn, UJ, lget, lset, lset2, entL, wsm, wcat, Option.toList_some, Option.toList_none, List.cons_append, List.nil_append, List.mem_cons, List.not_mem_nil, Prod.mk.injEq, or_false, false_or, or_true, true_or, and_true, true_and, and_false, false_and, and_self, ne_eq, not_false_eq_true, not_true_eq_false, forall_const, true_implies, false_implies, Nat.add_zero, Nat.zero_add, Nat.le_refl, Nat.zero_le, List.set_cons_zero, List.set_cons_succ, List.set_nil, ↓reduceIte, Nat.reduceAdd, Nat.reduceSub, Nat.reduceEqDiff, Nat.reduceLeDiff, Int.reduceEq, Int.reduceNe, Int.reduceNeg, reduceCtorEq]
    refine hQ _ _ h0.co ((mdF.rf N).us _ _ (by decide)) ?_
    rw [if_pos ⟨q, by omega⟩]; rfl
  · rw [if_neg q]
    simp only [bk150_0, bk150_8, bk150_12, bk150_18, bk150_21, U_aload_n, U_iload_n, U_invokevirtual1, U_if_eq, U_if_lt, U_bipush, U_icmp_le, U_ireturn, U_getfield, U_invokevirtual2, UN_cc, UN_cn, UN_nc, UN_nn, UJ, lget, lset, lset2, entL, wsm, wcat, Option.toList_some, Option.toList_none, List.cons_append, List.nil_append, List.mem_cons, List.not_mem_nil, Prod.mk.injEq, or_false, false_or, or_true, true_or, and_true, true_and, and_false, false_and, and_self, ne_eq, not_false_eq_true, not_true_eq_false, forall_const, true_implies, false_implies, Nat.add_zero, Nat.zero_add, Nat.le_refl, Nat.zero_le, List.set_cons_zero, List.set_cons_succ, List.set_nil, ↓reduceIte, Nat.reduceAdd, Nat.reduceSub, Nat.reduceEqDiff, Nat.reduceLeDiff, Int.reduceEq, Int.reduceNe, Int.reduceNeg, reduceCtorEq]
    exact ⟨r3 (by omega), bad (Or.inl q)⟩
/-- n of 2 .. 12, P no part of it -/
def isRt (p n : Int) : Prop := 2 ≤ n ∧ n ≤ 12 ∧ n % p ≠ 0
set_option maxHeartbeats 4000000 in
theorem c_isRoot {p : Int} {N : Mem} {Q : Post} {n : Int} (hC : CB p N) (hn : R32 n) (h1 : isRt p n → Q (some (0, 1)) NN N) (h0 : ¬ isRt p n → Q (some (0, 0)) NN N) : CL 151 [(2, 1), (0, n)] NN N Q := by
  have hn' := hn
  obtain ⟨a, b⟩ := hn'
  have hpp := hC.2.1.pos
  unfold isRt at *
  refine WP.run [] [] 60 ?_
  simp only [bk151_0, bk151_5, bk151_11, bk151_23, bk151_27, bk151_28, U_iload_n, U_iconst, U_icmp_lt, U_bipush, U_icmp_gt, U_aload_n, U_getfield, U_irem, U_if_eq, U_goto, U_ireturn, UN_cc, UN_cn, UN_nc, UN_nn, UJ, lget, lset, lset2, entL, wsm, wcat, Option.toList_some, Option.toList_none, List.cons_append, List.nil_append, List.mem_cons, List.not_mem_nil, Prod.mk.injEq, or_false, false_or, or_true, true_or, and_true, true_and, and_false, false_and, and_self, ne_eq, not_false_eq_true, not_true_eq_false, forall_const, true_implies, false_implies, Nat.add_zero, Nat.zero_add, Nat.le_refl, Nat.zero_le, List.set_cons_zero, List.set_cons_succ, List.set_nil, ↓reduceIte, Nat.reduceAdd, Nat.reduceSub, Nat.reduceEqDiff, Nat.reduceLeDiff, Int.reduceEq, Int.reduceNe, Int.reduceNeg, reduceCtorEq, kd1, kd2, z1_0 hC.1, hC.2.2.1]
  refine ⟨rr (by omega), fun e => ?_, fun e => ⟨rr (by omega), fun e2 => ?_, fun e2 => ?_⟩⟩
  · simpa using h0 (by omega)
  · simpa using h0 (by omega)
  · rw [tm_nn (by omega)]
    have m1 := Int.emod_nonneg n (show p ≠ 0 by omega)
    have m2 := Int.emod_lt_of_pos n (show 0 < p by omega)
    refine ⟨r3 (by omega), r3 (by omega), by omega, r3 (by omega), fun e3 => ?_, fun e3 => ?_⟩
    · simpa using h0 (by omega)
    · simpa using h1 (by omega)
noncomputable def oGenus (p : Int) (E : Nat → Nat) (n : Int) : Int := @ite _ (isRt p n) (Classical.propDecidable _) (if gcf n.toNat E 13 = 1 then ((2 : Int) - 2 * n + n - ((Nat.gcd n.toNat (nsum E 13) : Nat) : Int) + wis n.toNat E 13).tdiv 2 else -3) (-2)
set_option maxHeartbeats 8000000 in
theorem k_genus {p : Int} {g : Nat} {f : Pz p} {pu : List Int} {rg : Nat → Pz p × Pz p} {A tl : Nat → Int} {E : Nat → Nat} {N : Mem} {Q : Post} {n : Int} (h : CS g f pu rg A tl E N) (V : VS g f pu rg A tl E) (hn : R32 n) (hQ : Q (some (0, oGenus p E n)) NN N) : CL 152 [(2, 1), (0, n)] NN N Q := by
  have h0 := h
  obtain ⟨⟨ρ, S, R⟩, -⟩ := h
  unfold oGenus at hQ
  refine WP.run [] [] 90 ?_
  simp only [bk152_0, bk152_8, bk152_11, bk152_22, bk152_33, bk152_35, U_aload_n, U_iload_n, U_invokevirtual1, U_if_ne, U_bipush, U_ireturn, U_getfield, U_if_eq, U_goto, UN_cc, UN_cn, UN_nc, UN_nn, UJ, lget, lset, lset2, entL, wsm, wcat, Option.toList_some, Option.toList_none, List.cons_append, List.nil_append, List.mem_cons, List.not_mem_nil, Prod.mk.injEq, or_false, false_or, or_true, true_or, and_true, true_and, and_false, false_and, and_self, ne_eq, not_false_eq_true, not_true_eq_false, forall_const, true_implies, false_implies, Nat.add_zero, Nat.zero_add, Nat.le_refl, Nat.zero_le, List.set_cons_zero, List.set_cons_succ, List.set_nil, ↓reduceIte, Nat.reduceAdd, Nat.reduceSub, Nat.reduceEqDiff, Nat.reduceLeDiff, Int.reduceEq, Int.reduceNe, Int.reduceNeg, reduceCtorEq, kd1]
  refine c_isRoot S.1 hn (fun q => ?_) (fun q => ?_)
  · rw [if_pos q] at hQ
    have q' := q
    unfold isRt at q'
    obtain ⟨k, rfl⟩ : ∃ k : Nat, n = k := ⟨n.toNat, by omega⟩
    rw [Int.toNat_natCast] at hQ
    simp only [bk152_0, bk152_8, bk152_11, bk152_22, bk152_33, bk152_35, U_aload_n, U_iload_n, U_invokevirtual1, U_if_ne, U_bipush, U_ireturn, U_getfield, U_if_eq, U_goto, UN_cc, UN_cn, UN_nc, UN_nn, UJ, lget, lset, lset2, entL, wsm, wcat, Option.toList_some, Option.toList_none, List.cons_append, List.nil_append, List.mem_cons, List.not_mem_nil, Prod.mk.injEq, or_false, false_or, or_true, true_or, and_true, true_and, and_false, false_and, and_self, ne_eq, not_false_eq_true, not_true_eq_false, forall_const, true_implies, false_implies, Nat.add_zero, Nat.zero_add, Nat.le_refl, Nat.zero_le, List.set_cons_zero, List.set_cons_succ, List.set_nil, ↓reduceIte, Nat.reduceAdd, Nat.reduceSub, Nat.reduceEqDiff, Nat.reduceLeDiff, Int.reduceEq, Int.reduceNe, Int.reduceNeg, reduceCtorEq, kd1, kd188, z1_12 S.1.1]
    refine ⟨r3 (by omega), c_coWhole S.1.1 (V.coa h0) (by omega) ?_⟩
    by_cases q1 : gcf k E 13 = 1
    · rw [if_pos q1] at hQ ⊢
      simp only [bk152_0, bk152_8, bk152_11, bk152_22, bk152_33, bk152_35, U_aload_n, U_iload_n, U_invokevirtual1, U_if_ne, U_bipush, U_ireturn, U_getfield, U_if_eq, U_goto, UN_cc, UN_cn, UN_nc, UN_nn, UJ, lget, lset, lset2, entL, wsm, wcat, Option.toList_some, Option.toList_none, List.cons_append, List.nil_append, List.mem_cons, List.not_mem_nil, Prod.mk.injEq, or_false, false_or, or_true, true_or, and_true, true_and, and_false, false_and, and_self, ne_eq, not_false_eq_true, not_true_eq_false, forall_const, true_implies, false_implies, Nat.add_zero, Nat.zero_add, Nat.le_refl, Nat.zero_le, List.set_cons_zero, List.set_cons_succ, List.set_nil, ↓reduceIte, Nat.reduceAdd, Nat.reduceSub, Nat.reduceEqDiff, Nat.reduceLeDiff, Int.reduceEq, Int.reduceNe, Int.reduceNeg, reduceCtorEq, kd1, kd188, z1_12 S.1.1]
      refine ⟨r3 (by omega), c_coGenus S.1.1 (V.coa h0) (by omega) ?_⟩
      simp only [bk152_0, bk152_8, bk152_11, bk152_22, bk152_33, bk152_35, U_aload_n, U_iload_n, U_invokevirtual1, U_if_ne, U_bipush, U_ireturn, U_getfield, U_if_eq, U_goto, UN_cc, UN_cn, UN_nc, UN_nn, UJ, lget, lset, lset2, entL, wsm, wcat, Option.toList_some, Option.toList_none, List.cons_append, List.nil_append, List.mem_cons, List.not_mem_nil, Prod.mk.injEq, or_false, false_or, or_true, true_or, and_true, true_and, and_false, false_and, and_self, ne_eq, not_false_eq_true, not_true_eq_false, forall_const, true_implies, false_implies, Nat.add_zero, Nat.zero_add, Nat.le_refl, Nat.zero_le, List.set_cons_zero, List.set_cons_succ, List.set_nil, ↓reduceIte, Nat.reduceAdd, Nat.reduceSub, Nat.reduceEqDiff, Nat.reduceLeDiff, Int.reduceEq, Int.reduceNe, Int.reduceNeg, reduceCtorEq]
      exact hQ
    · rw [if_neg q1] at hQ ⊢
      simp only [bk152_0, bk152_8, bk152_11, bk152_22, bk152_33, bk152_35, U_aload_n, U_iload_n, U_invokevirtual1, U_if_ne, U_bipush, U_ireturn, U_getfield, U_if_eq, U_goto, UN_cc, UN_cn, UN_nc, UN_nn, UJ, lget, lset, lset2, entL, wsm, wcat, Option.toList_some, Option.toList_none, List.cons_append, List.nil_append, List.mem_cons, List.not_mem_nil, Prod.mk.injEq, or_false, false_or, or_true, true_or, and_true, true_and, and_false, false_and, and_self, ne_eq, not_false_eq_true, not_true_eq_false, forall_const, true_implies, false_implies, Nat.add_zero, Nat.zero_add, Nat.le_refl, Nat.zero_le, List.set_cons_zero, List.set_cons_succ, List.set_nil, ↓reduceIte, Nat.reduceAdd, Nat.reduceSub, Nat.reduceEqDiff, Nat.reduceLeDiff, Int.reduceEq, Int.reduceNe, Int.reduceNeg, reduceCtorEq]
      exact ⟨r3 (by omega), hQ⟩
  · rw [if_neg q] at hQ
    simp only [bk152_0, bk152_8, bk152_11, bk152_22, bk152_33, bk152_35, U_aload_n, U_iload_n, U_invokevirtual1, U_if_ne, U_bipush, U_ireturn, U_getfield, U_if_eq, U_goto, UN_cc, UN_cn, UN_nc, UN_nn, UJ, lget, lset, lset2, entL, wsm, wcat, Option.toList_some, Option.toList_none, List.cons_append, List.nil_append, List.mem_cons, List.not_mem_nil, Prod.mk.injEq, or_false, false_or, or_true, true_or, and_true, true_and, and_false, false_and, and_self, ne_eq, not_false_eq_true, not_true_eq_false, forall_const, true_implies, false_implies, Nat.add_zero, Nat.zero_add, Nat.le_refl, Nat.zero_le, List.set_cons_zero, List.set_cons_succ, List.set_nil, ↓reduceIte, Nat.reduceAdd, Nat.reduceSub, Nat.reduceEqDiff, Nat.reduceLeDiff, Int.reduceEq, Int.reduceNe, Int.reduceNeg, reduceCtorEq]
    exact ⟨r3 (by omega), hQ⟩
noncomputable def oAbove (p : Int) (E : Nat → Nat) (n a : Int) : Int := @ite _ (isRt p n ∧ 0 ≤ a ∧ a ≤ p) (Classical.propDecidable _) ((Nat.gcd n.toNat (if a = p then nsum E 13 else E a.toNat) : Nat) : Int) (-2)
set_option maxHeartbeats 8000000 in
theorem k_above {p : Int} {g : Nat} {f : Pz p} {pu : List Int} {rg : Nat → Pz p × Pz p} {A tl : Nat → Int} {E : Nat → Nat} {N : Mem} {Q : Post} {n a : Int} (h : CS g f pu rg A tl E N) (V : VS g f pu rg A tl E) (hn : R32 n) (ha : R32 a) (hQ : Q (some (0, oAbove p E n a)) NN N) : CL 153 [(2, 1), (0, n), (0, a)] NN N Q := by
  have h0 := h
  obtain ⟨⟨ρ, S, R⟩, -⟩ := h
  have ha' := ha
  obtain ⟨a1, a2⟩ := ha'
  have hpp := V.1.pos
  have hco := V.coa h0
  unfold oAbove at hQ
  refine WP.run [] [] 90 ?_
  simp only [bk153_0, bk153_8, bk153_12, bk153_23, bk153_26, bk153_42, bk153_52, bk153_60, U_aload_n, U_iload_n, U_invokevirtual1, U_if_eq, U_if_lt, U_getfield, U_icmp_le, U_bipush, U_ireturn, U_icmp_ne, U_invokevirtual0, U_goto, U_invokevirtual2, UN_cc, UN_cn, UN_nc, UN_nn, UJ, lget, lset, lset2, entL, wsm, wcat, Option.toList_some, Option.toList_none, List.cons_append, List.nil_append, List.mem_cons, List.not_mem_nil, Prod.mk.injEq, or_false, false_or, or_true, true_or, and_true, true_and, and_false, false_and, and_self, ne_eq, not_false_eq_true, not_true_eq_false, forall_const, true_implies, false_implies, Nat.add_zero, Nat.zero_add, Nat.le_refl, Nat.zero_le, List.set_cons_zero, List.set_cons_succ, List.set_nil, ↓reduceIte, Nat.reduceAdd, Nat.reduceSub, Nat.reduceEqDiff, Nat.reduceLeDiff, Int.reduceEq, Int.reduceNe, Int.reduceNeg, reduceCtorEq, kd1]
  refine c_isRoot S.1 hn (fun q => ?_) (fun q => ?_)
  · have q' := q
    unfold isRt at q'
    simp only [bk153_0, bk153_8, bk153_12, bk153_23, bk153_26, bk153_42, bk153_52, bk153_60, U_aload_n, U_iload_n, U_invokevirtual1, U_if_eq, U_if_lt, U_getfield, U_icmp_le, U_bipush, U_ireturn, U_icmp_ne, U_invokevirtual0, U_goto, U_invokevirtual2, UN_cc, UN_cn, UN_nc, UN_nn, UJ, lget, lset, lset2, entL, wsm, wcat, Option.toList_some, Option.toList_none, List.cons_append, List.nil_append, List.mem_cons, List.not_mem_nil, Prod.mk.injEq, or_false, false_or, or_true, true_or, and_true, true_and, and_false, false_and, and_self, ne_eq, not_false_eq_true, not_true_eq_false, forall_const, true_implies, false_implies, Nat.add_zero, Nat.zero_add, Nat.le_refl, Nat.zero_le, List.set_cons_zero, List.set_cons_succ, List.set_nil, ↓reduceIte, Nat.reduceAdd, Nat.reduceSub, Nat.reduceEqDiff, Nat.reduceLeDiff, Int.reduceEq, Int.reduceNe, Int.reduceNeg, reduceCtorEq, kd1, kd2, kd188, z1_0 S.1.1, z1_12 S.1.1, S.1.2.2.1]
    refine ⟨r3 (by omega), ha, fun e => ?_, fun e => ⟨rr (by omega), fun e2 => ?_, fun e2 => ?_⟩⟩
    · rw [if_neg (by omega)] at hQ; exact hQ
    · rw [if_neg (by omega)] at hQ; exact hQ
    · rw [if_pos ⟨q, by omega, by omega⟩] at hQ
      obtain ⟨k, rfl⟩ : ∃ k : Nat, n = k := ⟨n.toNat, by omega⟩
      rw [Int.toNat_natCast] at hQ
      refine ⟨rr (by omega), fun e3 => ?_, fun e3 => ?_⟩
      · rw [if_pos e3] at hQ
        have ht := nsum_le hco.2 13
        refine c_coTotal S.1.1 hco ?_
        simp only [bk153_0, bk153_8, bk153_12, bk153_23, bk153_26, bk153_42, bk153_52, bk153_60, U_aload_n, U_iload_n, U_invokevirtual1, U_if_eq, U_if_lt, U_getfield, U_icmp_le, U_bipush, U_ireturn, U_icmp_ne, U_invokevirtual0, U_goto, U_invokevirtual2, UN_cc, UN_cn, UN_nc, UN_nn, UJ, lget, lset, lset2, entL, wsm, wcat, Option.toList_some, Option.toList_none, List.cons_append, List.nil_append, List.mem_cons, List.not_mem_nil, Prod.mk.injEq, or_false, false_or, or_true, true_or, and_true, true_and, and_false, false_and, and_self, ne_eq, not_false_eq_true, not_true_eq_false, forall_const, true_implies, false_implies, Nat.add_zero, Nat.zero_add, Nat.le_refl, Nat.zero_le, List.set_cons_zero, List.set_cons_succ, List.set_nil, ↓reduceIte, Nat.reduceAdd, Nat.reduceSub, Nat.reduceEqDiff, Nat.reduceLeDiff, Int.reduceEq, Int.reduceNe, Int.reduceNeg, reduceCtorEq, kd188]
        refine c_coAbove (by omega) (by omega) ?_
        simp only [bk153_0, bk153_8, bk153_12, bk153_23, bk153_26, bk153_42, bk153_52, bk153_60, U_aload_n, U_iload_n, U_invokevirtual1, U_if_eq, U_if_lt, U_getfield, U_icmp_le, U_bipush, U_ireturn, U_icmp_ne, U_invokevirtual0, U_goto, U_invokevirtual2, UN_cc, UN_cn, UN_nc, UN_nn, UJ, lget, lset, lset2, entL, wsm, wcat, Option.toList_some, Option.toList_none, List.cons_append, List.nil_append, List.mem_cons, List.not_mem_nil, Prod.mk.injEq, or_false, false_or, or_true, true_or, and_true, true_and, and_false, false_and, and_self, ne_eq, not_false_eq_true, not_true_eq_false, forall_const, true_implies, false_implies, Nat.add_zero, Nat.zero_add, Nat.le_refl, Nat.zero_le, List.set_cons_zero, List.set_cons_succ, List.set_nil, ↓reduceIte, Nat.reduceAdd, Nat.reduceSub, Nat.reduceEqDiff, Nat.reduceLeDiff, Int.reduceEq, Int.reduceNe, Int.reduceNeg, reduceCtorEq]
        exact hQ
      · rw [if_neg e3] at hQ
        obtain ⟨l, rfl⟩ : ∃ l : Nat, a = l := ⟨a.toNat, by omega⟩
        rw [Int.toNat_natCast] at hQ
        have h20 := hco.2 l
        refine c_coGet S.1.1 hco (by omega) ?_
        simp only [bk153_0, bk153_8, bk153_12, bk153_23, bk153_26, bk153_42, bk153_52, bk153_60, U_aload_n, U_iload_n, U_invokevirtual1, U_if_eq, U_if_lt, U_getfield, U_icmp_le, U_bipush, U_ireturn, U_icmp_ne, U_invokevirtual0, U_goto, U_invokevirtual2, UN_cc, UN_cn, UN_nc, UN_nn, UJ, lget, lset, lset2, entL, wsm, wcat, Option.toList_some, Option.toList_none, List.cons_append, List.nil_append, List.mem_cons, List.not_mem_nil, Prod.mk.injEq, or_false, false_or, or_true, true_or, and_true, true_and, and_false, false_and, and_self, ne_eq, not_false_eq_true, not_true_eq_false, forall_const, true_implies, false_implies, Nat.add_zero, Nat.zero_add, Nat.le_refl, Nat.zero_le, List.set_cons_zero, List.set_cons_succ, List.set_nil, ↓reduceIte, Nat.reduceAdd, Nat.reduceSub, Nat.reduceEqDiff, Nat.reduceLeDiff, Int.reduceEq, Int.reduceNe, Int.reduceNeg, reduceCtorEq, kd188]
        refine c_coAbove (by omega) (by omega) ?_
        simp only [bk153_0, bk153_8, bk153_12, bk153_23, bk153_26, bk153_42, bk153_52, bk153_60, U_aload_n, U_iload_n, U_invokevirtual1, U_if_eq, U_if_lt, U_getfield, U_icmp_le, U_bipush, U_ireturn, U_icmp_ne, U_invokevirtual0, U_goto, U_invokevirtual2, UN_cc, UN_cn, UN_nc, UN_nn, UJ, lget, lset, lset2, entL, wsm, wcat, Option.toList_some, Option.toList_none, List.cons_append, List.nil_append, List.mem_cons, List.not_mem_nil, Prod.mk.injEq, or_false, false_or, or_true, true_or, and_true, true_and, and_false, false_and, and_self, ne_eq, not_false_eq_true, not_true_eq_false, forall_const, true_implies, false_implies, Nat.add_zero, Nat.zero_add, Nat.le_refl, Nat.zero_le, List.set_cons_zero, List.set_cons_succ, List.set_nil, ↓reduceIte, Nat.reduceAdd, Nat.reduceSub, Nat.reduceEqDiff, Nat.reduceLeDiff, Int.reduceEq, Int.reduceNe, Int.reduceNeg, reduceCtorEq]
        exact hQ
  · rw [if_neg (fun e => q e.1)] at hQ
    simp only [bk153_0, bk153_8, bk153_12, bk153_23, bk153_26, bk153_42, bk153_52, bk153_60, U_aload_n, U_iload_n, U_invokevirtual1, U_if_eq, U_if_lt, U_getfield, U_icmp_le, U_bipush, U_ireturn, U_icmp_ne, U_invokevirtual0, U_goto, U_invokevirtual2, UN_cc, UN_cn, UN_nc, UN_nn, UJ, lget, lset, lset2, entL, wsm, wcat, Option.toList_some, Option.toList_none, List.cons_append, List.nil_append, List.mem_cons, List.not_mem_nil, Prod.mk.injEq, or_false, false_or, or_true, true_or, and_true, true_and, and_false, false_and, and_self, ne_eq, not_false_eq_true, not_true_eq_false, forall_const, true_implies, false_implies, Nat.add_zero, Nat.zero_add, Nat.le_refl, Nat.zero_le, List.set_cons_zero, List.set_cons_succ, List.set_nil, ↓reduceIte, Nat.reduceAdd, Nat.reduceSub, Nat.reduceEqDiff, Nat.reduceLeDiff, Int.reduceEq, Int.reduceNe, Int.reduceNeg, reduceCtorEq]
    exact ⟨r3 (by omega), hQ⟩
