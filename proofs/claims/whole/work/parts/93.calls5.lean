/-! CALLS OF THE CLASS: the told row, near, least, turns, covers -/
def oTell {p : Int} (_g : Nat) (_f : Pz p) (tl : Nat → Int) (j v : Int) : Int := if ¬ (0 ≤ j ∧ j < 26) ∨ ¬ (0 ≤ v ∧ v < p) then -2 else tl j.toNat
theorem CS.tt {p : Int} {g : Nat} {f : Pz p} {pu : List Int} {rg : Nat → Pz p × Pz p} {A tl : Nat → Int} {E : Nat → Nat} {N : Mem} {j : Nat} {v : Int} (h : CS g f pu rg A tl E N) (hj : j < 26) : CS g f pu rg A (upr tl j v) E (ust (ust N 121 (j : Int) v) 120 13 (-1)) := by
  obtain ⟨⟨ρ, S, R⟩, a1, a2, a3, a4, a5, a6, a7, a8, a9⟩ := h
  have c : ∀ b, b ≠ 121 → b ≠ 120 → ust (ust N 121 (j : Int) v) 120 13 (-1) b = N b := fun b hb hb2 => by rw [ust_ne hb2, ust_ne hb]
  have c120 : ∀ i, i ≠ 13 → ust (ust N 121 (j : Int) v) 120 13 (-1) 120 i = N 120 i := fun i hi => by rw [ust_at, if_neg hi, ust_ne (by decide)]
  refine ⟨⟨ρ, (S.ust _ _ (fz_arr (Or.inl rfl) _) (by decide) (by decide) (by decide)).ust _ _ rfl (by decide) (by decide) (by decide), R⟩, a1.fx (c _ (by decide) (by decide)) (c _ (by decide) (by decide)), a2.fx (c _ (by decide) (by decide)) (c _ (by decide) (by decide)) (c _ (by decide) (by decide)) (c _ (by decide) (by decide)) (c _ (by decide) (by decide)), fun i hi => by rw [c 109 (by decide) (by decide)]; exact a3 i hi, fun i hi => ?_, fun i hi => by rw [c 189 (by decide) (by decide)]; exact a5 i hi, a6.fx (c _ (by decide) (by decide)) (c _ (by decide) (by decide)), a7.fx (c _ (by decide) (by decide)) (c _ (by decide) (by decide)), a8.fx (c _ (by decide) (by decide)) (c _ (by decide) (by decide)), ?_, Or.inl (by rw [ust_at, if_pos rfl])⟩
  · rw [ust_ne (by decide), ust_at]
    unfold upr
    by_cases e : i = j
    · subst e; rw [if_pos rfl, if_pos rfl]
    · rw [if_neg (by omega), if_neg e]; exact a4 i hi
  · have h26 := ptl_26 S.1.2.1 f
    have hl := cdL_len S.1.2.1 f 31
    rcases a9.1 with e | ⟨e1, e2, e3⟩
    · exact Or.inl (by rw [c120 9 (by decide)]; exact e)
    · exact Or.inr ⟨e1, by rw [c120 9 (by decide)]; exact e2, e3.fc (c120 7 (by decide)) (c120 8 (by decide)) (c _ (by decide) (by decide)) (c _ (by decide) (by decide)) (fun i hi => ⟨c _ (by omega) (by omega), c _ (by omega) (by omega)⟩)⟩
set_option maxHeartbeats 8000000 in
theorem k_tell {p : Int} {g : Nat} {f : Pz p} {pu : List Int} {rg : Nat → Pz p × Pz p} {A tl : Nat → Int} {E : Nat → Nat} {N : Mem} {Q : Post} {j v : Int} (h : CS g f pu rg A tl E N) (V : VS g f pu rg A tl E) (hj : R32 j) (hv : R32 v)
    (hQ : ∀ N' tl', CS g f pu rg A tl' E N' → mdF N N' → tl' = (if (0 ≤ j ∧ j < 26) ∧ (0 ≤ v ∧ v < p) then upr tl j.toNat v else tl) → Q (some (0, oTell g f tl j v)) NN N') : CL 145 [(2, 1), (0, j), (0, v)] NN N Q := by
  have h0 := h
  obtain ⟨⟨ρ, S, R⟩, hPu, hCr, hRo, hTd, -⟩ := h
  have hj' := hj
  obtain ⟨j1, j2⟩ := hj'
  unfold oTell at hQ
  have bad : (¬ (0 ≤ j ∧ j < 26) ∨ ¬ (0 ≤ v ∧ v < p)) → Q (some (0, -2)) NN N := fun e => by
    rw [if_pos e] at hQ
    exact hQ N tl h0 (mdF.rf N) (by rw [if_neg (by omega)])
  refine WP.run [] [] 90 ?_
  simp only [bk145_0, bk145_4, bk145_10, bk145_18, bk145_21, U_iload_n, U_if_lt, U_bipush, U_icmp_ge, U_aload_n, U_invokevirtual1, U_if_ne, U_ireturn, U_getfield, U_invokevirtual2, UN_cc, UN_cn, UN_nc, UN_nn, UJ, lget, lset, lset2, entL, wsm, wcat, Option.toList_some, Option.toList_none, List.cons_append, List.nil_append, List.mem_cons, List.not_mem_nil, Prod.mk.injEq, or_false, false_or, or_true, true_or, and_true, true_and, and_false, false_and, and_self, ne_eq, not_false_eq_true, not_true_eq_false, forall_const, true_implies, false_implies, Nat.add_zero, Nat.zero_add, Nat.le_refl, Nat.zero_le, List.set_cons_zero, List.set_cons_succ, List.set_nil, ↓reduceIte, Nat.reduceAdd, Nat.reduceSub, Nat.reduceEqDiff, Nat.reduceLeDiff, Int.reduceEq, Int.reduceNe, Int.reduceNeg, reduceCtorEq, kd1]
  refine ⟨hj, fun e => bad (by omega), fun e => ⟨rr (by omega), fun e2 => ?_, fun e2 => bad (by omega)⟩⟩
  refine c_isNum S.1 hv ?_
  by_cases q : 0 ≤ v ∧ v < p
  · rw [if_pos q]
    rw [if_neg (show ¬ (¬ (0 ≤ j ∧ j < 26) ∨ ¬ (0 ≤ v ∧ v < p)) by omega)] at hQ
    obtain ⟨n, rfl⟩ : ∃ n : Nat, j = n := ⟨j.toNat, by omega⟩
    simp only [bk145_0, bk145_4, bk145_10, bk145_18, bk145_21, U_iload_n, U_if_lt, U_bipush, U_icmp_ge, U_aload_n, U_invokevirtual1, U_if_ne, U_ireturn, U_getfield, U_invokevirtual2, UN_cc, UN_cn, UN_nc, UN_nn, UJ, lget, lset, lset2, entL, wsm, wcat, Option.toList_some, Option.toList_none, List.cons_append, List.nil_append, List.mem_cons, List.not_mem_nil, Prod.mk.injEq, or_false, false_or, or_true, true_or, and_true, true_and, and_false, false_and, and_self, ne_eq, not_false_eq_true, not_true_eq_false, forall_const, true_implies, false_implies, Nat.add_zero, Nat.zero_add, Nat.le_refl, Nat.zero_le, List.set_cons_zero, List.set_cons_succ, List.set_nil, ↓reduceIte, Nat.reduceAdd, Nat.reduceSub, Nat.reduceEqDiff, Nat.reduceLeDiff, Int.reduceEq, Int.reduceNe, Int.reduceNeg, reduceCtorEq, kd1, kd120, z1_10 S.1.1]
    refine ⟨r3 (by omega), c_changeTold S.1.1 (by omega) ?_⟩
    simp only [bk145_0, bk145_4, bk145_10, bk145_18, bk145_21, U_iload_n, U_if_lt, U_bipush, U_icmp_ge, U_aload_n, U_invokevirtual1, U_if_ne, U_ireturn, U_getfield, U_invokevirtual2, UN_cc, UN_cn, UN_nc, UN_nn, UJ, lget, lset, lset2, entL, wsm, wcat, Option.toList_some, Option.toList_none, List.cons_append, List.nil_append, List.mem_cons, List.not_mem_nil, Prod.mk.injEq, or_false, false_or, or_true, true_or, and_true, true_and, and_false, false_and, and_self, ne_eq, not_false_eq_true, not_true_eq_false, forall_const, true_implies, false_implies, Nat.add_zero, Nat.zero_add, Nat.le_refl, Nat.zero_le, List.set_cons_zero, List.set_cons_succ, List.set_nil, ↓reduceIte, Nat.reduceAdd, Nat.reduceSub, Nat.reduceEqDiff, Nat.reduceLeDiff, Int.reduceEq, Int.reduceNe, Int.reduceNeg, reduceCtorEq]
    rw [hTd n (by omega)]
    refine hQ _ _ (h0.tt (by omega)) (((mdF.rf N).us _ _ (by decide)).us _ _ (by decide)) ?_
    rw [if_pos ⟨by omega, q⟩]; rfl
  · rw [if_neg q]
    simp only [bk145_0, bk145_4, bk145_10, bk145_18, bk145_21, U_iload_n, U_if_lt, U_bipush, U_icmp_ge, U_aload_n, U_invokevirtual1, U_if_ne, U_ireturn, U_getfield, U_invokevirtual2, UN_cc, UN_cn, UN_nc, UN_nn, UJ, lget, lset, lset2, entL, wsm, wcat, Option.toList_some, Option.toList_none, List.cons_append, List.nil_append, List.mem_cons, List.not_mem_nil, Prod.mk.injEq, or_false, false_or, or_true, true_or, and_true, true_and, and_false, false_and, and_self, ne_eq, not_false_eq_true, not_true_eq_false, forall_const, true_implies, false_implies, Nat.add_zero, Nat.zero_add, Nat.le_refl, Nat.zero_le, List.set_cons_zero, List.set_cons_succ, List.set_nil, ↓reduceIte, Nat.reduceAdd, Nat.reduceSub, Nat.reduceEqDiff, Nat.reduceLeDiff, Int.reduceEq, Int.reduceNe, Int.reduceNeg, reduceCtorEq]
    exact ⟨r3 (by omega), bad (Or.inr q)⟩
noncomputable def frN (D : Nat → Nat) (N : Nat) : Nat := @dite _ (∃ b, IsFst D N b) (Classical.propDecidable _) (fun h => h.choose) (fun _ => 0)
theorem frN_is {D : Nat → Nat} {N b : Nat} (h : IsFst D N b) : frN D N = b := by
  have he : ∃ b, IsFst D N b := ⟨b, h⟩
  unfold frN
  rw [dif_pos he]
  exact he.choose_spec.un h
noncomputable def mnN (D : Nat → Nat) (N : Nat) : Nat := @dite _ (∃ b, IsMn D N b) (Classical.propDecidable _) (fun h => h.choose) (fun _ => 0)
theorem mnN_is {D : Nat → Nat} {N b : Nat} (h : IsMn D N b) : mnN D N = b := by
  have he : ∃ b, IsMn D N b := ⟨b, h⟩
  unfold mnN
  rw [dif_pos he]
  exact he.choose_spec.un h
/-- distances of the words of m -/
noncomputable def dfF {p : Int} (f : Pz p) (tl : Nat → Int) (m : Nat) : Nat → Nat := difN p.toNat p (wdK f) tl (cwd f m) (ptl f p.toNat).length
noncomputable def oNear {p : Int} (g : Nat) (f : Pz p) (tl : Nat → Int) (m w : Int) : Int :=
  if ¬ (0 ≤ m ∧ m ≤ 30) ∨ w < -1 then -2 else if g = 0 then -3 else if 20000 < p.toNat ^ cwd f m.toNat then -3 else if (cwd f m.toNat : Int) ≤ w then -1 else
  if w = -1 then (if cwd f m.toNat = 0 then 0 else (dfF f tl m.toNat (frN (dfF f tl m.toNat) (p.toNat ^ cwd f m.toNat)) : Int)) else ((frN (dfF f tl m.toNat) (p.toNat ^ cwd f m.toNat) / p.toNat ^ w.toNat % p.toNat : Nat) : Int)
theorem CdA.wd {p : Int} {N : Mem} {f : Pz p} (h : CdA N f (cdL f 31)) : ∀ k j : Nat, k < (cdL f 31).length → j < (ptl f p.toNat).length → N (123 + (k : Int)) (j : Int) = wdK f k j := fun k j hk hj => by
  obtain ⟨e, he⟩ : ∃ e, (cdL f 31)[k]? = some e := ⟨_, List.getElem?_eq_getElem hk⟩
  have ew : wdK f k j = e.2.1 j := by unfold wdK; rw [he]
  rw [ew]; exact ((h.2.2 k e he).2.2 j hj).1
theorem CdA.fn {p : Int} {N N' : Mem} {f : Pz p} (hp : Pr p) (h : CdA N f (cdL f 31)) (F : FN N N') : CdA N' f (cdL f 31) := by
  have h26 := ptl_26 hp f
  have hl := cdL_len hp f 31
  exact h.fc (F.2 7 (by decide) (by decide)) (F.2 8 (by decide) (by decide)) (F.1 176 (by decide) (by decide) (by decide) (by decide) (by decide)) (F.1 177 (by decide) (by decide) (by decide) (by decide) (by decide)) (fun i hi => ⟨F.1 _ (by omega) (by omega) (by omega) (by omega) (by omega), F.1 _ (by omega) (by omega) (by omega) (by omega) (by omega)⟩)
set_option maxHeartbeats 16000000 in
theorem k_near {p : Int} {g : Nat} {f : Pz p} {pu : List Int} {rg : Nat → Pz p × Pz p} {A tl : Nat → Int} {E : Nat → Nat} {N : Mem} {Q : Post} {m w : Int} (h : CS g f pu rg A tl E N) (V : VS g f pu rg A tl E) (hm : R32 m) (hw : R32 w) (hQ : ∀ N', CS g f pu rg A tl E N' → mdF N N' → Q (some (0, oNear g f tl m w)) NN N') : CL 146 [(2, 1), (0, m), (0, w), (9, 0)] NN N Q := by
  have h0 := h
  obtain ⟨⟨ρ, S, R⟩, hPu, hCr, -⟩ := h
  have hw' := hw
  obtain ⟨w1, w2⟩ := hw'
  have hp := V.1
  have hpp := hp.pos
  unfold oNear at hQ
  refine WP.run [] [] 90 ?_
  simp only [bk146_0, bk146_7, bk146_12, bk146_15, bk146_25, bk146_28, bk146_51, bk146_54, bk146_59, bk146_61, bk146_74, bk146_84, bk146_92, U_iload_n, U_invokestatic1, U_if_eq, U_iconst, U_icmp_ge, U_bipush, U_ireturn, U_aload_n, U_getfield, U_invokevirtual0, U_if_ne, U_invokevirtual1, U_istore_n, U_sipush, U_icmp_le, U_icmp_lt, U_icmp_ne, U_goto, UN_cc, UN_cn, UN_nc, UN_nn, UJ, lget, lset, lset2, entL, wsm, wcat, Option.toList_some, Option.toList_none, List.cons_append, List.nil_append, List.mem_cons, List.not_mem_nil, Prod.mk.injEq, or_false, false_or, or_true, true_or, and_true, true_and, and_false, false_and, and_self, ne_eq, not_false_eq_true, not_true_eq_false, forall_const, true_implies, false_implies, Nat.add_zero, Nat.zero_add, Nat.le_refl, Nat.zero_le, List.set_cons_zero, List.set_cons_succ, List.set_nil, ↓reduceIte, Nat.reduceAdd, Nat.reduceSub, Nat.reduceEqDiff, Nat.reduceLeDiff, Int.reduceEq, Int.reduceNe, Int.reduceNeg, reduceCtorEq, kd1]
  refine c_isPole hm ?_
  by_cases q : 0 ≤ m ∧ m ≤ 30
  · rw [if_pos q]
    simp only [bk146_0, bk146_7, bk146_12, bk146_15, bk146_25, bk146_28, bk146_51, bk146_54, bk146_59, bk146_61, bk146_74, bk146_84, bk146_92, U_iload_n, U_invokestatic1, U_if_eq, U_iconst, U_icmp_ge, U_bipush, U_ireturn, U_aload_n, U_getfield, U_invokevirtual0, U_if_ne, U_invokevirtual1, U_istore_n, U_sipush, U_icmp_le, U_icmp_lt, U_icmp_ne, U_goto, UN_cc, UN_cn, UN_nc, UN_nn, UJ, lget, lset, lset2, entL, wsm, wcat, Option.toList_some, Option.toList_none, List.cons_append, List.nil_append, List.mem_cons, List.not_mem_nil, Prod.mk.injEq, or_false, false_or, or_true, true_or, and_true, true_and, and_false, false_and, and_self, ne_eq, not_false_eq_true, not_true_eq_false, forall_const, true_implies, false_implies, Nat.add_zero, Nat.zero_add, Nat.le_refl, Nat.zero_le, List.set_cons_zero, List.set_cons_succ, List.set_nil, ↓reduceIte, Nat.reduceAdd, Nat.reduceSub, Nat.reduceEqDiff, Nat.reduceLeDiff, Int.reduceEq, Int.reduceNe, Int.reduceNeg, reduceCtorEq, kd1, kd21, z1_4 S.1.1]
    refine ⟨r3 (by omega), rr (by omega), fun e => ?_, fun e => c_std hCr V.g2 ?_⟩
    · rw [if_pos (Or.inr (by omega))] at hQ; exact hQ N h0 (mdF.rf N)
    · rw [if_neg (show ¬ (¬ (0 ≤ m ∧ m ≤ 30) ∨ w < -1) by omega)] at hQ
      by_cases q0 : g = 0
      · rw [if_pos q0] at hQ ⊢
        simp only [bk146_0, bk146_7, bk146_12, bk146_15, bk146_25, bk146_28, bk146_51, bk146_54, bk146_59, bk146_61, bk146_74, bk146_84, bk146_92, U_iload_n, U_invokestatic1, U_if_eq, U_iconst, U_icmp_ge, U_bipush, U_ireturn, U_aload_n, U_getfield, U_invokevirtual0, U_if_ne, U_invokevirtual1, U_istore_n, U_sipush, U_icmp_le, U_icmp_lt, U_icmp_ne, U_goto, UN_cc, UN_cn, UN_nc, UN_nn, UJ, lget, lset, lset2, entL, wsm, wcat, Option.toList_some, Option.toList_none, List.cons_append, List.nil_append, List.mem_cons, List.not_mem_nil, Prod.mk.injEq, or_false, false_or, or_true, true_or, and_true, true_and, and_false, false_and, and_self, ne_eq, not_false_eq_true, not_true_eq_false, forall_const, true_implies, false_implies, Nat.add_zero, Nat.zero_add, Nat.le_refl, Nat.zero_le, List.set_cons_zero, List.set_cons_succ, List.set_nil, ↓reduceIte, Nat.reduceAdd, Nat.reduceSub, Nat.reduceEqDiff, Nat.reduceLeDiff, Int.reduceEq, Int.reduceNe, Int.reduceNeg, reduceCtorEq]
        exact ⟨r3 (by omega), hQ N h0 (mdF.rf N)⟩
      · rw [if_neg q0] at hQ ⊢
        obtain ⟨n, rfl⟩ : ∃ n : Nat, m = n := ⟨m.toNat, by omega⟩
        rw [Int.toNat_natCast] at hQ
        obtain ⟨cw1, cw2⟩ := cwd_le hp f n
        simp only [bk146_0, bk146_7, bk146_12, bk146_15, bk146_25, bk146_28, bk146_51, bk146_54, bk146_59, bk146_61, bk146_74, bk146_84, bk146_92, U_iload_n, U_invokestatic1, U_if_eq, U_iconst, U_icmp_ge, U_bipush, U_ireturn, U_aload_n, U_getfield, U_invokevirtual0, U_if_ne, U_invokevirtual1, U_istore_n, U_sipush, U_icmp_le, U_icmp_lt, U_icmp_ne, U_goto, UN_cc, UN_cn, UN_nc, UN_nn, UJ, lget, lset, lset2, entL, wsm, wcat, Option.toList_some, Option.toList_none, List.cons_append, List.nil_append, List.mem_cons, List.not_mem_nil, Prod.mk.injEq, or_false, false_or, or_true, true_or, and_true, true_and, and_false, false_and, and_self, ne_eq, not_false_eq_true, not_true_eq_false, forall_const, true_implies, false_implies, Nat.add_zero, Nat.zero_add, Nat.le_refl, Nat.zero_le, List.set_cons_zero, List.set_cons_succ, List.set_nil, ↓reduceIte, Nat.reduceAdd, Nat.reduceSub, Nat.reduceEqDiff, Nat.reduceLeDiff, Int.reduceEq, Int.reduceNe, Int.reduceNeg, reduceCtorEq, kd1, kd120, z1_10 S.1.1]
        refine ⟨r3 (by omega), k_width h0 V q0 (by omega) fun N1 C1 F1 a1 a2 => ?_⟩
        have S1 := F1.st S
        have hwm := wmF_le (P := p.toNat) (by omega) (by omega) (cwd f n)
        generalize hW : cwd f n = W at *
        simp only [bk146_0, bk146_7, bk146_12, bk146_15, bk146_25, bk146_28, bk146_51, bk146_54, bk146_59, bk146_61, bk146_74, bk146_84, bk146_92, U_iload_n, U_invokestatic1, U_if_eq, U_iconst, U_icmp_ge, U_bipush, U_ireturn, U_aload_n, U_getfield, U_invokevirtual0, U_if_ne, U_invokevirtual1, U_istore_n, U_sipush, U_icmp_le, U_icmp_lt, U_icmp_ne, U_goto, UN_cc, UN_cn, UN_nc, UN_nn, UJ, lget, lset, lset2, entL, wsm, wcat, Option.toList_some, Option.toList_none, List.cons_append, List.nil_append, List.mem_cons, List.not_mem_nil, Prod.mk.injEq, or_false, false_or, or_true, true_or, and_true, true_and, and_false, false_and, and_self, ne_eq, not_false_eq_true, not_true_eq_false, forall_const, true_implies, false_implies, Nat.add_zero, Nat.zero_add, Nat.le_refl, Nat.zero_le, List.set_cons_zero, List.set_cons_succ, List.set_nil, ↓reduceIte, Nat.reduceAdd, Nat.reduceSub, Nat.reduceEqDiff, Nat.reduceLeDiff, Int.reduceEq, Int.reduceNe, Int.reduceNeg, reduceCtorEq, kd1, kd120, z1_10 S1.1.1]
        refine s_words S1.1 (by omega) ?_
        simp only [bk146_0, bk146_7, bk146_12, bk146_15, bk146_25, bk146_28, bk146_51, bk146_54, bk146_59, bk146_61, bk146_74, bk146_84, bk146_92, U_iload_n, U_invokestatic1, U_if_eq, U_iconst, U_icmp_ge, U_bipush, U_ireturn, U_aload_n, U_getfield, U_invokevirtual0, U_if_ne, U_invokevirtual1, U_istore_n, U_sipush, U_icmp_le, U_icmp_lt, U_icmp_ne, U_goto, UN_cc, UN_cn, UN_nc, UN_nn, UJ, lget, lset, lset2, entL, wsm, wcat, Option.toList_some, Option.toList_none, List.cons_append, List.nil_append, List.mem_cons, List.not_mem_nil, Prod.mk.injEq, or_false, false_or, or_true, true_or, and_true, true_and, and_false, false_and, and_self, ne_eq, not_false_eq_true, not_true_eq_false, forall_const, true_implies, false_implies, Nat.add_zero, Nat.zero_add, Nat.le_refl, Nat.zero_le, List.set_cons_zero, List.set_cons_succ, List.set_nil, ↓reduceIte, Nat.reduceAdd, Nat.reduceSub, Nat.reduceEqDiff, Nat.reduceLeDiff, Int.reduceEq, Int.reduceNe, Int.reduceNeg, reduceCtorEq]
        refine ⟨rr (by omega), fun e1 => ?_, fun e1 => ?_⟩
        · rw [if_pos (by have := hwm.2.2.1; omega)] at hQ; exact hQ N1 C1 F1.md
        · have hpw : p.toNat ^ W ≤ 20000 := hwm.2.2.1.mp (by omega)
          rw [if_neg (by omega)] at hQ
          refine ⟨rr (by omega), fun e2 => ?_, fun e2 => ?_⟩
          · rw [if_neg (by omega)] at hQ
            simp only [kd1, kd120, z1_10 S1.1.1, true_and, ne_eq, not_false_eq_true, forall_const]
            refine ⟨by decide, ?_⟩
            have hCc := C1.2.2.2.2.2.2.2.2.2
            have hr13 : R32 (N1 120 13) := by
              rcases hCc.2 with e | ⟨-, -, x, x1, x2, -⟩
              · rw [e]; exact r3 (by omega)
              · rw [x2]; exact r3 (by omega)
            by_cases W0 : W = 0
            · subst W0
              refine s_seek0 (fun e => ?_) hr13 fun N2 F2 b1 b2 => ?_
              · rcases hCc.2 with e' | ⟨-, -, x, x1, x2, x3, -⟩
                · rw [e] at e'; exact absurd e' (by decide)
                · exact x3 (by rw [e] at x2; omega)
              · simp only [bk146_0, bk146_7, bk146_12, bk146_15, bk146_25, bk146_28, bk146_51, bk146_54, bk146_59, bk146_61, bk146_74, bk146_84, bk146_92, U_iload_n, U_invokestatic1, U_if_eq, U_iconst, U_icmp_ge, U_bipush, U_ireturn, U_aload_n, U_getfield, U_invokevirtual0, U_if_ne, U_invokevirtual1, U_istore_n, U_sipush, U_icmp_le, U_icmp_lt, U_icmp_ne, U_goto, UN_cc, UN_cn, UN_nc, UN_nn, UJ, lget, lset, lset2, entL, wsm, wcat, Option.toList_some, Option.toList_none, List.cons_append, List.nil_append, List.mem_cons, List.not_mem_nil, Prod.mk.injEq, or_false, false_or, or_true, true_or, and_true, true_and, and_false, false_and, and_self, ne_eq, not_false_eq_true, not_true_eq_false, forall_const, true_implies, false_implies, Nat.add_zero, Nat.zero_add, Nat.le_refl, Nat.zero_le, List.set_cons_zero, List.set_cons_succ, List.set_nil, ↓reduceIte, Nat.reduceAdd, Nat.reduceSub, Nat.reduceEqDiff, Nat.reduceLeDiff, Int.reduceEq, Int.reduceNe, Int.reduceNeg, reduceCtorEq, kd1, kd120, z1_10 (F2.fc.fz S1.1.1), b2]
                refine ⟨rr (by omega), fun e3 => ?_, fun e3 => absurd e3 (by omega)⟩
                rw [if_pos e3, if_pos rfl] at hQ
                refine hQ N2 (C1.cc (tl' := tl) F2.fc ⟨Or.inr ⟨by omega, by rw [F2.2 9 (by decide) (by decide)]; exact a1, a2.fn hp F2⟩, Or.inr ⟨by omega, by rw [F2.2 9 (by decide) (by decide)]; exact a1, 0, by omega, b1, fun _ => b2, fun e => by omega⟩⟩) (F1.md.tr F2.fc.md)
            · have h26 := ptl_26 hp f
              have htd : ∀ j : Nat, j < (ptl f p.toNat).length → N1 121 (j : Int) = tl j := fun j hj => C1.2.2.2.2.1 j (by omega)
              refine s_seek (W := wdK f) (tl := tl) S1 h26 ⟨by omega, cw2⟩ hpw a2.2.1 hr13 (fun e => ?_) (fun k j hk hj => a2.wd k j (by omega) hj) (fun k j => wdK_rg hp f k j) (fun j hj => wdK_0 f hj) htd V.2.2.2.2.1 fun N2 F2 b1 b2 => ?_
              · rcases hCc.2 with e' | ⟨-, -, x, x1, x2, x3, x4⟩
                · rw [e] at e'; omega
                · have : x = W := by rw [e] at x2; omega
                  subst this
                  exact x4 (by omega)
              · have hD2 := a2.fn hp F2
                obtain ⟨b, c1, c2, c3⟩ := id b2
                have hfr : frN (dfF f tl n) (p.toNat ^ W) = b := frN_is (by unfold dfF; rw [hW]; exact c1)
                have hdf : dfF f tl n b = difN p.toNat p (wdK f) tl W (ptl f p.toNat).length b := by unfold dfF; rw [hW]
                rw [hfr, hdf, if_neg W0] at hQ
                have C2 := C1.cc (tl' := tl) F2.fc ⟨Or.inr ⟨by omega, by rw [F2.2 9 (by decide) (by decide)]; exact a1, hD2⟩, Or.inr ⟨by omega, by rw [F2.2 9 (by decide) (by decide)]; exact a1, W, cw2, b1, fun e => absurd e W0, fun _ => b2⟩⟩
                simp only [bk146_0, bk146_7, bk146_12, bk146_15, bk146_25, bk146_28, bk146_51, bk146_54, bk146_59, bk146_61, bk146_74, bk146_84, bk146_92, U_iload_n, U_invokestatic1, U_if_eq, U_iconst, U_icmp_ge, U_bipush, U_ireturn, U_aload_n, U_getfield, U_invokevirtual0, U_if_ne, U_invokevirtual1, U_istore_n, U_sipush, U_icmp_le, U_icmp_lt, U_icmp_ne, U_goto, UN_cc, UN_cn, UN_nc, UN_nn, UJ, lget, lset, lset2, entL, wsm, wcat, Option.toList_some, Option.toList_none, List.cons_append, List.nil_append, List.mem_cons, List.not_mem_nil, Prod.mk.injEq, or_false, false_or, or_true, true_or, and_true, true_and, and_false, false_and, and_self, ne_eq, not_false_eq_true, not_true_eq_false, forall_const, true_implies, false_implies, Nat.add_zero, Nat.zero_add, Nat.le_refl, Nat.zero_le, List.set_cons_zero, List.set_cons_succ, List.set_nil, ↓reduceIte, Nat.reduceAdd, Nat.reduceSub, Nat.reduceEqDiff, Nat.reduceLeDiff, Int.reduceEq, Int.reduceNe, Int.reduceNeg, reduceCtorEq, kd1, kd120, z1_10 (F2.fc.fz S1.1.1), c2]
                refine ⟨rr (by omega), fun e3 => ?_, fun e3 => ?_⟩
                · rw [if_pos e3] at hQ
                  exact hQ N2 C2 (F1.md.tr F2.fc.md)
                · rw [if_neg e3] at hQ
                  obtain ⟨k, rfl⟩ : ∃ k : Nat, w = k := ⟨w.toNat, by omega⟩
                  refine c_nearDigit (F2.fc.fz S1.1.1) (by omega) ?_
                  rw [c3 k (by omega)]
                  simp only [bk146_0, bk146_7, bk146_12, bk146_15, bk146_25, bk146_28, bk146_51, bk146_54, bk146_59, bk146_61, bk146_74, bk146_84, bk146_92, U_iload_n, U_invokestatic1, U_if_eq, U_iconst, U_icmp_ge, U_bipush, U_ireturn, U_aload_n, U_getfield, U_invokevirtual0, U_if_ne, U_invokevirtual1, U_istore_n, U_sipush, U_icmp_le, U_icmp_lt, U_icmp_ne, U_goto, UN_cc, UN_cn, UN_nc, UN_nn, UJ, lget, lset, lset2, entL, wsm, wcat, Option.toList_some, Option.toList_none, List.cons_append, List.nil_append, List.mem_cons, List.not_mem_nil, Prod.mk.injEq, or_false, false_or, or_true, true_or, and_true, true_and, and_false, false_and, and_self, ne_eq, not_false_eq_true, not_true_eq_false, forall_const, true_implies, false_implies, Nat.add_zero, Nat.zero_add, Nat.le_refl, Nat.zero_le, List.set_cons_zero, List.set_cons_succ, List.set_nil, ↓reduceIte, Nat.reduceAdd, Nat.reduceSub, Nat.reduceEqDiff, Nat.reduceLeDiff, Int.reduceEq, Int.reduceNe, Int.reduceNeg, reduceCtorEq]
                  rw [Int.toNat_natCast] at hQ
                  exact hQ N2 C2 (F1.md.tr F2.fc.md)
          · rw [if_pos (by omega)] at hQ; exact hQ N1 C1 F1.md
  · rw [if_neg q]
    rw [if_pos (Or.inl q)] at hQ
    simp only [bk146_0, bk146_7, bk146_12, bk146_15, bk146_25, bk146_28, bk146_51, bk146_54, bk146_59, bk146_61, bk146_74, bk146_84, bk146_92, U_iload_n, U_invokestatic1, U_if_eq, U_iconst, U_icmp_ge, U_bipush, U_ireturn, U_aload_n, U_getfield, U_invokevirtual0, U_if_ne, U_invokevirtual1, U_istore_n, U_sipush, U_icmp_le, U_icmp_lt, U_icmp_ne, U_goto, UN_cc, UN_cn, UN_nc, UN_nn, UJ, lget, lset, lset2, entL, wsm, wcat, Option.toList_some, Option.toList_none, List.cons_append, List.nil_append, List.mem_cons, List.not_mem_nil, Prod.mk.injEq, or_false, false_or, or_true, true_or, and_true, true_and, and_false, false_and, and_self, ne_eq, not_false_eq_true, not_true_eq_false, forall_const, true_implies, false_implies, Nat.add_zero, Nat.zero_add, Nat.le_refl, Nat.zero_le, List.set_cons_zero, List.set_cons_succ, List.set_nil, ↓reduceIte, Nat.reduceAdd, Nat.reduceSub, Nat.reduceEqDiff, Nat.reduceLeDiff, Int.reduceEq, Int.reduceNe, Int.reduceNeg, reduceCtorEq]
    exact ⟨r3 (by omega), hQ N h0 (mdF.rf N)⟩
noncomputable def oLeast {p : Int} (g : Nat) (f : Pz p) (m : Int) : Int := if ¬ (0 ≤ m ∧ m ≤ 30) then -2 else if g = 0 then -3 else if 20000 < p.toNat ^ cwd f m.toNat then -3 else if cwd f m.toNat = 0 then -1 else (mnN (dfF f (fun _ => 0) m.toNat) (p.toNat ^ cwd f m.toNat) : Int)
set_option maxHeartbeats 16000000 in
theorem k_least {p : Int} {g : Nat} {f : Pz p} {pu : List Int} {rg : Nat → Pz p × Pz p} {A tl : Nat → Int} {E : Nat → Nat} {N : Mem} {Q : Post} {m : Int} (h : CS g f pu rg A tl E N) (V : VS g f pu rg A tl E) (hm : R32 m) (hQ : ∀ N', CS g f pu rg A tl E N' → mdF N N' → Q (some (0, oLeast g f m)) NN N') : CL 147 [(2, 1), (0, m), (9, 0)] NN N Q := by
  have h0 := h
  obtain ⟨⟨ρ, S, R⟩, hPu, hCr, -⟩ := h
  have hp := V.1
  have hpp := hp.pos
  unfold oLeast at hQ
  refine WP.run [] [] 90 ?_
  simp only [bk147_0, bk147_7, bk147_10, bk147_20, bk147_23, bk147_46, bk147_49, bk147_53, bk147_57, bk147_65, U_iload_n, U_invokestatic1, U_if_ne, U_bipush, U_ireturn, U_aload_n, U_getfield, U_invokevirtual0, U_invokevirtual1, U_istore_n, U_sipush, U_icmp_le, U_iconst, U_goto, UN_cc, UN_cn, UN_nc, UN_nn, UJ, lget, lset, lset2, entL, wsm, wcat, Option.toList_some, Option.toList_none, List.cons_append, List.nil_append, List.mem_cons, List.not_mem_nil, Prod.mk.injEq, or_false, false_or, or_true, true_or, and_true, true_and, and_false, false_and, and_self, ne_eq, not_false_eq_true, not_true_eq_false, forall_const, true_implies, false_implies, Nat.add_zero, Nat.zero_add, Nat.le_refl, Nat.zero_le, List.set_cons_zero, List.set_cons_succ, List.set_nil, ↓reduceIte, Nat.reduceAdd, Nat.reduceSub, Nat.reduceEqDiff, Nat.reduceLeDiff, Int.reduceEq, Int.reduceNe, Int.reduceNeg, reduceCtorEq, kd1]
  refine c_isPole hm ?_
  by_cases q : 0 ≤ m ∧ m ≤ 30
  · rw [if_pos q]
    rw [if_neg (show ¬ ¬ (0 ≤ m ∧ m ≤ 30) by omega)] at hQ
    simp only [bk147_0, bk147_7, bk147_10, bk147_20, bk147_23, bk147_46, bk147_49, bk147_53, bk147_57, bk147_65, U_iload_n, U_invokestatic1, U_if_ne, U_bipush, U_ireturn, U_aload_n, U_getfield, U_invokevirtual0, U_invokevirtual1, U_istore_n, U_sipush, U_icmp_le, U_iconst, U_goto, UN_cc, UN_cn, UN_nc, UN_nn, UJ, lget, lset, lset2, entL, wsm, wcat, Option.toList_some, Option.toList_none, List.cons_append, List.nil_append, List.mem_cons, List.not_mem_nil, Prod.mk.injEq, or_false, false_or, or_true, true_or, and_true, true_and, and_false, false_and, and_self, ne_eq, not_false_eq_true, not_true_eq_false, forall_const, true_implies, false_implies, Nat.add_zero, Nat.zero_add, Nat.le_refl, Nat.zero_le, List.set_cons_zero, List.set_cons_succ, List.set_nil, ↓reduceIte, Nat.reduceAdd, Nat.reduceSub, Nat.reduceEqDiff, Nat.reduceLeDiff, Int.reduceEq, Int.reduceNe, Int.reduceNeg, reduceCtorEq, kd1, kd21, z1_4 S.1.1]
    refine ⟨r3 (by omega), c_std hCr V.g2 ?_⟩
    by_cases q0 : g = 0
    · rw [if_pos q0] at hQ ⊢
      simp only [bk147_0, bk147_7, bk147_10, bk147_20, bk147_23, bk147_46, bk147_49, bk147_53, bk147_57, bk147_65, U_iload_n, U_invokestatic1, U_if_ne, U_bipush, U_ireturn, U_aload_n, U_getfield, U_invokevirtual0, U_invokevirtual1, U_istore_n, U_sipush, U_icmp_le, U_iconst, U_goto, UN_cc, UN_cn, UN_nc, UN_nn, UJ, lget, lset, lset2, entL, wsm, wcat, Option.toList_some, Option.toList_none, List.cons_append, List.nil_append, List.mem_cons, List.not_mem_nil, Prod.mk.injEq, or_false, false_or, or_true, true_or, and_true, true_and, and_false, false_and, and_self, ne_eq, not_false_eq_true, not_true_eq_false, forall_const, true_implies, false_implies, Nat.add_zero, Nat.zero_add, Nat.le_refl, Nat.zero_le, List.set_cons_zero, List.set_cons_succ, List.set_nil, ↓reduceIte, Nat.reduceAdd, Nat.reduceSub, Nat.reduceEqDiff, Nat.reduceLeDiff, Int.reduceEq, Int.reduceNe, Int.reduceNeg, reduceCtorEq]
      exact ⟨r3 (by omega), hQ N h0 (mdF.rf N)⟩
    · rw [if_neg q0] at hQ ⊢
      obtain ⟨n, rfl⟩ : ∃ n : Nat, m = n := ⟨m.toNat, by omega⟩
      rw [Int.toNat_natCast] at hQ
      obtain ⟨cw1, cw2⟩ := cwd_le hp f n
      simp only [bk147_0, bk147_7, bk147_10, bk147_20, bk147_23, bk147_46, bk147_49, bk147_53, bk147_57, bk147_65, U_iload_n, U_invokestatic1, U_if_ne, U_bipush, U_ireturn, U_aload_n, U_getfield, U_invokevirtual0, U_invokevirtual1, U_istore_n, U_sipush, U_icmp_le, U_iconst, U_goto, UN_cc, UN_cn, UN_nc, UN_nn, UJ, lget, lset, lset2, entL, wsm, wcat, Option.toList_some, Option.toList_none, List.cons_append, List.nil_append, List.mem_cons, List.not_mem_nil, Prod.mk.injEq, or_false, false_or, or_true, true_or, and_true, true_and, and_false, false_and, and_self, ne_eq, not_false_eq_true, not_true_eq_false, forall_const, true_implies, false_implies, Nat.add_zero, Nat.zero_add, Nat.le_refl, Nat.zero_le, List.set_cons_zero, List.set_cons_succ, List.set_nil, ↓reduceIte, Nat.reduceAdd, Nat.reduceSub, Nat.reduceEqDiff, Nat.reduceLeDiff, Int.reduceEq, Int.reduceNe, Int.reduceNeg, reduceCtorEq, kd1, kd120, z1_10 S.1.1]
      refine ⟨r3 (by omega), k_width h0 V q0 (by omega) fun N1 C1 F1 a1 a2 => ?_⟩
      have S1 := F1.st S
      have hwm := wmF_le (P := p.toNat) (by omega) (by omega) (cwd f n)
      generalize hW : cwd f n = W at *
      simp only [bk147_0, bk147_7, bk147_10, bk147_20, bk147_23, bk147_46, bk147_49, bk147_53, bk147_57, bk147_65, U_iload_n, U_invokestatic1, U_if_ne, U_bipush, U_ireturn, U_aload_n, U_getfield, U_invokevirtual0, U_invokevirtual1, U_istore_n, U_sipush, U_icmp_le, U_iconst, U_goto, UN_cc, UN_cn, UN_nc, UN_nn, UJ, lget, lset, lset2, entL, wsm, wcat, Option.toList_some, Option.toList_none, List.cons_append, List.nil_append, List.mem_cons, List.not_mem_nil, Prod.mk.injEq, or_false, false_or, or_true, true_or, and_true, true_and, and_false, false_and, and_self, ne_eq, not_false_eq_true, not_true_eq_false, forall_const, true_implies, false_implies, Nat.add_zero, Nat.zero_add, Nat.le_refl, Nat.zero_le, List.set_cons_zero, List.set_cons_succ, List.set_nil, ↓reduceIte, Nat.reduceAdd, Nat.reduceSub, Nat.reduceEqDiff, Nat.reduceLeDiff, Int.reduceEq, Int.reduceNe, Int.reduceNeg, reduceCtorEq, kd1, kd120, z1_10 S1.1.1]
      refine s_words S1.1 (by omega) ?_
      simp only [bk147_0, bk147_7, bk147_10, bk147_20, bk147_23, bk147_46, bk147_49, bk147_53, bk147_57, bk147_65, U_iload_n, U_invokestatic1, U_if_ne, U_bipush, U_ireturn, U_aload_n, U_getfield, U_invokevirtual0, U_invokevirtual1, U_istore_n, U_sipush, U_icmp_le, U_iconst, U_goto, UN_cc, UN_cn, UN_nc, UN_nn, UJ, lget, lset, lset2, entL, wsm, wcat, Option.toList_some, Option.toList_none, List.cons_append, List.nil_append, List.mem_cons, List.not_mem_nil, Prod.mk.injEq, or_false, false_or, or_true, true_or, and_true, true_and, and_false, false_and, and_self, ne_eq, not_false_eq_true, not_true_eq_false, forall_const, true_implies, false_implies, Nat.add_zero, Nat.zero_add, Nat.le_refl, Nat.zero_le, List.set_cons_zero, List.set_cons_succ, List.set_nil, ↓reduceIte, Nat.reduceAdd, Nat.reduceSub, Nat.reduceEqDiff, Nat.reduceLeDiff, Int.reduceEq, Int.reduceNe, Int.reduceNeg, reduceCtorEq]
      refine ⟨rr (by omega), fun e1 => ?_, fun e1 => ?_⟩
      · rw [if_pos (by have := hwm.2.2.1; omega)] at hQ; exact hQ N1 C1 F1.md
      · have hpw : p.toNat ^ W ≤ 20000 := hwm.2.2.1.mp (by omega)
        rw [if_neg (by omega)] at hQ
        refine ⟨r3 (by omega), fun e2 => ?_, fun e2 => ?_⟩
        · rw [if_pos (by omega)] at hQ; exact hQ N1 C1 F1.md
        · rw [if_neg (by omega)] at hQ
          simp only [kd1, kd120, z1_10 S1.1.1, true_and, ne_eq, not_false_eq_true, forall_const]
          refine ⟨by decide, ?_⟩
          have h26 := ptl_26 hp f
          refine s_least (W := wdK f) S1 h26 ⟨by omega, cw2⟩ hpw a2.2.1 (fun k j hk hj => a2.wd k j (by omega) hj) (fun k j => wdK_rg hp f k j) (fun j hj => wdK_0 f hj) fun N2 x F2 b1 b2 b3 b4 => ?_
          simp only [bk147_0, bk147_7, bk147_10, bk147_20, bk147_23, bk147_46, bk147_49, bk147_53, bk147_57, bk147_65, U_iload_n, U_invokestatic1, U_if_ne, U_bipush, U_ireturn, U_aload_n, U_getfield, U_invokevirtual0, U_invokevirtual1, U_istore_n, U_sipush, U_icmp_le, U_iconst, U_goto, UN_cc, UN_cn, UN_nc, UN_nn, UJ, lget, lset, lset2, entL, wsm, wcat, Option.toList_some, Option.toList_none, List.cons_append, List.nil_append, List.mem_cons, List.not_mem_nil, Prod.mk.injEq, or_false, false_or, or_true, true_or, and_true, true_and, and_false, false_and, and_self, ne_eq, not_false_eq_true, not_true_eq_false, forall_const, true_implies, false_implies, Nat.add_zero, Nat.zero_add, Nat.le_refl, Nat.zero_le, List.set_cons_zero, List.set_cons_succ, List.set_nil, ↓reduceIte, Nat.reduceAdd, Nat.reduceSub, Nat.reduceEqDiff, Nat.reduceLeDiff, Int.reduceEq, Int.reduceNe, Int.reduceNeg, reduceCtorEq]
          have hmn : mnN (dfF f (fun _ => 0) n) (p.toNat ^ W) = x := mnN_is (by unfold dfF; rw [hW]; exact b4)
          rw [hmn] at hQ
          refine hQ N2 (C1.cc (tl' := tl) F2.fc ⟨Or.inr ⟨by omega, by rw [F2.2 9 (by decide) (by decide)]; exact a1, a2.fn hp F2⟩, ?_⟩) (F1.md.tr F2.fc.md)
          rcases C1.2.2.2.2.2.2.2.2.2.2 with e' | ⟨y1, y2, y, x1, x2, x3, x4⟩
          · exact Or.inl (by rw [b1]; exact e')
          · refine Or.inr ⟨y1, by rw [F2.2 9 (by decide) (by decide)]; exact y2, y, x1, by rw [b1]; exact x2, fun e => by rw [b2]; exact x3 e, fun e => ?_⟩
            obtain ⟨b, c1, c2, c3⟩ := x4 e
            exact ⟨b, c1, by rw [b2]; exact c2, fun i hi => by rw [b3]; exact c3 i hi⟩
  · rw [if_neg q]
    rw [if_pos q] at hQ
    simp only [bk147_0, bk147_7, bk147_10, bk147_20, bk147_23, bk147_46, bk147_49, bk147_53, bk147_57, bk147_65, U_iload_n, U_invokestatic1, U_if_ne, U_bipush, U_ireturn, U_aload_n, U_getfield, U_invokevirtual0, U_invokevirtual1, U_istore_n, U_sipush, U_icmp_le, U_iconst, U_goto, UN_cc, UN_cn, UN_nc, UN_nn, UJ, lget, lset, lset2, entL, wsm, wcat, Option.toList_some, Option.toList_none, List.cons_append, List.nil_append, List.mem_cons, List.not_mem_nil, Prod.mk.injEq, or_false, false_or, or_true, true_or, and_true, true_and, and_false, false_and, and_self, ne_eq, not_false_eq_true, not_true_eq_false, forall_const, true_implies, false_implies, Nat.add_zero, Nat.zero_add, Nat.le_refl, Nat.zero_le, List.set_cons_zero, List.set_cons_succ, List.set_nil, ↓reduceIte, Nat.reduceAdd, Nat.reduceSub, Nat.reduceEqDiff, Nat.reduceLeDiff, Int.reduceEq, Int.reduceNe, Int.reduceNeg, reduceCtorEq]
    exact ⟨r3 (by omega), hQ N h0 (mdF.rf N)⟩
