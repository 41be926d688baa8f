/-! THE MODEL'S MULTIPLES -/
/-- the model's rows stand, f below; its genus -/
def MB {p : Int} (f : Pz p) (g : Nat) (N : Mem) : Prop := (∃ μ, MT p N μ ∧ μ 0 = some f) ∧ N 190 2 = (g : Int)
theorem MB.fx {p : Int} {f : Pz p} {g : Nat} {N N' : Mem} (h : MB f g N) (hz : Fz N') (h1 : N' 190 = N 190) (h2 : N' 198 = N 198) (h3 : N' 199 = N 199) : MB f g N' := by
  obtain ⟨⟨μ, h, h0⟩, hg⟩ := h
  exact ⟨⟨μ, h.pf hz h1 h2 h3, h0⟩, by rw [h1]; exact hg⟩
theorem MB.fz {p : Int} {f : Pz p} {g : Nat} {N : Mem} (h : MB f g N) : Fz N := h.1.elim fun _ h => h.1.1
theorem Mvd.fz {s : Int} {t a : Nat} {N N' : Mem} (h : Mvd 204 s t a N N') (hz : Fz N) : Fz N' := hz.of fun b i v e => by
  by_cases q : b = 204
  · rw [q, fz_arr (Or.inl rfl)] at e; cases e
  · rw [h.1 b q]
theorem Mvd.mb {p : Int} {f : Pz p} {g : Nat} {s : Int} {t a : Nat} {N N' : Mem} (h : Mvd 204 s t a N N') (hb : MB f g N) : MB f g N' := hb.fx (h.fz hb.fz) (h.1 _ (by decide)) (h.1 _ (by decide)) (h.1 _ (by decide))
set_option maxHeartbeats 8000000 in
theorem m_sumG {p : Int} {N : Mem} {Q : Post} {f : Pz p} {g : Nat} {ad : Gq f g → Gq f g → Gq f g} {z : Gq f g} {ng : Gq f g → Gq f g} {to ka kb : Nat} {a b : Gq f g} (hG : GG f g ad z ng) (h : MB f g N) (hcv : Cv f g) (hto : to < 8) (hka : ka < 8) (hkb : kb < 8) (wa : WK N 204 ka a.1) (wb : WK N 204 kb b.1)
    (hQ : ∀ N', MB f g N' → WK N' 204 to (ad a b).1 → PW N N' → (∀ i, ¬ (5 * (to : Int) ≤ i ∧ i < 5 * (to : Int) + 5) → N' 204 i = N 204 i) → Q none NN N') : CL 195 [(2, 190), (0, (to : Int)), (0, (ka : Int)), (0, (kb : Int))] NN N Q := by
  obtain ⟨⟨μ, h, h0⟩, hg⟩ := h
  refine m_sumOf h hcv h0 hg hto hka hkb wa wb a.2 b.2 fun N' μ' c s1 s2 s3 s4 s5 s6 s7 => ?_
  have e := (hG.2.1 a b ⟨c, s3⟩).mp s4
  refine hQ N' ⟨⟨μ', s1, s2⟩, by rw [s6 190 (by decide) (by decide) (by decide)]; exact hg⟩ (by rw [← e]; exact s5) s6 s7
theorem WK.keep {p : Int} {N N' : Mem} {k t : Nat} {x : Pz p × Pz p} (h : WK N 204 k x) (hkt : k ≠ t) (e : ∀ i, ¬ (5 * (t : Int) ≤ i ∧ i < 5 * (t : Int) + 5) → N' 204 i = N 204 i) : WK N' 204 k x := fun j hj => by rw [e _ (by omega)]; exact h j hj
theorem wkD_z {p : Int} (hp : Pr p) {x : Pz p × Pz p} (h : x = (pC p 1, pC p 0)) (j : Nat) : wkD x j = 0 := by
  have e1 := (pmo_1 hp).1
  have hpp := hp.pos
  have e : dg (pC p 1) = 1 := dg_C (by rw [Int.emod_eq_of_lt (by omega) (by omega)]; omega)
  have z0 : ∀ k, (pC p 0).1 k = 0 := fun k => by rw [pC_c]; split <;> exact Int.zero_emod _
  subst h
  unfold wkD
  show (if j = 0 then (dg (pC p 1) : Int) - 1 else if j = 1 then (if 2 ≤ dg (pC p 1) then (pC p 1).1 0 else 0) else if j = 2 then (if 3 ≤ dg (pC p 1) then (pC p 1).1 1 else 0) else if j = 3 then (pC p 0).1 0 else (pC p 0).1 1) = 0
  rw [e, z0, z0]
  split
  · rfl
  · split
    · rfl
    · split
      · rfl
      · split <;> rfl
theorem lcm_0 : lcm3 0 0 = 0 := rfl
theorem lcm_p {x : Int} (h : 0 < x) : lcm3 x 0 = 1 := by unfold lcm3; rw [if_pos h]
set_option maxHeartbeats 16000000 in
theorem l_mTimes {p : Int} {N : Mem} {Q : Post} {f : Pz p} {g : Nat} {ad : Gq f g → Gq f g → Gq f g} {z : Gq f g} {ng : Gq f g → Gq f g} {to ka n : Nat} {x : Gq f g} (hG : GG f g ad z ng) (hcv : Cv f g) (hn : n ≤ 1000000) (hQ : ∀ N' v, MB f g N' → PW N N' → WK N' 204 6 (nsm ad z n x).1 → (∀ i, ¬ (25 ≤ i ∧ i < 35) → N' 204 i = N 204 i) → WP 199 (0, 0) 60 [(2, 190), (0, (to : Int)), (0, (ka : Int)), (1, (n : Int)), (9, 0), (1, v), (9, 0)] [] NN N' Q) : ∀ (fu left m r : Nat) (Ni : Mem), left ≤ fu → r + left * m = n → left ≤ n → MB f g Ni → PW N Ni → WK Ni 204 5 (nsm ad z m x).1 → WK Ni 204 6 (nsm ad z r x).1 → (∀ i, ¬ (25 ≤ i ∧ i < 35) → Ni 204 i = N 204 i) → WP 199 (0, 0) 15 [(2, 190), (0, (to : Int)), (0, (ka : Int)), (1, (n : Int)), (9, 0), (1, (left : Int)), (9, 0)] [] NN Ni Q := by
  have fin : ∀ (r : Nat) (Ni : Mem), r = n → MB f g Ni → PW N Ni → WK Ni 204 6 (nsm ad z r x).1 → (∀ i, ¬ (25 ≤ i ∧ i < 35) → Ni 204 i = N 204 i) → WP 199 (0, 0) 15 [(2, 190), (0, (to : Int)), (0, (ka : Int)), (1, (n : Int)), (9, 0), (1, 0), (9, 0)] [] NN Ni Q := fun r Ni hr hB hW h6 hO => by
    subst hr
    refine WP.run [(199, 15), (199, 42), (199, 60)] [] 60 ?_
    simp only [bk199_0, bk199_15, bk199_22, bk199_33, bk199_42, bk199_60, U_aload_n, U_iconst, U_iload_n, U_invokevirtual2, U_bipush, U_invokevirtual1, U_lload_n, U_lstore, U_lload, U_lconst, U_lcmp, U_if_le, U_ldc2_w, U_lrem, U_if_ne, U_invokevirtual3, U_ldiv, U_goto, U_return, UN_cc, UN_cn, UN_nc, UN_nn, UJ, lget, lset, lset2, entL, wsm, wcat, Option.toList_some, Option.toList_none, List.cons_append, List.nil_append, List.mem_cons, List.not_mem_nil, Prod.mk.injEq, or_false, false_or, or_true, true_or, and_true, true_and, and_false, false_and, and_self, ne_eq, not_false_eq_true, not_true_eq_false, forall_const, true_implies, false_implies, Nat.add_zero, Nat.zero_add, Nat.le_refl, Nat.zero_le, List.set_cons_zero, List.set_cons_succ, List.set_nil, ↓reduceIte, Nat.reduceAdd, Nat.reduceSub, Nat.reduceEqDiff, Nat.reduceLeDiff, Int.reduceEq, Int.reduceNe, Int.reduceNeg, reduceCtorEq, lcm_0]
    exact ⟨Or.inl rfl, r3 (by omega), fun e => absurd e (by decide), fun _ => hQ Ni 0 hB hW h6 hO⟩
  intro fu
  induction fu with
  | zero =>
    intro left m r Ni hl hm hln hB hW h5 h6 hO
    obtain rfl : left = 0 := by omega
    exact fin r Ni (by omega) hB hW h6 hO
  | succ fu ih =>
    intro left m r Ni hl hm hln hB hW h5 h6 hO
    by_cases c : left = 0
    · subst c
      exact fin r Ni (by omega) hB hW h6 hO
    · have l1 : lcm3 (left : Int) 0 = 1 := lcm_p (by omega)
      have tm : (left : Int).tmod 2 = (left : Int) % 2 := tm_nn (by omega)
      have td : (left : Int).tdiv 2 = ((left / 2 : Nat) : Int) := by rw [Int.tdiv_eq_ediv_of_nonneg (by omega)]; omega
      have nx : ∀ (r' : Nat) (Nj : Mem), r' + left / 2 * (m + m) = n → MB f g Nj → PW N Nj → WK Nj 204 5 (nsm ad z m x).1 → WK Nj 204 6 (nsm ad z r' x).1 → (∀ i, ¬ (25 ≤ i ∧ i < 35) → Nj 204 i = N 204 i) → WP 199 (0, 0) 42 [(2, 190), (0, (to : Int)), (0, (ka : Int)), (1, (n : Int)), (9, 0), (1, (left : Int)), (9, 0)] [] NN Nj Q := fun r' Nj e1 e2 e3 e4 e5 e6 => by
        refine WP.run [(199, 15)] [] 60 ?_
        simp only [bk199_0, bk199_15, bk199_22, bk199_33, bk199_42, bk199_60, U_aload_n, U_iconst, U_iload_n, U_invokevirtual2, U_bipush, U_invokevirtual1, U_lload_n, U_lstore, U_lload, U_lconst, U_lcmp, U_if_le, U_ldc2_w, U_lrem, U_if_ne, U_invokevirtual3, U_ldiv, U_goto, U_return, UN_cc, UN_cn, UN_nc, UN_nn, UJ, lget, lset, lset2, entL, wsm, wcat, Option.toList_some, Option.toList_none, List.cons_append, List.nil_append, List.mem_cons, List.not_mem_nil, Prod.mk.injEq, or_false, false_or, or_true, true_or, and_true, true_and, and_false, false_and, and_self, ne_eq, not_false_eq_true, not_true_eq_false, forall_const, true_implies, false_implies, Nat.add_zero, Nat.zero_add, Nat.le_refl, Nat.zero_le, List.set_cons_zero, List.set_cons_succ, List.set_nil, ↓reduceIte, Nat.reduceAdd, Nat.reduceSub, Nat.reduceEqDiff, Nat.reduceLeDiff, Int.reduceEq, Int.reduceNe, Int.reduceNeg, reduceCtorEq, kd190]
        refine m_sumG (to := 5) (ka := 5) (kb := 5) hG e2 hcv (by omega) (by omega) (by omega) e4 e4 fun N1 s1 s2 s3 s4 => ?_
        rw [← nsm_add hG.1] at s2
        simp only [bk199_0, bk199_15, bk199_22, bk199_33, bk199_42, bk199_60, U_aload_n, U_iconst, U_iload_n, U_invokevirtual2, U_bipush, U_invokevirtual1, U_lload_n, U_lstore, U_lload, U_lconst, U_lcmp, U_if_le, U_ldc2_w, U_lrem, U_if_ne, U_invokevirtual3, U_ldiv, U_goto, U_return, UN_cc, UN_cn, UN_nc, UN_nn, UJ, lget, lset, lset2, entL, wsm, wcat, Option.toList_some, Option.toList_none, List.cons_append, List.nil_append, List.mem_cons, List.not_mem_nil, Prod.mk.injEq, or_false, false_or, or_true, true_or, and_true, true_and, and_false, false_and, and_self, ne_eq, not_false_eq_true, not_true_eq_false, forall_const, true_implies, false_implies, Nat.add_zero, Nat.zero_add, Nat.le_refl, Nat.zero_le, List.set_cons_zero, List.set_cons_succ, List.set_nil, ↓reduceIte, Nat.reduceAdd, Nat.reduceSub, Nat.reduceEqDiff, Nat.reduceLeDiff, Int.reduceEq, Int.reduceNe, Int.reduceNeg, reduceCtorEq, td]
        refine ⟨⟨by omega, by omega⟩, ⟨by omega, by omega⟩, ?_⟩
        exact ih (left / 2) (m + m) r' N1 (by omega) e1 (by omega) s1 (e3.tr s3) s2 (e5.keep (t := 5) (by omega) s4) (fun i hi => by rw [s4 i (by omega)]; exact e6 i hi)
      have hmul : left * m = left / 2 * (m + m) + left % 2 * m := by
        have h1 : left = left / 2 * 2 + left % 2 := by omega
        have h2 : left * m = (left / 2 * 2 + left % 2) * m := by rw [← h1]
        rw [h2, Nat.add_mul, Nat.mul_assoc, Nat.two_mul]
      refine WP.run [(199, 15), (199, 42), (199, 60)] [] 60 ?_
      simp only [bk199_0, bk199_15, bk199_22, bk199_33, bk199_42, bk199_60, U_aload_n, U_iconst, U_iload_n, U_invokevirtual2, U_bipush, U_invokevirtual1, U_lload_n, U_lstore, U_lload, U_lconst, U_lcmp, U_if_le, U_ldc2_w, U_lrem, U_if_ne, U_invokevirtual3, U_ldiv, U_goto, U_return, UN_cc, UN_cn, UN_nc, UN_nn, UJ, lget, lset, lset2, entL, wsm, wcat, Option.toList_some, Option.toList_none, List.cons_append, List.nil_append, List.mem_cons, List.not_mem_nil, Prod.mk.injEq, or_false, false_or, or_true, true_or, and_true, true_and, and_false, false_and, and_self, ne_eq, not_false_eq_true, not_true_eq_false, forall_const, true_implies, false_implies, Nat.add_zero, Nat.zero_add, Nat.le_refl, Nat.zero_le, List.set_cons_zero, List.set_cons_succ, List.set_nil, ↓reduceIte, Nat.reduceAdd, Nat.reduceSub, Nat.reduceEqDiff, Nat.reduceLeDiff, Int.reduceEq, Int.reduceNe, Int.reduceNeg, reduceCtorEq, l1, tm, kd190]
      refine ⟨Or.inr ⟨⟨by omega, by omega⟩, ⟨by omega, by omega⟩⟩, r3 (by omega), fun _ => ⟨⟨by omega, by omega⟩, ⟨by omega, by omega⟩, Or.inr ⟨⟨by omega, by omega⟩, ⟨by omega, by omega⟩⟩, ?_, fun e => ?_, fun e => ?_⟩, fun e => absurd (by omega) e⟩
      · unfold lcm3; split <;> (try split) <;> exact r3 (by omega)
      · have o1 : left % 2 = 1 := by
          unfold lcm3 at e
          split at e
          · omega
          · split at e
            · omega
            · omega
        refine m_sumG (to := 6) (ka := 6) (kb := 5) hG hB hcv (by omega) (by omega) (by omega) h6 h5 fun N1 s1 s2 s3 s4 => ?_
        rw [← nsm_add hG.1] at s2
        simp only [bk199_0, bk199_15, bk199_22, bk199_33, bk199_42, bk199_60, U_aload_n, U_iconst, U_iload_n, U_invokevirtual2, U_bipush, U_invokevirtual1, U_lload_n, U_lstore, U_lload, U_lconst, U_lcmp, U_if_le, U_ldc2_w, U_lrem, U_if_ne, U_invokevirtual3, U_ldiv, U_goto, U_return, UN_cc, UN_cn, UN_nc, UN_nn, UJ, lget, lset, lset2, entL, wsm, wcat, Option.toList_some, Option.toList_none, List.cons_append, List.nil_append, List.mem_cons, List.not_mem_nil, Prod.mk.injEq, or_false, false_or, or_true, true_or, and_true, true_and, and_false, false_and, and_self, ne_eq, not_false_eq_true, not_true_eq_false, forall_const, true_implies, false_implies, Nat.add_zero, Nat.zero_add, Nat.le_refl, Nat.zero_le, List.set_cons_zero, List.set_cons_succ, List.set_nil, ↓reduceIte, Nat.reduceAdd, Nat.reduceSub, Nat.reduceEqDiff, Nat.reduceLeDiff, Int.reduceEq, Int.reduceNe, Int.reduceNeg, reduceCtorEq]
        rw [o1, Nat.one_mul] at hmul
        exact nx (r + m) N1 (by omega) s1 (hW.tr s3) (h5.keep (t := 6) (by omega) s4) s2 (fun i hi => by rw [s4 i (by omega)]; exact hO i hi)
      · have o0 : left % 2 = 0 := by
          unfold lcm3 at e
          split at e
          · omega
          · split at e
            · omega
            · omega
        rw [o0, Nat.zero_mul] at hmul
        exact nx r Ni (by omega) hB hW h5 h6 hO
set_option maxHeartbeats 16000000 in
theorem m_timesOf {p : Int} {N : Mem} {Q : Post} {f : Pz p} {g : Nat} {ad : Gq f g → Gq f g → Gq f g} {z : Gq f g} {ng : Gq f g → Gq f g} {to ka n : Nat} {x : Gq f g} (hG : GG f g ad z ng) (h : MB f g N) (hp : Pr p) (hcv : Cv f g) (hn : n ≤ 1000000) (hto : to < 8) (hka : ka < 8) (h6 : to ≠ 6) (h5 : ka ≠ 5) (wa : WK N 204 ka x.1)
    (hQ : ∀ N', MB f g N' → PW N N' → WK N' 204 to (nsm ad z n x).1 → (∀ i, ¬ (25 ≤ i ∧ i < 35) → ¬ (5 * (to : Int) ≤ i ∧ i < 5 * (to : Int) + 5) → N' 204 i = N 204 i) → Q none NN N') : CL 199 [(2, 190), (0, (to : Int)), (0, (ka : Int)), (1, (n : Int)), (9, 0), (9, 0), (9, 0)] NN N Q := by
  refine WP.run [(199, 15)] [] 60 ?_
  simp only [bk199_0, bk199_15, bk199_22, bk199_33, bk199_42, bk199_60, U_aload_n, U_iconst, U_iload_n, U_invokevirtual2, U_bipush, U_invokevirtual1, U_lload_n, U_lstore, U_lload, U_lconst, U_lcmp, U_if_le, U_ldc2_w, U_lrem, U_if_ne, U_invokevirtual3, U_ldiv, U_goto, U_return, UN_cc, UN_cn, UN_nc, UN_nn, UJ, lget, lset, lset2, entL, wsm, wcat, Option.toList_some, Option.toList_none, List.cons_append, List.nil_append, List.mem_cons, List.not_mem_nil, Prod.mk.injEq, or_false, false_or, or_true, true_or, and_true, true_and, and_false, false_and, and_self, ne_eq, not_false_eq_true, not_true_eq_false, forall_const, true_implies, false_implies, Nat.add_zero, Nat.zero_add, Nat.le_refl, Nat.zero_le, List.set_cons_zero, List.set_cons_succ, List.set_nil, ↓reduceIte, Nat.reduceAdd, Nat.reduceSub, Nat.reduceEqDiff, Nat.reduceLeDiff, Int.reduceEq, Int.reduceNe, Int.reduceNeg, reduceCtorEq, kd190]
  refine m_copyWork (t := 5) (a := ka) h.fz (by omega) hka h5 fun N1 s1 => ?_
  have B1 := s1.mb h
  simp only [bk199_0, bk199_15, bk199_22, bk199_33, bk199_42, bk199_60, U_aload_n, U_iconst, U_iload_n, U_invokevirtual2, U_bipush, U_invokevirtual1, U_lload_n, U_lstore, U_lload, U_lconst, U_lcmp, U_if_le, U_ldc2_w, U_lrem, U_if_ne, U_invokevirtual3, U_ldiv, U_goto, U_return, UN_cc, UN_cn, UN_nc, UN_nn, UJ, lget, lset, lset2, entL, wsm, wcat, Option.toList_some, Option.toList_none, List.cons_append, List.nil_append, List.mem_cons, List.not_mem_nil, Prod.mk.injEq, or_false, false_or, or_true, true_or, and_true, true_and, and_false, false_and, and_self, ne_eq, not_false_eq_true, not_true_eq_false, forall_const, true_implies, false_implies, Nat.add_zero, Nat.zero_add, Nat.le_refl, Nat.zero_le, List.set_cons_zero, List.set_cons_succ, List.set_nil, ↓reduceIte, Nat.reduceAdd, Nat.reduceSub, Nat.reduceEqDiff, Nat.reduceLeDiff, Int.reduceEq, Int.reduceNe, Int.reduceNeg, reduceCtorEq, kd190]
  refine m_nought (t := 6) B1.fz (by omega) fun N2 t1 t2 t3 => ?_
  have z2 : Fz N2 := B1.fz.of fun b i v e => by
    by_cases q : b = 204
    · rw [q, fz_arr (Or.inl rfl)] at e; cases e
    · rw [t1 b q]
  have B2 : MB f g N2 := B1.fx z2 (t1 _ (by decide)) (t1 _ (by decide)) (t1 _ (by decide))
  have W5 : WK N1 204 5 (nsm ad z 1 x).1 := fun j hj => by
    rw [nsm_one hG.1]; exact (s1.2.1 j hj).trans (wa j hj)
  have W6 : WK N2 204 6 (nsm ad z 0 x).1 := fun j hj => by
    rw [t2 j hj]; exact (wkD_z hp hG.2.2.1 j).symm
  simp only [bk199_0, bk199_15, bk199_22, bk199_33, bk199_42, bk199_60, U_aload_n, U_iconst, U_iload_n, U_invokevirtual2, U_bipush, U_invokevirtual1, U_lload_n, U_lstore, U_lload, U_lconst, U_lcmp, U_if_le, U_ldc2_w, U_lrem, U_if_ne, U_invokevirtual3, U_ldiv, U_goto, U_return, UN_cc, UN_cn, UN_nc, UN_nn, UJ, lget, lset, lset2, entL, wsm, wcat, Option.toList_some, Option.toList_none, List.cons_append, List.nil_append, List.mem_cons, List.not_mem_nil, Prod.mk.injEq, or_false, false_or, or_true, true_or, and_true, true_and, and_false, false_and, and_self, ne_eq, not_false_eq_true, not_true_eq_false, forall_const, true_implies, false_implies, Nat.add_zero, Nat.zero_add, Nat.le_refl, Nat.zero_le, List.set_cons_zero, List.set_cons_succ, List.set_nil, ↓reduceIte, Nat.reduceAdd, Nat.reduceSub, Nat.reduceEqDiff, Nat.reduceLeDiff, Int.reduceEq, Int.reduceNe, Int.reduceNeg, reduceCtorEq]
  refine l_mTimes (N := N) (to := to) (ka := ka) (n := n) hG hcv hn (fun N3 v u1 u2 u3 u4 => ?_) n n 1 0 N2 (Nat.le_refl _) (by omega) (Nat.le_refl _) B2 (fun b b1 b2 b3 => by rw [t1 b b3, s1.1 b b3]) (W5.keep (t := 6) (by omega) t3) W6 (fun i hi => by rw [t3 i (by omega), s1.2.2 i (by omega)])
  refine WP.run [] [] 60 ?_
  simp only [bk199_0, bk199_15, bk199_22, bk199_33, bk199_42, bk199_60, U_aload_n, U_iconst, U_iload_n, U_invokevirtual2, U_bipush, U_invokevirtual1, U_lload_n, U_lstore, U_lload, U_lconst, U_lcmp, U_if_le, U_ldc2_w, U_lrem, U_if_ne, U_invokevirtual3, U_ldiv, U_goto, U_return, UN_cc, UN_cn, UN_nc, UN_nn, UJ, lget, lset, lset2, entL, wsm, wcat, Option.toList_some, Option.toList_none, List.cons_append, List.nil_append, List.mem_cons, List.not_mem_nil, Prod.mk.injEq, or_false, false_or, or_true, true_or, and_true, true_and, and_false, false_and, and_self, ne_eq, not_false_eq_true, not_true_eq_false, forall_const, true_implies, false_implies, Nat.add_zero, Nat.zero_add, Nat.le_refl, Nat.zero_le, List.set_cons_zero, List.set_cons_succ, List.set_nil, ↓reduceIte, Nat.reduceAdd, Nat.reduceSub, Nat.reduceEqDiff, Nat.reduceLeDiff, Int.reduceEq, Int.reduceNe, Int.reduceNeg, reduceCtorEq, kd190]
  refine m_copyWork (t := to) (a := 6) u1.fz hto (by omega) (by omega) fun N4 w => ?_
  simp only [bk199_0, bk199_15, bk199_22, bk199_33, bk199_42, bk199_60, U_aload_n, U_iconst, U_iload_n, U_invokevirtual2, U_bipush, U_invokevirtual1, U_lload_n, U_lstore, U_lload, U_lconst, U_lcmp, U_if_le, U_ldc2_w, U_lrem, U_if_ne, U_invokevirtual3, U_ldiv, U_goto, U_return, UN_cc, UN_cn, UN_nc, UN_nn, UJ, lget, lset, lset2, entL, wsm, wcat, Option.toList_some, Option.toList_none, List.cons_append, List.nil_append, List.mem_cons, List.not_mem_nil, Prod.mk.injEq, or_false, false_or, or_true, true_or, and_true, true_and, and_false, false_and, and_self, ne_eq, not_false_eq_true, not_true_eq_false, forall_const, true_implies, false_implies, Nat.add_zero, Nat.zero_add, Nat.le_refl, Nat.zero_le, List.set_cons_zero, List.set_cons_succ, List.set_nil, ↓reduceIte, Nat.reduceAdd, Nat.reduceSub, Nat.reduceEqDiff, Nat.reduceLeDiff, Int.reduceEq, Int.reduceNe, Int.reduceNeg, reduceCtorEq]
  refine hQ N4 (w.mb u1) (fun b b1 b2 b3 => by rw [w.1 b b3, u2 b b1 b2 b3]) (fun j hj => (w.2.1 j hj).trans (u3 j hj)) (fun i i1 i2 => by rw [w.2.2 i i2, u4 i i1])
