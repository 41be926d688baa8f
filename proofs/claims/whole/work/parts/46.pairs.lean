/-! PAIRS IN CELLS: nought, copies, likeness, points, turning about -/
theorem band_1 {x : Int} (h0 : 0 ≤ x) (h1 : x < 2147483648) : band x 1 = x % 2 := by
  have e : (BitVec.ofInt 32 x &&& BitVec.ofInt 32 1).toNat = x.toNat % 2 := by
    rw [BitVec.toNat_and, BitVec.toNat_ofInt, BitVec.toNat_ofInt]
    have e1 : (x % ((2 ^ 32 : Nat) : Int)).toNat = x.toNat := by
      rw [Int.emod_eq_of_lt h0 (by show x < 4294967296; omega)]
    have e2 : ((1 : Int) % ((2 ^ 32 : Nat) : Int)).toNat = 1 := by decide
    rw [e1, e2, Nat.and_one_is_mod]
  unfold band
  show (Int32.ofInt x &&& Int32.ofInt 1).toBitVec.toInt = _
  rw [Int32.toBitVec_and, Int32.toBitVec_ofInt, Int32.toBitVec_ofInt, BitVec.toInt_eq_toNat_of_lt (by rw [e]; omega), e]
  omega
/-- a pair object holds a class -/
def PH {p : Int} (ρ : Int → Option (Pz p)) (q : Int) (a : Pz p × Pz p) : Prop := ρ (q + 1) = some a.1 ∧ ρ (q + 3) = some a.2
theorem pr_ne {N : Mem} (h : Fz N) {q r : Int} (hq : KD q = 16) (hr : KD r = 16) (hn : q ≠ r) : q + 1 ≠ r + 1 ∧ q + 1 ≠ r + 3 ∧ q + 3 ≠ r + 1 ∧ q + 3 ≠ r + 3 := by
  have h1 := (zpr h hq).2.2.2.2.2
  have h2 := (zpr h hr).2.2.2.2.2
  refine ⟨by omega, fun e => ?_, fun e => ?_, by omega⟩
  · rw [show q = r + 2 by omega, h2] at hq; omega
  · rw [show r = q + 2 by omega, h1] at hr; omega
theorem PH.upq2 {p : Int} {N : Mem} {ρ : Int → Option (Pz p)} {q r : Int} {a : Pz p × Pz p} {x y : Pz p} (h : PH ρ r a) (hz : Fz N) (hq : KD q = 16) (hr : KD r = 16) (hn : q ≠ r) : PH (upq (upq ρ (q + 1) x) (q + 3) y) r a := by
  obtain ⟨n1, n2, n3, n4⟩ := pr_ne hz hq hr hn
  exact ⟨by rw [upq_n n3.symm, upq_n n1.symm]; exact h.1, by rw [upq_n n4.symm, upq_n n2.symm]; exact h.2⟩
set_option maxHeartbeats 8000000 in
theorem s_makeNought {p : Int} {N : Mem} {ρ : Int → Option (Pz p)} {Q : Post} {q : Int} (h : ST p N ρ) (hq : KD q = 16) (hQ : ∀ N', ST p N' (upq (upq ρ (q + 1) (pC p 1)) (q + 3) (pC p 0)) → FR N N' → Q none NN N') : CL 8 [(2, q)] NN N Q := by
  obtain ⟨z1, z2, ku, kv, l, -⟩ := zpr h.1.1 hq
  have n1 : ¬ q + 1 = 0 := by omega
  have n3 : ¬ q + 3 = 0 := by omega
  refine WP.run [] [] 60 ?_
  simp only [bk8_0, U_aload_n, U_getfield, U_invokevirtual0, U_return, UN_cc, UN_cn, UN_nc, UN_nn, UJ, lget, lset, lset2, entL, wsm, wcat, Option.toList_some, Option.toList_none, List.cons_append, List.nil_append, List.mem_cons, List.not_mem_nil, Prod.mk.injEq, or_false, false_or, or_true, true_or, and_true, true_and, and_false, false_and, and_self, ne_eq, not_false_eq_true, not_true_eq_false, forall_const, true_implies, false_implies, Nat.add_zero, Nat.zero_add, Nat.le_refl, Nat.zero_le, ↓reduceIte, Nat.reduceAdd, Nat.reduceSub, Nat.reduceEqDiff, Nat.reduceLeDiff, Int.reduceEq, Int.reduceNe, Int.reduceNeg, reduceCtorEq, kd_of hq (by decide), kd_of ku (by decide), z1, n1]
  refine s_makeOne h ku fun N1 h1 f1 => ?_
  simp only [bk8_0, U_aload_n, U_getfield, U_invokevirtual0, U_return, UN_cc, UN_cn, UN_nc, UN_nn, UJ, lget, lset, lset2, entL, wsm, wcat, Option.toList_some, Option.toList_none, List.cons_append, List.nil_append, List.mem_cons, List.not_mem_nil, Prod.mk.injEq, or_false, false_or, or_true, true_or, and_true, true_and, and_false, false_and, and_self, ne_eq, not_false_eq_true, not_true_eq_false, forall_const, true_implies, false_implies, Nat.add_zero, Nat.zero_add, Nat.le_refl, Nat.zero_le, ↓reduceIte, Nat.reduceAdd, Nat.reduceSub, Nat.reduceEqDiff, Nat.reduceLeDiff, Int.reduceEq, Int.reduceNe, Int.reduceNeg, reduceCtorEq, kd_of hq (by decide), kd_of kv (by decide), (zpr h1.1.1 hq).2.1, n3]
  refine s_clear h1 kv fun N2 h2 f2 => ?_
  simp only [bk8_0, U_aload_n, U_getfield, U_invokevirtual0, U_return, UN_cc, UN_cn, UN_nc, UN_nn, UJ, lget, lset, lset2, entL, wsm, wcat, Option.toList_some, Option.toList_none, List.cons_append, List.nil_append, List.mem_cons, List.not_mem_nil, Prod.mk.injEq, or_false, false_or, or_true, true_or, and_true, true_and, and_false, false_and, and_self, ne_eq, not_false_eq_true, not_true_eq_false, forall_const, true_implies, false_implies, Nat.add_zero, Nat.zero_add, Nat.le_refl, Nat.zero_le, ↓reduceIte, Nat.reduceAdd, Nat.reduceSub, Nat.reduceEqDiff, Nat.reduceLeDiff, Int.reduceEq, Int.reduceNe, Int.reduceNeg, reduceCtorEq]
  exact hQ N2 h2 (f1.tr f2)
set_option maxHeartbeats 8000000 in
theorem s_pairCopy {p : Int} {N : Mem} {ρ : Int → Option (Pz p)} {Q : Post} {q r : Int} {a : Pz p × Pz p} (h : ST p N ρ) (hq : KD q = 16) (hr : KD r = 16) (hn : q ≠ r) (ha : PH ρ r a) (hQ : ∀ N', ST p N' (upq (upq ρ (q + 1) a.1) (q + 3) a.2) → FR N N' → Q none NN N') : CL 27 [(2, q), (2, r)] NN N Q := by
  obtain ⟨z1, z2, ku, kv, l, -⟩ := zpr h.1.1 hq
  obtain ⟨y1, y2, mu, mv, m, -⟩ := zpr h.1.1 hr
  obtain ⟨e1, e2, e3, e4⟩ := pr_ne h.1.1 hq hr hn
  have n1 : ¬ q + 1 = 0 := by omega
  have n3 : ¬ q + 3 = 0 := by omega
  have m1 : ¬ r + 1 = 0 := by omega
  have m3 : ¬ r + 3 = 0 := by omega
  refine WP.run [] [] 60 ?_
  simp only [bk27_0, U_aload_n, U_getfield, U_invokevirtual1, U_return, UN_cc, UN_cn, UN_nc, UN_nn, UJ, lget, lset, lset2, entL, wsm, wcat, Option.toList_some, Option.toList_none, List.cons_append, List.nil_append, List.mem_cons, List.not_mem_nil, Prod.mk.injEq, or_false, false_or, or_true, true_or, and_true, true_and, and_false, false_and, and_self, ne_eq, not_false_eq_true, not_true_eq_false, forall_const, true_implies, false_implies, Nat.add_zero, Nat.zero_add, Nat.le_refl, Nat.zero_le, ↓reduceIte, Nat.reduceAdd, Nat.reduceSub, Nat.reduceEqDiff, Nat.reduceLeDiff, Int.reduceEq, Int.reduceNe, Int.reduceNeg, reduceCtorEq, kd_of hq (by decide), kd_of hr (by decide), kd_of ku (by decide), z1, y1, n1, m1]
  refine s_copy h ku mu e1 ha.1 fun N1 h1 f1 => ?_
  simp only [bk27_0, U_aload_n, U_getfield, U_invokevirtual1, U_return, UN_cc, UN_cn, UN_nc, UN_nn, UJ, lget, lset, lset2, entL, wsm, wcat, Option.toList_some, Option.toList_none, List.cons_append, List.nil_append, List.mem_cons, List.not_mem_nil, Prod.mk.injEq, or_false, false_or, or_true, true_or, and_true, true_and, and_false, false_and, and_self, ne_eq, not_false_eq_true, not_true_eq_false, forall_const, true_implies, false_implies, Nat.add_zero, Nat.zero_add, Nat.le_refl, Nat.zero_le, ↓reduceIte, Nat.reduceAdd, Nat.reduceSub, Nat.reduceEqDiff, Nat.reduceLeDiff, Int.reduceEq, Int.reduceNe, Int.reduceNeg, reduceCtorEq, kd_of hq (by decide), kd_of hr (by decide), kd_of kv (by decide), (zpr h1.1.1 hq).2.1, (zpr h1.1.1 hr).2.1, n3, m3]
  refine s_copy h1 kv mv e4 (a := a.2) ((upq_n (fun e => e2 e.symm)).trans ha.2) fun N2 h2 f2 => ?_
  simp only [bk27_0, U_aload_n, U_getfield, U_invokevirtual1, U_return, UN_cc, UN_cn, UN_nc, UN_nn, UJ, lget, lset, lset2, entL, wsm, wcat, Option.toList_some, Option.toList_none, List.cons_append, List.nil_append, List.mem_cons, List.not_mem_nil, Prod.mk.injEq, or_false, false_or, or_true, true_or, and_true, true_and, and_false, false_and, and_self, ne_eq, not_false_eq_true, not_true_eq_false, forall_const, true_implies, false_implies, Nat.add_zero, Nat.zero_add, Nat.le_refl, Nat.zero_le, ↓reduceIte, Nat.reduceAdd, Nat.reduceSub, Nat.reduceEqDiff, Nat.reduceLeDiff, Int.reduceEq, Int.reduceNe, Int.reduceNeg, reduceCtorEq]
  exact hQ N2 h2 (f1.tr f2)
set_option maxHeartbeats 8000000 in
theorem s_isNought {p : Int} {N : Mem} {ρ : Int → Option (Pz p)} {Q : Post} {q : Int} {a : Pz p × Pz p} (h : ST p N ρ) (hq : KD q = 16) (ha : PH ρ q a) (h1 : dg a.1 = 1 → Q (some (0, 1)) NN N) (h0 : dg a.1 ≠ 1 → Q (some (0, 0)) NN N) : CL 29 [(2, q)] NN N Q := by
  obtain ⟨z1, z2, ku, kv, l, -⟩ := zpr h.1.1 hq
  have n1 : ¬ q + 1 = 0 := by omega
  have hu := h.rp ku ha.1
  have d8 := hu.2.2.1
  refine WP.run [] [] 60 ?_
  simp only [bk29_0, bk29_10, bk29_14, bk29_15, U_aload_n, U_getfield, U_if_ne, U_iconst, U_goto, U_ireturn, UN_cc, UN_cn, UN_nc, UN_nn, UJ, lget, lset, lset2, entL, wsm, wcat, Option.toList_some, Option.toList_none, List.cons_append, List.nil_append, List.mem_cons, List.not_mem_nil, Prod.mk.injEq, or_false, false_or, or_true, true_or, and_true, true_and, and_false, false_and, and_self, ne_eq, not_false_eq_true, not_true_eq_false, forall_const, true_implies, false_implies, Nat.add_zero, Nat.zero_add, Nat.le_refl, Nat.zero_le, ↓reduceIte, Nat.reduceAdd, Nat.reduceSub, Nat.reduceEqDiff, Nat.reduceLeDiff, Int.reduceEq, Int.reduceNe, Int.reduceNeg, reduceCtorEq, kd_of hq (by decide), kd_of ku (by decide), z1, n1, hu.2.2.2]
  refine ⟨r3 (by omega), fun e => ?_, fun e => ?_⟩
  · simpa using h1 (by omega)
  · simpa using h0 (by omega)
set_option maxHeartbeats 8000000 in
theorem s_pairLike {p : Int} {N : Mem} {ρ : Int → Option (Pz p)} {Q : Post} {q r : Int} {a b : Pz p × Pz p} (h : ST p N ρ) (hq : KD q = 16) (hr : KD r = 16) (ha : PH ρ q a) (hb : PH ρ r b) (h1 : a = b → Q (some (0, 1)) NN N) (h0 : a ≠ b → Q (some (0, 0)) NN N) : CL 32 [(2, q), (2, r)] NN N Q := by
  obtain ⟨z1, z2, ku, kv, l, -⟩ := zpr h.1.1 hq
  obtain ⟨y1, y2, mu, mv, m, -⟩ := zpr h.1.1 hr
  have n1 : ¬ q + 1 = 0 := by omega
  have n3 : ¬ q + 3 = 0 := by omega
  have m1 : ¬ r + 1 = 0 := by omega
  have m3 : ¬ r + 3 = 0 := by omega
  refine WP.run [] [] 60 ?_
  simp only [bk32_0, bk32_14, bk32_28, bk32_32, bk32_33, U_aload_n, U_getfield, U_invokevirtual1, U_if_eq, U_iconst, U_goto, U_ireturn, UN_cc, UN_cn, UN_nc, UN_nn, UJ, lget, lset, lset2, entL, wsm, wcat, Option.toList_some, Option.toList_none, List.cons_append, List.nil_append, List.mem_cons, List.not_mem_nil, Prod.mk.injEq, or_false, false_or, or_true, true_or, and_true, true_and, and_false, false_and, and_self, ne_eq, not_false_eq_true, not_true_eq_false, forall_const, true_implies, false_implies, Nat.add_zero, Nat.zero_add, Nat.le_refl, Nat.zero_le, ↓reduceIte, Nat.reduceAdd, Nat.reduceSub, Nat.reduceEqDiff, Nat.reduceLeDiff, Int.reduceEq, Int.reduceNe, Int.reduceNeg, reduceCtorEq, kd_of hq (by decide), kd_of hr (by decide), kd_of ku (by decide), z1, y1, n1, m1]
  refine c_like h.1.2.1 (h.rp ku ha.1) (h.rp mu hb.1) (fun e => ?_) (fun e => ?_)
  · simp only [bk32_0, bk32_14, bk32_28, bk32_32, bk32_33, U_aload_n, U_getfield, U_invokevirtual1, U_if_eq, U_iconst, U_goto, U_ireturn, UN_cc, UN_cn, UN_nc, UN_nn, UJ, lget, lset, lset2, entL, wsm, wcat, Option.toList_some, Option.toList_none, List.cons_append, List.nil_append, List.mem_cons, List.not_mem_nil, Prod.mk.injEq, or_false, false_or, or_true, true_or, and_true, true_and, and_false, false_and, and_self, ne_eq, not_false_eq_true, not_true_eq_false, forall_const, true_implies, false_implies, Nat.add_zero, Nat.zero_add, Nat.le_refl, Nat.zero_le, ↓reduceIte, Nat.reduceAdd, Nat.reduceSub, Nat.reduceEqDiff, Nat.reduceLeDiff, Int.reduceEq, Int.reduceNe, Int.reduceNeg, reduceCtorEq, kd_of hq (by decide), kd_of hr (by decide), kd_of kv (by decide), z2, y2, n3, m3]
    refine ⟨r3 (by omega), ?_⟩
    refine c_like h.1.2.1 (h.rp kv ha.2) (h.rp mv hb.2) (fun e2 => ?_) (fun e2 => ?_)
    · simp only [bk32_0, bk32_14, bk32_28, bk32_32, bk32_33, U_aload_n, U_getfield, U_invokevirtual1, U_if_eq, U_iconst, U_goto, U_ireturn, UN_cc, UN_cn, UN_nc, UN_nn, UJ, lget, lset, lset2, entL, wsm, wcat, Option.toList_some, Option.toList_none, List.cons_append, List.nil_append, List.mem_cons, List.not_mem_nil, Prod.mk.injEq, or_false, false_or, or_true, true_or, and_true, true_and, and_false, false_and, and_self, ne_eq, not_false_eq_true, not_true_eq_false, forall_const, true_implies, false_implies, Nat.add_zero, Nat.zero_add, Nat.le_refl, Nat.zero_le, ↓reduceIte, Nat.reduceAdd, Nat.reduceSub, Nat.reduceEqDiff, Nat.reduceLeDiff, Int.reduceEq, Int.reduceNe, Int.reduceNeg, reduceCtorEq]
      exact ⟨r3 (by omega), h1 (Prod.ext e e2)⟩
    · simp only [bk32_0, bk32_14, bk32_28, bk32_32, bk32_33, U_aload_n, U_getfield, U_invokevirtual1, U_if_eq, U_iconst, U_goto, U_ireturn, UN_cc, UN_cn, UN_nc, UN_nn, UJ, lget, lset, lset2, entL, wsm, wcat, Option.toList_some, Option.toList_none, List.cons_append, List.nil_append, List.mem_cons, List.not_mem_nil, Prod.mk.injEq, or_false, false_or, or_true, true_or, and_true, true_and, and_false, false_and, and_self, ne_eq, not_false_eq_true, not_true_eq_false, forall_const, true_implies, false_implies, Nat.add_zero, Nat.zero_add, Nat.le_refl, Nat.zero_le, ↓reduceIte, Nat.reduceAdd, Nat.reduceSub, Nat.reduceEqDiff, Nat.reduceLeDiff, Int.reduceEq, Int.reduceNe, Int.reduceNeg, reduceCtorEq]
      exact ⟨r3 (by omega), h0 (fun e3 => e2 (by rw [e3]))⟩
  · simp only [bk32_0, bk32_14, bk32_28, bk32_32, bk32_33, U_aload_n, U_getfield, U_invokevirtual1, U_if_eq, U_iconst, U_goto, U_ireturn, UN_cc, UN_cn, UN_nc, UN_nn, UJ, lget, lset, lset2, entL, wsm, wcat, Option.toList_some, Option.toList_none, List.cons_append, List.nil_append, List.mem_cons, List.not_mem_nil, Prod.mk.injEq, or_false, false_or, or_true, true_or, and_true, true_and, and_false, false_and, and_self, ne_eq, not_false_eq_true, not_true_eq_false, forall_const, true_implies, false_implies, Nat.add_zero, Nat.zero_add, Nat.le_refl, Nat.zero_le, ↓reduceIte, Nat.reduceAdd, Nat.reduceSub, Nat.reduceEqDiff, Nat.reduceLeDiff, Int.reduceEq, Int.reduceNe, Int.reduceNeg, reduceCtorEq]
    exact ⟨r3 (by omega), h0 (fun e3 => e (by rw [e3]))⟩
set_option maxHeartbeats 8000000 in
theorem s_turnAbout {p : Int} {N : Mem} {ρ : Int → Option (Pz p)} {Q : Post} {q : Int} {a : Pz p × Pz p} (h : ST p N ρ) (hq : KD q = 16) (ha : PH ρ q a) (hQ : ∀ N', ST p N' (upq ρ (q + 3) (pneg a.2)) → FR N N' → Q none NN N') : CL 15 [(2, 32), (2, q)] NN N Q := by
  obtain ⟨z1, z2, ku, kv, l, -⟩ := zpr h.1.1 hq
  have n3 : ¬ q + 3 = 0 := by omega
  refine WP.run [] [] 60 ?_
  simp only [bk15_0, U_aload_n, U_getfield, U_iconst, U_invokevirtual2, U_return, UN_cc, UN_cn, UN_nc, UN_nn, UJ, lget, lset, lset2, entL, wsm, wcat, Option.toList_some, Option.toList_none, List.cons_append, List.nil_append, List.mem_cons, List.not_mem_nil, Prod.mk.injEq, or_false, false_or, or_true, true_or, and_true, true_and, and_false, false_and, and_self, ne_eq, not_false_eq_true, not_true_eq_false, forall_const, true_implies, false_implies, Nat.add_zero, Nat.zero_add, Nat.le_refl, Nat.zero_le, ↓reduceIte, Nat.reduceAdd, Nat.reduceSub, Nat.reduceEqDiff, Nat.reduceLeDiff, Int.reduceEq, Int.reduceNe, Int.reduceNeg, reduceCtorEq, kd2, kd21, kd22, kd32, kd33, kd35, kd37, kd39, kd41, kd43, kd45, z32_0 h.1.1, kd_of hq (by decide), z2, n3]
  refine s_scale h kv ha.2 (by omega) fun N1 h1 f1 => ?_
  simp only [bk15_0, U_aload_n, U_getfield, U_iconst, U_invokevirtual2, U_return, UN_cc, UN_cn, UN_nc, UN_nn, UJ, lget, lset, lset2, entL, wsm, wcat, Option.toList_some, Option.toList_none, List.cons_append, List.nil_append, List.mem_cons, List.not_mem_nil, Prod.mk.injEq, or_false, false_or, or_true, true_or, and_true, true_and, and_false, false_and, and_self, ne_eq, not_false_eq_true, not_true_eq_false, forall_const, true_implies, false_implies, Nat.add_zero, Nat.zero_add, Nat.le_refl, Nat.zero_le, ↓reduceIte, Nat.reduceAdd, Nat.reduceSub, Nat.reduceEqDiff, Nat.reduceLeDiff, Int.reduceEq, Int.reduceNe, Int.reduceNeg, reduceCtorEq]
  have e : pmul (pC p (-1)) a.2 = pneg a.2 := by rw [pC_neg, pneg_mul, pC_one_mul]
  rw [e] at h1
  exact hQ N1 h1 f1
