/-! THE MODEL'S ROWS: products -/
set_option maxHeartbeats 8000000 in
theorem l_mCp {p : Int} {N : Mem} {μ : Int → Option (Pz p)} {Q : Post} {a b t : Int} {d : Nat} {R : Pz p} (h0 : 0 ≤ t) (h1 : t < 39) (hd : d ≤ 24) (hQ : ∀ y x z Ni, MT p Ni (fgt μ t) → PF N Ni → (∀ j : Nat, j < d → Ni 198 (24 * t + (j : Int)) = R.1 j) → WP 167 (0, 0) 152 [(2, 190), (0, t), (0, a), (0, b), (0, (d : Int) - 1), y, x, z] [] NN Ni Q) : ∀ (n k : Nat) (Ni : Mem) (x z : V), k + n = d → MT p Ni (fgt μ t) → PF N Ni → (∀ j : Nat, j < k → Ni 198 (24 * t + (j : Int)) = R.1 j) → (∀ j : Nat, j < d → Ni 198 (936 + (j : Int)) = R.1 j) → WP 167 (0, 0) 116 [(2, 190), (0, t), (0, a), (0, b), (0, (d : Int) - 1), (0, (k : Int)), x, z] [] NN Ni Q := by
  intro n
  induction n with
  | zero =>
    intro k Ni x z hk hS hF hI hJ
    refine WP.run [(167, 116), (167, 152)] [] 40 ?_
    simp only [bk167_0, bk167_9, bk167_18, bk167_22, bk167_35, bk167_40, bk167_47, bk167_53, bk167_60, bk167_89, bk167_113, bk167_116, bk167_123, bk167_152, U_aload_n, U_getfield, U_iload_n, U_iald, U_if_lt, U_if_ge, U_iconst, U_goto, U_iadd, U_istore, U_iload, U_icmp_gt, U_invokevirtual2, U_isub, U_imul, U_iinc, U_sipush, U_irem, U_iast, U_bipush, U_return, UN_cc, UN_cn, UN_nc, UN_nn, UJ, lget, lset, lset2, entL, wsm, wcat, Option.toList_some, Option.toList_none, List.cons_append, List.nil_append, List.mem_cons, List.not_mem_nil, Prod.mk.injEq, or_false, false_or, or_true, true_or, and_true, true_and, and_false, false_and, and_self, ne_eq, not_false_eq_true, not_true_eq_false, forall_const, true_implies, false_implies, Nat.add_zero, Nat.zero_add, Nat.le_refl, Nat.zero_le, List.set_cons_zero, List.set_cons_succ, List.set_nil, ↓reduceIte, Nat.reduceAdd, Nat.reduceSub, Nat.reduceEqDiff, Nat.reduceLeDiff, Int.reduceEq, Int.reduceNe, Int.reduceNeg, reduceCtorEq]
    exact ⟨rr (by omega), fun _ => hQ _ _ _ Ni hS hF (fun j hj => hI j (by omega)), fun e => absurd (by omega) e⟩
  | succ n ih =>
    intro k Ni x z hk hS hF hI hJ
    have e := hJ k (by omega)
    refine WP.run [(167, 116), (167, 152)] [] 40 ?_
    simp only [bk167_0, bk167_9, bk167_18, bk167_22, bk167_35, bk167_40, bk167_47, bk167_53, bk167_60, bk167_89, bk167_113, bk167_116, bk167_123, bk167_152, U_aload_n, U_getfield, U_iload_n, U_iald, U_if_lt, U_if_ge, U_iconst, U_goto, U_iadd, U_istore, U_iload, U_icmp_gt, U_invokevirtual2, U_isub, U_imul, U_iinc, U_sipush, U_irem, U_iast, U_bipush, U_return, UN_cc, UN_cn, UN_nc, UN_nn, UJ, lget, lset, lset2, entL, wsm, wcat, Option.toList_some, Option.toList_none, List.cons_append, List.nil_append, List.mem_cons, List.not_mem_nil, Prod.mk.injEq, or_false, false_or, or_true, true_or, and_true, true_and, and_false, false_and, and_self, ne_eq, not_false_eq_true, not_true_eq_false, forall_const, true_implies, false_implies, Nat.add_zero, Nat.zero_add, Nat.le_refl, Nat.zero_le, List.set_cons_zero, List.set_cons_succ, List.set_nil, ↓reduceIte, Nat.reduceAdd, Nat.reduceSub, Nat.reduceEqDiff, Nat.reduceLeDiff, Int.reduceEq, Int.reduceNe, Int.reduceNeg, reduceCtorEq, kd190, kd198, ln198, z190_12 hS.1, e]
    refine ⟨rr (by omega), fun e => absurd e (by omega), fun _ => ⟨by omega, by omega, by omega, by omega, ?_⟩⟩
    refine ih (k + 1) _ _ _ (by omega) (hS.us (a := t) (k := (k : Int)) (fgt_e μ t) (by omega) (by omega) rfl) (hF.tr (PF.us _ _ _)) (fun j hj => ?_) (fun j hj => ?_)
    · rw [ust_at]
      by_cases c : j = k
      · rw [if_pos (by omega), c]
      · rw [if_neg (by omega)]; exact hI j (by omega)
    · rw [ust_at, if_neg (by omega)]; exact hJ j hj
set_option maxHeartbeats 8000000 in
theorem l_mIn {p : Int} {μ : Int → Option (Pz p)} {Q : Post} {a b t dd : Int} {k : Nat} {A B : Pz p} {N : Mem} (hS : MT p N μ) (hk24 : k < 24) (ha : μ a = some A) (hb : μ b = some B) (hQ : ∀ x, WP 167 (0, 0) 89 [(2, 190), (0, t), (0, a), (0, b), (0, dd), (0, (k : Int)), (0, cv A.1 B.1 k), x] [] NN N Q) : ∀ (n i : Nat), i + n = k + 1 → WP 167 (0, 0) 53 [(2, 190), (0, t), (0, a), (0, b), (0, dd), (0, (k : Int)), (0, sig (fun i => A.1 i * B.1 (k - i)) i), (0, (i : Int))] [] NN N Q := by
  intro n
  induction n with
  | zero =>
    intro i hi
    obtain rfl : i = k + 1 := by omega
    refine WP.run [(167, 53), (167, 89)] [] 40 ?_
    simp only [bk167_0, bk167_9, bk167_18, bk167_22, bk167_35, bk167_40, bk167_47, bk167_53, bk167_60, bk167_89, bk167_113, bk167_116, bk167_123, bk167_152, U_aload_n, U_getfield, U_iload_n, U_iald, U_if_lt, U_if_ge, U_iconst, U_goto, U_iadd, U_istore, U_iload, U_icmp_gt, U_invokevirtual2, U_isub, U_imul, U_iinc, U_sipush, U_irem, U_iast, U_bipush, U_return, UN_cc, UN_cn, UN_nc, UN_nn, UJ, lget, lset, lset2, entL, wsm, wcat, Option.toList_some, Option.toList_none, List.cons_append, List.nil_append, List.mem_cons, List.not_mem_nil, Prod.mk.injEq, or_false, false_or, or_true, true_or, and_true, true_and, and_false, false_and, and_self, ne_eq, not_false_eq_true, not_true_eq_false, forall_const, true_implies, false_implies, Nat.add_zero, Nat.zero_add, Nat.le_refl, Nat.zero_le, List.set_cons_zero, List.set_cons_succ, List.set_nil, ↓reduceIte, Nat.reduceAdd, Nat.reduceSub, Nat.reduceEqDiff, Nat.reduceLeDiff, Int.reduceEq, Int.reduceNe, Int.reduceNeg, reduceCtorEq]
    rw [sig_cv]
    exact ⟨rr (by omega), fun _ => hQ _, fun e => absurd (by omega) e⟩
  | succ n ih =>
    intro i hi
    refine WP.run [(167, 53), (167, 89)] [] 40 ?_
    simp only [bk167_0, bk167_9, bk167_18, bk167_22, bk167_35, bk167_40, bk167_47, bk167_53, bk167_60, bk167_89, bk167_113, bk167_116, bk167_123, bk167_152, U_aload_n, U_getfield, U_iload_n, U_iald, U_if_lt, U_if_ge, U_iconst, U_goto, U_iadd, U_istore, U_iload, U_icmp_gt, U_invokevirtual2, U_isub, U_imul, U_iinc, U_sipush, U_irem, U_iast, U_bipush, U_return, UN_cc, UN_cn, UN_nc, UN_nn, UJ, lget, lset, lset2, entL, wsm, wcat, Option.toList_some, Option.toList_none, List.cons_append, List.nil_append, List.mem_cons, List.not_mem_nil, Prod.mk.injEq, or_false, false_or, or_true, true_or, and_true, true_and, and_false, false_and, and_self, ne_eq, not_false_eq_true, not_true_eq_false, forall_const, true_implies, false_implies, Nat.add_zero, Nat.zero_add, Nat.le_refl, Nat.zero_le, List.set_cons_zero, List.set_cons_succ, List.set_nil, ↓reduceIte, Nat.reduceAdd, Nat.reduceSub, Nat.reduceEqDiff, Nat.reduceLeDiff, Int.reduceEq, Int.reduceNe, Int.reduceNeg, reduceCtorEq, kd190]
    refine ⟨rr (by omega), fun e => absurd e (by omega), fun _ => m_get hS ha (r3 (by omega)) ?_⟩
    rw [if_pos (by omega), Int.toNat_natCast]
    simp only [bk167_0, bk167_9, bk167_18, bk167_22, bk167_35, bk167_40, bk167_47, bk167_53, bk167_60, bk167_89, bk167_113, bk167_116, bk167_123, bk167_152, U_aload_n, U_getfield, U_iload_n, U_iald, U_if_lt, U_if_ge, U_iconst, U_goto, U_iadd, U_istore, U_iload, U_icmp_gt, U_invokevirtual2, U_isub, U_imul, U_iinc, U_sipush, U_irem, U_iast, U_bipush, U_return, UN_cc, UN_cn, UN_nc, UN_nn, UJ, lget, lset, lset2, entL, wsm, wcat, Option.toList_some, Option.toList_none, List.cons_append, List.nil_append, List.mem_cons, List.not_mem_nil, Prod.mk.injEq, or_false, false_or, or_true, true_or, and_true, true_and, and_false, false_and, and_self, ne_eq, not_false_eq_true, not_true_eq_false, forall_const, true_implies, false_implies, Nat.add_zero, Nat.zero_add, Nat.le_refl, Nat.zero_le, List.set_cons_zero, List.set_cons_succ, List.set_nil, ↓reduceIte, Nat.reduceAdd, Nat.reduceSub, Nat.reduceEqDiff, Nat.reduceLeDiff, Int.reduceEq, Int.reduceNe, Int.reduceNeg, reduceCtorEq, kd190]
    refine m_get hS hb (r3 (by omega)) ?_
    rw [if_pos (by omega), show ((k : Int) - (i : Int)).toNat = k - i by omega]
    simp only [bk167_0, bk167_9, bk167_18, bk167_22, bk167_35, bk167_40, bk167_47, bk167_53, bk167_60, bk167_89, bk167_113, bk167_116, bk167_123, bk167_152, U_aload_n, U_getfield, U_iload_n, U_iald, U_if_lt, U_if_ge, U_iconst, U_goto, U_iadd, U_istore, U_iload, U_icmp_gt, U_invokevirtual2, U_isub, U_imul, U_iinc, U_sipush, U_irem, U_iast, U_bipush, U_return, UN_cc, UN_cn, UN_nc, UN_nn, UJ, lget, lset, lset2, entL, wsm, wcat, Option.toList_some, Option.toList_none, List.cons_append, List.nil_append, List.mem_cons, List.not_mem_nil, Prod.mk.injEq, or_false, false_or, or_true, true_or, and_true, true_and, and_false, false_and, and_self, ne_eq, not_false_eq_true, not_true_eq_false, forall_const, true_implies, false_implies, Nat.add_zero, Nat.zero_add, Nat.le_refl, Nat.zero_le, List.set_cons_zero, List.set_cons_succ, List.set_nil, ↓reduceIte, Nat.reduceAdd, Nat.reduceSub, Nat.reduceEqDiff, Nat.reduceLeDiff, Int.reduceEq, Int.reduceNe, Int.reduceNeg, reduceCtorEq, kd190]
    exact ih (i + 1) (by omega)
theorem cv_rg {p : Int} (hp : Pr p) (A B : Pz p) {k : Nat} (hk : k < 24) : 0 ≤ cv A.1 B.1 k ∧ cv A.1 B.1 k ≤ 4056 := by
  have hpp := hp.pos
  rw [← sig_cv]
  have := sig_rg (F := fun i => A.1 i * B.1 (k - i)) (B := 169) (k + 1) (fun i _ => by
    have h1 := pz_rg hp A i
    have h2 := pz_rg hp B (k - i)
    have m0 : 0 ≤ A.1 i * B.1 (k - i) := Int.mul_nonneg h1.1 h2.1
    have m1 := ab_mul (A := 13) (B := 13) (a := A.1 i) (b := B.1 (k - i)) (by omega) (by omega)
    show 0 ≤ A.1 i * B.1 (k - i) ∧ A.1 i * B.1 (k - i) ≤ 169
    omega)
  omega
set_option maxHeartbeats 8000000 in
theorem l_mSum {p : Int} {N : Mem} {μ : Int → Option (Pz p)} {Q : Post} {a b t : Int} {d : Nat} {A B : Pz p} (hd : d ≤ 24) (ha : μ a = some A) (hb : μ b = some B) (hQ : ∀ y x z Ni, MT p Ni μ → PF N Ni → (∀ j : Nat, j < d → Ni 198 (936 + (j : Int)) = (pmul A B).1 j) → WP 167 (0, 0) 113 [(2, 190), (0, t), (0, a), (0, b), (0, (d : Int) - 1), y, x, z] [] NN Ni Q) : ∀ (n k : Nat) (Ni : Mem) (x z : V), k + n = d → MT p Ni μ → PF N Ni → (∀ j : Nat, j < k → Ni 198 (936 + (j : Int)) = (pmul A B).1 j) → WP 167 (0, 0) 40 [(2, 190), (0, t), (0, a), (0, b), (0, (d : Int) - 1), (0, (k : Int)), x, z] [] NN Ni Q := by
  intro n
  induction n with
  | zero =>
    intro k Ni x z hk hS hF hI
    refine WP.run [(167, 40), (167, 113)] [] 40 ?_
    simp only [bk167_0, bk167_9, bk167_18, bk167_22, bk167_35, bk167_40, bk167_47, bk167_53, bk167_60, bk167_89, bk167_113, bk167_116, bk167_123, bk167_152, U_aload_n, U_getfield, U_iload_n, U_iald, U_if_lt, U_if_ge, U_iconst, U_goto, U_iadd, U_istore, U_iload, U_icmp_gt, U_invokevirtual2, U_isub, U_imul, U_iinc, U_sipush, U_irem, U_iast, U_bipush, U_return, UN_cc, UN_cn, UN_nc, UN_nn, UJ, lget, lset, lset2, entL, wsm, wcat, Option.toList_some, Option.toList_none, List.cons_append, List.nil_append, List.mem_cons, List.not_mem_nil, Prod.mk.injEq, or_false, false_or, or_true, true_or, and_true, true_and, and_false, false_and, and_self, ne_eq, not_false_eq_true, not_true_eq_false, forall_const, true_implies, false_implies, Nat.add_zero, Nat.zero_add, Nat.le_refl, Nat.zero_le, List.set_cons_zero, List.set_cons_succ, List.set_nil, ↓reduceIte, Nat.reduceAdd, Nat.reduceSub, Nat.reduceEqDiff, Nat.reduceLeDiff, Int.reduceEq, Int.reduceNe, Int.reduceNeg, reduceCtorEq]
    exact ⟨rr (by omega), fun _ => hQ _ _ _ Ni hS hF (fun j hj => hI j (by omega)), fun e => absurd (by omega) e⟩
  | succ n ih =>
    intro k Ni x z hk hS hF hI
    have hpp := hS.2.1.pos
    have hc := cv_rg hS.2.1 A B (k := k) (by omega)
    refine WP.run [(167, 40), (167, 53), (167, 113)] [] 40 ?_
    simp only [bk167_0, bk167_9, bk167_18, bk167_22, bk167_35, bk167_40, bk167_47, bk167_53, bk167_60, bk167_89, bk167_113, bk167_116, bk167_123, bk167_152, U_aload_n, U_getfield, U_iload_n, U_iald, U_if_lt, U_if_ge, U_iconst, U_goto, U_iadd, U_istore, U_iload, U_icmp_gt, U_invokevirtual2, U_isub, U_imul, U_iinc, U_sipush, U_irem, U_iast, U_bipush, U_return, UN_cc, UN_cn, UN_nc, UN_nn, UJ, lget, lset, lset2, entL, wsm, wcat, Option.toList_some, Option.toList_none, List.cons_append, List.nil_append, List.mem_cons, List.not_mem_nil, Prod.mk.injEq, or_false, false_or, or_true, true_or, and_true, true_and, and_false, false_and, and_self, ne_eq, not_false_eq_true, not_true_eq_false, forall_const, true_implies, false_implies, Nat.add_zero, Nat.zero_add, Nat.le_refl, Nat.zero_le, List.set_cons_zero, List.set_cons_succ, List.set_nil, ↓reduceIte, Nat.reduceAdd, Nat.reduceSub, Nat.reduceEqDiff, Nat.reduceLeDiff, Int.reduceEq, Int.reduceNe, Int.reduceNeg, reduceCtorEq]
    refine ⟨rr (by omega), fun e => absurd e (by omega), fun _ => ?_⟩
    refine l_mIn (A := A) (B := B) hS (by omega) ha hb (fun w => ?_) (k + 1) 0 (by omega)
    refine WP.run [(167, 40)] [] 40 ?_
    simp only [bk167_0, bk167_9, bk167_18, bk167_22, bk167_35, bk167_40, bk167_47, bk167_53, bk167_60, bk167_89, bk167_113, bk167_116, bk167_123, bk167_152, U_aload_n, U_getfield, U_iload_n, U_iald, U_if_lt, U_if_ge, U_iconst, U_goto, U_iadd, U_istore, U_iload, U_icmp_gt, U_invokevirtual2, U_isub, U_imul, U_iinc, U_sipush, U_irem, U_iast, U_bipush, U_return, UN_cc, UN_cn, UN_nc, UN_nn, UJ, lget, lset, lset2, entL, wsm, wcat, Option.toList_some, Option.toList_none, List.cons_append, List.nil_append, List.mem_cons, List.not_mem_nil, Prod.mk.injEq, or_false, false_or, or_true, true_or, and_true, true_and, and_false, false_and, and_self, ne_eq, not_false_eq_true, not_true_eq_false, forall_const, true_implies, false_implies, Nat.add_zero, Nat.zero_add, Nat.le_refl, Nat.zero_le, List.set_cons_zero, List.set_cons_succ, List.set_nil, ↓reduceIte, Nat.reduceAdd, Nat.reduceSub, Nat.reduceEqDiff, Nat.reduceLeDiff, Int.reduceEq, Int.reduceNe, Int.reduceNeg, reduceCtorEq, kd190, kd198, ln198, z190_12 hS.1, hS.2.2.1]
    rw [tm_nn hc.1]
    refine ⟨r3 (by omega), r3 (by omega), by omega, by omega, by omega, ?_⟩
    refine ih (k + 1) _ _ _ (by omega) (hS.us (a := 39) (k := (k : Int)) hS.2.2.2.1 (by omega) (by omega) (by omega)) (hF.tr (PF.us _ _ _)) (fun j hj => ?_)
    rw [ust_at]
    by_cases c : j = k
    · rw [if_pos (by omega), c, pmul_c]
    · rw [if_neg (by omega)]; exact hI j (by omega)
theorem dgm0 {p : Int} {A B : Pz p} (h : dg A = 0) : dg (pmul A B) = 0 := Nat.le_zero.mp (dg_le fun k _ => by rw [pmul_c, cv_zero_l k A.1 B.1 (fun i => dg_far A (by omega))]; exact Int.zero_emod _)
theorem dgm1 {p : Int} {A B : Pz p} (h : dg B = 0) : dg (pmul A B) = 0 := by rw [pmul_comm]; exact dgm0 h
set_option maxHeartbeats 8000000 in
theorem m_mul {p : Int} {N : Mem} {μ : Int → Option (Pz p)} {Q : Post} {a b t : Int} {A B : Pz p} (h : MT p N μ) (h0 : 0 ≤ t) (h1 : t < 39) (ha : μ a = some A) (hb : μ b = some B) (hdd : dg A + dg B ≤ 25) (hQ : ∀ N', MT p N' (upq μ t (pmul A B)) → PF N N' → Q none NN N') : CL 167 [(2, 190), (0, t), (0, a), (0, b), (9, 0), (9, 0), (9, 0), (9, 0)] NN N Q := by
  obtain ⟨p1, p2, p3, p4, p5⟩ := h.2.2.2.2 a A ha
  obtain ⟨q1, q2, q3, q4, q5⟩ := h.2.2.2.2 b B hb
  have hml := dg_mul_le A B
  have go : ∀ (d : Nat) (x y z : V), d ≤ 24 → dg (pmul A B) ≤ d → WP 167 (0, 0) 35 [(2, 190), (0, t), (0, a), (0, b), x, y, z, (9, 0)] [(0, (d : Int) - 1)] NN N Q := fun d x y z d1 d2 => by
    refine WP.run [(167, 40)] [] 40 ?_
    simp only [bk167_0, bk167_9, bk167_18, bk167_22, bk167_35, bk167_40, bk167_47, bk167_53, bk167_60, bk167_89, bk167_113, bk167_116, bk167_123, bk167_152, U_aload_n, U_getfield, U_iload_n, U_iald, U_if_lt, U_if_ge, U_iconst, U_goto, U_iadd, U_istore, U_iload, U_icmp_gt, U_invokevirtual2, U_isub, U_imul, U_iinc, U_sipush, U_irem, U_iast, U_bipush, U_return, UN_cc, UN_cn, UN_nc, UN_nn, UJ, lget, lset, lset2, entL, wsm, wcat, Option.toList_some, Option.toList_none, List.cons_append, List.nil_append, List.mem_cons, List.not_mem_nil, Prod.mk.injEq, or_false, false_or, or_true, true_or, and_true, true_and, and_false, false_and, and_self, ne_eq, not_false_eq_true, not_true_eq_false, forall_const, true_implies, false_implies, Nat.add_zero, Nat.zero_add, Nat.le_refl, Nat.zero_le, List.set_cons_zero, List.set_cons_succ, List.set_nil, ↓reduceIte, Nat.reduceAdd, Nat.reduceSub, Nat.reduceEqDiff, Nat.reduceLeDiff, Int.reduceEq, Int.reduceNe, Int.reduceNeg, reduceCtorEq]
    refine l_mSum (N := N) (A := A) (B := B) d1 ha hb (fun y x z N1 S1 F1 I1 => ?_) d 0 N _ _ (by omega) h (PF.rf N) (fun j hj => by omega)
    refine WP.run [(167, 116)] [] 40 ?_
    simp only [bk167_0, bk167_9, bk167_18, bk167_22, bk167_35, bk167_40, bk167_47, bk167_53, bk167_60, bk167_89, bk167_113, bk167_116, bk167_123, bk167_152, U_aload_n, U_getfield, U_iload_n, U_iald, U_if_lt, U_if_ge, U_iconst, U_goto, U_iadd, U_istore, U_iload, U_icmp_gt, U_invokevirtual2, U_isub, U_imul, U_iinc, U_sipush, U_irem, U_iast, U_bipush, U_return, UN_cc, UN_cn, UN_nc, UN_nn, UJ, lget, lset, lset2, entL, wsm, wcat, Option.toList_some, Option.toList_none, List.cons_append, List.nil_append, List.mem_cons, List.not_mem_nil, Prod.mk.injEq, or_false, false_or, or_true, true_or, and_true, true_and, and_false, false_and, and_self, ne_eq, not_false_eq_true, not_true_eq_false, forall_const, true_implies, false_implies, Nat.add_zero, Nat.zero_add, Nat.le_refl, Nat.zero_le, List.set_cons_zero, List.set_cons_succ, List.set_nil, ↓reduceIte, Nat.reduceAdd, Nat.reduceSub, Nat.reduceEqDiff, Nat.reduceLeDiff, Int.reduceEq, Int.reduceNe, Int.reduceNeg, reduceCtorEq]
    refine l_mCp (N := N) (R := pmul A B) h0 h1 d1 (fun y x z N2 S2 F2 I2 => ?_) d 0 N1 _ _ (by omega) (S1.fg t) F1 (fun j hj => by omega) I1
    refine WP.run [] [] 40 ?_
    simp only [bk167_0, bk167_9, bk167_18, bk167_22, bk167_35, bk167_40, bk167_47, bk167_53, bk167_60, bk167_89, bk167_113, bk167_116, bk167_123, bk167_152, U_aload_n, U_getfield, U_iload_n, U_iald, U_if_lt, U_if_ge, U_iconst, U_goto, U_iadd, U_istore, U_iload, U_icmp_gt, U_invokevirtual2, U_isub, U_imul, U_iinc, U_sipush, U_irem, U_iast, U_bipush, U_return, UN_cc, UN_cn, UN_nc, UN_nn, UJ, lget, lset, lset2, entL, wsm, wcat, Option.toList_some, Option.toList_none, List.cons_append, List.nil_append, List.mem_cons, List.not_mem_nil, Prod.mk.injEq, or_false, false_or, or_true, true_or, and_true, true_and, and_false, false_and, and_self, ne_eq, not_false_eq_true, not_true_eq_false, forall_const, true_implies, false_implies, Nat.add_zero, Nat.zero_add, Nat.le_refl, Nat.zero_le, List.set_cons_zero, List.set_cons_succ, List.set_nil, ↓reduceIte, Nat.reduceAdd, Nat.reduceSub, Nat.reduceEqDiff, Nat.reduceLeDiff, Int.reduceEq, Int.reduceNe, Int.reduceNeg, reduceCtorEq, kd190]
    refine m_trim S2 h0 h1 (by omega) (by omega) (A := pmul A B) (fun k hk => I2 k (by omega)) (fun k hk => dg_far _ (by omega)) fun N3 S3 F3 _ => ?_
    rw [upq_fgt] at S3
    simp only [bk167_0, bk167_9, bk167_18, bk167_22, bk167_35, bk167_40, bk167_47, bk167_53, bk167_60, bk167_89, bk167_113, bk167_116, bk167_123, bk167_152, U_aload_n, U_getfield, U_iload_n, U_iald, U_if_lt, U_if_ge, U_iconst, U_goto, U_iadd, U_istore, U_iload, U_icmp_gt, U_invokevirtual2, U_isub, U_imul, U_iinc, U_sipush, U_irem, U_iast, U_bipush, U_return, UN_cc, UN_cn, UN_nc, UN_nn, UJ, lget, lset, lset2, entL, wsm, wcat, Option.toList_some, Option.toList_none, List.cons_append, List.nil_append, List.mem_cons, List.not_mem_nil, Prod.mk.injEq, or_false, false_or, or_true, true_or, and_true, true_and, and_false, false_and, and_self, ne_eq, not_false_eq_true, not_true_eq_false, forall_const, true_implies, false_implies, Nat.add_zero, Nat.zero_add, Nat.le_refl, Nat.zero_le, List.set_cons_zero, List.set_cons_succ, List.set_nil, ↓reduceIte, Nat.reduceAdd, Nat.reduceSub, Nat.reduceEqDiff, Nat.reduceLeDiff, Int.reduceEq, Int.reduceNe, Int.reduceNeg, reduceCtorEq]
    exact hQ N3 S3 (F2.tr F3)
  refine WP.run [(167, 35)] [] 40 ?_
  simp only [bk167_0, bk167_9, bk167_18, bk167_22, bk167_35, bk167_40, bk167_47, bk167_53, bk167_60, bk167_89, bk167_113, bk167_116, bk167_123, bk167_152, U_aload_n, U_getfield, U_iload_n, U_iald, U_if_lt, U_if_ge, U_iconst, U_goto, U_iadd, U_istore, U_iload, U_icmp_gt, U_invokevirtual2, U_isub, U_imul, U_iinc, U_sipush, U_irem, U_iast, U_bipush, U_return, UN_cc, UN_cn, UN_nc, UN_nn, UJ, lget, lset, lset2, entL, wsm, wcat, Option.toList_some, Option.toList_none, List.cons_append, List.nil_append, List.mem_cons, List.not_mem_nil, Prod.mk.injEq, or_false, false_or, or_true, true_or, and_true, true_and, and_false, false_and, and_self, ne_eq, not_false_eq_true, not_true_eq_false, forall_const, true_implies, false_implies, Nat.add_zero, Nat.zero_add, Nat.le_refl, Nat.zero_le, List.set_cons_zero, List.set_cons_succ, List.set_nil, ↓reduceIte, Nat.reduceAdd, Nat.reduceSub, Nat.reduceEqDiff, Nat.reduceLeDiff, Int.reduceEq, Int.reduceNe, Int.reduceNeg, reduceCtorEq, kd190, kd199, ln199, z190_13 h.1, p4, q4]
  have z : dg (pmul A B) ≤ 0 → WP 167 (0, 0) 35 [(2, 190), (0, t), (0, a), (0, b), (9, 0), (9, 0), (9, 0), (9, 0)] [(0, -1)] NN N Q := fun e => go 0 (9, 0) (9, 0) (9, 0) (by omega) e
  refine ⟨p1, p2, r3 (by omega), fun e => z (by rw [dgm0 (by omega)]; omega), fun e => ⟨q1, q2, r3 (by omega), fun e2 => z (by rw [dgm1 (by omega)]; omega), fun e2 => ⟨p1, p2, q1, q2, ?_⟩⟩⟩
  rw [show (dg A : Int) - 1 + ((dg B : Int) - 1) = ((dg A + dg B - 1 : Nat) : Int) - 1 by omega]
  exact go (dg A + dg B - 1) _ _ _ (by omega) (by omega)
set_option maxHeartbeats 8000000 in
theorem l_mScale {p : Int} {N : Mem} {μ : Int → Option (Pz p)} {Q : Post} {a c : Int} {A : Pz p} (h0 : 0 ≤ a) (h1 : a < 39) (ha : μ a = some A) (hc : -1000 ≤ c ∧ c ≤ 1000) (hQ : ∀ y Ni, MT p Ni (fgt μ a) → PF N Ni → Ni 199 a = (dg A : Int) - 1 → (∀ j : Nat, j < dg A → Ni 198 (24 * a + (j : Int)) = (pmul (pC p c) A).1 j) → WP 168 (0, 0) 46 [(2, 190), (0, a), (0, c), y] [] NN Ni Q) : ∀ (n k : Nat) (Ni : Mem), k + n = dg A → MT p Ni (fgt μ a) → PF N Ni → dg A ≤ 24 → Ni 199 a = (dg A : Int) - 1 → (∀ j : Nat, j < k → Ni 198 (24 * a + (j : Int)) = (pmul (pC p c) A).1 j) → (∀ j : Nat, k ≤ j → j < dg A → Ni 198 (24 * a + (j : Int)) = A.1 j) → WP 168 (0, 0) 2 [(2, 190), (0, a), (0, c), (0, (k : Int))] [] NN Ni Q := by
  intro n
  induction n with
  | zero =>
    intro k Ni hk hS hF h24 hd hI hJ
    refine WP.run [(168, 2), (168, 46)] [] 40 ?_
    simp only [bk168_0, bk168_2, bk168_12, bk168_46, U_iconst, U_istore_n, U_iload_n, U_aload_n, U_getfield, U_iald, U_icmp_gt, U_bipush, U_imul, U_iadd, U_invokevirtual1, U_iast, U_iinc, U_goto, U_invokevirtual2, U_return, UN_cc, UN_cn, UN_nc, UN_nn, UJ, lget, lset, lset2, entL, wsm, wcat, Option.toList_some, Option.toList_none, List.cons_append, List.nil_append, List.mem_cons, List.not_mem_nil, Prod.mk.injEq, or_false, false_or, or_true, true_or, and_true, true_and, and_false, false_and, and_self, ne_eq, not_false_eq_true, not_true_eq_false, forall_const, true_implies, false_implies, Nat.add_zero, Nat.zero_add, Nat.le_refl, Nat.zero_le, List.set_cons_zero, List.set_cons_succ, List.set_nil, ↓reduceIte, Nat.reduceAdd, Nat.reduceSub, Nat.reduceEqDiff, Nat.reduceLeDiff, Int.reduceEq, Int.reduceNe, Int.reduceNeg, reduceCtorEq, kd190, kd199, ln199, z190_13 hS.1, hd]
    exact ⟨by omega, by omega, rr (by omega), fun _ => hQ _ Ni hS hF hd (fun j hj => hI j (by omega)), fun e => absurd (by omega) e⟩
  | succ n ih =>
    intro k Ni hk hS hF h24 hd hI hJ
    have e := hJ k (by omega) (by omega)
    have hA := pz_rg hS.2.1 A k
    have hpp := hS.2.1.pos
    have mb := ab_mul (A := 13) (B := 1000) (a := A.1 k) (b := c) (by omega) (by omega)
    refine WP.run [(168, 2), (168, 46)] [] 40 ?_
    simp only [bk168_0, bk168_2, bk168_12, bk168_46, U_iconst, U_istore_n, U_iload_n, U_aload_n, U_getfield, U_iald, U_icmp_gt, U_bipush, U_imul, U_iadd, U_invokevirtual1, U_iast, U_iinc, U_goto, U_invokevirtual2, U_return, UN_cc, UN_cn, UN_nc, UN_nn, UJ, lget, lset, lset2, entL, wsm, wcat, Option.toList_some, Option.toList_none, List.cons_append, List.nil_append, List.mem_cons, List.not_mem_nil, Prod.mk.injEq, or_false, false_or, or_true, true_or, and_true, true_and, and_false, false_and, and_self, ne_eq, not_false_eq_true, not_true_eq_false, forall_const, true_implies, false_implies, Nat.add_zero, Nat.zero_add, Nat.le_refl, Nat.zero_le, List.set_cons_zero, List.set_cons_succ, List.set_nil, ↓reduceIte, Nat.reduceAdd, Nat.reduceSub, Nat.reduceEqDiff, Nat.reduceLeDiff, Int.reduceEq, Int.reduceNe, Int.reduceNeg, reduceCtorEq, kd190, kd198, kd199, ln198, ln199, z190_12 hS.1, z190_13 hS.1, hd, e]
    refine ⟨by omega, by omega, rr (by omega), fun e => absurd e (by omega), fun _ => ⟨by omega, by omega, m_mod hS.2.1 hS.2.2.1 (r3 (by omega)) ?_⟩⟩
    simp only [bk168_0, bk168_2, bk168_12, bk168_46, U_iconst, U_istore_n, U_iload_n, U_aload_n, U_getfield, U_iald, U_icmp_gt, U_bipush, U_imul, U_iadd, U_invokevirtual1, U_iast, U_iinc, U_goto, U_invokevirtual2, U_return, UN_cc, UN_cn, UN_nc, UN_nn, UJ, lget, lset, lset2, entL, wsm, wcat, Option.toList_some, Option.toList_none, List.cons_append, List.nil_append, List.mem_cons, List.not_mem_nil, Prod.mk.injEq, or_false, false_or, or_true, true_or, and_true, true_and, and_false, false_and, and_self, ne_eq, not_false_eq_true, not_true_eq_false, forall_const, true_implies, false_implies, Nat.add_zero, Nat.zero_add, Nat.le_refl, Nat.zero_le, List.set_cons_zero, List.set_cons_succ, List.set_nil, ↓reduceIte, Nat.reduceAdd, Nat.reduceSub, Nat.reduceEqDiff, Nat.reduceLeDiff, Int.reduceEq, Int.reduceNe, Int.reduceNeg, reduceCtorEq, kd190, kd198, ln198]
    refine ⟨by omega, by omega, ?_⟩
    refine ih (k + 1) _ (by omega) (hS.us (a := a) (k := (k : Int)) (fgt_e μ a) (by omega) (by omega) rfl) (hF.tr (PF.us _ _ _)) h24 (by rw [ust_ne (by decide)]; exact hd) (fun j hj => ?_) (fun j hj1 hj2 => ?_)
    · rw [ust_at]
      by_cases q : j = k
      · rw [if_pos (by omega), q, pC_mul, Int.mul_comm]
      · rw [if_neg (by omega)]; exact hI j (by omega)
    · rw [ust_at, if_neg (by omega)]; exact hJ j (by omega) hj2
set_option maxHeartbeats 8000000 in
theorem m_scale {p : Int} {N : Mem} {μ : Int → Option (Pz p)} {Q : Post} {a c : Int} {A : Pz p} (h : MT p N μ) (h0 : 0 ≤ a) (h1 : a < 39) (ha : μ a = some A) (hc : -1000 ≤ c ∧ c ≤ 1000) (hQ : ∀ N', MT p N' (upq μ a (pmul (pC p c) A)) → PF N N' → Q none NN N') : CL 168 [(2, 190), (0, a), (0, c), (9, 0)] NN N Q := by
  obtain ⟨p1, p2, p3, p4, p5⟩ := h.2.2.2.2 a A ha
  refine WP.run [(168, 2)] [] 40 ?_
  simp only [bk168_0, bk168_2, bk168_12, bk168_46, U_iconst, U_istore_n, U_iload_n, U_aload_n, U_getfield, U_iald, U_icmp_gt, U_bipush, U_imul, U_iadd, U_invokevirtual1, U_iast, U_iinc, U_goto, U_invokevirtual2, U_return, UN_cc, UN_cn, UN_nc, UN_nn, UJ, lget, lset, lset2, entL, wsm, wcat, Option.toList_some, Option.toList_none, List.cons_append, List.nil_append, List.mem_cons, List.not_mem_nil, Prod.mk.injEq, or_false, false_or, or_true, true_or, and_true, true_and, and_false, false_and, and_self, ne_eq, not_false_eq_true, not_true_eq_false, forall_const, true_implies, false_implies, Nat.add_zero, Nat.zero_add, Nat.le_refl, Nat.zero_le, List.set_cons_zero, List.set_cons_succ, List.set_nil, ↓reduceIte, Nat.reduceAdd, Nat.reduceSub, Nat.reduceEqDiff, Nat.reduceLeDiff, Int.reduceEq, Int.reduceNe, Int.reduceNeg, reduceCtorEq]
  refine l_mScale (N := N) h0 h1 ha hc (fun y N1 S1 F1 hd I1 => ?_) (dg A) 0 N (by omega) (h.fg a) (PF.rf N) p3 p4 (fun j hj => by omega) (fun j _ hj => p5 j hj)
  refine WP.run [] [] 40 ?_
  simp only [bk168_0, bk168_2, bk168_12, bk168_46, U_iconst, U_istore_n, U_iload_n, U_aload_n, U_getfield, U_iald, U_icmp_gt, U_bipush, U_imul, U_iadd, U_invokevirtual1, U_iast, U_iinc, U_goto, U_invokevirtual2, U_return, UN_cc, UN_cn, UN_nc, UN_nn, UJ, lget, lset, lset2, entL, wsm, wcat, Option.toList_some, Option.toList_none, List.cons_append, List.nil_append, List.mem_cons, List.not_mem_nil, Prod.mk.injEq, or_false, false_or, or_true, true_or, and_true, true_and, and_false, false_and, and_self, ne_eq, not_false_eq_true, not_true_eq_false, forall_const, true_implies, false_implies, Nat.add_zero, Nat.zero_add, Nat.le_refl, Nat.zero_le, List.set_cons_zero, List.set_cons_succ, List.set_nil, ↓reduceIte, Nat.reduceAdd, Nat.reduceSub, Nat.reduceEqDiff, Nat.reduceLeDiff, Int.reduceEq, Int.reduceNe, Int.reduceNeg, reduceCtorEq, kd190, kd199, ln199, z190_13 S1.1, hd]
  refine ⟨p1, p2, m_trim S1 h0 h1 (by omega) (by omega) (A := pmul (pC p c) A) (fun k hk => I1 k (by omega)) (fun k hk => ?_) fun N3 S3 F3 _ => ?_⟩
  · rw [pC_mul, dg_far A (by omega), Int.mul_zero, Int.zero_emod]
  · rw [upq_fgt] at S3
    simp only [bk168_0, bk168_2, bk168_12, bk168_46, U_iconst, U_istore_n, U_iload_n, U_aload_n, U_getfield, U_iald, U_icmp_gt, U_bipush, U_imul, U_iadd, U_invokevirtual1, U_iast, U_iinc, U_goto, U_invokevirtual2, U_return, UN_cc, UN_cn, UN_nc, UN_nn, UJ, lget, lset, lset2, entL, wsm, wcat, Option.toList_some, Option.toList_none, List.cons_append, List.nil_append, List.mem_cons, List.not_mem_nil, Prod.mk.injEq, or_false, false_or, or_true, true_or, and_true, true_and, and_false, false_and, and_self, ne_eq, not_false_eq_true, not_true_eq_false, forall_const, true_implies, false_implies, Nat.add_zero, Nat.zero_add, Nat.le_refl, Nat.zero_le, List.set_cons_zero, List.set_cons_succ, List.set_nil, ↓reduceIte, Nat.reduceAdd, Nat.reduceSub, Nat.reduceEqDiff, Nat.reduceLeDiff, Int.reduceEq, Int.reduceNe, Int.reduceNeg, reduceCtorEq]
    exact hQ N3 S3 (F1.tr F3)
