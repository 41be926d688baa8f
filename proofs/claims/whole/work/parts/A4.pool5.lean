/-! THE MODEL'S ROWS: values, division -/
set_option maxHeartbeats 8000000 in
theorem l_mVal {p : Int} {N : Mem} {μ : Int → Option (Pz p)} {Q : Post} {a x : Int} {A : Pz p} (h : MT p N μ) (ha : μ a = some A) (hx : 0 ≤ x) (hx2 : x < 13) (hQ : Q (some (0, pev A x)) NN N) : ∀ (n : Nat) (i w : Int), i + 1 = n → n ≤ dg A → w = ev x (dg A - n) (fun k => A.1 (k + n)) % p → WP 171 (0, 0) 10 [(2, 190), (0, a), (0, x), (0, w), (0, i)] [] NN N Q := by
  have hpp := h.2.1.pos
  intro n
  induction n with
  | zero =>
    intro i w h1 h2 h3
    refine WP.run [(171, 10)] [] 30 ?_
    simp only [bk171_0, bk171_10, bk171_15, bk171_38, U_iconst, U_istore_n, U_aload_n, U_getfield, U_iload_n, U_iald, U_istore, U_iload, U_if_lt, U_imul, U_invokevirtual2, U_iadd, U_irem, U_iinc, U_goto, U_ireturn, UN_cc, UN_cn, UN_nc, UN_nn, UJ, lget, lset, lset2, entL, wsm, wcat, Option.toList_some, Option.toList_none, List.cons_append, List.nil_append, List.mem_cons, List.not_mem_nil, Prod.mk.injEq, or_false, false_or, or_true, true_or, and_true, true_and, and_false, false_and, and_self, ne_eq, not_false_eq_true, not_true_eq_false, forall_const, true_implies, false_implies, Nat.add_zero, Nat.zero_add, Nat.le_refl, Nat.zero_le, List.set_cons_zero, List.set_cons_succ, List.set_nil, ↓reduceIte, Nat.reduceAdd, Nat.reduceSub, Nat.reduceEqDiff, Nat.reduceLeDiff, Int.reduceEq, Int.reduceNe, Int.reduceNeg, reduceCtorEq, kd190]
    refine ⟨r3 (by omega), fun _ => ?_, fun h => by omega⟩
    rw [h3]; exact hQ
  | succ n ih =>
    intro i w h1 h2 h3
    have hw1 := Int.emod_nonneg (ev x (dg A - (n + 1)) (fun k => A.1 (k + (n + 1)))) (b := p) (by omega)
    have hw2 := Int.emod_lt_of_pos (ev x (dg A - (n + 1)) (fun k => A.1 (k + (n + 1)))) (b := p) (by omega)
    rw [← h3] at hw1 hw2
    have hin : i.toNat = n := by omega
    have d24 := (h.2.2.2.2 a A ha).2.2.1
    have hai := pz_rg h.2.1 A i.toNat
    have hwx : 0 ≤ w * x := Int.mul_nonneg hw1 hx
    have hwx2 : w * x ≤ 13 * 13 := Int.mul_le_mul (by omega) (by omega) hx (by omega)
    refine WP.run [(171, 10)] [] 30 ?_
    simp only [bk171_0, bk171_10, bk171_15, bk171_38, U_iconst, U_istore_n, U_aload_n, U_getfield, U_iload_n, U_iald, U_istore, U_iload, U_if_lt, U_imul, U_invokevirtual2, U_iadd, U_irem, U_iinc, U_goto, U_ireturn, UN_cc, UN_cn, UN_nc, UN_nn, UJ, lget, lset, lset2, entL, wsm, wcat, Option.toList_some, Option.toList_none, List.cons_append, List.nil_append, List.mem_cons, List.not_mem_nil, Prod.mk.injEq, or_false, false_or, or_true, true_or, and_true, true_and, and_false, false_and, and_self, ne_eq, not_false_eq_true, not_true_eq_false, forall_const, true_implies, false_implies, Nat.add_zero, Nat.zero_add, Nat.le_refl, Nat.zero_le, List.set_cons_zero, List.set_cons_succ, List.set_nil, ↓reduceIte, Nat.reduceAdd, Nat.reduceSub, Nat.reduceEqDiff, Nat.reduceLeDiff, Int.reduceEq, Int.reduceNe, Int.reduceNeg, reduceCtorEq, kd190]
    refine ⟨r3 (by omega), fun h => by omega, fun _ => m_get h ha (r3 (by omega)) ?_⟩
    rw [if_pos (by omega)]
    simp only [bk171_0, bk171_10, bk171_15, bk171_38, U_iconst, U_istore_n, U_aload_n, U_getfield, U_iload_n, U_iald, U_istore, U_iload, U_if_lt, U_imul, U_invokevirtual2, U_iadd, U_irem, U_iinc, U_goto, U_ireturn, UN_cc, UN_cn, UN_nc, UN_nn, UJ, lget, lset, lset2, entL, wsm, wcat, Option.toList_some, Option.toList_none, List.cons_append, List.nil_append, List.mem_cons, List.not_mem_nil, Prod.mk.injEq, or_false, false_or, or_true, true_or, and_true, true_and, and_false, false_and, and_self, ne_eq, not_false_eq_true, not_true_eq_false, forall_const, true_implies, false_implies, Nat.add_zero, Nat.zero_add, Nat.le_refl, Nat.zero_le, List.set_cons_zero, List.set_cons_succ, List.set_nil, ↓reduceIte, Nat.reduceAdd, Nat.reduceSub, Nat.reduceEqDiff, Nat.reduceLeDiff, Int.reduceEq, Int.reduceNe, Int.reduceNeg, reduceCtorEq, kd190, h.2.2.1]
    refine ⟨r3 (by omega), r3 (by omega), by omega, ?_⟩
    refine ih (i + -1) _ (by omega) (by omega) ?_
    rw [tm_nn (by omega), h3, hin]
    have e : dg A - n = (dg A - (n + 1)) + 1 := by omega
    rw [e]
    show _ = (A.1 (0 + n) + x * ev x (dg A - (n + 1)) (sh fun k => A.1 (k + n))) % p
    have e2 : (sh fun k => A.1 (k + n)) = fun k => A.1 (k + (n + 1)) := funext fun k => by show A.1 (k + 1 + n) = A.1 (k + (n + 1)); rw [show k + 1 + n = k + (n + 1) by omega]
    rw [e2, Nat.zero_add, Int.add_comm, Int.mul_comm]
    exact md_add rfl (md_mul rfl (md_md _ _))
set_option maxHeartbeats 8000000 in
theorem m_val {p : Int} {N : Mem} {μ : Int → Option (Pz p)} {Q : Post} {a x : Int} {A : Pz p} (h : MT p N μ) (ha : μ a = some A) (hx : 0 ≤ x) (hx2 : x < 13) (hQ : Q (some (0, pev A x)) NN N) : CL 171 [(2, 190), (0, a), (0, x), (9, 0), (9, 0)] NN N Q := by
  obtain ⟨p1, p2, p3, p4, p5⟩ := h.2.2.2.2 a A ha
  refine WP.run [(171, 10)] [] 30 ?_
  simp only [bk171_0, bk171_10, bk171_15, bk171_38, U_iconst, U_istore_n, U_aload_n, U_getfield, U_iload_n, U_iald, U_istore, U_iload, U_if_lt, U_imul, U_invokevirtual2, U_iadd, U_irem, U_iinc, U_goto, U_ireturn, UN_cc, UN_cn, UN_nc, UN_nn, UJ, lget, lset, lset2, entL, wsm, wcat, Option.toList_some, Option.toList_none, List.cons_append, List.nil_append, List.mem_cons, List.not_mem_nil, Prod.mk.injEq, or_false, false_or, or_true, true_or, and_true, true_and, and_false, false_and, and_self, ne_eq, not_false_eq_true, not_true_eq_false, forall_const, true_implies, false_implies, Nat.add_zero, Nat.zero_add, Nat.le_refl, Nat.zero_le, List.set_cons_zero, List.set_cons_succ, List.set_nil, ↓reduceIte, Nat.reduceAdd, Nat.reduceSub, Nat.reduceEqDiff, Nat.reduceLeDiff, Int.reduceEq, Int.reduceNe, Int.reduceNeg, reduceCtorEq, kd190, kd199, ln199, z190_13 h.1, p4]
  exact ⟨p1, p2, l_mVal h ha hx hx2 hQ (dg A) _ 0 (by omega) (Nat.le_refl _) (by rw [Nat.sub_self]; exact (Int.zero_emod p).symm)⟩
set_option maxHeartbeats 8000000 in
theorem l_mdZ {p : Int} {N : Mem} {μ : Int → Option (Pz p)} {Q : Post} {t l a b top by' k : Int} {B : Pz p} (h : MT p N μ) (hb : μ b = some B) (hQ : WP 169 (0, 0) 190 [(2, 190), (0, t), (0, l), (0, a), (0, b), (0, top), (0, by'), (0, k), (0, 0), (0, (dg B : Int))] [] NN N Q) : ∀ (n j : Nat), j + n = dg B → WP 169 (0, 0) 121 [(2, 190), (0, t), (0, l), (0, a), (0, b), (0, top), (0, by'), (0, k), (0, 0), (0, (j : Int))] [] NN N Q := by
  obtain ⟨p1, p2, p3, p4, p5⟩ := h.2.2.2.2 b B hb
  intro n
  induction n with
  | zero =>
    intro j hj
    obtain rfl : j = dg B := by omega
    refine WP.run [(169, 121), (169, 190)] [] 40 ?_
    simp only [bk169_0, bk169_25, bk169_32, bk169_51, bk169_74, bk169_79, bk169_121, bk169_133, bk169_138, bk169_184, bk169_190, bk169_195, bk169_206, bk169_212, bk169_219, bk169_223, bk169_225, U_aload_n, U_iload_n, U_invokevirtual2, U_getfield, U_iald, U_iload, U_isub, U_istore, U_iconst, U_icmp_gt, U_bipush, U_imul, U_iadd, U_iast, U_iinc, U_goto, U_invokevirtual1, U_if_lt, U_irem, U_if_eq, U_if_ge, U_return, UN_cc, UN_cn, UN_nc, UN_nn, UJ, lget, lset, lset2, entL, wsm, wcat, Option.toList_some, Option.toList_none, List.cons_append, List.nil_append, List.mem_cons, List.not_mem_nil, Prod.mk.injEq, or_false, false_or, or_true, true_or, and_true, true_and, and_false, false_and, and_self, ne_eq, not_false_eq_true, not_true_eq_false, forall_const, true_implies, false_implies, Nat.add_zero, Nat.zero_add, Nat.le_refl, Nat.zero_le, List.set_cons_zero, List.set_cons_succ, List.set_nil, ↓reduceIte, Nat.reduceAdd, Nat.reduceSub, Nat.reduceEqDiff, Nat.reduceLeDiff, Int.reduceEq, Int.reduceNe, Int.reduceNeg, reduceCtorEq, kd190, kd199, ln199, z190_13 h.1, p4]
    exact ⟨p1, p2, rr (by omega), fun _ => hQ, fun e => absurd (by omega) e⟩
  | succ n ih =>
    intro j hj
    refine WP.run [(169, 121), (169, 190)] [] 40 ?_
    simp only [bk169_0, bk169_25, bk169_32, bk169_51, bk169_74, bk169_79, bk169_121, bk169_133, bk169_138, bk169_184, bk169_190, bk169_195, bk169_206, bk169_212, bk169_219, bk169_223, bk169_225, U_aload_n, U_iload_n, U_invokevirtual2, U_getfield, U_iald, U_iload, U_isub, U_istore, U_iconst, U_icmp_gt, U_bipush, U_imul, U_iadd, U_iast, U_iinc, U_goto, U_invokevirtual1, U_if_lt, U_irem, U_if_eq, U_if_ge, U_return, UN_cc, UN_cn, UN_nc, UN_nn, UJ, lget, lset, lset2, entL, wsm, wcat, Option.toList_some, Option.toList_none, List.cons_append, List.nil_append, List.mem_cons, List.not_mem_nil, Prod.mk.injEq, or_false, false_or, or_true, true_or, and_true, true_and, and_false, false_and, and_self, ne_eq, not_false_eq_true, not_true_eq_false, forall_const, true_implies, false_implies, Nat.add_zero, Nat.zero_add, Nat.le_refl, Nat.zero_le, List.set_cons_zero, List.set_cons_succ, List.set_nil, ↓reduceIte, Nat.reduceAdd, Nat.reduceSub, Nat.reduceEqDiff, Nat.reduceLeDiff, Int.reduceEq, Int.reduceNe, Int.reduceNeg, reduceCtorEq, kd190, kd199, ln199, z190_13 h.1, p4]
    exact ⟨p1, p2, rr (by omega), fun e => absurd e (by omega), fun _ => ⟨r3 (by omega), ih (j + 1) (by omega)⟩⟩
theorem dvR_c {p : Int} (R B : Pz p) (c : Int) (k i : Nat) : (padd R (pmul (pM p (-c) k) B)).1 i = if k ≤ i then (R.1 i - c * B.1 (i - k)) % p else R.1 i := by
  rw [padd_c, pM_mul]
  split
  · rw [md_add rfl (md_md _ _), Int.neg_mul, ← Int.sub_eq_add_neg]
  · rw [Int.zero_emod, Int.add_zero]; exact R.2.1 i
set_option maxHeartbeats 8000000 in
theorem l_mdI {p : Int} {N : Mem} {μ : Int → Option (Pz p)} {Q : Post} {t l a b top by' c : Int} {k : Nat} {R B : Pz p} (hl : 0 ≤ l ∧ l < 39) (hlb : μ l = none) (hb : μ b = some B) (hc : 0 ≤ c ∧ c < 13) (hc0 : c ≠ 0) (hkR : dg R = k + dg B) (h24 : dg R ≤ 24) (hQ : ∀ Ni, MT p Ni μ → Fr [198] N Ni → (∀ i, (∀ j : Nat, j < 24 → i ≠ 24 * l + (j : Int)) → Ni 198 i = N 198 i) → (∀ i : Nat, i < dg R → Ni 198 (24 * l + (i : Int)) = (padd R (pmul (pM p (-c) k) B)).1 i) → WP 169 (0, 0) 190 [(2, 190), (0, t), (0, l), (0, a), (0, b), (0, top), (0, by'), (0, (k : Int)), (0, c), (0, (dg B : Int))] [] NN Ni Q) : ∀ (n j : Nat) (Ni : Mem), j + n = dg B → MT p Ni μ → Fr [198] N Ni → (∀ i, (∀ j : Nat, j < 24 → i ≠ 24 * l + (j : Int)) → Ni 198 i = N 198 i) → (∀ i : Nat, i < k + j → Ni 198 (24 * l + (i : Int)) = (padd R (pmul (pM p (-c) k) B)).1 i) → (∀ i : Nat, k + j ≤ i → i < dg R → Ni 198 (24 * l + (i : Int)) = R.1 i) → WP 169 (0, 0) 121 [(2, 190), (0, t), (0, l), (0, a), (0, b), (0, top), (0, by'), (0, (k : Int)), (0, c), (0, (j : Int))] [] NN Ni Q := by
  intro n
  induction n with
  | zero =>
    intro j Ni hj hS hF hO hI hJ
    obtain ⟨p1, p2, p3, p4, p5⟩ := hS.2.2.2.2 b B hb
    obtain rfl : j = dg B := by omega
    refine WP.run [(169, 121), (169, 190)] [] 40 ?_
    simp only [bk169_0, bk169_25, bk169_32, bk169_51, bk169_74, bk169_79, bk169_121, bk169_133, bk169_138, bk169_184, bk169_190, bk169_195, bk169_206, bk169_212, bk169_219, bk169_223, bk169_225, U_aload_n, U_iload_n, U_invokevirtual2, U_getfield, U_iald, U_iload, U_isub, U_istore, U_iconst, U_icmp_gt, U_bipush, U_imul, U_iadd, U_iast, U_iinc, U_goto, U_invokevirtual1, U_if_lt, U_irem, U_if_eq, U_if_ge, U_return, UN_cc, UN_cn, UN_nc, UN_nn, UJ, lget, lset, lset2, entL, wsm, wcat, Option.toList_some, Option.toList_none, List.cons_append, List.nil_append, List.mem_cons, List.not_mem_nil, Prod.mk.injEq, or_false, false_or, or_true, true_or, and_true, true_and, and_false, false_and, and_self, ne_eq, not_false_eq_true, not_true_eq_false, forall_const, true_implies, false_implies, Nat.add_zero, Nat.zero_add, Nat.le_refl, Nat.zero_le, List.set_cons_zero, List.set_cons_succ, List.set_nil, ↓reduceIte, Nat.reduceAdd, Nat.reduceSub, Nat.reduceEqDiff, Nat.reduceLeDiff, Int.reduceEq, Int.reduceNe, Int.reduceNeg, reduceCtorEq, kd190, kd199, ln199, z190_13 hS.1, p4]
    exact ⟨p1, p2, rr (by omega), fun _ => hQ Ni hS hF hO (fun i hi => hI i (by omega)), fun e => absurd (by omega) e⟩
  | succ n ih =>
    intro j Ni hj hS hF hO hI hJ
    obtain ⟨p1, p2, p3, p4, p5⟩ := hS.2.2.2.2 b B hb
    have hpp := hS.2.1.pos
    have hR := pz_rg hS.2.1 R (k + j)
    have hB := pz_rg hS.2.1 B j
    have m0 : 0 ≤ c * B.1 j := Int.mul_nonneg hc.1 hB.1
    have m1 := ab_mul (A := 13) (B := 13) (a := c) (b := B.1 j) (by omega) (by omega)
    have e := hJ (k + j) (by omega) (by omega)
    have ei : 24 * l + (k : Int) + (j : Int) = 24 * l + ((k + j : Nat) : Int) := by omega
    refine WP.run [(169, 121), (169, 190)] [] 40 ?_
    simp only [bk169_0, bk169_25, bk169_32, bk169_51, bk169_74, bk169_79, bk169_121, bk169_133, bk169_138, bk169_184, bk169_190, bk169_195, bk169_206, bk169_212, bk169_219, bk169_223, bk169_225, U_aload_n, U_iload_n, U_invokevirtual2, U_getfield, U_iald, U_iload, U_isub, U_istore, U_iconst, U_icmp_gt, U_bipush, U_imul, U_iadd, U_iast, U_iinc, U_goto, U_invokevirtual1, U_if_lt, U_irem, U_if_eq, U_if_ge, U_return, UN_cc, UN_cn, UN_nc, UN_nn, UJ, lget, lset, lset2, entL, wsm, wcat, Option.toList_some, Option.toList_none, List.cons_append, List.nil_append, List.mem_cons, List.not_mem_nil, Prod.mk.injEq, or_false, false_or, or_true, true_or, and_true, true_and, and_false, false_and, and_self, ne_eq, not_false_eq_true, not_true_eq_false, forall_const, true_implies, false_implies, Nat.add_zero, Nat.zero_add, Nat.le_refl, Nat.zero_le, List.set_cons_zero, List.set_cons_succ, List.set_nil, ↓reduceIte, Nat.reduceAdd, Nat.reduceSub, Nat.reduceEqDiff, Nat.reduceLeDiff, Int.reduceEq, Int.reduceNe, Int.reduceNeg, reduceCtorEq, kd190, kd198, kd199, ln198, ln199, z190_12 hS.1, z190_13 hS.1, p4, ei, e]
    refine ⟨p1, p2, rr (by omega), fun e => absurd e (by omega), fun _ => ⟨r3 (by omega), fun e => absurd e hc0, fun _ => ⟨by omega, by omega, m_get hS hb (r3 (by omega)) ?_⟩⟩⟩
    rw [if_pos (by omega), Int.toNat_natCast]
    simp only [bk169_0, bk169_25, bk169_32, bk169_51, bk169_74, bk169_79, bk169_121, bk169_133, bk169_138, bk169_184, bk169_190, bk169_195, bk169_206, bk169_212, bk169_219, bk169_223, bk169_225, U_aload_n, U_iload_n, U_invokevirtual2, U_getfield, U_iald, U_iload, U_isub, U_istore, U_iconst, U_icmp_gt, U_bipush, U_imul, U_iadd, U_iast, U_iinc, U_goto, U_invokevirtual1, U_if_lt, U_irem, U_if_eq, U_if_ge, U_return, UN_cc, UN_cn, UN_nc, UN_nn, UJ, lget, lset, lset2, entL, wsm, wcat, Option.toList_some, Option.toList_none, List.cons_append, List.nil_append, List.mem_cons, List.not_mem_nil, Prod.mk.injEq, or_false, false_or, or_true, true_or, and_true, true_and, and_false, false_and, and_self, ne_eq, not_false_eq_true, not_true_eq_false, forall_const, true_implies, false_implies, Nat.add_zero, Nat.zero_add, Nat.le_refl, Nat.zero_le, List.set_cons_zero, List.set_cons_succ, List.set_nil, ↓reduceIte, Nat.reduceAdd, Nat.reduceSub, Nat.reduceEqDiff, Nat.reduceLeDiff, Int.reduceEq, Int.reduceNe, Int.reduceNeg, reduceCtorEq, kd190]
    refine m_mod hS.2.1 hS.2.2.1 (r3 (by omega)) ?_
    simp only [bk169_0, bk169_25, bk169_32, bk169_51, bk169_74, bk169_79, bk169_121, bk169_133, bk169_138, bk169_184, bk169_190, bk169_195, bk169_206, bk169_212, bk169_219, bk169_223, bk169_225, U_aload_n, U_iload_n, U_invokevirtual2, U_getfield, U_iald, U_iload, U_isub, U_istore, U_iconst, U_icmp_gt, U_bipush, U_imul, U_iadd, U_iast, U_iinc, U_goto, U_invokevirtual1, U_if_lt, U_irem, U_if_eq, U_if_ge, U_return, UN_cc, UN_cn, UN_nc, UN_nn, UJ, lget, lset, lset2, entL, wsm, wcat, Option.toList_some, Option.toList_none, List.cons_append, List.nil_append, List.mem_cons, List.not_mem_nil, Prod.mk.injEq, or_false, false_or, or_true, true_or, and_true, true_and, and_false, false_and, and_self, ne_eq, not_false_eq_true, not_true_eq_false, forall_const, true_implies, false_implies, Nat.add_zero, Nat.zero_add, Nat.le_refl, Nat.zero_le, List.set_cons_zero, List.set_cons_succ, List.set_nil, ↓reduceIte, Nat.reduceAdd, Nat.reduceSub, Nat.reduceEqDiff, Nat.reduceLeDiff, Int.reduceEq, Int.reduceNe, Int.reduceNeg, reduceCtorEq, kd198, ln198]
    refine ⟨by omega, by omega, ?_⟩
    refine ih (j + 1) _ (by omega) (hS.us (a := l) (k := ((k + j : Nat) : Int)) hlb (by omega) (by omega) rfl) (fun b' hb' => by rw [ust_ne (by simpa using hb')]; exact hF b' hb') (fun i hi => ?_) (fun i hi => ?_) (fun i hi1 hi2 => ?_)
    · rw [ust_at, if_neg (hi (k + j) (by omega))]; exact hO i hi
    · rw [ust_at]
      by_cases q : i = k + j
      · subst q
        rw [if_pos rfl, dvR_c, if_pos (by omega), show k + j - k = j by omega]
      · rw [if_neg (by omega)]; exact hI i (by omega)
    · rw [ust_at, if_neg (by omega)]; exact hJ i (by omega) hi2
