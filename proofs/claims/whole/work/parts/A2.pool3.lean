/-! THE MODEL'S ROWS: sums, products -/
def sig (F : Nat → Int) : Nat → Int
  | 0 => 0
  | n + 1 => sig F n + F n
theorem sig_front (F : Nat → Int) : ∀ n, sig F (n + 1) = F 0 + sig (fun i => F (i + 1)) n
  | 0 => by show 0 + F 0 = F 0 + 0; omega
  | n + 1 => by
    show sig F (n + 1) + F (n + 1) = F 0 + (sig (fun i => F (i + 1)) n + F (n + 1))
    rw [sig_front F n]; omega
theorem sig_cg {F G : Nat → Int} : ∀ n, (∀ i, i < n → F i = G i) → sig F n = sig G n
  | 0, _ => rfl
  | n + 1, h => by show sig F n + F n = sig G n + G n; rw [sig_cg n (fun i hi => h i (by omega)), h n (by omega)]
theorem sig_cv (b : Nat → Int) : ∀ (k : Nat) (a : Nat → Int), sig (fun i => a i * b (k - i)) (k + 1) = cv a b k
  | 0, a => by show 0 + a 0 * b (0 - 0) = cv a b 0; rw [Nat.sub_self, Int.zero_add]; rfl
  | k + 1, a => by
    rw [sig_front]
    show a 0 * b (k + 1) + sig (fun i => a (i + 1) * b (k + 1 - (i + 1))) (k + 1) = cv a b (k + 1)
    rw [sig_cg (k + 1) (G := fun i => sh a i * b (k - i)) (fun i _ => by show a (i + 1) * b (k + 1 - (i + 1)) = a (i + 1) * b (k - i); rw [Nat.add_sub_add_right]), sig_cv b k (sh a)]
    rfl
theorem sig_rg {F : Nat → Int} {B : Int} : ∀ n, (∀ i, i < n → 0 ≤ F i ∧ F i ≤ B) → 0 ≤ sig F n ∧ sig F n ≤ n * B
  | 0, _ => by show (0 : Int) ≤ 0 ∧ (0 : Int) ≤ (0 : Nat) * B; simp
  | n + 1, h => by
    have h1 := sig_rg n (fun i hi => h i (by omega))
    have h2 := h n (by omega)
    show 0 ≤ sig F n + F n ∧ sig F n + F n ≤ ((n + 1 : Nat) : Int) * B
    have : ((n + 1 : Nat) : Int) * B = n * B + B := by rw [Int.natCast_add, Int.add_mul]; simp
    omega
set_option maxHeartbeats 8000000 in
theorem l_aCp {p : Int} {N : Mem} {μ : Int → Option (Pz p)} {Q : Post} {a b t tm : Int} {x : V} {d : Nat} {R : Pz p} (h0 : 0 ≤ t) (h1 : t < 39) (hd : d ≤ 24) (hx : x.1 = 0) (hQ : ∀ y Ni, MT p Ni (fgt μ t) → PF N Ni → (∀ j : Nat, j < d → Ni 198 (24 * t + (j : Int)) = R.1 j) → WP 166 (0, 0) 120 [(2, 190), (0, t), (0, a), (0, b), (0, tm), (0, (d : Int) - 1), y] [] NN Ni Q) : ∀ (n k : Nat) (Ni : Mem), k + n = d → MT p Ni (fgt μ t) → PF N Ni → (∀ j : Nat, j < k → Ni 198 (24 * t + (j : Int)) = R.1 j) → (∀ j : Nat, j < d → Ni 198 (936 + (j : Int)) = R.1 j) → WP 166 (0, 0) 84 [(2, 190), (0, t), (0, a), (0, b), (0, tm), (0, (d : Int) - 1), (0, (k : Int))] [] NN Ni Q := by
  intro n
  induction n with
  | zero =>
    intro k Ni hk hS hF hI hJ
    refine WP.run [(166, 84), (166, 120)] [] 40 ?_
    simp only [bk166_0, bk166_15, bk166_24, bk166_30, bk166_35, bk166_42, bk166_81, bk166_84, bk166_91, bk166_120, U_aload_n, U_getfield, U_iload_n, U_iald, U_icmp_le, U_goto, U_istore, U_iconst, U_iload, U_icmp_gt, U_sipush, U_iadd, U_invokevirtual2, U_imul, U_invokevirtual1, U_iast, U_iinc, U_bipush, U_return, UN_cc, UN_cn, UN_nc, UN_nn, UJ, lget, lset, lset2, entL, wsm, wcat, Option.toList_some, Option.toList_none, List.cons_append, List.nil_append, List.mem_cons, List.not_mem_nil, Prod.mk.injEq, or_false, false_or, or_true, true_or, and_true, true_and, and_false, false_and, and_self, ne_eq, not_false_eq_true, not_true_eq_false, forall_const, true_implies, false_implies, Nat.add_zero, Nat.zero_add, Nat.le_refl, Nat.zero_le, List.set_cons_zero, List.set_cons_succ, List.set_nil, ↓reduceIte, Nat.reduceAdd, Nat.reduceSub, Nat.reduceEqDiff, Nat.reduceLeDiff, Int.reduceEq, Int.reduceNe, Int.reduceNeg, reduceCtorEq]
    exact ⟨rr (by omega), fun _ => hQ _ Ni hS hF (fun j hj => hI j (by omega)), fun e => absurd (by omega) e⟩
  | succ n ih =>
    intro k Ni hk hS hF hI hJ
    have e := hJ k (by omega)
    refine WP.run [(166, 84), (166, 120)] [] 40 ?_
    simp only [bk166_0, bk166_15, bk166_24, bk166_30, bk166_35, bk166_42, bk166_81, bk166_84, bk166_91, bk166_120, U_aload_n, U_getfield, U_iload_n, U_iald, U_icmp_le, U_goto, U_istore, U_iconst, U_iload, U_icmp_gt, U_sipush, U_iadd, U_invokevirtual2, U_imul, U_invokevirtual1, U_iast, U_iinc, U_bipush, U_return, UN_cc, UN_cn, UN_nc, UN_nn, UJ, lget, lset, lset2, entL, wsm, wcat, Option.toList_some, Option.toList_none, List.cons_append, List.nil_append, List.mem_cons, List.not_mem_nil, Prod.mk.injEq, or_false, false_or, or_true, true_or, and_true, true_and, and_false, false_and, and_self, ne_eq, not_false_eq_true, not_true_eq_false, forall_const, true_implies, false_implies, Nat.add_zero, Nat.zero_add, Nat.le_refl, Nat.zero_le, List.set_cons_zero, List.set_cons_succ, List.set_nil, ↓reduceIte, Nat.reduceAdd, Nat.reduceSub, Nat.reduceEqDiff, Nat.reduceLeDiff, Int.reduceEq, Int.reduceNe, Int.reduceNeg, reduceCtorEq, kd190, kd198, ln198, z190_12 hS.1, e]
    refine ⟨rr (by omega), fun e => absurd e (by omega), fun _ => ⟨by omega, by omega, by omega, by omega, ?_⟩⟩
    refine ih (k + 1) _ (by omega) (hS.us (a := t) (k := (k : Int)) (fgt_e μ t) (by omega) (by omega) rfl) (hF.tr (PF.us _ _ _)) (fun j hj => ?_) (fun j hj => ?_)
    · rw [ust_at]
      by_cases c : j = k
      · rw [if_pos (by omega), c]
      · rw [if_neg (by omega)]; exact hI j (by omega)
    · rw [ust_at, if_neg (by omega)]; exact hJ j hj
set_option maxHeartbeats 8000000 in
theorem l_aSum {p : Int} {N : Mem} {μ : Int → Option (Pz p)} {Q : Post} {a b t tm : Int} {x : V} {d : Nat} {A B R : Pz p} (hd : d ≤ 24) (ha : μ a = some A) (hb : μ b = some B) (ht : -1000 ≤ tm ∧ tm ≤ 1000) (hR : ∀ k, R.1 k = (A.1 k + tm * B.1 k) % p) (hQ : ∀ y Ni, MT p Ni μ → PF N Ni → (∀ j : Nat, j < d → Ni 198 (936 + (j : Int)) = R.1 j) → WP 166 (0, 0) 81 [(2, 190), (0, t), (0, a), (0, b), (0, tm), (0, (d : Int) - 1), y] [] NN Ni Q) : ∀ (n k : Nat) (Ni : Mem), k + n = d → MT p Ni μ → PF N Ni → (∀ j : Nat, j < k → Ni 198 (936 + (j : Int)) = R.1 j) → WP 166 (0, 0) 35 [(2, 190), (0, t), (0, a), (0, b), (0, tm), (0, (d : Int) - 1), (0, (k : Int))] [] NN Ni Q := by
  intro n
  induction n with
  | zero =>
    intro k Ni hk hS hF hI
    refine WP.run [(166, 35), (166, 81)] [] 40 ?_
    simp only [bk166_0, bk166_15, bk166_24, bk166_30, bk166_35, bk166_42, bk166_81, bk166_84, bk166_91, bk166_120, U_aload_n, U_getfield, U_iload_n, U_iald, U_icmp_le, U_goto, U_istore, U_iconst, U_iload, U_icmp_gt, U_sipush, U_iadd, U_invokevirtual2, U_imul, U_invokevirtual1, U_iast, U_iinc, U_bipush, U_return, UN_cc, UN_cn, UN_nc, UN_nn, UJ, lget, lset, lset2, entL, wsm, wcat, Option.toList_some, Option.toList_none, List.cons_append, List.nil_append, List.mem_cons, List.not_mem_nil, Prod.mk.injEq, or_false, false_or, or_true, true_or, and_true, true_and, and_false, false_and, and_self, ne_eq, not_false_eq_true, not_true_eq_false, forall_const, true_implies, false_implies, Nat.add_zero, Nat.zero_add, Nat.le_refl, Nat.zero_le, List.set_cons_zero, List.set_cons_succ, List.set_nil, ↓reduceIte, Nat.reduceAdd, Nat.reduceSub, Nat.reduceEqDiff, Nat.reduceLeDiff, Int.reduceEq, Int.reduceNe, Int.reduceNeg, reduceCtorEq]
    exact ⟨rr (by omega), fun _ => hQ _ Ni hS hF (fun j hj => hI j (by omega)), fun e => absurd (by omega) e⟩
  | succ n ih =>
    intro k Ni hk hS hF hI
    have hA := pz_rg hS.2.1 A k
    have hB := pz_rg hS.2.1 B k
    have hpp := hS.2.1.pos
    have mb := ab_mul (A := 1000) (B := 13) (a := tm) (b := B.1 k) (by omega) (by omega)
    refine WP.run [(166, 35), (166, 81)] [] 40 ?_
    simp only [bk166_0, bk166_15, bk166_24, bk166_30, bk166_35, bk166_42, bk166_81, bk166_84, bk166_91, bk166_120, U_aload_n, U_getfield, U_iload_n, U_iald, U_icmp_le, U_goto, U_istore, U_iconst, U_iload, U_icmp_gt, U_sipush, U_iadd, U_invokevirtual2, U_imul, U_invokevirtual1, U_iast, U_iinc, U_bipush, U_return, UN_cc, UN_cn, UN_nc, UN_nn, UJ, lget, lset, lset2, entL, wsm, wcat, Option.toList_some, Option.toList_none, List.cons_append, List.nil_append, List.mem_cons, List.not_mem_nil, Prod.mk.injEq, or_false, false_or, or_true, true_or, and_true, true_and, and_false, false_and, and_self, ne_eq, not_false_eq_true, not_true_eq_false, forall_const, true_implies, false_implies, Nat.add_zero, Nat.zero_add, Nat.le_refl, Nat.zero_le, List.set_cons_zero, List.set_cons_succ, List.set_nil, ↓reduceIte, Nat.reduceAdd, Nat.reduceSub, Nat.reduceEqDiff, Nat.reduceLeDiff, Int.reduceEq, Int.reduceNe, Int.reduceNeg, reduceCtorEq, kd190, kd198, ln198, z190_12 hS.1]
    refine ⟨rr (by omega), fun e => absurd e (by omega), fun _ => m_get hS ha (r3 (by omega)) ?_⟩
    rw [if_pos (by omega), Int.toNat_natCast]
    simp only [bk166_0, bk166_15, bk166_24, bk166_30, bk166_35, bk166_42, bk166_81, bk166_84, bk166_91, bk166_120, U_aload_n, U_getfield, U_iload_n, U_iald, U_icmp_le, U_goto, U_istore, U_iconst, U_iload, U_icmp_gt, U_sipush, U_iadd, U_invokevirtual2, U_imul, U_invokevirtual1, U_iast, U_iinc, U_bipush, U_return, UN_cc, UN_cn, UN_nc, UN_nn, UJ, lget, lset, lset2, entL, wsm, wcat, Option.toList_some, Option.toList_none, List.cons_append, List.nil_append, List.mem_cons, List.not_mem_nil, Prod.mk.injEq, or_false, false_or, or_true, true_or, and_true, true_and, and_false, false_and, and_self, ne_eq, not_false_eq_true, not_true_eq_false, forall_const, true_implies, false_implies, Nat.add_zero, Nat.zero_add, Nat.le_refl, Nat.zero_le, List.set_cons_zero, List.set_cons_succ, List.set_nil, ↓reduceIte, Nat.reduceAdd, Nat.reduceSub, Nat.reduceEqDiff, Nat.reduceLeDiff, Int.reduceEq, Int.reduceNe, Int.reduceNeg, reduceCtorEq, kd190, kd198, ln198]
    refine m_get hS hb (r3 (by omega)) ?_
    rw [if_pos (by omega), Int.toNat_natCast]
    simp only [bk166_0, bk166_15, bk166_24, bk166_30, bk166_35, bk166_42, bk166_81, bk166_84, bk166_91, bk166_120, U_aload_n, U_getfield, U_iload_n, U_iald, U_icmp_le, U_goto, U_istore, U_iconst, U_iload, U_icmp_gt, U_sipush, U_iadd, U_invokevirtual2, U_imul, U_invokevirtual1, U_iast, U_iinc, U_bipush, U_return, UN_cc, UN_cn, UN_nc, UN_nn, UJ, lget, lset, lset2, entL, wsm, wcat, Option.toList_some, Option.toList_none, List.cons_append, List.nil_append, List.mem_cons, List.not_mem_nil, Prod.mk.injEq, or_false, false_or, or_true, true_or, and_true, true_and, and_false, false_and, and_self, ne_eq, not_false_eq_true, not_true_eq_false, forall_const, true_implies, false_implies, Nat.add_zero, Nat.zero_add, Nat.le_refl, Nat.zero_le, List.set_cons_zero, List.set_cons_succ, List.set_nil, ↓reduceIte, Nat.reduceAdd, Nat.reduceSub, Nat.reduceEqDiff, Nat.reduceLeDiff, Int.reduceEq, Int.reduceNe, Int.reduceNeg, reduceCtorEq, kd190, kd198, ln198]
    refine m_mod hS.2.1 hS.2.2.1 (r3 (by omega)) ?_
    simp only [bk166_0, bk166_15, bk166_24, bk166_30, bk166_35, bk166_42, bk166_81, bk166_84, bk166_91, bk166_120, U_aload_n, U_getfield, U_iload_n, U_iald, U_icmp_le, U_goto, U_istore, U_iconst, U_iload, U_icmp_gt, U_sipush, U_iadd, U_invokevirtual2, U_imul, U_invokevirtual1, U_iast, U_iinc, U_bipush, U_return, UN_cc, UN_cn, UN_nc, UN_nn, UJ, lget, lset, lset2, entL, wsm, wcat, Option.toList_some, Option.toList_none, List.cons_append, List.nil_append, List.mem_cons, List.not_mem_nil, Prod.mk.injEq, or_false, false_or, or_true, true_or, and_true, true_and, and_false, false_and, and_self, ne_eq, not_false_eq_true, not_true_eq_false, forall_const, true_implies, false_implies, Nat.add_zero, Nat.zero_add, Nat.le_refl, Nat.zero_le, List.set_cons_zero, List.set_cons_succ, List.set_nil, ↓reduceIte, Nat.reduceAdd, Nat.reduceSub, Nat.reduceEqDiff, Nat.reduceLeDiff, Int.reduceEq, Int.reduceNe, Int.reduceNeg, reduceCtorEq, kd190, kd198, ln198]
    refine ⟨by omega, by omega, ?_⟩
    refine ih (k + 1) _ (by omega) (hS.us (a := 39) (k := (k : Int)) hS.2.2.2.1 (by omega) (by omega) (by omega)) (hF.tr (PF.us _ _ _)) (fun j hj => ?_)
    rw [ust_at]
    by_cases c : j = k
    · rw [if_pos (by omega), c, hR]
    · rw [if_neg (by omega)]; exact hI j (by omega)
set_option maxHeartbeats 8000000 in
theorem m_add {p : Int} {N : Mem} {μ : Int → Option (Pz p)} {Q : Post} {a b t tm : Int} {A B : Pz p} (R : Pz p) (h : MT p N μ) (h0 : 0 ≤ t) (h1 : t < 39) (ha : μ a = some A) (hb : μ b = some B) (ht : -1000 ≤ tm ∧ tm ≤ 1000) (hR : ∀ k, R.1 k = (A.1 k + tm * B.1 k) % p) (hQ : ∀ N', MT p N' (upq μ t R) → PF N N' → Q none NN N') : CL 166 [(2, 190), (0, t), (0, a), (0, b), (0, tm), (9, 0), (9, 0)] NN N Q := by
  obtain ⟨p1, p2, p3, p4, p5⟩ := h.2.2.2.2 a A ha
  obtain ⟨q1, q2, q3, q4, q5⟩ := h.2.2.2.2 b B hb
  have hpp := h.2.1.pos
  have go : ∀ d : Nat, d ≤ 24 → dg A ≤ d → dg B ≤ d → WP 166 (0, 0) 35 [(2, 190), (0, t), (0, a), (0, b), (0, tm), (0, (d : Int) - 1), (0, 0)] [] NN N Q := fun d d1 d2 d3 => by
    refine l_aSum (N := N) (R := R) (x := (0, 0)) d1 ha hb ht hR (fun y N1 S1 F1 I1 => ?_) d 0 N (by omega) h (PF.rf N) (fun j hj => by omega)
    refine WP.run [(166, 84)] [] 40 ?_
    simp only [bk166_0, bk166_15, bk166_24, bk166_30, bk166_35, bk166_42, bk166_81, bk166_84, bk166_91, bk166_120, U_aload_n, U_getfield, U_iload_n, U_iald, U_icmp_le, U_goto, U_istore, U_iconst, U_iload, U_icmp_gt, U_sipush, U_iadd, U_invokevirtual2, U_imul, U_invokevirtual1, U_iast, U_iinc, U_bipush, U_return, UN_cc, UN_cn, UN_nc, UN_nn, UJ, lget, lset, lset2, entL, wsm, wcat, Option.toList_some, Option.toList_none, List.cons_append, List.nil_append, List.mem_cons, List.not_mem_nil, Prod.mk.injEq, or_false, false_or, or_true, true_or, and_true, true_and, and_false, false_and, and_self, ne_eq, not_false_eq_true, not_true_eq_false, forall_const, true_implies, false_implies, Nat.add_zero, Nat.zero_add, Nat.le_refl, Nat.zero_le, List.set_cons_zero, List.set_cons_succ, List.set_nil, ↓reduceIte, Nat.reduceAdd, Nat.reduceSub, Nat.reduceEqDiff, Nat.reduceLeDiff, Int.reduceEq, Int.reduceNe, Int.reduceNeg, reduceCtorEq]
    refine l_aCp (N := N) (R := R) (x := (0, 0)) h0 h1 d1 rfl (fun y N2 S2 F2 I2 => ?_) d 0 N1 (by omega) (S1.fg t) F1 (fun j hj => by omega) I1
    refine WP.run [] [] 40 ?_
    simp only [bk166_0, bk166_15, bk166_24, bk166_30, bk166_35, bk166_42, bk166_81, bk166_84, bk166_91, bk166_120, U_aload_n, U_getfield, U_iload_n, U_iald, U_icmp_le, U_goto, U_istore, U_iconst, U_iload, U_icmp_gt, U_sipush, U_iadd, U_invokevirtual2, U_imul, U_invokevirtual1, U_iast, U_iinc, U_bipush, U_return, UN_cc, UN_cn, UN_nc, UN_nn, UJ, lget, lset, lset2, entL, wsm, wcat, Option.toList_some, Option.toList_none, List.cons_append, List.nil_append, List.mem_cons, List.not_mem_nil, Prod.mk.injEq, or_false, false_or, or_true, true_or, and_true, true_and, and_false, false_and, and_self, ne_eq, not_false_eq_true, not_true_eq_false, forall_const, true_implies, false_implies, Nat.add_zero, Nat.zero_add, Nat.le_refl, Nat.zero_le, List.set_cons_zero, List.set_cons_succ, List.set_nil, ↓reduceIte, Nat.reduceAdd, Nat.reduceSub, Nat.reduceEqDiff, Nat.reduceLeDiff, Int.reduceEq, Int.reduceNe, Int.reduceNeg, reduceCtorEq, kd190]
    refine m_trim S2 h0 h1 (by omega) (by omega) (A := R) (fun k hk => I2 k (by omega)) (fun k hk => ?_) fun N3 S3 F3 _ => ?_
    · rw [hR, dg_far A (by omega), dg_far B (by omega), Int.mul_zero, Int.add_zero, Int.zero_emod]
    · rw [upq_fgt] at S3
      simp only [bk166_0, bk166_15, bk166_24, bk166_30, bk166_35, bk166_42, bk166_81, bk166_84, bk166_91, bk166_120, U_aload_n, U_getfield, U_iload_n, U_iald, U_icmp_le, U_goto, U_istore, U_iconst, U_iload, U_icmp_gt, U_sipush, U_iadd, U_invokevirtual2, U_imul, U_invokevirtual1, U_iast, U_iinc, U_bipush, U_return, UN_cc, UN_cn, UN_nc, UN_nn, UJ, lget, lset, lset2, entL, wsm, wcat, Option.toList_some, Option.toList_none, List.cons_append, List.nil_append, List.mem_cons, List.not_mem_nil, Prod.mk.injEq, or_false, false_or, or_true, true_or, and_true, true_and, and_false, false_and, and_self, ne_eq, not_false_eq_true, not_true_eq_false, forall_const, true_implies, false_implies, Nat.add_zero, Nat.zero_add, Nat.le_refl, Nat.zero_le, List.set_cons_zero, List.set_cons_succ, List.set_nil, ↓reduceIte, Nat.reduceAdd, Nat.reduceSub, Nat.reduceEqDiff, Nat.reduceLeDiff, Int.reduceEq, Int.reduceNe, Int.reduceNeg, reduceCtorEq]
      exact hQ N3 S3 (F2.tr F3)
  refine WP.run [(166, 35)] [] 40 ?_
  simp only [bk166_0, bk166_15, bk166_24, bk166_30, bk166_35, bk166_42, bk166_81, bk166_84, bk166_91, bk166_120, U_aload_n, U_getfield, U_iload_n, U_iald, U_icmp_le, U_goto, U_istore, U_iconst, U_iload, U_icmp_gt, U_sipush, U_iadd, U_invokevirtual2, U_imul, U_invokevirtual1, U_iast, U_iinc, U_bipush, U_return, UN_cc, UN_cn, UN_nc, UN_nn, UJ, lget, lset, lset2, entL, wsm, wcat, Option.toList_some, Option.toList_none, List.cons_append, List.nil_append, List.mem_cons, List.not_mem_nil, Prod.mk.injEq, or_false, false_or, or_true, true_or, and_true, true_and, and_false, false_and, and_self, ne_eq, not_false_eq_true, not_true_eq_false, forall_const, true_implies, false_implies, Nat.add_zero, Nat.zero_add, Nat.le_refl, Nat.zero_le, List.set_cons_zero, List.set_cons_succ, List.set_nil, ↓reduceIte, Nat.reduceAdd, Nat.reduceSub, Nat.reduceEqDiff, Nat.reduceLeDiff, Int.reduceEq, Int.reduceNe, Int.reduceNeg, reduceCtorEq, kd190, kd199, ln199, z190_13 h.1, p4, q4]
  refine ⟨p1, p2, q1, q2, rr (by omega), fun e => ?_, fun e => ?_⟩
  · exact ⟨p1, p2, go (dg A) p3 (by omega) (by omega)⟩
  · exact ⟨q1, q2, go (dg B) q3 (by omega) (by omega)⟩
