/-! THE MODEL'S ROWS: power, inverse, trim, copy, one number, value -/
theorem pwm_rg {p x : Int} (hp : Pr p) (n : Nat) : 0 ≤ pwm p x n ∧ pwm p x n < p := by
  have hpp := hp.pos
  cases n with
  | zero => show (0 : Int) ≤ 1 ∧ (1 : Int) < p; omega
  | succ n => exact ⟨Int.emod_nonneg _ (by omega), Int.emod_lt_of_pos _ (by omega)⟩
set_option maxHeartbeats 4000000 in
theorem l_mPow {p : Int} {N : Mem} {Q : Post} {v : Int} {m : Nat} (hp : Pr p) (h0 : N 190 0 = p) (hv : 0 ≤ v ∧ v < p) (hm : (m : Int) ≤ 1000) (hQ : Q (some (0, pwm p v m)) NN N) : ∀ (n k : Nat), k + n = m → WP 159 (0, 0) 5 [(2, 190), (0, v), (0, (m : Int)), (0, pwm p v k), (0, (k : Int))] [] NN N Q := by
  have hpp := hp.pos
  intro n
  induction n with
  | zero =>
    intro k hk
    obtain rfl : k = m := by omega
    refine WP.run [(159, 5)] [] 40 ?_
    simp only [bk159_0, bk159_5, bk159_11, bk159_26, U_iconst, U_istore_n, U_istore, U_iload, U_iload_n, U_icmp_ge, U_imul, U_aload_n, U_getfield, U_irem, U_iinc, U_goto, U_ireturn, UN_cc, UN_cn, UN_nc, UN_nn, UJ, lget, lset, lset2, entL, wsm, wcat, Option.toList_some, Option.toList_none, List.cons_append, List.nil_append, List.mem_cons, List.not_mem_nil, Prod.mk.injEq, or_false, false_or, or_true, true_or, and_true, true_and, and_false, false_and, and_self, ne_eq, not_false_eq_true, not_true_eq_false, forall_const, true_implies, false_implies, Nat.add_zero, Nat.zero_add, Nat.le_refl, Nat.zero_le, List.set_cons_zero, List.set_cons_succ, List.set_nil, ↓reduceIte, Nat.reduceAdd, Nat.reduceSub, Nat.reduceEqDiff, Nat.reduceLeDiff, Int.reduceEq, Int.reduceNe, Int.reduceNeg, reduceCtorEq]
    exact ⟨rr (by omega), fun e => absurd e (by omega), fun _ => hQ⟩
  | succ n ih =>
    intro k hk
    have w := pwm_rg (x := v) hp k
    have m0 : 0 ≤ pwm p v k * v := Int.mul_nonneg w.1 hv.1
    have m1 := ab_mul (A := 13) (B := 13) (a := pwm p v k) (b := v) (by omega) (by omega)
    refine WP.run [(159, 5)] [] 40 ?_
    simp only [bk159_0, bk159_5, bk159_11, bk159_26, U_iconst, U_istore_n, U_istore, U_iload, U_iload_n, U_icmp_ge, U_imul, U_aload_n, U_getfield, U_irem, U_iinc, U_goto, U_ireturn, UN_cc, UN_cn, UN_nc, UN_nn, UJ, lget, lset, lset2, entL, wsm, wcat, Option.toList_some, Option.toList_none, List.cons_append, List.nil_append, List.mem_cons, List.not_mem_nil, Prod.mk.injEq, or_false, false_or, or_true, true_or, and_true, true_and, and_false, false_and, and_self, ne_eq, not_false_eq_true, not_true_eq_false, forall_const, true_implies, false_implies, Nat.add_zero, Nat.zero_add, Nat.le_refl, Nat.zero_le, List.set_cons_zero, List.set_cons_succ, List.set_nil, ↓reduceIte, Nat.reduceAdd, Nat.reduceSub, Nat.reduceEqDiff, Nat.reduceLeDiff, Int.reduceEq, Int.reduceNe, Int.reduceNeg, reduceCtorEq, kd190, h0]
    rw [tm_nn m0]
    exact ⟨rr (by omega), fun _ => ⟨r3 (by omega), r3 (by omega), by omega, ih (k + 1) (by omega)⟩, fun e => absurd (by omega) e⟩
set_option maxHeartbeats 4000000 in
theorem m_pow {p : Int} {N : Mem} {Q : Post} {v : Int} {m : Nat} (hp : Pr p) (h0 : N 190 0 = p) (hv : 0 ≤ v ∧ v < p) (hm : (m : Int) ≤ 1000) (hQ : Q (some (0, pwm p v m)) NN N) : CL 159 [(2, 190), (0, v), (0, (m : Int)), (9, 0), (9, 0)] NN N Q := by
  refine WP.run [(159, 5)] [] 40 ?_
  simp only [bk159_0, bk159_5, bk159_11, bk159_26, U_iconst, U_istore_n, U_istore, U_iload, U_iload_n, U_icmp_ge, U_imul, U_aload_n, U_getfield, U_irem, U_iinc, U_goto, U_ireturn, UN_cc, UN_cn, UN_nc, UN_nn, UJ, lget, lset, lset2, entL, wsm, wcat, Option.toList_some, Option.toList_none, List.cons_append, List.nil_append, List.mem_cons, List.not_mem_nil, Prod.mk.injEq, or_false, false_or, or_true, true_or, and_true, true_and, and_false, false_and, and_self, ne_eq, not_false_eq_true, not_true_eq_false, forall_const, true_implies, false_implies, Nat.add_zero, Nat.zero_add, Nat.le_refl, Nat.zero_le, List.set_cons_zero, List.set_cons_succ, List.set_nil, ↓reduceIte, Nat.reduceAdd, Nat.reduceSub, Nat.reduceEqDiff, Nat.reduceLeDiff, Int.reduceEq, Int.reduceNe, Int.reduceNeg, reduceCtorEq]
  exact l_mPow hp h0 hv hm hQ m 0 (by omega)
set_option maxHeartbeats 4000000 in
theorem m_inv {p : Int} {N : Mem} {Q : Post} {v : Int} (hp : Pr p) (h0 : N 190 0 = p) (hv : 0 ≤ v ∧ v < p) (hQ : Q (some (0, pinv p v)) NN N) : CL 160 [(2, 190), (0, v)] NN N Q := by
  have hpp := hp.pos
  refine WP.run [] [] 40 ?_
  simp only [bk160_0, U_aload_n, U_iload_n, U_getfield, U_iconst, U_isub, U_invokevirtual2, U_ireturn, UN_cc, UN_cn, UN_nc, UN_nn, UJ, lget, lset, lset2, entL, wsm, wcat, Option.toList_some, Option.toList_none, List.cons_append, List.nil_append, List.mem_cons, List.not_mem_nil, Prod.mk.injEq, or_false, false_or, or_true, true_or, and_true, true_and, and_false, false_and, and_self, ne_eq, not_false_eq_true, not_true_eq_false, forall_const, true_implies, false_implies, Nat.add_zero, Nat.zero_add, Nat.le_refl, Nat.zero_le, List.set_cons_zero, List.set_cons_succ, List.set_nil, ↓reduceIte, Nat.reduceAdd, Nat.reduceSub, Nat.reduceEqDiff, Nat.reduceLeDiff, Int.reduceEq, Int.reduceNe, Int.reduceNeg, reduceCtorEq, kd190, h0]
  have e : p - 2 = ((p.toNat - 2 : Nat) : Int) := by omega
  rw [e]
  refine m_pow hp h0 hv (by omega) ?_
  simp only [bk160_0, U_aload_n, U_iload_n, U_getfield, U_iconst, U_isub, U_invokevirtual2, U_ireturn, UN_cc, UN_cn, UN_nc, UN_nn, UJ, lget, lset, lset2, entL, wsm, wcat, Option.toList_some, Option.toList_none, List.cons_append, List.nil_append, List.mem_cons, List.not_mem_nil, Prod.mk.injEq, or_false, false_or, or_true, true_or, and_true, true_and, and_false, false_and, and_self, ne_eq, not_false_eq_true, not_true_eq_false, forall_const, true_implies, false_implies, Nat.add_zero, Nat.zero_add, Nat.le_refl, Nat.zero_le, List.set_cons_zero, List.set_cons_succ, List.set_nil, ↓reduceIte, Nat.reduceAdd, Nat.reduceSub, Nat.reduceEqDiff, Nat.reduceLeDiff, Int.reduceEq, Int.reduceNe, Int.reduceNeg, reduceCtorEq]
  exact hQ
set_option maxHeartbeats 4000000 in
theorem l_mTrim {p : Int} {N : Mem} {μ : Int → Option (Pz p)} {Q : Post} {a b : Int} {A : Pz p} (h : MT p N μ) (h0 : 0 ≤ a) (h1 : a < 39) (hb : b < 24) (hA : ∀ k : Nat, (k : Int) ≤ b → N 198 (24 * a + (k : Int)) = A.1 k) (hQ : ∀ N', MT p N' (upq μ a A) → PF N N' → N' 198 = N 198 → Q none NN N') : ∀ (n : Nat) (d : Int), d + 1 = n → d ≤ b → (∀ k : Nat, d < k → A.1 k = 0) → WP 163 (0, 0) 2 [(2, 190), (0, a), (0, b), (0, d)] [] NN N Q := by
  have fin : ∀ d : Int, -1 ≤ d → d ≤ b → (∀ k : Nat, d < k → A.1 k = 0) → (0 ≤ d → A.1 d.toNat ≠ 0) → Q none NN (ust N 199 a d) := fun d d1 d2 d3 d4 => by
    have e := dg_int d1 d3 d4
    exact hQ _ (h.ud h0 h1 e.symm (by omega) fun k hk => hA k (by omega)) (PF.ud _ _ _) (ust_ne (by decide))
  intro n
  induction n with
  | zero =>
    intro d hd h2 h3
    refine WP.run [(163, 2)] [] 40 ?_
    simp only [bk163_0, bk163_2, bk163_6, bk163_20, bk163_26, U_iload_n, U_istore_n, U_if_lt, U_aload_n, U_getfield, U_bipush, U_imul, U_iadd, U_iald, U_if_ne, U_iinc, U_goto, U_iast, U_return, UN_cc, UN_cn, UN_nc, UN_nn, UJ, lget, lset, lset2, entL, wsm, wcat, Option.toList_some, Option.toList_none, List.cons_append, List.nil_append, List.mem_cons, List.not_mem_nil, Prod.mk.injEq, or_false, false_or, or_true, true_or, and_true, true_and, and_false, false_and, and_self, ne_eq, not_false_eq_true, not_true_eq_false, forall_const, true_implies, false_implies, Nat.add_zero, Nat.zero_add, Nat.le_refl, Nat.zero_le, List.set_cons_zero, List.set_cons_succ, List.set_nil, ↓reduceIte, Nat.reduceAdd, Nat.reduceSub, Nat.reduceEqDiff, Nat.reduceLeDiff, Int.reduceEq, Int.reduceNe, Int.reduceNeg, reduceCtorEq, kd190, kd199, ln199, z190_13 h.1]
    refine ⟨r3 (by omega), fun _ => ⟨by omega, by omega, fin d (by omega) h2 h3 (fun e => by omega)⟩, fun e => absurd (by omega) e⟩
  | succ n ih =>
    intro d hd h2 h3
    have e := hA d.toNat (by omega)
    rw [Int.toNat_of_nonneg (by omega)] at e
    have hr := pz_rg h.2.1 A d.toNat
    have hpp := h.2.1.pos
    refine WP.run [(163, 2)] [] 40 ?_
    simp only [bk163_0, bk163_2, bk163_6, bk163_20, bk163_26, U_iload_n, U_istore_n, U_if_lt, U_aload_n, U_getfield, U_bipush, U_imul, U_iadd, U_iald, U_if_ne, U_iinc, U_goto, U_iast, U_return, UN_cc, UN_cn, UN_nc, UN_nn, UJ, lget, lset, lset2, entL, wsm, wcat, Option.toList_some, Option.toList_none, List.cons_append, List.nil_append, List.mem_cons, List.not_mem_nil, Prod.mk.injEq, or_false, false_or, or_true, true_or, and_true, true_and, and_false, false_and, and_self, ne_eq, not_false_eq_true, not_true_eq_false, forall_const, true_implies, false_implies, Nat.add_zero, Nat.zero_add, Nat.le_refl, Nat.zero_le, List.set_cons_zero, List.set_cons_succ, List.set_nil, ↓reduceIte, Nat.reduceAdd, Nat.reduceSub, Nat.reduceEqDiff, Nat.reduceLeDiff, Int.reduceEq, Int.reduceNe, Int.reduceNeg, reduceCtorEq, kd190, kd198, kd199, ln198, ln199, z190_12 h.1, z190_13 h.1, e]
    refine ⟨r3 (by omega), fun e => absurd e (by omega), fun _ => ⟨by omega, by omega, r3 (by omega), fun q => ?_, fun q => ⟨by omega, by omega, fin d (by omega) h2 h3 (fun _ => q)⟩⟩⟩
    refine ih (d + -1) (by omega) (by omega) (fun k hk => ?_)
    by_cases c : (k : Int) = d
    · rw [show k = d.toNat by omega]; exact q
    · exact h3 k (by omega)
set_option maxHeartbeats 4000000 in
theorem m_trim {p : Int} {N : Mem} {μ : Int → Option (Pz p)} {Q : Post} {a b : Int} {A : Pz p} (h : MT p N μ) (h0 : 0 ≤ a) (h1 : a < 39) (hb : b < 24) (hb1 : -1 ≤ b) (hA : ∀ k : Nat, (k : Int) ≤ b → N 198 (24 * a + (k : Int)) = A.1 k) (hf : ∀ k : Nat, b < k → A.1 k = 0) (hQ : ∀ N', MT p N' (upq μ a A) → PF N N' → N' 198 = N 198 → Q none NN N') : CL 163 [(2, 190), (0, a), (0, b), (9, 0)] NN N Q := by
  refine WP.run [(163, 2)] [] 40 ?_
  simp only [bk163_0, bk163_2, bk163_6, bk163_20, bk163_26, U_iload_n, U_istore_n, U_if_lt, U_aload_n, U_getfield, U_bipush, U_imul, U_iadd, U_iald, U_if_ne, U_iinc, U_goto, U_iast, U_return, UN_cc, UN_cn, UN_nc, UN_nn, UJ, lget, lset, lset2, entL, wsm, wcat, Option.toList_some, Option.toList_none, List.cons_append, List.nil_append, List.mem_cons, List.not_mem_nil, Prod.mk.injEq, or_false, false_or, or_true, true_or, and_true, true_and, and_false, false_and, and_self, ne_eq, not_false_eq_true, not_true_eq_false, forall_const, true_implies, false_implies, Nat.add_zero, Nat.zero_add, Nat.le_refl, Nat.zero_le, List.set_cons_zero, List.set_cons_succ, List.set_nil, ↓reduceIte, Nat.reduceAdd, Nat.reduceSub, Nat.reduceEqDiff, Nat.reduceLeDiff, Int.reduceEq, Int.reduceNe, Int.reduceNeg, reduceCtorEq]
  exact l_mTrim h h0 h1 hb hA hQ (b + 1).toNat b (by omega) (by omega) hf
set_option maxHeartbeats 4000000 in
theorem l_mCopy {p : Int} {N : Mem} {μ : Int → Option (Pz p)} {Q : Post} {a t : Int} {A : Pz p} (h0 : 0 ≤ t) (h1 : t < 39) (hn : a ≠ t) (ha : μ a = some A) (hQ : ∀ N', MT p N' (upq μ t A) → PF N N' → Q none NN N') : ∀ (n k : Nat) (Ni : Mem), k + n = dg A → MT p Ni (fgt μ t) → PF N Ni → (∀ j : Nat, j < k → Ni 198 (24 * t + (j : Int)) = A.1 j) → WP 164 (0, 0) 2 [(2, 190), (0, t), (0, a), (0, (k : Int))] [] NN Ni Q := by
  intro n
  induction n with
  | zero =>
    intro k Ni hk hS hF hI
    obtain ⟨p1, p2, p3, p4, p5⟩ := hS.2.2.2.2 a A ((fgt_n hn).trans ha)
    refine WP.run [(164, 2)] [] 40 ?_
    simp only [bk164_0, bk164_2, bk164_12, bk164_40, U_iconst, U_istore_n, U_iload_n, U_aload_n, U_getfield, U_iald, U_icmp_gt, U_bipush, U_imul, U_iadd, U_iast, U_iinc, U_goto, U_return, UN_cc, UN_cn, UN_nc, UN_nn, UJ, lget, lset, lset2, entL, wsm, wcat, Option.toList_some, Option.toList_none, List.cons_append, List.nil_append, List.mem_cons, List.not_mem_nil, Prod.mk.injEq, or_false, false_or, or_true, true_or, and_true, true_and, and_false, false_and, and_self, ne_eq, not_false_eq_true, not_true_eq_false, forall_const, true_implies, false_implies, Nat.add_zero, Nat.zero_add, Nat.le_refl, Nat.zero_le, List.set_cons_zero, List.set_cons_succ, List.set_nil, ↓reduceIte, Nat.reduceAdd, Nat.reduceSub, Nat.reduceEqDiff, Nat.reduceLeDiff, Int.reduceEq, Int.reduceNe, Int.reduceNeg, reduceCtorEq, kd190, kd198, kd199, ln198, ln199, z190_12 hS.1, z190_13 hS.1, p4]
    have S2 := hS.ud (A := A) (d := (dg A : Int) - 1) h0 h1 rfl p3 (fun j hj => hI j (by omega))
    rw [upq_fgt] at S2
    exact ⟨p1, p2, rr (by omega), fun _ => ⟨by omega, by omega, by omega, by omega, hQ _ S2 (hF.tr (PF.ud _ _ _))⟩, fun e => absurd (by omega) e⟩
  | succ n ih =>
    intro k Ni hk hS hF hI
    obtain ⟨p1, p2, p3, p4, p5⟩ := hS.2.2.2.2 a A ((fgt_n hn).trans ha)
    have e := p5 k (by omega)
    refine WP.run [(164, 2)] [] 40 ?_
    simp only [bk164_0, bk164_2, bk164_12, bk164_40, U_iconst, U_istore_n, U_iload_n, U_aload_n, U_getfield, U_iald, U_icmp_gt, U_bipush, U_imul, U_iadd, U_iast, U_iinc, U_goto, U_return, UN_cc, UN_cn, UN_nc, UN_nn, UJ, lget, lset, lset2, entL, wsm, wcat, Option.toList_some, Option.toList_none, List.cons_append, List.nil_append, List.mem_cons, List.not_mem_nil, Prod.mk.injEq, or_false, false_or, or_true, true_or, and_true, true_and, and_false, false_and, and_self, ne_eq, not_false_eq_true, not_true_eq_false, forall_const, true_implies, false_implies, Nat.add_zero, Nat.zero_add, Nat.le_refl, Nat.zero_le, List.set_cons_zero, List.set_cons_succ, List.set_nil, ↓reduceIte, Nat.reduceAdd, Nat.reduceSub, Nat.reduceEqDiff, Nat.reduceLeDiff, Int.reduceEq, Int.reduceNe, Int.reduceNeg, reduceCtorEq, kd190, kd198, kd199, ln198, ln199, z190_12 hS.1, z190_13 hS.1, p4, e]
    refine ⟨p1, p2, rr (by omega), fun e => absurd e (by omega), fun _ => ⟨by omega, by omega, by omega, by omega, ?_⟩⟩
    refine ih (k + 1) _ (by omega) (hS.us (a := t) (k := (k : Int)) (fgt_e μ t) (by omega) (by omega) rfl) (hF.tr (PF.us _ _ _)) (fun j hj => ?_)
    rw [ust_at]
    by_cases c : j = k
    · rw [if_pos (by omega), c]
    · rw [if_neg (by omega)]; exact hI j (by omega)
set_option maxHeartbeats 4000000 in
theorem m_copy {p : Int} {N : Mem} {μ : Int → Option (Pz p)} {Q : Post} {a t : Int} {A : Pz p} (h : MT p N μ) (h0 : 0 ≤ t) (h1 : t < 39) (hn : a ≠ t) (ha : μ a = some A) (hQ : ∀ N', MT p N' (upq μ t A) → PF N N' → Q none NN N') : CL 164 [(2, 190), (0, t), (0, a), (9, 0)] NN N Q := by
  refine WP.run [(164, 2)] [] 40 ?_
  simp only [bk164_0, bk164_2, bk164_12, bk164_40, U_iconst, U_istore_n, U_iload_n, U_aload_n, U_getfield, U_iald, U_icmp_gt, U_bipush, U_imul, U_iadd, U_iast, U_iinc, U_goto, U_return, UN_cc, UN_cn, UN_nc, UN_nn, UJ, lget, lset, lset2, entL, wsm, wcat, Option.toList_some, Option.toList_none, List.cons_append, List.nil_append, List.mem_cons, List.not_mem_nil, Prod.mk.injEq, or_false, false_or, or_true, true_or, and_true, true_and, and_false, false_and, and_self, ne_eq, not_false_eq_true, not_true_eq_false, forall_const, true_implies, false_implies, Nat.add_zero, Nat.zero_add, Nat.le_refl, Nat.zero_le, List.set_cons_zero, List.set_cons_succ, List.set_nil, ↓reduceIte, Nat.reduceAdd, Nat.reduceSub, Nat.reduceEqDiff, Nat.reduceLeDiff, Int.reduceEq, Int.reduceNe, Int.reduceNeg, reduceCtorEq]
  exact l_mCopy h0 h1 hn ha hQ (dg A) 0 N (by omega) (h.fg t) (PF.rf N) (fun j hj => by omega)
set_option maxHeartbeats 4000000 in
theorem m_set {p : Int} {N : Mem} {μ : Int → Option (Pz p)} {Q : Post} {t v : Int} (h : MT p N μ) (h0 : 0 ≤ t) (h1 : t < 39) (hv : R32 v) (hQ : ∀ N', MT p N' (upq μ t (pC p v)) → PF N N' → Q none NN N') : CL 165 [(2, 190), (0, t), (0, v)] NN N Q := by
  refine WP.run [] [] 40 ?_
  simp only [bk165_0, U_aload_n, U_getfield, U_bipush, U_iload_n, U_imul, U_invokevirtual1, U_iast, U_iconst, U_invokevirtual2, U_return, UN_cc, UN_cn, UN_nc, UN_nn, UJ, lget, lset, lset2, entL, wsm, wcat, Option.toList_some, Option.toList_none, List.cons_append, List.nil_append, List.mem_cons, List.not_mem_nil, Prod.mk.injEq, or_false, false_or, or_true, true_or, and_true, true_and, and_false, false_and, and_self, ne_eq, not_false_eq_true, not_true_eq_false, forall_const, true_implies, false_implies, Nat.add_zero, Nat.zero_add, Nat.le_refl, Nat.zero_le, List.set_cons_zero, List.set_cons_succ, List.set_nil, ↓reduceIte, Nat.reduceAdd, Nat.reduceSub, Nat.reduceEqDiff, Nat.reduceLeDiff, Int.reduceEq, Int.reduceNe, Int.reduceNeg, reduceCtorEq, kd190, z190_12 h.1]
  refine m_mod h.2.1 h.2.2.1 hv ?_
  simp only [bk165_0, U_aload_n, U_getfield, U_bipush, U_iload_n, U_imul, U_invokevirtual1, U_iast, U_iconst, U_invokevirtual2, U_return, UN_cc, UN_cn, UN_nc, UN_nn, UJ, lget, lset, lset2, entL, wsm, wcat, Option.toList_some, Option.toList_none, List.cons_append, List.nil_append, List.mem_cons, List.not_mem_nil, Prod.mk.injEq, or_false, false_or, or_true, true_or, and_true, true_and, and_false, false_and, and_self, ne_eq, not_false_eq_true, not_true_eq_false, forall_const, true_implies, false_implies, Nat.add_zero, Nat.zero_add, Nat.le_refl, Nat.zero_le, List.set_cons_zero, List.set_cons_succ, List.set_nil, ↓reduceIte, Nat.reduceAdd, Nat.reduceSub, Nat.reduceEqDiff, Nat.reduceLeDiff, Int.reduceEq, Int.reduceNe, Int.reduceNeg, reduceCtorEq, kd190, kd198, ln198]
  have S1 := (h.fg t).us (a := t) (k := 0) (i := 24 * t) (v := v % p) (fgt_e μ t) (by omega) (by omega) (by omega)
  refine ⟨by omega, by omega, m_trim S1 h0 h1 (by omega) (by omega) (A := pC p v) (fun k hk => ?_) (fun k hk => ?_) fun N' S2 F2 _ => ?_⟩
  · rw [show (k : Int) = 0 by omega, Int.add_zero, ust_at, if_pos rfl, pC_c, if_pos (by omega)]
  · rw [pC_c, if_neg (by omega), Int.zero_emod]
  · rw [upq_fgt] at S2
    simp only [bk165_0, U_aload_n, U_getfield, U_bipush, U_iload_n, U_imul, U_invokevirtual1, U_iast, U_iconst, U_invokevirtual2, U_return, UN_cc, UN_cn, UN_nc, UN_nn, UJ, lget, lset, lset2, entL, wsm, wcat, Option.toList_some, Option.toList_none, List.cons_append, List.nil_append, List.mem_cons, List.not_mem_nil, Prod.mk.injEq, or_false, false_or, or_true, true_or, and_true, true_and, and_false, false_and, and_self, ne_eq, not_false_eq_true, not_true_eq_false, forall_const, true_implies, false_implies, Nat.add_zero, Nat.zero_add, Nat.le_refl, Nat.zero_le, List.set_cons_zero, List.set_cons_succ, List.set_nil, ↓reduceIte, Nat.reduceAdd, Nat.reduceSub, Nat.reduceEqDiff, Nat.reduceLeDiff, Int.reduceEq, Int.reduceNe, Int.reduceNeg, reduceCtorEq]
    exact hQ N' S2 ((PF.us _ _ _).tr F2)
