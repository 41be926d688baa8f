/-! SHARES, how much each count is above, the curve taken -/
set_option maxHeartbeats 4000000 in
theorem l_fillJ {N : Mem} {Q : Post} {a v : Int} (ha : kd NN a = 2) (hQ : Q none NN (fil N a (LN a) v)) : ∀ (n : Nat) (i : Int), i + n = LN a → 0 ≤ i → WP 70 (0, 0) 6 [(2, a), (1, v), (9, 0), (0, i), (0, LN a)] [] NN (fil N a i v) Q := by
  have hln := LN_le a
  intro n
  induction n with
  | zero =>
    intro i h1 h2
    refine WP.run [(70, 6)] [] 30 ?_
    simp only [bk70_0, bk70_6, bk70_12, bk70_22, U_iconst, U_istore_n, U_aload_n, U_alen, U_istore, U_iload_n, U_iload, U_icmp_ge, U_lload_n, U_last, U_iinc, U_goto, U_return, UN_cc, UN_cn, UN_nc, UN_nn, UJ, lget, lset, lset2, entL, wsm, wcat, Option.toList_some, Option.toList_none, List.cons_append, List.nil_append, List.mem_cons, List.not_mem_nil, Prod.mk.injEq, or_false, false_or, or_true, true_or, and_true, true_and, and_false, false_and, and_self, ne_eq, not_false_eq_true, not_true_eq_false, forall_const, true_implies, false_implies, Nat.add_zero, Nat.zero_add, Nat.le_refl, Nat.zero_le, List.set_cons_zero, List.set_cons_succ, List.set_nil, ↓reduceIte, Nat.reduceAdd, Nat.reduceSub, Nat.reduceEqDiff, Nat.reduceLeDiff, Int.reduceEq, Int.reduceNe, Int.reduceNeg, reduceCtorEq, ha]
    refine ⟨rr (by omega), fun h => absurd h (by omega), fun _ => ?_⟩
    have e : i = LN a := by omega
    rw [e]; exact hQ
  | succ n ih =>
    intro i h1 h2
    refine WP.run [(70, 6)] [] 30 ?_
    simp only [bk70_0, bk70_6, bk70_12, bk70_22, U_iconst, U_istore_n, U_aload_n, U_alen, U_istore, U_iload_n, U_iload, U_icmp_ge, U_lload_n, U_last, U_iinc, U_goto, U_return, UN_cc, UN_cn, UN_nc, UN_nn, UJ, lget, lset, lset2, entL, wsm, wcat, Option.toList_some, Option.toList_none, List.cons_append, List.nil_append, List.mem_cons, List.not_mem_nil, Prod.mk.injEq, or_false, false_or, or_true, true_or, and_true, true_and, and_false, false_and, and_self, ne_eq, not_false_eq_true, not_true_eq_false, forall_const, true_implies, false_implies, Nat.add_zero, Nat.zero_add, Nat.le_refl, Nat.zero_le, List.set_cons_zero, List.set_cons_succ, List.set_nil, ↓reduceIte, Nat.reduceAdd, Nat.reduceSub, Nat.reduceEqDiff, Nat.reduceLeDiff, Int.reduceEq, Int.reduceNe, Int.reduceNeg, reduceCtorEq, ha]
    refine ⟨rr (by omega), fun h => ⟨h2, h, ?_⟩, fun h => absurd h (by omega)⟩
    rw [fil_s N a v h2]
    exact ih (i + 1) (by omega) (by omega)
set_option maxHeartbeats 4000000 in
theorem c_fillJ {N : Mem} {Q : Post} {a v : Int} (ha : kd NN a = 2) (hQ : Q none NN (fil N a (LN a) v)) : CL 70 [(2, a), (1, v), (9, 0), (9, 0), (9, 0)] NN N Q := by
  have hln := LN_le a
  refine WP.run [(70, 6)] [] 30 ?_
  simp only [bk70_0, bk70_6, bk70_12, bk70_22, U_iconst, U_istore_n, U_aload_n, U_alen, U_istore, U_iload_n, U_iload, U_icmp_ge, U_lload_n, U_last, U_iinc, U_goto, U_return, UN_cc, UN_cn, UN_nc, UN_nn, UJ, lget, lset, lset2, entL, wsm, wcat, Option.toList_some, Option.toList_none, List.cons_append, List.nil_append, List.mem_cons, List.not_mem_nil, Prod.mk.injEq, or_false, false_or, or_true, true_or, and_true, true_and, and_false, false_and, and_self, ne_eq, not_false_eq_true, not_true_eq_false, forall_const, true_implies, false_implies, Nat.add_zero, Nat.zero_add, Nat.le_refl, Nat.zero_le, List.set_cons_zero, List.set_cons_succ, List.set_nil, ↓reduceIte, Nat.reduceAdd, Nat.reduceSub, Nat.reduceEqDiff, Nat.reduceLeDiff, Int.reduceEq, Int.reduceNe, Int.reduceNeg, reduceCtorEq, ha]
  have := l_fillJ (N := N) (v := v) ha hQ (LN a).toNat 0 (by omega) (by omega)
  rw [fil_0] at this
  exact this
def shF (p : Int) (g : Nat) (n1 n2 : Int) (i : Nat) : Int :=
  if i = 0 then 1 else if i = 1 then n1 - p else if g = 1 then (if i = 2 then p else 0)
  else if i = 2 then (n2 - p * p + (n1 - p) * (n1 - p)).tdiv 2 else if i = 3 then (n1 - p) * p else if i = 4 then p * p else 0
def ovT (s : Nat → Int) : Nat → Nat → Int
  | 0, _ => 0
  | k + 1, j => if j = k + 1 then ((k + 1 : Nat) : Int) * s (k + 1) - isum (fun i => if i = 0 then 0 else s i * ovT s k (k + 1 - i)) (k + 1) else ovT s k j
noncomputable def shs {p : Int} (f : Pz p) (g : Nat) : Nat → Int := shF p g (ptl f p.toNat).length (nn2 f)
noncomputable def hcl {p : Int} (f : Pz p) (g : Nat) : Int := isum (shs f g) 7
theorem ovT_le (s : Nat → Int) : ∀ (m k j : Nat), j ≤ k → k ≤ m → ovT s m j = ovT s k j := by
  intro m
  induction m with
  | zero => intro k j h1 h2; obtain rfl : k = 0 := by omega
            rfl
  | succ m ih =>
    intro k j h1 h2
    by_cases e : k = m + 1
    · rw [e]
    · show (if j = m + 1 then _ else ovT s m j) = _
      rw [if_neg (by omega)]; exact ih k j h1 (by omega)
/-- the long cells 29, 30: shares and how much above -/
def OvA (N : Mem) (s : Nat → Int) (k : Nat) : Prop := ∀ j : Nat, 1 ≤ j → j ≤ k → N 30 (j : Int) = ovT s k j
set_option maxHeartbeats 8000000 in
theorem l_ovI {p : Int} {N : Mem} {ρ : Int → Option (Pz p)} {Q : Post} {s : Nat → Int} {k : Nat} (hk : k + 1 ≤ 6) (hs : ∀ i : Nat, i < 7 → N 29 (i : Int) = s i) (hA : OvA N s k) (h : ST p N ρ) (hQ : WP 71 (0, 0) 60 [(2, 21), (0, ((k + 1 : Nat) : Int)), (0, ((k + 1 : Nat) : Int))] [] NN (ust N 30 ((k + 1 : Nat) : Int) (ovT s (k + 1) (k + 1))) Q) :
    ∀ (n i : Nat), i + n = k + 1 → 1 ≤ i → WP 71 (0, 0) 25 [(2, 21), (0, ((k + 1 : Nat) : Int)), (0, (i : Int))] [] NN (ust N 30 ((k + 1 : Nat) : Int) (((k + 1 : Nat) : Int) * s (k + 1) - isum (fun i => if i = 0 then 0 else s i * ovT s k (k + 1 - i)) i)) Q := by
  intro n
  induction n with
  | zero =>
    intro i hi h1
    obtain rfl : i = k + 1 := by omega
    refine WP.run [(71, 25), (71, 60)] [] 60 ?_
    simp only [bk71_0, bk71_2, bk71_8, bk71_25, bk71_30, bk71_60, bk71_66, U_iconst, U_istore_n, U_iload_n, U_bipush, U_icmp_gt, U_aload_n, U_getfield, U_i2l, U_lald, U_lmul, U_last, U_icmp_ge, U_dup2, U_isub, U_lsub, U_iinc, U_goto, U_return, UN_cc, UN_cn, UN_nc, UN_nn, UJ, lget, lset, lset2, entL, wsm, wcat, Option.toList_some, Option.toList_none, List.cons_append, List.nil_append, List.mem_cons, List.not_mem_nil, Prod.mk.injEq, or_false, false_or, or_true, true_or, and_true, true_and, and_false, false_and, and_self, ne_eq, not_false_eq_true, not_true_eq_false, forall_const, true_implies, false_implies, Nat.add_zero, Nat.zero_add, Nat.le_refl, Nat.zero_le, List.set_cons_zero, List.set_cons_succ, List.set_nil, ↓reduceIte, Nat.reduceAdd, Nat.reduceSub, Nat.reduceEqDiff, Nat.reduceLeDiff, Int.reduceEq, Int.reduceNe, Int.reduceNeg, reduceCtorEq]
    refine ⟨rr (by omega), fun e => absurd e (by omega), fun _ => ?_⟩
    have e : ovT s (k + 1) (k + 1) = ((k + 1 : Nat) : Int) * s (k + 1) - isum (fun i => if i = 0 then 0 else s i * ovT s k (k + 1 - i)) (k + 1) := if_pos rfl
    rw [e] at hQ; exact hQ
  | succ n ih =>
    intro i hi h1
    have e1 := hs i (by omega)
    have e2 := hA (k + 1 - i) (by omega) (by omega)
    have e3 : ((k + 1 : Nat) : Int) - (i : Int) = ((k + 1 - i : Nat) : Int) := by omega
    have n1 : ¬ (((k + 1 - i : Nat) : Int)) = ((k + 1 : Nat) : Int) := by omega
    refine WP.run [(71, 25), (71, 60)] [] 60 ?_
    simp only [bk71_0, bk71_2, bk71_8, bk71_25, bk71_30, bk71_60, bk71_66, U_iconst, U_istore_n, U_iload_n, U_bipush, U_icmp_gt, U_aload_n, U_getfield, U_i2l, U_lald, U_lmul, U_last, U_icmp_ge, U_dup2, U_isub, U_lsub, U_iinc, U_goto, U_return, UN_cc, UN_cn, UN_nc, UN_nn, UJ, lget, lset, lset2, entL, wsm, wcat, Option.toList_some, Option.toList_none, List.cons_append, List.nil_append, List.mem_cons, List.not_mem_nil, Prod.mk.injEq, or_false, false_or, or_true, true_or, and_true, true_and, and_false, false_and, and_self, ne_eq, not_false_eq_true, not_true_eq_false, forall_const, true_implies, false_implies, Nat.add_zero, Nat.zero_add, Nat.le_refl, Nat.zero_le, List.set_cons_zero, List.set_cons_succ, List.set_nil, ↓reduceIte, Nat.reduceAdd, Nat.reduceSub, Nat.reduceEqDiff, Nat.reduceLeDiff, Int.reduceEq, Int.reduceNe, Int.reduceNeg, reduceCtorEq, kd21, kd29, kd30, ln29, ln30, z21_10 h.1.1, z21_11 h.1.1, ust_r, e3, e1, e2, n1]
    refine ⟨rr (by omega), fun _ => ⟨by omega, by omega, by omega, by omega, by omega, by omega, by omega, by omega, ?_⟩, fun e => absurd e (by omega)⟩
    rw [ust_u]
    have e4 : ((k + 1 : Nat) : Int) * s (k + 1) - isum (fun i => if i = 0 then 0 else s i * ovT s k (k + 1 - i)) i - s i * ovT s k (k + 1 - i) = ((k + 1 : Nat) : Int) * s (k + 1) - isum (fun i => if i = 0 then 0 else s i * ovT s k (k + 1 - i)) (i + 1) := by
      have : isum (fun i => if i = 0 then 0 else s i * ovT s k (k + 1 - i)) (i + 1) = isum (fun i => if i = 0 then 0 else s i * ovT s k (k + 1 - i)) i + s i * ovT s k (k + 1 - i) := by
        show isum _ i + (if i = 0 then 0 else s i * ovT s k (k + 1 - i)) = _
        rw [if_neg (by omega)]
      rw [this]; omega
    rw [e4]
    exact ih (i + 1) (by omega) (by omega)
set_option maxHeartbeats 8000000 in
theorem l_ov {p : Int} {N : Mem} {ρ : Int → Option (Pz p)} {Q : Post} {s : Nat → Int} (hs : ∀ i : Nat, i < 7 → N 29 (i : Int) = s i) (hQ : ∀ N', ST p N' ρ → FX [30] N N' → OvA N' s 6 → Q none NN N') :
    ∀ (n k : Nat) (v : V) (Ni : Mem), k + n = 6 → ST p Ni ρ → FX [30] N Ni → OvA Ni s k → WP 71 (0, 0) 2 [(2, 21), (0, ((k + 1 : Nat) : Int)), v] [] NN Ni Q := by
  intro n
  induction n with
  | zero =>
    intro k v Ni hk hS hF hA
    obtain rfl : k = 6 := by omega
    refine WP.run [(71, 2)] [] 60 ?_
    simp only [bk71_0, bk71_2, bk71_8, bk71_25, bk71_30, bk71_60, bk71_66, U_iconst, U_istore_n, U_iload_n, U_bipush, U_icmp_gt, U_aload_n, U_getfield, U_i2l, U_lald, U_lmul, U_last, U_icmp_ge, U_dup2, U_isub, U_lsub, U_iinc, U_goto, U_return, UN_cc, UN_cn, UN_nc, UN_nn, UJ, lget, lset, lset2, entL, wsm, wcat, Option.toList_some, Option.toList_none, List.cons_append, List.nil_append, List.mem_cons, List.not_mem_nil, Prod.mk.injEq, or_false, false_or, or_true, true_or, and_true, true_and, and_false, false_and, and_self, ne_eq, not_false_eq_true, not_true_eq_false, forall_const, true_implies, false_implies, Nat.add_zero, Nat.zero_add, Nat.le_refl, Nat.zero_le, List.set_cons_zero, List.set_cons_succ, List.set_nil, ↓reduceIte, Nat.reduceAdd, Nat.reduceSub, Nat.reduceEqDiff, Nat.reduceLeDiff, Int.reduceEq, Int.reduceNe, Int.reduceNeg, reduceCtorEq]
    exact ⟨rr (by omega), fun _ => hQ Ni hS hF hA, fun e => absurd (by omega) e⟩
  | succ n ih =>
    intro k v Ni hk hS hF hA
    have hs' : ∀ i : Nat, i < 7 → Ni 29 (i : Int) = s i := fun i hi => by rw [hF 29 (by decide) (by decide)]; exact hs i hi
    have e1 := hs' (k + 1) (by omega)
    refine WP.run [(71, 2), (71, 25)] [] 60 ?_
    simp only [bk71_0, bk71_2, bk71_8, bk71_25, bk71_30, bk71_60, bk71_66, U_iconst, U_istore_n, U_iload_n, U_bipush, U_icmp_gt, U_aload_n, U_getfield, U_i2l, U_lald, U_lmul, U_last, U_icmp_ge, U_dup2, U_isub, U_lsub, U_iinc, U_goto, U_return, UN_cc, UN_cn, UN_nc, UN_nn, UJ, lget, lset, lset2, entL, wsm, wcat, Option.toList_some, Option.toList_none, List.cons_append, List.nil_append, List.mem_cons, List.not_mem_nil, Prod.mk.injEq, or_false, false_or, or_true, true_or, and_true, true_and, and_false, false_and, and_self, ne_eq, not_false_eq_true, not_true_eq_false, forall_const, true_implies, false_implies, Nat.add_zero, Nat.zero_add, Nat.le_refl, Nat.zero_le, List.set_cons_zero, List.set_cons_succ, List.set_nil, ↓reduceIte, Nat.reduceAdd, Nat.reduceSub, Nat.reduceEqDiff, Nat.reduceLeDiff, Int.reduceEq, Int.reduceNe, Int.reduceNeg, reduceCtorEq, kd21, kd29, kd30, ln29, ln30, z21_10 hS.1.1, z21_11 hS.1.1, e1]
    refine ⟨rr (by omega), fun e => absurd e (by omega), fun _ => ⟨r3 (by omega), by omega, by omega, by omega, by omega, ?_⟩⟩
    have hi1 : isum (fun i => if i = 0 then 0 else s i * ovT s k (k + 1 - i)) 1 = 0 := rfl
    have := l_ovI (p := p) (N := Ni) (ρ := ρ) (Q := Q) (s := s) (k := k) (by omega) hs' hA hS ?_ k 1 (by omega) (by omega)
    · rw [hi1, Int.sub_zero] at this; exact this
    · refine WP.run [(71, 2)] [] 60 ?_
      simp only [bk71_0, bk71_2, bk71_8, bk71_25, bk71_30, bk71_60, bk71_66, U_iconst, U_istore_n, U_iload_n, U_bipush, U_icmp_gt, U_aload_n, U_getfield, U_i2l, U_lald, U_lmul, U_last, U_icmp_ge, U_dup2, U_isub, U_lsub, U_iinc, U_goto, U_return, UN_cc, UN_cn, UN_nc, UN_nn, UJ, lget, lset, lset2, entL, wsm, wcat, Option.toList_some, Option.toList_none, List.cons_append, List.nil_append, List.mem_cons, List.not_mem_nil, Prod.mk.injEq, or_false, false_or, or_true, true_or, and_true, true_and, and_false, false_and, and_self, ne_eq, not_false_eq_true, not_true_eq_false, forall_const, true_implies, false_implies, Nat.add_zero, Nat.zero_add, Nat.le_refl, Nat.zero_le, List.set_cons_zero, List.set_cons_succ, List.set_nil, ↓reduceIte, Nat.reduceAdd, Nat.reduceSub, Nat.reduceEqDiff, Nat.reduceLeDiff, Int.reduceEq, Int.reduceNe, Int.reduceNeg, reduceCtorEq]
      refine ih (k + 1) _ _ (by omega) (hS.ust _ _ (fz_arr (Or.inr rfl) _) (by decide) (by decide) (by decide)) (hF.us _ _ (by simp)) (fun j j1 j2 => ?_)
      rw [ust_at]
      by_cases e : j = k + 1
      · rw [if_pos (by omega), e]
      · rw [if_neg (by omega), ovT_le s (k + 1) k j (by omega) (by omega)]; exact hA j j1 (by omega)
set_option maxHeartbeats 8000000 in
theorem s_findOver {p : Int} {N : Mem} {ρ : Int → Option (Pz p)} {Q : Post} {s : Nat → Int} (h : ST p N ρ) (hs : ∀ i : Nat, i < 7 → N 29 (i : Int) = s i) (hQ : ∀ N', ST p N' ρ → FX [30] N N' → OvA N' s 6 → Q none NN N') : CL 71 [(2, 21), (9, 0), (9, 0)] NN N Q := by
  refine WP.run [(71, 2)] [] 60 ?_
  simp only [bk71_0, bk71_2, bk71_8, bk71_25, bk71_30, bk71_60, bk71_66, U_iconst, U_istore_n, U_iload_n, U_bipush, U_icmp_gt, U_aload_n, U_getfield, U_i2l, U_lald, U_lmul, U_last, U_icmp_ge, U_dup2, U_isub, U_lsub, U_iinc, U_goto, U_return, UN_cc, UN_cn, UN_nc, UN_nn, UJ, lget, lset, lset2, entL, wsm, wcat, Option.toList_some, Option.toList_none, List.cons_append, List.nil_append, List.mem_cons, List.not_mem_nil, Prod.mk.injEq, or_false, false_or, or_true, true_or, and_true, true_and, and_false, false_and, and_self, ne_eq, not_false_eq_true, not_true_eq_false, forall_const, true_implies, false_implies, Nat.add_zero, Nat.zero_add, Nat.le_refl, Nat.zero_le, List.set_cons_zero, List.set_cons_succ, List.set_nil, ↓reduceIte, Nat.reduceAdd, Nat.reduceSub, Nat.reduceEqDiff, Nat.reduceLeDiff, Int.reduceEq, Int.reduceNe, Int.reduceNeg, reduceCtorEq]
  exact l_ov hs hQ 6 0 _ N (by omega) h (FX.rf _ _) (fun j j1 j2 => by omega)
set_option maxHeartbeats 8000000 in
theorem l_shSum {p : Int} {N : Mem} {ρ : Int → Option (Pz p)} {Q : Post} {s : Nat → Int} {x1 x2 : Int} (h : ST p N ρ) (hs : ∀ i : Nat, i < 7 → N 29 (i : Int) = s i) (hQ : ∀ N', ST p N' ρ → FX [21, 30] N N' → (∀ i, i ≠ 13 → N' 21 i = N 21 i) → N' 21 13 = isum s 7 → OvA N' s 6 → Q none NN N') :
    ∀ (n i : Nat), i + n = 7 → WP 72 (0, 0) 114 [(2, 21), (0, p), (1, x1), (9, 0), (1, x2), (9, 0), (1, isum s i), (9, 0), (0, (i : Int))] [] NN N Q := by
  intro n
  induction n with
  | zero =>
    intro i hi
    obtain rfl : i = 7 := by omega
    refine WP.run [(72, 114)] [] 60 ?_
    simp only [bk72_0, bk72_61, bk72_72, bk72_108, bk72_114, bk72_121, bk72_139, U_aload_n, U_getfield, U_istore_n, U_iconst, U_isub, U_iload_n, U_i2l, U_lstore_n, U_imul, U_lstore, U_lconst, U_invokestatic2, U_last, U_lload_n, U_icmp_ne, U_goto, U_lload, U_lmul, U_ladd, U_ldc2_w, U_ldiv, U_istore, U_iload, U_bipush, U_icmp_gt, U_lald, U_iinc, U_l2i, U_putfield, U_invokevirtual0, U_return, UN_cc, UN_cn, UN_nc, UN_nn, UJ, lget, lset, lset2, entL, wsm, wcat, Option.toList_some, Option.toList_none, List.cons_append, List.nil_append, List.mem_cons, List.not_mem_nil, Prod.mk.injEq, or_false, false_or, or_true, true_or, and_true, true_and, and_false, false_and, and_self, ne_eq, not_false_eq_true, not_true_eq_false, forall_const, true_implies, false_implies, Nat.add_zero, Nat.zero_add, Nat.le_refl, Nat.zero_le, List.set_cons_zero, List.set_cons_succ, List.set_nil, ↓reduceIte, Nat.reduceAdd, Nat.reduceSub, Nat.reduceEqDiff, Nat.reduceLeDiff, Int.reduceEq, Int.reduceNe, Int.reduceNeg, reduceCtorEq, kd21]
    refine ⟨rr (by omega), fun _ => ?_, fun e => absurd (by omega) e⟩
    have h1 := st_u21 h 13 (isum s 7) (by omega)
    refine s_findOver (s := s) h1 (fun i hi => by rw [ust_ne (by decide)]; exact hs i hi) fun N' g1 g2 g3 => ?_
    simp only [bk72_0, bk72_61, bk72_72, bk72_108, bk72_114, bk72_121, bk72_139, U_aload_n, U_getfield, U_istore_n, U_iconst, U_isub, U_iload_n, U_i2l, U_lstore_n, U_imul, U_lstore, U_lconst, U_invokestatic2, U_last, U_lload_n, U_icmp_ne, U_goto, U_lload, U_lmul, U_ladd, U_ldc2_w, U_ldiv, U_istore, U_iload, U_bipush, U_icmp_gt, U_lald, U_iinc, U_l2i, U_putfield, U_invokevirtual0, U_return, UN_cc, UN_cn, UN_nc, UN_nn, UJ, lget, lset, lset2, entL, wsm, wcat, Option.toList_some, Option.toList_none, List.cons_append, List.nil_append, List.mem_cons, List.not_mem_nil, Prod.mk.injEq, or_false, false_or, or_true, true_or, and_true, true_and, and_false, false_and, and_self, ne_eq, not_false_eq_true, not_true_eq_false, forall_const, true_implies, false_implies, Nat.add_zero, Nat.zero_add, Nat.le_refl, Nat.zero_le, List.set_cons_zero, List.set_cons_succ, List.set_nil, ↓reduceIte, Nat.reduceAdd, Nat.reduceSub, Nat.reduceEqDiff, Nat.reduceLeDiff, Int.reduceEq, Int.reduceNe, Int.reduceNeg, reduceCtorEq]
    have h21 : N' 21 = ust N 21 13 (isum s 7) 21 := g2 21 (by decide) (by decide)
    refine hQ N' g1 (fun b hb hk => ?_) (fun i hi => by rw [h21, ust_at, if_neg hi]) (by rw [h21, ust_at, if_pos rfl]) g3
    rw [g2 b hb (fun q => hk (by simp at q; simp [q])), ust_ne (fun e => hk (by simp [e]))]
  | succ n ih =>
    intro i hi
    have e1 := hs i (by omega)
    refine WP.run [(72, 114)] [] 60 ?_
    simp only [bk72_0, bk72_61, bk72_72, bk72_108, bk72_114, bk72_121, bk72_139, U_aload_n, U_getfield, U_istore_n, U_iconst, U_isub, U_iload_n, U_i2l, U_lstore_n, U_imul, U_lstore, U_lconst, U_invokestatic2, U_last, U_lload_n, U_icmp_ne, U_goto, U_lload, U_lmul, U_ladd, U_ldc2_w, U_ldiv, U_istore, U_iload, U_bipush, U_icmp_gt, U_lald, U_iinc, U_l2i, U_putfield, U_invokevirtual0, U_return, UN_cc, UN_cn, UN_nc, UN_nn, UJ, lget, lset, lset2, entL, wsm, wcat, Option.toList_some, Option.toList_none, List.cons_append, List.nil_append, List.mem_cons, List.not_mem_nil, Prod.mk.injEq, or_false, false_or, or_true, true_or, and_true, true_and, and_false, false_and, and_self, ne_eq, not_false_eq_true, not_true_eq_false, forall_const, true_implies, false_implies, Nat.add_zero, Nat.zero_add, Nat.le_refl, Nat.zero_le, List.set_cons_zero, List.set_cons_succ, List.set_nil, ↓reduceIte, Nat.reduceAdd, Nat.reduceSub, Nat.reduceEqDiff, Nat.reduceLeDiff, Int.reduceEq, Int.reduceNe, Int.reduceNeg, reduceCtorEq, kd21, kd29, ln29, z21_10 h.1.1, e1]
    refine ⟨rr (by omega), fun e => absurd e (by omega), fun _ => ⟨by omega, by omega, ?_⟩⟩
    exact ih (i + 1) (by omega)
set_option maxHeartbeats 16000000 in
theorem s_findShares {p : Int} {N : Mem} {ρ : Int → Option (Pz p)} {Q : Post} {g : Nat} {n1 n2 : Int} (h : ST p N ρ) (hg : g = 1 ∨ g = 2) (h3 : N 21 3 = g) (h4 : N 21 4 = n1 + 1) (h7 : N 21 7 = n2 + 1) (b1 : 0 ≤ n1 ∧ n1 ≤ 26) (b2 : 0 ≤ n2 ∧ n2 ≤ 30000) (hQ : ∀ N', ST p N' ρ → FX [21, 29, 30] N N' → (∀ i, i ≠ 13 → N' 21 i = N 21 i) → N' 21 13 = isum (shF p g n1 n2) 7 → (∀ i : Nat, i < 7 → N' 29 (i : Int) = shF p g n1 n2 i) → OvA N' (shF p g n1 n2) 6 → Q none NN N') : CL 72 [(2, 21), (9, 0), (9, 0), (9, 0), (9, 0), (9, 0), (9, 0), (9, 0), (9, 0)] NN N Q := by
  have hp := h.1.2.1
  have hpp := hp.pos
  have h169 := pp_le hp
  have hf : 0 ≤ (n1 - p) * (n1 - p) ∧ (n1 - p) * (n1 - p) ≤ 676 := by
    rcases Int.le_total 0 (n1 - p) with q | q
    · exact ⟨Int.mul_nonneg q q, by have := Int.mul_le_mul (show n1 - p ≤ 26 by omega) (show n1 - p ≤ 26 by omega) q (by omega); omega⟩
    · have e : (n1 - p) * (n1 - p) = (p - n1) * (p - n1) := by rw [show n1 - p = -(p - n1) by omega, Int.neg_mul_neg]
      rw [e]
      exact ⟨Int.mul_nonneg (by omega) (by omega), by have := Int.mul_le_mul (show p - n1 ≤ 26 by omega) (show p - n1 ≤ 26 by omega) (by omega) (by omega); omega⟩
  -- what stands after the shares are written
  have fin : ∀ (N1 : Mem), ST p N1 ρ → FX [29] N N1 → (∀ i : Nat, i < 7 → N1 29 (i : Int) = shF p g n1 n2 i) → WP 72 (0, 0) 108 [(2, 21), (0, p), (1, n1 - p), (9, 0), (1, n2 - p * p), (9, 0), (9, 0), (9, 0), (9, 0)] [] NN N1 Q := by
    intro N1 hS hF hs
    refine WP.run [(72, 114)] [] 60 ?_
    simp only [bk72_0, bk72_61, bk72_72, bk72_108, bk72_114, bk72_121, bk72_139, U_aload_n, U_getfield, U_istore_n, U_iconst, U_isub, U_iload_n, U_i2l, U_lstore_n, U_imul, U_lstore, U_lconst, U_invokestatic2, U_last, U_lload_n, U_icmp_ne, U_goto, U_lload, U_lmul, U_ladd, U_ldc2_w, U_ldiv, U_istore, U_iload, U_bipush, U_icmp_gt, U_lald, U_iinc, U_l2i, U_putfield, U_invokevirtual0, U_return, UN_cc, UN_cn, UN_nc, UN_nn, UJ, lget, lset, lset2, entL, wsm, wcat, Option.toList_some, Option.toList_none, List.cons_append, List.nil_append, List.mem_cons, List.not_mem_nil, Prod.mk.injEq, or_false, false_or, or_true, true_or, and_true, true_and, and_false, false_and, and_self, ne_eq, not_false_eq_true, not_true_eq_false, forall_const, true_implies, false_implies, Nat.add_zero, Nat.zero_add, Nat.le_refl, Nat.zero_le, List.set_cons_zero, List.set_cons_succ, List.set_nil, ↓reduceIte, Nat.reduceAdd, Nat.reduceSub, Nat.reduceEqDiff, Nat.reduceLeDiff, Int.reduceEq, Int.reduceNe, Int.reduceNeg, reduceCtorEq]
    refine l_shSum (ρ := ρ) (s := shF p g n1 n2) hS hs (fun N' g1 g2 g3 g4 g5 => ?_) 7 0 (by omega)
    have h21 : N1 21 = N 21 := hF 21 (by decide) (by decide)
    have h29 : N' 29 = N1 29 := g2 29 (by decide) (by decide)
    refine hQ N' g1 (fun b hb hk => ?_) (fun i hi => by rw [g3 i hi, h21]) g4 (fun i hi => by rw [h29]; exact hs i hi) g5
    rw [g2 b hb (fun q => hk (by simp at q; rcases q with q | q <;> simp [q])), hF b hb (fun q => hk (by simp at q; simp [q]))]
  have hz : ∀ N1, ST p N1 ρ → ST p (fil N1 29 7 0) ρ := fun N1 h1 => by
    refine h1.other (h1.1.1.of fun a i v e => ?_) (fil_ne (by decide)) (fil_ne (by decide)) (fun b hb => fil_ne (fun e => by rw [e] at hb; exact absurd hb (by decide)))
    by_cases q : a = 29
    · subst q; rw [fz_arr (Or.inr rfl)] at e; cases e
    · rw [fil_ne q]
  have s29 : ∀ {N1 : Mem} (i x : Int), ST p N1 ρ → ST p (ust N1 29 i x) ρ := fun i x h1 => h1.ust i x (fz_arr (Or.inr rfl) _) (by decide) (by decide) (by decide)
  have e1 : n1 + 1 - 1 - p = n1 - p := by omega
  have e2 : n2 + 1 - 1 - p * p = n2 - p * p := by omega
  refine WP.run [(72, 108)] [] 100 ?_
  simp only [bk72_0, bk72_61, bk72_72, bk72_108, bk72_114, bk72_121, bk72_139, U_aload_n, U_getfield, U_istore_n, U_iconst, U_isub, U_iload_n, U_i2l, U_lstore_n, U_imul, U_lstore, U_lconst, U_invokestatic2, U_last, U_lload_n, U_icmp_ne, U_goto, U_lload, U_lmul, U_ladd, U_ldc2_w, U_ldiv, U_istore, U_iload, U_bipush, U_icmp_gt, U_lald, U_iinc, U_l2i, U_putfield, U_invokevirtual0, U_return, UN_cc, UN_cn, UN_nc, UN_nn, UJ, lget, lset, lset2, entL, wsm, wcat, Option.toList_some, Option.toList_none, List.cons_append, List.nil_append, List.mem_cons, List.not_mem_nil, Prod.mk.injEq, or_false, false_or, or_true, true_or, and_true, true_and, and_false, false_and, and_self, ne_eq, not_false_eq_true, not_true_eq_false, forall_const, true_implies, false_implies, Nat.add_zero, Nat.zero_add, Nat.le_refl, Nat.zero_le, List.set_cons_zero, List.set_cons_succ, List.set_nil, ↓reduceIte, Nat.reduceAdd, Nat.reduceSub, Nat.reduceEqDiff, Nat.reduceLeDiff, Int.reduceEq, Int.reduceNe, Int.reduceNeg, reduceCtorEq, kd21, kd2, kd29, z21_0 h.1.1, z21_10 h.1.1, h.1.2.2.1, h4, h7, e1, e2]
  refine ⟨r3 (by omega), r3 (by omega), c_fillJ rfl ?_⟩
  have hf0 := hz N h
  rw [ln29]
  have hg3 : fil N 29 7 0 21 3 = g := by rw [fil_ne (by decide)]; exact h3
  have fxf : FX [29] N (fil N 29 7 0) := fun b hb hk => fil_ne (fun e => hk (by simp [e]))
  simp only [bk72_0, bk72_61, bk72_72, bk72_108, bk72_114, bk72_121, bk72_139, U_aload_n, U_getfield, U_istore_n, U_iconst, U_isub, U_iload_n, U_i2l, U_lstore_n, U_imul, U_lstore, U_lconst, U_invokestatic2, U_last, U_lload_n, U_icmp_ne, U_goto, U_lload, U_lmul, U_ladd, U_ldc2_w, U_ldiv, U_istore, U_iload, U_bipush, U_icmp_gt, U_lald, U_iinc, U_l2i, U_putfield, U_invokevirtual0, U_return, UN_cc, UN_cn, UN_nc, UN_nn, UJ, lget, lset, lset2, entL, wsm, wcat, Option.toList_some, Option.toList_none, List.cons_append, List.nil_append, List.mem_cons, List.not_mem_nil, Prod.mk.injEq, or_false, false_or, or_true, true_or, and_true, true_and, and_false, false_and, and_self, ne_eq, not_false_eq_true, not_true_eq_false, forall_const, true_implies, false_implies, Nat.add_zero, Nat.zero_add, Nat.le_refl, Nat.zero_le, List.set_cons_zero, List.set_cons_succ, List.set_nil, ↓reduceIte, Nat.reduceAdd, Nat.reduceSub, Nat.reduceEqDiff, Nat.reduceLeDiff, Int.reduceEq, Int.reduceNe, Int.reduceNeg, reduceCtorEq, kd21, kd2, kd29, ln29, z21_10 hf0.1.1, ust_r, hg3]
  refine ⟨by omega, by omega, by omega, by omega, rr (by omega), fun e => ?_, fun e => ?_⟩
  · refine ⟨r3 (by omega), by omega, by omega, ?_⟩
    refine fin _ (s29 _ _ (s29 _ _ (s29 _ _ hf0))) (((fxf.us _ _ (by simp)).us _ _ (by simp)).us _ _ (by simp)) (fun i hi => ?_)
    have hgg : g = 1 := by omega
    simp only [ust_at]
    unfold shF
    rw [if_pos hgg]
    have : i = 0 ∨ i = 1 ∨ i = 2 ∨ i = 3 ∨ i = 4 ∨ i = 5 ∨ i = 6 := by omega
    rcases this with rfl | rfl | rfl | rfl | rfl | rfl | rfl <;> simp [fil]
  · refine ⟨r6 (by omega), r6 (by omega), by omega, by omega, r3 (by omega), by omega, by omega, r3 (by omega), by omega, by omega, ?_⟩
    refine fin _ (s29 _ _ (s29 _ _ (s29 _ _ (s29 _ _ (s29 _ _ hf0))))) (((((fxf.us _ _ (by simp)).us _ _ (by simp)).us _ _ (by simp)).us _ _ (by simp)).us _ _ (by simp)) (fun i hi => ?_)
    have hgg : ¬ g = 1 := by omega
    simp only [ust_at]
    unfold shF
    rw [if_neg hgg]
    have : i = 0 ∨ i = 1 ∨ i = 2 ∨ i = 3 ∨ i = 4 ∨ i = 5 ∨ i = 6 := by omega
    rcases this with rfl | rfl | rfl | rfl | rfl | rfl | rfl <;> simp [fil]
