/-! THE MODEL'S WIDTH: the rows of one point -/
set_option maxHeartbeats 16000000 in
theorem l_w3 {p : Int} {N : Mem} {Q : Post} {Y : Sz p} {n1 n2 : Nat} {a d e i : V} {h : Int} (hz : Fz N) (hY : ∀ k : Nat, k < 8 → N 210 (k : Int) = Y.1 k) (h1 : n1 + n2 ≤ 200) (hQ : ∀ N', FM [213] [] N N' → (n2 ≠ 0 → RwX N' n1 Y.1) → (∀ m, m < n1 → ∀ l : Nat, l < 8 → N' 213 (((8 * m : Nat) : Int) + (l : Int)) = N 213 (((8 * m : Nat) : Int) + (l : Int))) → ∀ x : V, WP 222 (0, 0) 254 [(2, 190), a, (0, (n1 : Int)), (0, ((n1 + n2 : Nat) : Int)), d, e, (0, h), x, i] [] NN N' Q) :
    ∀ (n k : Nat) (Ni : Mem), k + n = 8 → FM [213] [] N Ni → (∀ l : Nat, l < k → Ni 213 (((8 * n1 : Nat) : Int) + (l : Int)) = Y.1 l) → (∀ m, m < n1 → ∀ l : Nat, l < 8 → Ni 213 (((8 * m : Nat) : Int) + (l : Int)) = N 213 (((8 * m : Nat) : Int) + (l : Int))) → WP 222 (0, 0) 217 [(2, 190), a, (0, (n1 : Int)), (0, ((n1 + n2 : Nat) : Int)), d, e, (0, h), (0, (k : Int)), i] [] NN Ni Q := by
  intro n
  induction n with
  | zero =>
    intro k Ni hk hF hA hB
    obtain rfl : k = 8 := by omega
    have nx := hQ Ni hF (fun _ => hA) hB (0, ((8 : Nat) : Int))
    refine WP.run [(222, 217), (222, 254)] [] 60 ?_
    simp only [bk222_0, bk222_13, bk222_21, bk222_38, bk222_42, bk222_44, bk222_59, bk222_72, bk222_73, bk222_83, bk222_92, bk222_102, bk222_119, bk222_131, bk222_150, bk222_159, bk222_166, bk222_177, bk222_181, bk222_182, bk222_189, bk222_192, bk222_198, bk222_214, bk222_217, bk222_224, bk222_229, bk222_254, bk222_259, bk222_265, bk222_281, bk222_284, bk222_291, bk222_294, bk222_300, bk222_333, bk222_344, bk222_350, U_aload_n, U_invokevirtual0, U_getfield, U_iconst, U_iald, U_istore_n, U_iload_n, U_icmp_ge, U_imul, U_iadd, U_iinc, U_goto, U_if_ge, U_ireturn, U_idiv, U_icmp_lt, U_isub, U_putfield, U_istore, U_iload, U_if_ne, U_if_le, U_invokevirtual1, U_bipush, U_iast, U_invokevirtual2, U_icmp_le, UN_cc, UN_cn, UN_nc, UN_nn, UJ, lget, lset, lset2, entL, wsm, wcat, Option.toList_some, Option.toList_none, List.cons_append, List.nil_append, List.mem_cons, List.not_mem_nil, Prod.mk.injEq, or_false, false_or, or_true, true_or, and_true, true_and, and_false, false_and, and_self, ne_eq, not_false_eq_true, not_true_eq_false, forall_const, true_implies, false_implies, Nat.add_zero, Nat.zero_add, Nat.le_refl, Nat.zero_le, List.set_cons_zero, List.set_cons_succ, List.set_nil, ↓reduceIte, Nat.reduceAdd, Nat.reduceSub, Nat.reduceEqDiff, Nat.reduceLeDiff, Int.reduceEq, Int.reduceNe, Int.reduceNeg, reduceCtorEq]
    repeat' (first | refine And.intro (by omega) ?_ | refine And.intro (rr (by omega)) ?_ | refine And.intro (r3 (by omega)) ?_ | refine And.intro (r6 (by omega)) ?_ | ((fail_if_success (show WP _ _ _ _ _ _ _ _)); (first | refine And.intro ?_ ?_ | intro _)))
    all_goals first | (exfalso; omega) | exact nx
  | succ n ih =>
    intro k Ni hk hF hA hB
    by_cases q0 : n2 = 0
    · have nx := hQ Ni hF (fun w => absurd q0 w) hB (0, (k : Int))
      refine WP.run [(222, 217), (222, 254)] [] 60 ?_
      simp only [bk222_0, bk222_13, bk222_21, bk222_38, bk222_42, bk222_44, bk222_59, bk222_72, bk222_73, bk222_83, bk222_92, bk222_102, bk222_119, bk222_131, bk222_150, bk222_159, bk222_166, bk222_177, bk222_181, bk222_182, bk222_189, bk222_192, bk222_198, bk222_214, bk222_217, bk222_224, bk222_229, bk222_254, bk222_259, bk222_265, bk222_281, bk222_284, bk222_291, bk222_294, bk222_300, bk222_333, bk222_344, bk222_350, U_aload_n, U_invokevirtual0, U_getfield, U_iconst, U_iald, U_istore_n, U_iload_n, U_icmp_ge, U_imul, U_iadd, U_iinc, U_goto, U_if_ge, U_ireturn, U_idiv, U_icmp_lt, U_isub, U_putfield, U_istore, U_iload, U_if_ne, U_if_le, U_invokevirtual1, U_bipush, U_iast, U_invokevirtual2, U_icmp_le, UN_cc, UN_cn, UN_nc, UN_nn, UJ, lget, lset, lset2, entL, wsm, wcat, Option.toList_some, Option.toList_none, List.cons_append, List.nil_append, List.mem_cons, List.not_mem_nil, Prod.mk.injEq, or_false, false_or, or_true, true_or, and_true, true_and, and_false, false_and, and_self, ne_eq, not_false_eq_true, not_true_eq_false, forall_const, true_implies, false_implies, Nat.add_zero, Nat.zero_add, Nat.le_refl, Nat.zero_le, List.set_cons_zero, List.set_cons_succ, List.set_nil, ↓reduceIte, Nat.reduceAdd, Nat.reduceSub, Nat.reduceEqDiff, Nat.reduceLeDiff, Int.reduceEq, Int.reduceNe, Int.reduceNeg, reduceCtorEq]
      repeat' (first | refine And.intro (by omega) ?_ | refine And.intro (rr (by omega)) ?_ | refine And.intro (r3 (by omega)) ?_ | refine And.intro (r6 (by omega)) ?_ | ((fail_if_success (show WP _ _ _ _ _ _ _ _)); (first | refine And.intro ?_ ?_ | intro _)))
      all_goals first | (exfalso; omega) | exact nx
    · have hz' := hF.fz (fzk rfl rfl) hz
      have v := hY k (by omega)
      rw [← hF.1 210 (by decide) (by decide)] at v
      have e8 : (8 : Int) * (n1 : Int) = ((8 * n1 : Nat) : Int) := by omega
      have nx : WP 222 (0, 0) 217 [(2, 190), a, (0, (n1 : Int)), (0, ((n1 + n2 : Nat) : Int)), d, e, (0, h), (0, ((k + 1 : Nat) : Int)), i] [] NN (ust Ni 213 (((8 * n1 : Nat) : Int) + (k : Int)) (Y.1 k)) Q := by
        refine ih (k + 1) _ (by omega) (hF.us _ _ (by simp) (by decide)) (fun l hl => ?_) (fun m hm l hl => ?_)
        · rw [ust_at]
          by_cases q : l = k
          · rw [if_pos (by omega), q]
          · rw [if_neg (by omega)]; exact hA l (by omega)
        · rw [ust_at, if_neg (by omega)]; exact hB m hm l hl
      refine WP.run [(222, 217), (222, 254)] [] 60 ?_
      simp only [bk222_0, bk222_13, bk222_21, bk222_38, bk222_42, bk222_44, bk222_59, bk222_72, bk222_73, bk222_83, bk222_92, bk222_102, bk222_119, bk222_131, bk222_150, bk222_159, bk222_166, bk222_177, bk222_181, bk222_182, bk222_189, bk222_192, bk222_198, bk222_214, bk222_217, bk222_224, bk222_229, bk222_254, bk222_259, bk222_265, bk222_281, bk222_284, bk222_291, bk222_294, bk222_300, bk222_333, bk222_344, bk222_350, U_aload_n, U_invokevirtual0, U_getfield, U_iconst, U_iald, U_istore_n, U_iload_n, U_icmp_ge, U_imul, U_iadd, U_iinc, U_goto, U_if_ge, U_ireturn, U_idiv, U_icmp_lt, U_isub, U_putfield, U_istore, U_iload, U_if_ne, U_if_le, U_invokevirtual1, U_bipush, U_iast, U_invokevirtual2, U_icmp_le, UN_cc, UN_cn, UN_nc, UN_nn, UJ, lget, lset, lset2, entL, wsm, wcat, Option.toList_some, Option.toList_none, List.cons_append, List.nil_append, List.mem_cons, List.not_mem_nil, Prod.mk.injEq, or_false, false_or, or_true, true_or, and_true, true_and, and_false, false_and, and_self, ne_eq, not_false_eq_true, not_true_eq_false, forall_const, true_implies, false_implies, Nat.add_zero, Nat.zero_add, Nat.le_refl, Nat.zero_le, List.set_cons_zero, List.set_cons_succ, List.set_nil, ↓reduceIte, Nat.reduceAdd, Nat.reduceSub, Nat.reduceEqDiff, Nat.reduceLeDiff, Int.reduceEq, Int.reduceNe, Int.reduceNeg, reduceCtorEq, kd190, kd210, kd213, ln210, ln213, z190_27 hz', z190_30 hz', e8, v]
      repeat' (first | refine And.intro (by omega) ?_ | refine And.intro (rr (by omega)) ?_ | refine And.intro (r3 (by omega)) ?_ | refine And.intro (r6 (by omega)) ?_ | ((fail_if_success (show WP _ _ _ _ _ _ _ _)); (first | refine And.intro ?_ ?_ | intro _)))
      all_goals first | (exfalso; omega) | exact nx
set_option maxHeartbeats 16000000 in
theorem l_w6 {p : Int} {N : Mem} {Q : Post} {X : Nat → Int} {Y : Sz p} {n1 W t : Nat} {R : List (Nat → Int)} {a b d e : V} {h : Int} (hz : Fz N) (hW : W ≤ 200) (hl : W * R.length + W ≤ 36000) (ht : t < 8) (hE : ∀ n, n < W → RwX N n (exR p X Y.1 n1 n)) (hA : MxA N W R) (hQ : ∀ N', FM [214] [] N N' → MxA N' W R → RwA N' (W * R.length) W (rwT p X Y.1 n1 W t) → ∀ x : V, WP 222 (0, 0) 333 [(2, 190), a, b, (0, (W : Int)), d, e, (0, h), (0, (t : Int)), x] [] NN N' Q) :
    ∀ (n k : Nat) (Ni : Mem), k + n = W → FM [214] [] N Ni → MxA Ni W R → (∀ l : Nat, l < k → Ni 214 (((W * R.length : Nat) : Int) + (l : Int)) = rwT p X Y.1 n1 W t l) → WP 222 (0, 0) 294 [(2, 190), a, b, (0, (W : Int)), d, e, (0, h), (0, (t : Int)), (0, (k : Int))] [] NN Ni Q := by
  intro n
  induction n with
  | zero =>
    intro k Ni hk hF hM hB
    obtain rfl : k = W := by omega
    have nx := hQ Ni hF hM hB (0, (k : Int))
    refine WP.run [(222, 294), (222, 333)] [] 60 ?_
    simp only [bk222_0, bk222_13, bk222_21, bk222_38, bk222_42, bk222_44, bk222_59, bk222_72, bk222_73, bk222_83, bk222_92, bk222_102, bk222_119, bk222_131, bk222_150, bk222_159, bk222_166, bk222_177, bk222_181, bk222_182, bk222_189, bk222_192, bk222_198, bk222_214, bk222_217, bk222_224, bk222_229, bk222_254, bk222_259, bk222_265, bk222_281, bk222_284, bk222_291, bk222_294, bk222_300, bk222_333, bk222_344, bk222_350, U_aload_n, U_invokevirtual0, U_getfield, U_iconst, U_iald, U_istore_n, U_iload_n, U_icmp_ge, U_imul, U_iadd, U_iinc, U_goto, U_if_ge, U_ireturn, U_idiv, U_icmp_lt, U_isub, U_putfield, U_istore, U_iload, U_if_ne, U_if_le, U_invokevirtual1, U_bipush, U_iast, U_invokevirtual2, U_icmp_le, UN_cc, UN_cn, UN_nc, UN_nn, UJ, lget, lset, lset2, entL, wsm, wcat, Option.toList_some, Option.toList_none, List.cons_append, List.nil_append, List.mem_cons, List.not_mem_nil, Prod.mk.injEq, or_false, false_or, or_true, true_or, and_true, true_and, and_false, false_and, and_self, ne_eq, not_false_eq_true, not_true_eq_false, forall_const, true_implies, false_implies, Nat.add_zero, Nat.zero_add, Nat.le_refl, Nat.zero_le, List.set_cons_zero, List.set_cons_succ, List.set_nil, ↓reduceIte, Nat.reduceAdd, Nat.reduceSub, Nat.reduceEqDiff, Nat.reduceLeDiff, Int.reduceEq, Int.reduceNe, Int.reduceNeg, reduceCtorEq]
    repeat' (first | refine And.intro (by omega) ?_ | refine And.intro (rr (by omega)) ?_ | refine And.intro (r3 (by omega)) ?_ | refine And.intro (r6 (by omega)) ?_ | ((fail_if_success (show WP _ _ _ _ _ _ _ _)); (first | refine And.intro ?_ ?_ | intro _)))
    all_goals first | (exfalso; omega) | exact nx
  | succ n ih =>
    intro k Ni hk hF hM hB
    have hz' := hF.fz (fzk rfl rfl) hz
    have v := hE k (by omega) t ht
    rw [← hF.1 213 (by decide) (by decide)] at v
    have e8 : (8 : Int) * (k : Int) = ((8 * k : Nat) : Int) := by omega
    have eW : (W : Int) * (R.length : Int) = ((W * R.length : Nat) : Int) := (Int.natCast_mul _ _).symm
    have hM1 := hM.1
    have nx : WP 222 (0, 0) 294 [(2, 190), a, b, (0, (W : Int)), d, e, (0, h), (0, (t : Int)), (0, ((k + 1 : Nat) : Int))] [] NN (ust Ni 214 (((W * R.length : Nat) : Int) + (k : Int)) (exR p X Y.1 n1 k t)) Q := by
      refine ih (k + 1) _ (by omega) (hF.us _ _ (by simp) (by decide)) ⟨by rw [ust_ne (by decide)]; exact hM1, fun i r hr l hl => ?_⟩ (fun l hl => ?_)
      · have hi := (List.getElem?_eq_some_iff.mp hr).1
        have hwm := wmul (W := W) hi
        rw [ust_at, if_neg (by omega)]
        exact hM.2 i r hr l hl
      · rw [ust_at]
        by_cases q : l = k
        · rw [if_pos (by omega), q]; unfold rwT; rw [if_pos (by omega)]
        · rw [if_neg (by omega)]; exact hB l (by omega)
    refine WP.run [(222, 294), (222, 333)] [] 60 ?_
    simp only [bk222_0, bk222_13, bk222_21, bk222_38, bk222_42, bk222_44, bk222_59, bk222_72, bk222_73, bk222_83, bk222_92, bk222_102, bk222_119, bk222_131, bk222_150, bk222_159, bk222_166, bk222_177, bk222_181, bk222_182, bk222_189, bk222_192, bk222_198, bk222_214, bk222_217, bk222_224, bk222_229, bk222_254, bk222_259, bk222_265, bk222_281, bk222_284, bk222_291, bk222_294, bk222_300, bk222_333, bk222_344, bk222_350, U_aload_n, U_invokevirtual0, U_getfield, U_iconst, U_iald, U_istore_n, U_iload_n, U_icmp_ge, U_imul, U_iadd, U_iinc, U_goto, U_if_ge, U_ireturn, U_idiv, U_icmp_lt, U_isub, U_putfield, U_istore, U_iload, U_if_ne, U_if_le, U_invokevirtual1, U_bipush, U_iast, U_invokevirtual2, U_icmp_le, UN_cc, UN_cn, UN_nc, UN_nn, UJ, lget, lset, lset2, entL, wsm, wcat, Option.toList_some, Option.toList_none, List.cons_append, List.nil_append, List.mem_cons, List.not_mem_nil, Prod.mk.injEq, or_false, false_or, or_true, true_or, and_true, true_and, and_false, false_and, and_self, ne_eq, not_false_eq_true, not_true_eq_false, forall_const, true_implies, false_implies, Nat.add_zero, Nat.zero_add, Nat.le_refl, Nat.zero_le, List.set_cons_zero, List.set_cons_succ, List.set_nil, ↓reduceIte, Nat.reduceAdd, Nat.reduceSub, Nat.reduceEqDiff, Nat.reduceLeDiff, Int.reduceEq, Int.reduceNe, Int.reduceNeg, reduceCtorEq, kd190, kd213, kd214, ln213, ln214, z190_30 hz', z190_31 hz', e8, hM1, eW, v]
    repeat' (first | refine And.intro (by omega) ?_ | refine And.intro (rr (by omega)) ?_ | refine And.intro (r3 (by omega)) ?_ | refine And.intro (r6 (by omega)) ?_ | ((fail_if_success (show WP _ _ _ _ _ _ _ _)); (first | refine And.intro ?_ ?_ | intro _)))
    all_goals first | (exfalso; omega) | exact nx
set_option maxHeartbeats 16000000 in
theorem l_w5 {p : Int} {N : Mem} {Q : Post} {X : Nat → Int} {Y : Sz p} {n1 W nd : Nat} {R : List (Nat → Int)} {a b d e : V} (hp : Pr p) (hz : Fz N) (h0 : N 190 0 = p) (hW : W ≤ 180) (hnd : nd ≤ 8) (hE : ∀ n, n < W → RwX N n (exR p X Y.1 n1 n)) (hR : Ech p W R)
    (hQ : ∀ N' R', FM [214] [32] N N' → Ech p W R' → MxA N' W R' → (∀ w, (∀ r ∈ R', dt W r w % p = 0) ↔ ((∀ r ∈ R, dt W r w % p = 0) ∧ ∀ s, s < nd → dt W (rwT p X Y.1 n1 W s) w % p = 0)) → ∀ x y : V, WP 222 (0, 0) 344 [(2, 190), a, b, (0, (W : Int)), d, e, (0, (nd : Int)), x, y] [] NN N' Q) :
    ∀ (n t : Nat) (y : V) (R' : List (Nat → Int)) (Ni : Mem), t + n = nd → FM [214] [32] N Ni → Ech p W R' → MxA Ni W R' → (∀ w, (∀ r ∈ R', dt W r w % p = 0) ↔ ((∀ r ∈ R, dt W r w % p = 0) ∧ ∀ s, s < t → dt W (rwT p X Y.1 n1 W s) w % p = 0)) → WP 222 (0, 0) 284 [(2, 190), a, b, (0, (W : Int)), d, e, (0, (nd : Int)), (0, (t : Int)), y] [] NN Ni Q := by
  intro n
  induction n with
  | zero =>
    intro t y R' Ni ht hF hE' hM hS
    obtain rfl : t = nd := by omega
    have nx := hQ Ni R' hF hE' hM hS (0, (t : Int)) y
    refine WP.run [(222, 284), (222, 344)] [] 60 ?_
    simp only [bk222_0, bk222_13, bk222_21, bk222_38, bk222_42, bk222_44, bk222_59, bk222_72, bk222_73, bk222_83, bk222_92, bk222_102, bk222_119, bk222_131, bk222_150, bk222_159, bk222_166, bk222_177, bk222_181, bk222_182, bk222_189, bk222_192, bk222_198, bk222_214, bk222_217, bk222_224, bk222_229, bk222_254, bk222_259, bk222_265, bk222_281, bk222_284, bk222_291, bk222_294, bk222_300, bk222_333, bk222_344, bk222_350, U_aload_n, U_invokevirtual0, U_getfield, U_iconst, U_iald, U_istore_n, U_iload_n, U_icmp_ge, U_imul, U_iadd, U_iinc, U_goto, U_if_ge, U_ireturn, U_idiv, U_icmp_lt, U_isub, U_putfield, U_istore, U_iload, U_if_ne, U_if_le, U_invokevirtual1, U_bipush, U_iast, U_invokevirtual2, U_icmp_le, UN_cc, UN_cn, UN_nc, UN_nn, UJ, lget, lset, lset2, entL, wsm, wcat, Option.toList_some, Option.toList_none, List.cons_append, List.nil_append, List.mem_cons, List.not_mem_nil, Prod.mk.injEq, or_false, false_or, or_true, true_or, and_true, true_and, and_false, false_and, and_self, ne_eq, not_false_eq_true, not_true_eq_false, forall_const, true_implies, false_implies, Nat.add_zero, Nat.zero_add, Nat.le_refl, Nat.zero_le, List.set_cons_zero, List.set_cons_succ, List.set_nil, ↓reduceIte, Nat.reduceAdd, Nat.reduceSub, Nat.reduceEqDiff, Nat.reduceLeDiff, Int.reduceEq, Int.reduceNe, Int.reduceNeg, reduceCtorEq]
    repeat' (first | refine And.intro (by omega) ?_ | refine And.intro (rr (by omega)) ?_ | refine And.intro (r3 (by omega)) ?_ | refine And.intro (r6 (by omega)) ?_ | ((fail_if_success (show WP _ _ _ _ _ _ _ _)); (first | refine And.intro ?_ ?_ | intro _)))
    all_goals first | (exfalso; omega) | exact nx
  | succ n ih =>
    intro t y R' Ni ht hF hE' hM hS
    have hz' := hF.fz (fzk rfl rfl) hz
    have hl : W * R'.length + W ≤ 36000 := by
      have h1 := hE'.len.1
      have h2 := Nat.mul_le_mul hW (show R'.length ≤ 180 by omega)
      omega
    have nx : WP 222 (0, 0) 294 [(2, 190), a, b, (0, (W : Int)), d, e, (0, (nd : Int)), (0, (t : Int)), (0, ((0 : Nat) : Int))] [] NN Ni Q := by
      refine l_w6 (X := X) (Y := Y) (n1 := n1) hz' (by omega) hl (by omega) (fun n hn l hl => by rw [hF.1 213 (by decide) (by decide)]; exact hE n hn l hl) hM (fun N1 F1 M1 V1 x => ?_) W 0 Ni (by omega) (FM.rf _ _ _) hM (fun l hl => absurd hl (Nat.not_lt_zero l))
      have FN1 : FM [214] [32] N N1 := hF.tr (F1.mo rfl rfl)
      have hz1 := FN1.fz (fzk rfl rfl) hz
      have hP1 := FN1.2 0 (by simp)
      rw [h0] at hP1
      have hv := rwT_rg hp X Y n1 W t
      refine WP.run [(222, 284)] [] 60 ?_
      simp only [bk222_0, bk222_13, bk222_21, bk222_38, bk222_42, bk222_44, bk222_59, bk222_72, bk222_73, bk222_83, bk222_92, bk222_102, bk222_119, bk222_131, bk222_150, bk222_159, bk222_166, bk222_177, bk222_181, bk222_182, bk222_189, bk222_192, bk222_198, bk222_214, bk222_217, bk222_224, bk222_229, bk222_254, bk222_259, bk222_265, bk222_281, bk222_284, bk222_291, bk222_294, bk222_300, bk222_333, bk222_344, bk222_350, U_aload_n, U_invokevirtual0, U_getfield, U_iconst, U_iald, U_istore_n, U_iload_n, U_icmp_ge, U_imul, U_iadd, U_iinc, U_goto, U_if_ge, U_ireturn, U_idiv, U_icmp_lt, U_isub, U_putfield, U_istore, U_iload, U_if_ne, U_if_le, U_invokevirtual1, U_bipush, U_iast, U_invokevirtual2, U_icmp_le, UN_cc, UN_cn, UN_nc, UN_nn, UJ, lget, lset, lset2, entL, wsm, wcat, Option.toList_some, Option.toList_none, List.cons_append, List.nil_append, List.mem_cons, List.not_mem_nil, Prod.mk.injEq, or_false, false_or, or_true, true_or, and_true, true_and, and_false, false_and, and_self, ne_eq, not_false_eq_true, not_true_eq_false, forall_const, true_implies, false_implies, Nat.add_zero, Nat.zero_add, Nat.le_refl, Nat.zero_le, List.set_cons_zero, List.set_cons_succ, List.set_nil, ↓reduceIte, Nat.reduceAdd, Nat.reduceSub, Nat.reduceEqDiff, Nat.reduceLeDiff, Int.reduceEq, Int.reduceNe, Int.reduceNeg, reduceCtorEq, kd190]
      refine m_condition hp hz1 hP1 (by omega) hl hE' hv M1 V1 (fun N2 F2 M2 => ?_)
      simp only [bk222_0, bk222_13, bk222_21, bk222_38, bk222_42, bk222_44, bk222_59, bk222_72, bk222_73, bk222_83, bk222_92, bk222_102, bk222_119, bk222_131, bk222_150, bk222_159, bk222_166, bk222_177, bk222_181, bk222_182, bk222_189, bk222_192, bk222_198, bk222_214, bk222_217, bk222_224, bk222_229, bk222_254, bk222_259, bk222_265, bk222_281, bk222_284, bk222_291, bk222_294, bk222_300, bk222_333, bk222_344, bk222_350, U_aload_n, U_invokevirtual0, U_getfield, U_iconst, U_iald, U_istore_n, U_iload_n, U_icmp_ge, U_imul, U_iadd, U_iinc, U_goto, U_if_ge, U_ireturn, U_idiv, U_icmp_lt, U_isub, U_putfield, U_istore, U_iload, U_if_ne, U_if_le, U_invokevirtual1, U_bipush, U_iast, U_invokevirtual2, U_icmp_le, UN_cc, UN_cn, UN_nc, UN_nn, UJ, lget, lset, lset2, entL, wsm, wcat, Option.toList_some, Option.toList_none, List.cons_append, List.nil_append, List.mem_cons, List.not_mem_nil, Prod.mk.injEq, or_false, false_or, or_true, true_or, and_true, true_and, and_false, false_and, and_self, ne_eq, not_false_eq_true, not_true_eq_false, forall_const, true_implies, false_implies, Nat.add_zero, Nat.zero_add, Nat.le_refl, Nat.zero_le, List.set_cons_zero, List.set_cons_succ, List.set_nil, ↓reduceIte, Nat.reduceAdd, Nat.reduceSub, Nat.reduceEqDiff, Nat.reduceLeDiff, Int.reduceEq, Int.reduceNe, Int.reduceNeg, reduceCtorEq]
      have nx2 : WP 222 (0, 0) 284 [(2, 190), a, b, (0, (W : Int)), d, e, (0, (nd : Int)), (0, ((t + 1 : Nat) : Int)), x] [] NN N2 Q := by
        refine ih (t + 1) x _ N2 (by omega) (FN1.tr F2) (ech1_ech hp hE' hv) M2 (fun w => ?_)
        rw [← ech1_sol hp hv, hS w]
        constructor
        · rintro ⟨⟨g1, g2⟩, g3⟩
          refine ⟨g1, fun s hs => ?_⟩
          by_cases q : s = t
          · rw [q]; exact g3
          · exact g2 s (by omega)
        · rintro ⟨g1, g2⟩
          exact ⟨⟨g1, fun s hs => g2 s (by omega)⟩, g2 t (by omega)⟩
      repeat' (first | refine And.intro (by omega) ?_ | refine And.intro (rr (by omega)) ?_ | refine And.intro (r3 (by omega)) ?_ | refine And.intro (r6 (by omega)) ?_ | ((fail_if_success (show WP _ _ _ _ _ _ _ _)); (first | refine And.intro ?_ ?_ | intro _)))
      all_goals first | (exfalso; omega) | exact nx2
    refine WP.run [(222, 284), (222, 294), (222, 344)] [] 60 ?_
    simp only [bk222_0, bk222_13, bk222_21, bk222_38, bk222_42, bk222_44, bk222_59, bk222_72, bk222_73, bk222_83, bk222_92, bk222_102, bk222_119, bk222_131, bk222_150, bk222_159, bk222_166, bk222_177, bk222_181, bk222_182, bk222_189, bk222_192, bk222_198, bk222_214, bk222_217, bk222_224, bk222_229, bk222_254, bk222_259, bk222_265, bk222_281, bk222_284, bk222_291, bk222_294, bk222_300, bk222_333, bk222_344, bk222_350, U_aload_n, U_invokevirtual0, U_getfield, U_iconst, U_iald, U_istore_n, U_iload_n, U_icmp_ge, U_imul, U_iadd, U_iinc, U_goto, U_if_ge, U_ireturn, U_idiv, U_icmp_lt, U_isub, U_putfield, U_istore, U_iload, U_if_ne, U_if_le, U_invokevirtual1, U_bipush, U_iast, U_invokevirtual2, U_icmp_le, UN_cc, UN_cn, UN_nc, UN_nn, UJ, lget, lset, lset2, entL, wsm, wcat, Option.toList_some, Option.toList_none, List.cons_append, List.nil_append, List.mem_cons, List.not_mem_nil, Prod.mk.injEq, or_false, false_or, or_true, true_or, and_true, true_and, and_false, false_and, and_self, ne_eq, not_false_eq_true, not_true_eq_false, forall_const, true_implies, false_implies, Nat.add_zero, Nat.zero_add, Nat.le_refl, Nat.zero_le, List.set_cons_zero, List.set_cons_succ, List.set_nil, ↓reduceIte, Nat.reduceAdd, Nat.reduceSub, Nat.reduceEqDiff, Nat.reduceLeDiff, Int.reduceEq, Int.reduceNe, Int.reduceNeg, reduceCtorEq]
    repeat' (first | refine And.intro (by omega) ?_ | refine And.intro (rr (by omega)) ?_ | refine And.intro (r3 (by omega)) ?_ | refine And.intro (r6 (by omega)) ?_ | ((fail_if_success (show WP _ _ _ _ _ _ _ _)); (first | refine And.intro ?_ ?_ | intro _)))
    all_goals first | (exfalso; omega) | exact nx
