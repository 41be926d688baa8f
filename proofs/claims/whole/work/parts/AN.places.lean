/-! THE MODEL'S PLACES BY DEGREE -/
def PlA (N : Mem) (F : Nat → Int) (k : Nat) : Prop := ∀ j : Nat, 1 ≤ j → j ≤ k → N 202 (j : Int) = F j
set_option maxHeartbeats 8000000 in
theorem l_mplI {N : Mem} {Q : Post} {D : Int} {k : Nat} {P F : Nat → Int} (hz : Fz N) (hk : 1 ≤ k ∧ k ≤ 6) (hA : PlA N F (k - 1)) (hr : R64 (plR P F k k)) (hQ : ∀ v, WP 190 (0, 0) 29 [(2, 190), (0, D), (0, (k : Int) + 1), (1, plR P F k k), (9, 0), (0, v)] [] NN (ust N 202 (k : Int) ((plR P F k k).tdiv (k : Int))) Q) :
    ∀ (n i : Nat), i + n = k → 1 ≤ i → WP 190 (0, 0) 43 [(2, 190), (0, D), (0, (k : Int)), (1, plR P F k i), (9, 0), (0, (i : Int))] [] NN N Q := by
  intro n
  induction n with
  | zero =>
    intro i hi h1
    obtain rfl : i = k := by omega
    refine WP.run [(190, 29), (190, 43)] [] 60 ?_
    simp only [bk190_0, bk190_12, bk190_16, bk190_23, bk190_27, bk190_29, bk190_34, bk190_43, bk190_49, bk190_57, bk190_71, bk190_72, bk190_80, bk190_96, U_iload_n, U_i2l, U_lconst, U_ldc2_w, U_invokestatic3, U_if_ne, U_lreturn, U_aload_n, U_invokevirtual0, U_iconst, U_istore_n, U_icmp_gt, U_invokevirtual1, U_lstore_n, U_istore, U_iload, U_icmp_ge, U_lload_n, U_irem, U_getfield, U_lald, U_lmul, U_goto, U_lsub, U_iinc, U_ldiv, U_last, UN_cc, UN_cn, UN_nc, UN_nn, UJ, lget, lset, lset2, entL, wsm, wcat, Option.toList_some, Option.toList_none, List.cons_append, List.nil_append, List.mem_cons, List.not_mem_nil, Prod.mk.injEq, or_false, false_or, or_true, true_or, and_true, true_and, and_false, false_and, and_self, ne_eq, not_false_eq_true, not_true_eq_false, forall_const, true_implies, false_implies, Nat.add_zero, Nat.zero_add, Nat.le_refl, Nat.zero_le, List.set_cons_zero, List.set_cons_succ, List.set_nil, ↓reduceIte, Nat.reduceAdd, Nat.reduceSub, Nat.reduceEqDiff, Nat.reduceLeDiff, Int.reduceEq, Int.reduceNe, Int.reduceNeg, reduceCtorEq, kd190, kd202, ln202, z190_17 hz]
    exact ⟨rr (by omega), fun e => absurd e (by omega), fun _ => ⟨r3 (by omega), hr, r6 (by omega), by omega, by omega, by omega, hQ _⟩⟩
  | succ n ih =>
    intro i hi h1
    have e1 := hA i h1 (by omega)
    have e2 : (k : Int).tmod (i : Int) = ((k % i : Nat) : Int) := by rw [tm_nn (by omega), Int.natCast_emod]
    have st : WP 190 (0, 0) 43 [(2, 190), (0, D), (0, (k : Int)), (1, plR P F k (i + 1)), (9, 0), (0, (i : Int) + 1)] [] NN N Q := ih (i + 1) (by omega) (by omega)
    have e3 : plR P F k (i + 1) = plR P F k i - (if i = 0 ∨ k % i ≠ 0 then 0 else (i : Int) * F i) := by
      show P k - (isum _ i + (if i = 0 ∨ k % i ≠ 0 then 0 else (i : Int) * F i)) = P k - isum _ i - _
      omega
    refine WP.run [(190, 29), (190, 43)] [] 60 ?_
    simp only [bk190_0, bk190_12, bk190_16, bk190_23, bk190_27, bk190_29, bk190_34, bk190_43, bk190_49, bk190_57, bk190_71, bk190_72, bk190_80, bk190_96, U_iload_n, U_i2l, U_lconst, U_ldc2_w, U_invokestatic3, U_if_ne, U_lreturn, U_aload_n, U_invokevirtual0, U_iconst, U_istore_n, U_icmp_gt, U_invokevirtual1, U_lstore_n, U_istore, U_iload, U_icmp_ge, U_lload_n, U_irem, U_getfield, U_lald, U_lmul, U_goto, U_lsub, U_iinc, U_ldiv, U_last, UN_cc, UN_cn, UN_nc, UN_nn, UJ, lget, lset, lset2, entL, wsm, wcat, Option.toList_some, Option.toList_none, List.cons_append, List.nil_append, List.mem_cons, List.not_mem_nil, Prod.mk.injEq, or_false, false_or, or_true, true_or, and_true, true_and, and_false, false_and, and_self, ne_eq, not_false_eq_true, not_true_eq_false, forall_const, true_implies, false_implies, Nat.add_zero, Nat.zero_add, Nat.le_refl, Nat.zero_le, List.set_cons_zero, List.set_cons_succ, List.set_nil, ↓reduceIte, Nat.reduceAdd, Nat.reduceSub, Nat.reduceEqDiff, Nat.reduceLeDiff, Int.reduceEq, Int.reduceNe, Int.reduceNeg, reduceCtorEq, kd190, kd202, ln202, z190_17 hz, e1, e2]
    have hm : k % i < i := Nat.mod_lt _ (by omega)
    generalize hq : k % i = q at *
    refine ⟨rr (by omega), fun _ => ⟨r3 (by omega), r3 (by omega), by omega, r3 (by omega), fun e => ?_, fun e => ?_⟩, fun e => absurd (by omega) e⟩
    · have e4 : q = 0 := by omega
      rw [if_neg (by omega)] at e3
      refine ⟨r3 (by omega), by omega, by omega, ?_⟩
      rw [← e3]; exact st
    · rw [if_pos (by omega)] at e3
      rw [← e3]; exact st
theorem ok_pl : FZK [200, 201, 202] [14] := fzk rfl rfl
set_option maxHeartbeats 8000000 in
theorem l_mplO {p : Int} {N : Mem} {Q : Post} {f : Pz p} {g d : Nat} (hp : Pr p) (hg : g = 1 ∨ g = 2) (hd : 1 ≤ d ∧ d ≤ 6) (hr : ∀ k, 1 ≤ k → k ≤ 6 → R64 (plR (ptO f g) (plN (ptO f g) (k - 1)) k k)) (hQ : ∀ N', MG f g N' → FM [200, 201, 202] [14] N N' → Q (some (1, plN (ptO f g) 6 d)) NN N') :
    ∀ (n k : Nat) (v w w' : V) (Ni : Mem), k + n = d + 1 → 1 ≤ k → MG f g Ni → FM [200, 201, 202] [14] N Ni → PlA Ni (plN (ptO f g) (k - 1)) (k - 1) → WP 190 (0, 0) 29 [(2, 190), (0, (d : Int)), (0, (k : Int)), v, w, w'] [] NN Ni Q := by
  intro n
  induction n with
  | zero =>
    intro k v w w' Ni hk h1 hG hF hA
    obtain rfl : k = d + 1 := by omega
    obtain ⟨hz, hP⟩ := hG.mt
    have e1 := hA d (by omega) (by omega)
    rw [show d + 1 - 1 = d by omega] at e1
    refine WP.run [(190, 29)] [] 60 ?_
    simp only [bk190_0, bk190_12, bk190_16, bk190_23, bk190_27, bk190_29, bk190_34, bk190_43, bk190_49, bk190_57, bk190_71, bk190_72, bk190_80, bk190_96, U_iload_n, U_i2l, U_lconst, U_ldc2_w, U_invokestatic3, U_if_ne, U_lreturn, U_aload_n, U_invokevirtual0, U_iconst, U_istore_n, U_icmp_gt, U_invokevirtual1, U_lstore_n, U_istore, U_iload, U_icmp_ge, U_lload_n, U_irem, U_getfield, U_lald, U_lmul, U_goto, U_lsub, U_iinc, U_ldiv, U_last, UN_cc, UN_cn, UN_nc, UN_nn, UJ, lget, lset, lset2, entL, wsm, wcat, Option.toList_some, Option.toList_none, List.cons_append, List.nil_append, List.mem_cons, List.not_mem_nil, Prod.mk.injEq, or_false, false_or, or_true, true_or, and_true, true_and, and_false, false_and, and_self, ne_eq, not_false_eq_true, not_true_eq_false, forall_const, true_implies, false_implies, Nat.add_zero, Nat.zero_add, Nat.le_refl, Nat.zero_le, List.set_cons_zero, List.set_cons_succ, List.set_nil, ↓reduceIte, Nat.reduceAdd, Nat.reduceSub, Nat.reduceEqDiff, Nat.reduceLeDiff, Int.reduceEq, Int.reduceNe, Int.reduceNeg, reduceCtorEq, kd190, kd202, ln202, z190_17 hz, e1]
    refine ⟨rr (by omega), fun _ => ⟨by omega, by omega, ?_⟩, fun e => absurd (by omega) e⟩
    have := hQ Ni hG hF
    rw [plN_le _ 6 d d (by omega) (by omega)] at this; exact this
  | succ n ih =>
    intro k v w w' Ni hk h1 hG hF hA
    refine WP.run [(190, 29), (190, 43)] [] 60 ?_
    simp only [bk190_0, bk190_12, bk190_16, bk190_23, bk190_27, bk190_29, bk190_34, bk190_43, bk190_49, bk190_57, bk190_71, bk190_72, bk190_80, bk190_96, U_iload_n, U_i2l, U_lconst, U_ldc2_w, U_invokestatic3, U_if_ne, U_lreturn, U_aload_n, U_invokevirtual0, U_iconst, U_istore_n, U_icmp_gt, U_invokevirtual1, U_lstore_n, U_istore, U_iload, U_icmp_ge, U_lload_n, U_irem, U_getfield, U_lald, U_lmul, U_goto, U_lsub, U_iinc, U_ldiv, U_last, UN_cc, UN_cn, UN_nc, UN_nn, UJ, lget, lset, lset2, entL, wsm, wcat, Option.toList_some, Option.toList_none, List.cons_append, List.nil_append, List.mem_cons, List.not_mem_nil, Prod.mk.injEq, or_false, false_or, or_true, true_or, and_true, true_and, and_false, false_and, and_self, ne_eq, not_false_eq_true, not_true_eq_false, forall_const, true_implies, false_implies, Nat.add_zero, Nat.zero_add, Nat.le_refl, Nat.zero_le, List.set_cons_zero, List.set_cons_succ, List.set_nil, ↓reduceIte, Nat.reduceAdd, Nat.reduceSub, Nat.reduceEqDiff, Nat.reduceLeDiff, Int.reduceEq, Int.reduceNe, Int.reduceNeg, reduceCtorEq, kd190]
    refine ⟨rr (by omega), fun e => absurd e (by omega), fun _ => ?_⟩
    refine m_countOf hG hp hg (by omega) fun N1 s1 s2 => ?_
    obtain ⟨hz, hP⟩ := s1.mt
    simp only [bk190_0, bk190_12, bk190_16, bk190_23, bk190_27, bk190_29, bk190_34, bk190_43, bk190_49, bk190_57, bk190_71, bk190_72, bk190_80, bk190_96, U_iload_n, U_i2l, U_lconst, U_ldc2_w, U_invokestatic3, U_if_ne, U_lreturn, U_aload_n, U_invokevirtual0, U_iconst, U_istore_n, U_icmp_gt, U_invokevirtual1, U_lstore_n, U_istore, U_iload, U_icmp_ge, U_lload_n, U_irem, U_getfield, U_lald, U_lmul, U_goto, U_lsub, U_iinc, U_ldiv, U_last, UN_cc, UN_cn, UN_nc, UN_nn, UJ, lget, lset, lset2, entL, wsm, wcat, Option.toList_some, Option.toList_none, List.cons_append, List.nil_append, List.mem_cons, List.not_mem_nil, Prod.mk.injEq, or_false, false_or, or_true, true_or, and_true, true_and, and_false, false_and, and_self, ne_eq, not_false_eq_true, not_true_eq_false, forall_const, true_implies, false_implies, Nat.add_zero, Nat.zero_add, Nat.le_refl, Nat.zero_le, List.set_cons_zero, List.set_cons_succ, List.set_nil, ↓reduceIte, Nat.reduceAdd, Nat.reduceSub, Nat.reduceEqDiff, Nat.reduceLeDiff, Int.reduceEq, Int.reduceNe, Int.reduceNeg, reduceCtorEq]
    have hA1 : PlA N1 (plN (ptO f g) (k - 1)) (k - 1) := fun j j1 j2 => by rw [s2.1 202 (by decide) (by decide)]; exact hA j j1 j2
    have := l_mplI (N := N1) (Q := Q) (D := (d : Int)) (k := k) (P := ptO f g) (F := plN (ptO f g) (k - 1)) hz (by omega) hA1 (hr k (by omega) (by omega)) (fun v => ?_) (k - 1) 1 (by omega) (by omega)
    · have e0 : plR (ptO f g) (plN (ptO f g) (k - 1)) k 1 = ptO f g k := by
        show ptO f g k - (0 + (if 0 = 0 ∨ k % 0 ≠ 0 then (0 : Int) else _)) = _
        rw [if_pos (Or.inl rfl)]; omega
      rw [e0] at this; exact this
    · have F1 : FM [202] [] N1 (ust N1 202 (k : Int) ((plR (ptO f g) (plN (ptO f g) (k - 1)) k k).tdiv (k : Int))) := (FM.rf _ _ _).us _ _ (by simp) (by decide)
      refine ih (k + 1) _ _ _ _ (by omega) (by omega) (s1.fm F1 (fzk rfl rfl) (by decide) (by decide) (by decide) (by decide) (by decide) (by decide)) (hF.tr ((s2.mo rfl rfl).tr (F1.mo rfl rfl))) (fun j j1 j2 => ?_)
      rw [ust_at, show k + 1 - 1 = k by omega]
      obtain ⟨m, rfl⟩ : ∃ m, k = m + 1 := ⟨k - 1, by omega⟩
      rw [show m + 1 - 1 = m by omega] at *
      by_cases e : j = m + 1
      · rw [if_pos (by omega), e]
        show _ = if m + 1 = m + 1 then _ else _
        rw [if_pos rfl]
      · rw [if_neg (by omega), plN_le _ (m + 1) m j (by omega) (by omega)]; exact hA1 j j1 (by omega)
