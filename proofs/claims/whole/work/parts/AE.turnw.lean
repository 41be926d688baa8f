/-! THE MODEL'S PAIRS: turned -/
set_option maxHeartbeats 8000000 in
theorem m_turnW {p : Int} {N : Mem} {Q : Post} {f : Pz p} {g : Nat} {ad : Gq f g → Gq f g → Gq f g} {z : Gq f g} {ng : Gq f g → Gq f g} {a : Nat} {x : Gq f g} (hG : GG f g ad z ng) (h : MB f g N) (ha : a < 8) (wa : WK N 204 a x.1)
    (hQ : ∀ N', MB f g N' → (∀ b, b ≠ 204 → N' b = N b) → WK N' 204 a (ng x).1 → (∀ i, ¬ (5 * (a : Int) ≤ i ∧ i < 5 * (a : Int) + 5) → N' 204 i = N 204 i) → Q none NN N') : CL 206 [(2, 190), (0, (a : Int))] NN N Q := by
  have hz := h.fz
  obtain ⟨μ, hM, h0⟩ := h.1
  have hp := hM.2.1
  have hpp := hp.pos
  have w3 := wa 3 (by omega)
  have w4 := wa 4 (by omega)
  rw [wkD_3, show 5 * (a : Int) + ((3 : Nat) : Int) = 5 * (a : Int) + 3 by omega] at w3
  rw [wkD_4, show 5 * (a : Int) + ((4 : Nat) : Int) = 5 * (a : Int) + 4 by omega] at w4
  have r3' := pz_rg hp x.1.2 0
  have r4' := pz_rg hp x.1.2 1
  refine WP.run [] [] 60 ?_
  simp only [bk206_0, U_aload_n, U_getfield, U_iconst, U_iload_n, U_imul, U_iadd, U_iald, U_ineg, U_invokevirtual1, U_iast, U_return, UN_cc, UN_cn, UN_nc, UN_nn, UJ, lget, lset, lset2, entL, wsm, wcat, Option.toList_some, Option.toList_none, List.cons_append, List.nil_append, List.mem_cons, List.not_mem_nil, Prod.mk.injEq, or_false, false_or, or_true, true_or, and_true, true_and, and_false, false_and, and_self, ne_eq, not_false_eq_true, not_true_eq_false, forall_const, true_implies, false_implies, Nat.add_zero, Nat.zero_add, Nat.le_refl, Nat.zero_le, List.set_cons_zero, List.set_cons_succ, List.set_nil, ↓reduceIte, Nat.reduceAdd, Nat.reduceSub, Nat.reduceEqDiff, Nat.reduceLeDiff, Int.reduceEq, Int.reduceNe, Int.reduceNeg, reduceCtorEq, kd190, kd204, ln204, z190_20 hz, w3]
  refine ⟨by omega, by omega, m_mod hp hM.2.2.1 (r3 (by omega)) ?_⟩
  have M1 := hM.uw (5 * (a : Int) + 3) (-x.1.2.1 0 % p)
  have w4' : ust N 204 (5 * (a : Int) + 3) (-x.1.2.1 0 % p) 204 (5 * (a : Int) + 4) = x.1.2.1 1 := by rw [ust_at, if_neg (by omega)]; exact w4
  simp only [bk206_0, U_aload_n, U_getfield, U_iconst, U_iload_n, U_imul, U_iadd, U_iald, U_ineg, U_invokevirtual1, U_iast, U_return, UN_cc, UN_cn, UN_nc, UN_nn, UJ, lget, lset, lset2, entL, wsm, wcat, Option.toList_some, Option.toList_none, List.cons_append, List.nil_append, List.mem_cons, List.not_mem_nil, Prod.mk.injEq, or_false, false_or, or_true, true_or, and_true, true_and, and_false, false_and, and_self, ne_eq, not_false_eq_true, not_true_eq_false, forall_const, true_implies, false_implies, Nat.add_zero, Nat.zero_add, Nat.le_refl, Nat.zero_le, List.set_cons_zero, List.set_cons_succ, List.set_nil, ↓reduceIte, Nat.reduceAdd, Nat.reduceSub, Nat.reduceEqDiff, Nat.reduceLeDiff, Int.reduceEq, Int.reduceNe, Int.reduceNeg, reduceCtorEq, kd190, kd204, ln204, z190_20 M1.1, w4']
  refine ⟨by omega, by omega, by omega, by omega, m_mod hp M1.2.2.1 (r3 (by omega)) ?_⟩
  have M2 := M1.uw (5 * (a : Int) + 4) (-x.1.2.1 1 % p)
  simp only [bk206_0, U_aload_n, U_getfield, U_iconst, U_iload_n, U_imul, U_iadd, U_iald, U_ineg, U_invokevirtual1, U_iast, U_return, UN_cc, UN_cn, UN_nc, UN_nn, UJ, lget, lset, lset2, entL, wsm, wcat, Option.toList_some, Option.toList_none, List.cons_append, List.nil_append, List.mem_cons, List.not_mem_nil, Prod.mk.injEq, or_false, false_or, or_true, true_or, and_true, true_and, and_false, false_and, and_self, ne_eq, not_false_eq_true, not_true_eq_false, forall_const, true_implies, false_implies, Nat.add_zero, Nat.zero_add, Nat.le_refl, Nat.zero_le, List.set_cons_zero, List.set_cons_succ, List.set_nil, ↓reduceIte, Nat.reduceAdd, Nat.reduceSub, Nat.reduceEqDiff, Nat.reduceLeDiff, Int.reduceEq, Int.reduceNe, Int.reduceNeg, reduceCtorEq, kd204, ln204]
  refine ⟨by omega, by omega, hQ _ ⟨⟨μ, M2, h0⟩, by rw [ust_ne (by decide), ust_ne (by decide)]; exact h.2⟩ (fun b hb => by rw [ust_ne hb, ust_ne hb]) (fun j hj => ?_) (fun i hi => by rw [ust_at, if_neg (by omega), ust_at, if_neg (by omega)])⟩
  rw [hG.2.2.2 x]
  have wj := wa j hj
  have : j = 0 ∨ j = 1 ∨ j = 2 ∨ j = 3 ∨ j = 4 := by omega
  rcases this with rfl | rfl | rfl | rfl | rfl
  · rw [ust_at, if_neg (by omega), ust_at, if_neg (by omega), wj]; rfl
  · rw [ust_at, if_neg (by omega), ust_at, if_neg (by omega), wj]; rfl
  · rw [ust_at, if_neg (by omega), ust_at, if_neg (by omega), wj]; rfl
  · rw [ust_at, if_neg (by omega), ust_at, if_pos (by omega)]; rfl
  · rw [ust_at, if_pos (by omega)]; rfl
