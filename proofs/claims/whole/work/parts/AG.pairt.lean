/-! THE MODEL'S FIELD OF P P NUMBERS: first part by p, and second part -/
def pT (p m a b : Int) : Int := (a / p * (b / p) + m * (a % p) % p * (b % p)) % p * p + (a / p * (b % p) + a % p * (b / p)) % p
theorem pT_rg {p m a b : Int} (hp : Pr p) : 0 ≤ pT p m a b ∧ pT p m a b < p * p := by
  have hpp := hp.pos
  have h1 := Int.emod_nonneg (a / p * (b / p) + m * (a % p) % p * (b % p)) (show p ≠ 0 by omega)
  have h2 := Int.emod_lt_of_pos (a / p * (b / p) + m * (a % p) % p * (b % p)) (show 0 < p by omega)
  have h3 := Int.emod_nonneg (a / p * (b % p) + a % p * (b / p)) (show p ≠ 0 by omega)
  have h4 := Int.emod_lt_of_pos (a / p * (b % p) + a % p * (b / p)) (show 0 < p by omega)
  unfold pT
  rcases hp with rfl | rfl | rfl | rfl | rfl <;> omega
set_option maxHeartbeats 8000000 in
theorem m_pairT {p : Int} {N : Mem} {Q : Post} {m a b : Int} (hp : Pr p) (h0 : N 190 0 = p) (hm : N 190 14 = m) (m0 : 0 ≤ m ∧ m < 13) (ha : 0 ≤ a ∧ a < p * p) (hb : 0 ≤ b ∧ b < p * p) (hQ : Q (some (0, pT p m a b)) NN N) : CL 180 [(2, 190), (0, a), (0, b), (9, 0), (9, 0), (9, 0), (9, 0)] NN N Q := by
  have hpp := hp.pos
  have ea : a.tdiv p = a / p := Int.tdiv_eq_ediv_of_nonneg ha.1
  have eb : b.tdiv p = b / p := Int.tdiv_eq_ediv_of_nonneg hb.1
  have fa : a.tmod p = a % p := tm_nn ha.1
  have fb : b.tmod p = b % p := tm_nn hb.1
  have a1 := Int.emod_nonneg a (show p ≠ 0 by omega)
  have a2 := Int.emod_lt_of_pos a (show 0 < p by omega)
  have b1 := Int.emod_nonneg b (show p ≠ 0 by omega)
  have b2 := Int.emod_lt_of_pos b (show 0 < p by omega)
  have qa : 0 ≤ a / p ∧ a / p < p := ⟨Int.ediv_nonneg ha.1 (by omega), Int.ediv_lt_of_lt_mul (by omega) ha.2⟩
  have qb : 0 ≤ b / p ∧ b / p < p := ⟨Int.ediv_nonneg hb.1 (by omega), Int.ediv_lt_of_lt_mul (by omega) hb.2⟩
  have n1 : 0 ≤ m * (a % p) := Int.mul_nonneg m0.1 a1
  have n2 := ab_mul (A := 13) (B := 13) (a := m) (b := a % p) (by omega) (by omega)
  have n3 := Int.emod_nonneg (m * (a % p)) (show p ≠ 0 by omega)
  have n4 := Int.emod_lt_of_pos (m * (a % p)) (show 0 < p by omega)
  have n5 : 0 ≤ m * (a % p) % p * (b % p) := Int.mul_nonneg n3 b1
  have n6 := ab_mul (A := 13) (B := 13) (a := m * (a % p) % p) (b := b % p) (by omega) (by omega)
  have n7 : 0 ≤ a / p * (b / p) := Int.mul_nonneg qa.1 qb.1
  have n8 := ab_mul (A := 13) (B := 13) (a := a / p) (b := b / p) (by omega) (by omega)
  have n9 : 0 ≤ a / p * (b % p) := Int.mul_nonneg qa.1 b1
  have n10 := ab_mul (A := 13) (B := 13) (a := a / p) (b := b % p) (by omega) (by omega)
  have n11 : 0 ≤ a % p * (b / p) := Int.mul_nonneg a1 qb.1
  have n12 := ab_mul (A := 13) (B := 13) (a := a % p) (b := b / p) (by omega) (by omega)
  have hpq : p * p ≤ 169 := by rcases hp with rfl | rfl | rfl | rfl | rfl <;> decide
  refine WP.run [] [] 80 ?_
  simp only [bk180_0, U_iload_n, U_aload_n, U_getfield, U_idiv, U_istore_n, U_irem, U_istore, U_iload, U_imul, U_iadd, U_ireturn, UN_cc, UN_cn, UN_nc, UN_nn, UJ, lget, lset, lset2, entL, wsm, wcat, Option.toList_some, Option.toList_none, List.cons_append, List.nil_append, List.mem_cons, List.not_mem_nil, Prod.mk.injEq, or_false, false_or, or_true, true_or, and_true, true_and, and_false, false_and, and_self, ne_eq, not_false_eq_true, not_true_eq_false, forall_const, true_implies, false_implies, Nat.add_zero, Nat.zero_add, Nat.le_refl, Nat.zero_le, List.set_cons_zero, List.set_cons_succ, List.set_nil, ↓reduceIte, Nat.reduceAdd, Nat.reduceSub, Nat.reduceEqDiff, Nat.reduceLeDiff, Int.reduceEq, Int.reduceNe, Int.reduceNeg, reduceCtorEq, kd190, h0, hm, ea, eb, fa, fb]
  rw [tm_nn n1, tm_nn (show 0 ≤ a / p * (b / p) + m * (a % p) % p * (b % p) by omega), tm_nn (show 0 ≤ a / p * (b % p) + a % p * (b / p) by omega)]
  have R := fun (x : Int) (h : -100000 ≤ x ∧ x ≤ 100000) => (r3 (by omega) : R32 x)
  refine ⟨R _ (by omega), R _ (by omega), by omega, R _ (by omega), R _ (by omega), by omega, R _ (by omega), R _ (by omega), by omega, R _ (by omega), R _ (by omega), by omega, ?_⟩
  repeat (first | refine And.intro (R _ (by omega)) ?_ | refine And.intro (show p ≠ 0 by omega) ?_ | refine And.intro (by omega) ?_)
  exact hQ
