/-! THE LIST OF CLASSES: the loops for classes of two points -/
theorem tk0_rg {p u1 u0 : Int} (hp : Pr p) (h1 : 0 ≤ u1 ∧ u1 < p) (h0 : 0 ≤ u0 ∧ u0 < p) : 0 ≤ tk0 p u1 u0 ∧ tk0 p u1 u0 ≤ 90000 := by
  have hpp := hp.pos
  have h4 := p4_le hp
  have ha := up_le hp h1
  have hb := ab_mul (A := 168) (B := 13) (a := u1 * p + u0) (b := p) (by omega) (by omega)
  have hb0 : 0 ≤ (u1 * p + u0) * p := Int.mul_nonneg (by omega) (by omega)
  have hc := ab_mul (A := 2184) (B := 13) (a := (u1 * p + u0) * p) (b := p) (by omega) (by omega)
  have hc0 : 0 ≤ (u1 * p + u0) * p * p := Int.mul_nonneg hb0 (by omega)
  unfold tk0; omega
set_option maxHeartbeats 8000000 in
theorem l_lrV {p : Int} {N : Mem} {ρ : Int → Option (Pz p)} {Q : Post} {f : Pz p} {L : List Int} {u1 u0 v1 : Int} (hp : Pr p) (h1 : 0 ≤ u1 ∧ u1 < p) (h0 : 0 ≤ u0 ∧ u0 < p) (hv : 0 ≤ v1 ∧ v1 < p) (hQ : ∀ N', ST p N' ρ → FX [88, 89] N N' → TkA N' (L ++ tkRr f u1 u0 v1 p.toNat) → ∀ a b c : V, WP 94 (0, 0) 92 [(2, 88), (0, u1), (0, u0), (0, p), (0, tk0 p u1 u0), (0, v1 + 1), a, b, c] [] NN N' Q) :
    ∀ (n v : Nat) (Ni : Mem), (v : Int) + n = p → ST p Ni ρ → FX [88, 89] N Ni → TkA Ni (L ++ tkRr f u1 u0 v1 v) → WP 94 (0, 0) 151 [(2, 88), (0, u1), (0, u0), (0, p), (0, tk0 p u1 u0), (0, v1), (0, hiR f u1 u0 v1), (0, loR f u1 u0 v1), (0, (v : Int))] [] NN Ni Q := by
  have hpp := hp.pos
  have ht := tk0_rg hp h1 h0
  have hup := up_le hp hv
  have hi0 : 0 ≤ hiR f u1 u0 v1 ∧ hiR f u1 u0 v1 < p := ⟨Int.emod_nonneg _ (by omega), Int.emod_lt_of_pos _ (by omega)⟩
  have lo0 : 0 ≤ loR f u1 u0 v1 ∧ loR f u1 u0 v1 < p := ⟨Int.emod_nonneg _ (by omega), Int.emod_lt_of_pos _ (by omega)⟩
  intro n
  induction n with
  | zero =>
    intro v Ni hk hS hF hA
    have e : v = p.toNat := by omega
    subst e
    refine WP.run [(94, 151), (94, 92)] [] 60 ?_
    simp only [bk94_0, bk94_92, bk94_98, bk94_151, bk94_157, bk94_171, bk94_183, bk94_197, bk94_203, bk94_209, U_aload_n, U_getfield, U_istore_n, U_invokevirtual0, U_iconst, U_invokevirtual2, U_iload_n, U_invokevirtual1, U_imul, U_iadd, U_istore, U_iload, U_icmp_ge, U_irem, U_icmp_ne, U_iinc, U_goto, U_return, UN_cc, UN_cn, UN_nc, UN_nn, UJ, lget, lset, lset2, entL, wsm, wcat, Option.toList_some, Option.toList_none, List.cons_append, List.nil_append, List.mem_cons, List.not_mem_nil, Prod.mk.injEq, or_false, false_or, or_true, true_or, and_true, true_and, and_false, false_and, and_self, ne_eq, not_false_eq_true, not_true_eq_false, forall_const, true_implies, false_implies, Nat.add_zero, Nat.zero_add, Nat.le_refl, Nat.zero_le, List.set_cons_zero, List.set_cons_succ, List.set_nil, ↓reduceIte, Nat.reduceAdd, Nat.reduceSub, Nat.reduceEqDiff, Nat.reduceLeDiff, Int.reduceEq, Int.reduceNe, Int.reduceNeg, reduceCtorEq]
    exact ⟨rr (by omega), fun e => absurd e (by omega), fun _ => hQ Ni hS hF hA _ _ _⟩
  | succ n ih =>
    intro v Ni hk hS hF hA
    have hvv := sq_le hp (v := (v : Int)) (by omega)
    have h2v := ab_mul (A := 24) (B := 12) (a := 2 * v1) (b := (v : Int)) (by omega) (by omega)
    have h2v0 : 0 ≤ 2 * v1 * (v : Int) := Int.mul_nonneg (by omega) (by omega)
    have es : tkRr f u1 u0 v1 (v + 1) = tkRr f u1 u0 v1 v ++ (if (decide (2 * v1 * (v : Int) % p = hiR f u1 u0 v1) && decide ((v : Int) * v % p = loR f u1 u0 v1)) then [tk0 p u1 u0 + v1 * p + v] else []) := rfl
    have no : ¬ (2 * v1 * (v : Int) % p = hiR f u1 u0 v1 ∧ (v : Int) * v % p = loR f u1 u0 v1) → WP 94 (0, 0) 151 [(2, 88), (0, u1), (0, u0), (0, p), (0, tk0 p u1 u0), (0, v1), (0, hiR f u1 u0 v1), (0, loR f u1 u0 v1), (0, (v : Int) + 1)] [] NN Ni Q := fun e => by
      rw [if_neg (fun q => e (by simpa [Bool.and_eq_true] using q)), List.append_nil] at es
      rw [← es] at hA
      exact ih (v + 1) Ni (by omega) hS hF hA
    refine WP.run [(94, 151), (94, 92)] [] 60 ?_
    simp only [bk94_0, bk94_92, bk94_98, bk94_151, bk94_157, bk94_171, bk94_183, bk94_197, bk94_203, bk94_209, U_aload_n, U_getfield, U_istore_n, U_invokevirtual0, U_iconst, U_invokevirtual2, U_iload_n, U_invokevirtual1, U_imul, U_iadd, U_istore, U_iload, U_icmp_ge, U_irem, U_icmp_ne, U_iinc, U_goto, U_return, UN_cc, UN_cn, UN_nc, UN_nn, UJ, lget, lset, lset2, entL, wsm, wcat, Option.toList_some, Option.toList_none, List.cons_append, List.nil_append, List.mem_cons, List.not_mem_nil, Prod.mk.injEq, or_false, false_or, or_true, true_or, and_true, true_and, and_false, false_and, and_self, ne_eq, not_false_eq_true, not_true_eq_false, forall_const, true_implies, false_implies, Nat.add_zero, Nat.zero_add, Nat.le_refl, Nat.zero_le, List.set_cons_zero, List.set_cons_succ, List.set_nil, ↓reduceIte, Nat.reduceAdd, Nat.reduceSub, Nat.reduceEqDiff, Nat.reduceLeDiff, Int.reduceEq, Int.reduceNe, Int.reduceNeg, reduceCtorEq, kd88]
    rw [tm_nn hvv.1, tm_nn h2v0]
    have hm := Int.emod_lt_of_pos ((v : Int) * v) (show 0 < p by omega)
    have hm0 := Int.emod_nonneg ((v : Int) * v) (show p ≠ 0 by omega)
    have hn := Int.emod_lt_of_pos (2 * v1 * (v : Int)) (show 0 < p by omega)
    have hn0 := Int.emod_nonneg (2 * v1 * (v : Int)) (show p ≠ 0 by omega)
    refine ⟨rr (by omega), fun _ => ⟨r3 (by omega), r3 (by omega), by omega, rr (by omega), fun e => ⟨r3 (by omega), r3 (by omega), by omega, rr (by omega), fun e2 => ?_, fun e2 => no (fun q => e2 q.2)⟩, fun e => no (fun q => e q.1)⟩, fun e => absurd (by omega) e⟩
    rw [if_pos (by rw [decide_eq_true e, decide_eq_true e2]; rfl)] at es
    refine s_keep hS hA (r3 (by omega)) fun N' g1 g2 g3 => ?_
    simp only [bk94_0, bk94_92, bk94_98, bk94_151, bk94_157, bk94_171, bk94_183, bk94_197, bk94_203, bk94_209, U_aload_n, U_getfield, U_istore_n, U_invokevirtual0, U_iconst, U_invokevirtual2, U_iload_n, U_invokevirtual1, U_imul, U_iadd, U_istore, U_iload, U_icmp_ge, U_irem, U_icmp_ne, U_iinc, U_goto, U_return, UN_cc, UN_cn, UN_nc, UN_nn, UJ, lget, lset, lset2, entL, wsm, wcat, Option.toList_some, Option.toList_none, List.cons_append, List.nil_append, List.mem_cons, List.not_mem_nil, Prod.mk.injEq, or_false, false_or, or_true, true_or, and_true, true_and, and_false, false_and, and_self, ne_eq, not_false_eq_true, not_true_eq_false, forall_const, true_implies, false_implies, Nat.add_zero, Nat.zero_add, Nat.le_refl, Nat.zero_le, List.set_cons_zero, List.set_cons_succ, List.set_nil, ↓reduceIte, Nat.reduceAdd, Nat.reduceSub, Nat.reduceEqDiff, Nat.reduceLeDiff, Int.reduceEq, Int.reduceNe, Int.reduceNeg, reduceCtorEq]
    rw [List.append_assoc, ← es] at g3
    exact ih (v + 1) N' (by omega) g1 (hF.tr g2) g3
