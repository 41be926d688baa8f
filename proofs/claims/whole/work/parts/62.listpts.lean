/-! THE LIST OF CLASSES: classes of one point -/
def selT (b : Nat → Bool) (t : Nat → Int) : Nat → List Int
  | 0 => []
  | n + 1 => selT b t n ++ (if b n then [t n] else [])
def catT (L : Nat → List Int) : Nat → List Int
  | 0 => []
  | n + 1 => catT L n ++ L n
noncomputable def tkPr {p : Int} (f : Pz p) (u n : Nat) : List Int := selT (fun v => decide ((v : Int) * v % p = pev f ((p - u) % p))) (fun v => p * p * p * p + u * p + v) n
noncomputable def tkP {p : Int} (f : Pz p) (n : Nat) : List Int := catT (fun u => tkPr f u p.toNat) n
theorem p4_le {p : Int} (hp : Pr p) : 81 ≤ p * p * p * p ∧ p * p * p * p ≤ 28561 := by
  have h := hp
  rcases h with rfl | rfl | rfl | rfl | rfl <;> decide
theorem up_le {p u : Int} (hp : Pr p) (h : 0 ≤ u ∧ u < p) : 0 ≤ u * p ∧ u * p ≤ 156 := by
  have hpp := hp.pos
  have := Int.mul_le_mul (show u ≤ 12 by omega) (show p ≤ 13 by omega) (by omega) (by omega)
  exact ⟨Int.mul_nonneg h.1 (by omega), by omega⟩
theorem sq_le {p v : Int} (hp : Pr p) (h : 0 ≤ v ∧ v < p) : 0 ≤ v * v ∧ v * v ≤ 144 := by
  have hpp := hp.pos
  have := Int.mul_le_mul (show v ≤ 12 by omega) (show v ≤ 12 by omega) (by omega) (by omega)
  exact ⟨Int.mul_nonneg h.1 (by omega), by omega⟩
set_option maxHeartbeats 8000000 in
theorem l_lpY {p : Int} {N : Mem} {ρ : Int → Option (Pz p)} {Q : Post} {f : Pz p} {L : List Int} {u : Nat} (hp : Pr p) (hu : (u : Int) < p) (hQ : ∀ N', ST p N' ρ → FX [88, 89] N N' → TkA N' (L ++ tkPr f u p.toNat) → ∀ y : V, WP 93 (0, 0) 10 [(2, 88), (0, p), (0, (u : Int) + 1), (0, pev f ((p - u) % p)), y] [] NN N' Q) :
    ∀ (n v : Nat) (Ni : Mem), (v : Int) + n = p → ST p Ni ρ → FX [88, 89] N Ni → TkA Ni (L ++ tkPr f u v) → WP 93 (0, 0) 38 [(2, 88), (0, p), (0, (u : Int)), (0, pev f ((p - u) % p)), (0, (v : Int))] [] NN Ni Q := by
  have hpp := hp.pos
  have h4 := p4_le hp
  have hup := up_le hp (u := (u : Int)) (by omega)
  have hev := pev_rg hp f ((p - u) % p)
  intro n
  induction n with
  | zero =>
    intro v Ni hk hS hF hA
    have e : v = p.toNat := by omega
    subst e
    refine WP.run [(93, 38), (93, 10)] [] 60 ?_
    simp only [bk93_0, bk93_10, bk93_15, bk93_38, bk93_44, bk93_55, bk93_70, bk93_76, bk93_82, U_aload_n, U_getfield, U_istore_n, U_iconst, U_iload_n, U_icmp_ge, U_isub, U_irem, U_invokevirtual2, U_istore, U_iload, U_imul, U_icmp_ne, U_invokevirtual0, U_iadd, U_invokevirtual1, U_iinc, U_goto, U_return, UN_cc, UN_cn, UN_nc, UN_nn, UJ, lget, lset, lset2, entL, wsm, wcat, Option.toList_some, Option.toList_none, List.cons_append, List.nil_append, List.mem_cons, List.not_mem_nil, Prod.mk.injEq, or_false, false_or, or_true, true_or, and_true, true_and, and_false, false_and, and_self, ne_eq, not_false_eq_true, not_true_eq_false, forall_const, true_implies, false_implies, Nat.add_zero, Nat.zero_add, Nat.le_refl, Nat.zero_le, List.set_cons_zero, List.set_cons_succ, List.set_nil, ↓reduceIte, Nat.reduceAdd, Nat.reduceSub, Nat.reduceEqDiff, Nat.reduceLeDiff, Int.reduceEq, Int.reduceNe, Int.reduceNeg, reduceCtorEq]
    exact ⟨rr (by omega), fun e => absurd e (by omega), fun _ => hQ Ni hS hF hA _⟩
  | succ n ih =>
    intro v Ni hk hS hF hA
    have hvv := sq_le hp (v := (v : Int)) (by omega)
    have es : tkPr f u (v + 1) = tkPr f u v ++ (if decide ((v : Int) * v % p = pev f ((p - u) % p)) then [p * p * p * p + u * p + v] else []) := rfl
    refine WP.run [(93, 38), (93, 10)] [] 60 ?_
    simp only [bk93_0, bk93_10, bk93_15, bk93_38, bk93_44, bk93_55, bk93_70, bk93_76, bk93_82, U_aload_n, U_getfield, U_istore_n, U_iconst, U_iload_n, U_icmp_ge, U_isub, U_irem, U_invokevirtual2, U_istore, U_iload, U_imul, U_icmp_ne, U_invokevirtual0, U_iadd, U_invokevirtual1, U_iinc, U_goto, U_return, UN_cc, UN_cn, UN_nc, UN_nn, UJ, lget, lset, lset2, entL, wsm, wcat, Option.toList_some, Option.toList_none, List.cons_append, List.nil_append, List.mem_cons, List.not_mem_nil, Prod.mk.injEq, or_false, false_or, or_true, true_or, and_true, true_and, and_false, false_and, and_self, ne_eq, not_false_eq_true, not_true_eq_false, forall_const, true_implies, false_implies, Nat.add_zero, Nat.zero_add, Nat.le_refl, Nat.zero_le, List.set_cons_zero, List.set_cons_succ, List.set_nil, ↓reduceIte, Nat.reduceAdd, Nat.reduceSub, Nat.reduceEqDiff, Nat.reduceLeDiff, Int.reduceEq, Int.reduceNe, Int.reduceNeg, reduceCtorEq]
    rw [tm_nn hvv.1]
    have hm := Int.emod_lt_of_pos ((v : Int) * v) (show 0 < p by omega)
    have hm0 := Int.emod_nonneg ((v : Int) * v) (show p ≠ 0 by omega)
    refine ⟨rr (by omega), fun _ => ⟨r3 (by omega), r3 (by omega), by omega, rr (by omega), fun e => ?_, fun e => ?_⟩, fun e => absurd (by omega) e⟩
    · rw [if_pos (decide_eq_true e)] at es
      refine ⟨kd88, c_degreeWeight hS.1 ?_⟩
      simp only [bk93_0, bk93_10, bk93_15, bk93_38, bk93_44, bk93_55, bk93_70, bk93_76, bk93_82, U_aload_n, U_getfield, U_istore_n, U_iconst, U_iload_n, U_icmp_ge, U_isub, U_irem, U_invokevirtual2, U_istore, U_iload, U_imul, U_icmp_ne, U_invokevirtual0, U_iadd, U_invokevirtual1, U_iinc, U_goto, U_return, UN_cc, UN_cn, UN_nc, UN_nn, UJ, lget, lset, lset2, entL, wsm, wcat, Option.toList_some, Option.toList_none, List.cons_append, List.nil_append, List.mem_cons, List.not_mem_nil, Prod.mk.injEq, or_false, false_or, or_true, true_or, and_true, true_and, and_false, false_and, and_self, ne_eq, not_false_eq_true, not_true_eq_false, forall_const, true_implies, false_implies, Nat.add_zero, Nat.zero_add, Nat.le_refl, Nat.zero_le, List.set_cons_zero, List.set_cons_succ, List.set_nil, ↓reduceIte, Nat.reduceAdd, Nat.reduceSub, Nat.reduceEqDiff, Nat.reduceLeDiff, Int.reduceEq, Int.reduceNe, Int.reduceNeg, reduceCtorEq, kd88]
      refine s_keep hS hA (r3 (by omega)) fun N' g1 g2 g3 => ?_
      simp only [bk93_0, bk93_10, bk93_15, bk93_38, bk93_44, bk93_55, bk93_70, bk93_76, bk93_82, U_aload_n, U_getfield, U_istore_n, U_iconst, U_iload_n, U_icmp_ge, U_isub, U_irem, U_invokevirtual2, U_istore, U_iload, U_imul, U_icmp_ne, U_invokevirtual0, U_iadd, U_invokevirtual1, U_iinc, U_goto, U_return, UN_cc, UN_cn, UN_nc, UN_nn, UJ, lget, lset, lset2, entL, wsm, wcat, Option.toList_some, Option.toList_none, List.cons_append, List.nil_append, List.mem_cons, List.not_mem_nil, Prod.mk.injEq, or_false, false_or, or_true, true_or, and_true, true_and, and_false, false_and, and_self, ne_eq, not_false_eq_true, not_true_eq_false, forall_const, true_implies, false_implies, Nat.add_zero, Nat.zero_add, Nat.le_refl, Nat.zero_le, List.set_cons_zero, List.set_cons_succ, List.set_nil, ↓reduceIte, Nat.reduceAdd, Nat.reduceSub, Nat.reduceEqDiff, Nat.reduceLeDiff, Int.reduceEq, Int.reduceNe, Int.reduceNeg, reduceCtorEq]
      rw [List.append_assoc, ← es] at g3
      exact ih (v + 1) N' (by omega) g1 (hF.tr g2) g3
    · rw [if_neg (fun q => e (of_decide_eq_true q)), List.append_nil] at es
      rw [← es] at hA
      exact ih (v + 1) Ni (by omega) hS hF hA
set_option maxHeartbeats 8000000 in
theorem l_lpX {p : Int} {N : Mem} {ρ : Int → Option (Pz p)} {Q : Post} {f : Pz p} {L : List Int} (hp : Pr p) (hf : ρ 22 = some f) (hQ : ∀ N', ST p N' ρ → FX [88, 89] N N' → TkA N' (L ++ tkP f p.toNat) → Q none NN N') :
    ∀ (n u : Nat) (x y : V) (Ni : Mem), (u : Int) + n = p → ST p Ni ρ → FX [88, 89] N Ni → TkA Ni (L ++ tkP f u) → WP 93 (0, 0) 10 [(2, 88), (0, p), (0, (u : Int)), x, y] [] NN Ni Q := by
  have hpp := hp.pos
  have k22 : KD 22 = 18 := rfl
  intro n
  induction n with
  | zero =>
    intro u x y Ni hk hS hF hA
    have e : u = p.toNat := by omega
    subst e
    refine WP.run [(93, 10)] [] 60 ?_
    simp only [bk93_0, bk93_10, bk93_15, bk93_38, bk93_44, bk93_55, bk93_70, bk93_76, bk93_82, U_aload_n, U_getfield, U_istore_n, U_iconst, U_iload_n, U_icmp_ge, U_isub, U_irem, U_invokevirtual2, U_istore, U_iload, U_imul, U_icmp_ne, U_invokevirtual0, U_iadd, U_invokevirtual1, U_iinc, U_goto, U_return, UN_cc, UN_cn, UN_nc, UN_nn, UJ, lget, lset, lset2, entL, wsm, wcat, Option.toList_some, Option.toList_none, List.cons_append, List.nil_append, List.mem_cons, List.not_mem_nil, Prod.mk.injEq, or_false, false_or, or_true, true_or, and_true, true_and, and_false, false_and, and_self, ne_eq, not_false_eq_true, not_true_eq_false, forall_const, true_implies, false_implies, Nat.add_zero, Nat.zero_add, Nat.le_refl, Nat.zero_le, List.set_cons_zero, List.set_cons_succ, List.set_nil, ↓reduceIte, Nat.reduceAdd, Nat.reduceSub, Nat.reduceEqDiff, Nat.reduceLeDiff, Int.reduceEq, Int.reduceNe, Int.reduceNeg, reduceCtorEq]
    exact ⟨rr (by omega), fun e => absurd e (by omega), fun _ => hQ Ni hS hF hA⟩
  | succ n ih =>
    intro u x y Ni hk hS hF hA
    have es : tkP f (u + 1) = tkP f u ++ tkPr f u p.toNat := rfl
    have hm := Int.emod_lt_of_pos (p - u) (show 0 < p by omega)
    have hm0 := Int.emod_nonneg (p - u) (show p ≠ 0 by omega)
    refine WP.run [(93, 38), (93, 10)] [] 60 ?_
    simp only [bk93_0, bk93_10, bk93_15, bk93_38, bk93_44, bk93_55, bk93_70, bk93_76, bk93_82, U_aload_n, U_getfield, U_istore_n, U_iconst, U_iload_n, U_icmp_ge, U_isub, U_irem, U_invokevirtual2, U_istore, U_iload, U_imul, U_icmp_ne, U_invokevirtual0, U_iadd, U_invokevirtual1, U_iinc, U_goto, U_return, UN_cc, UN_cn, UN_nc, UN_nn, UJ, lget, lset, lset2, entL, wsm, wcat, Option.toList_some, Option.toList_none, List.cons_append, List.nil_append, List.mem_cons, List.not_mem_nil, Prod.mk.injEq, or_false, false_or, or_true, true_or, and_true, true_and, and_false, false_and, and_self, ne_eq, not_false_eq_true, not_true_eq_false, forall_const, true_implies, false_implies, Nat.add_zero, Nat.zero_add, Nat.le_refl, Nat.zero_le, List.set_cons_zero, List.set_cons_succ, List.set_nil, ↓reduceIte, Nat.reduceAdd, Nat.reduceSub, Nat.reduceEqDiff, Nat.reduceLeDiff, Int.reduceEq, Int.reduceNe, Int.reduceNeg, reduceCtorEq, kd88, kd21, kd2, kd22, z88_0 hS.1.1, z88_1 hS.1.1, z21_1 hS.1.1]
    rw [tm_nn (by omega)]
    refine ⟨rr (by omega), fun _ => ⟨r3 (by omega), r3 (by omega), by omega, ?_⟩, fun e => absurd (by omega) e⟩
    refine c_valueAt hS.1 (hS.rp k22 hf) hm0 (by omega) ?_
    simp only [bk93_0, bk93_10, bk93_15, bk93_38, bk93_44, bk93_55, bk93_70, bk93_76, bk93_82, U_aload_n, U_getfield, U_istore_n, U_iconst, U_iload_n, U_icmp_ge, U_isub, U_irem, U_invokevirtual2, U_istore, U_iload, U_imul, U_icmp_ne, U_invokevirtual0, U_iadd, U_invokevirtual1, U_iinc, U_goto, U_return, UN_cc, UN_cn, UN_nc, UN_nn, UJ, lget, lset, lset2, entL, wsm, wcat, Option.toList_some, Option.toList_none, List.cons_append, List.nil_append, List.mem_cons, List.not_mem_nil, Prod.mk.injEq, or_false, false_or, or_true, true_or, and_true, true_and, and_false, false_and, and_self, ne_eq, not_false_eq_true, not_true_eq_false, forall_const, true_implies, false_implies, Nat.add_zero, Nat.zero_add, Nat.le_refl, Nat.zero_le, List.set_cons_zero, List.set_cons_succ, List.set_nil, ↓reduceIte, Nat.reduceAdd, Nat.reduceSub, Nat.reduceEqDiff, Nat.reduceLeDiff, Int.reduceEq, Int.reduceNe, Int.reduceNeg, reduceCtorEq]
    exact l_lpY (ρ := ρ) (N := Ni) (f := f) (L := L ++ tkP f u) (u := u) hp (by omega) (fun N' g1 g2 g3 y => by
      rw [List.append_assoc, ← es] at g3
      exact ih (u + 1) _ y N' (by omega) g1 (hF.tr g2) g3) p.toNat 0 Ni (by omega) hS (FX.rf _ _) (by show TkA Ni (L ++ tkP f u ++ []); rw [List.append_nil]; exact hA)
set_option maxHeartbeats 8000000 in
theorem s_llistPoints {p : Int} {N : Mem} {ρ : Int → Option (Pz p)} {Q : Post} {f : Pz p} {L : List Int} (h : ST p N ρ) (hf : ρ 22 = some f) (hA : TkA N L) (hQ : ∀ N', ST p N' ρ → FX [88, 89] N N' → TkA N' (L ++ tkP f p.toNat) → Q none NN N') : CL 93 [(2, 88), (9, 0), (9, 0), (9, 0), (9, 0)] NN N Q := by
  have hpp := h.1.2.1.pos
  refine WP.run [(93, 10)] [] 60 ?_
  simp only [bk93_0, bk93_10, bk93_15, bk93_38, bk93_44, bk93_55, bk93_70, bk93_76, bk93_82, U_aload_n, U_getfield, U_istore_n, U_iconst, U_iload_n, U_icmp_ge, U_isub, U_irem, U_invokevirtual2, U_istore, U_iload, U_imul, U_icmp_ne, U_invokevirtual0, U_iadd, U_invokevirtual1, U_iinc, U_goto, U_return, UN_cc, UN_cn, UN_nc, UN_nn, UJ, lget, lset, lset2, entL, wsm, wcat, Option.toList_some, Option.toList_none, List.cons_append, List.nil_append, List.mem_cons, List.not_mem_nil, Prod.mk.injEq, or_false, false_or, or_true, true_or, and_true, true_and, and_false, false_and, and_self, ne_eq, not_false_eq_true, not_true_eq_false, forall_const, true_implies, false_implies, Nat.add_zero, Nat.zero_add, Nat.le_refl, Nat.zero_le, List.set_cons_zero, List.set_cons_succ, List.set_nil, ↓reduceIte, Nat.reduceAdd, Nat.reduceSub, Nat.reduceEqDiff, Nat.reduceLeDiff, Int.reduceEq, Int.reduceNe, Int.reduceNeg, reduceCtorEq, kd88, kd2, z88_0 h.1.1, h.1.2.2.1]
  exact l_lpX (f := f) (L := L) h.1.2.1 hf hQ p.toNat 0 _ _ N (by omega) h (FX.rf _ _) (by show TkA N (L ++ []); rw [List.append_nil]; exact hA)
