/-! THE MODEL'S SUM: the algebra; lowering -/
theorem sm1 {R : Type} [Lean.Grind.CommRing R] (f l1 l2 r1 r2 a1 a2 b1 b2 : R) : l2 * (f + a2 * b2) + r2 * ((l1 * a1) * b2 + (r1 * b1) * a2) = ((l1 * r2) * a1) * b2 + ((r1 * r2) * b1) * a2 + (a2 * b2 + f) * l2 := by grind
theorem sm2 {R : Type} [Lean.Grind.CommRing R] {d q x y : R} (h1 : x = d * (d * y)) : x = (d * d) * y := by grind
theorem sm3 {R : Type} [Lean.Grind.CommRing R] {d x q y : R} (h1 : x = d * (d * y)) (h2 : x = (d * d) * q) : d * (d * (y - q)) = 0 := by grind
theorem sm4 {R : Type} [Lean.Grind.CommRing R] (x q : R) : x = q * 0 + x := by grind
theorem sm5 {R : Type} [Lean.Grind.CommRing R] {x y : R} (h : x - y = 0) : x = y := by grind
theorem sm6 {R : Type} [Lean.Grind.CommRing R] {d r d1 l s : R} (h : d = r * d1 + l * s) : d = l * s + r * d1 := by grind
theorem sum_alg {R : Type} [Lean.Grind.CommRing R] {dg : R → Nat} {mo : R → Prop} (E : Euc R dg mo) {f : R} {g : Nat} (hf : dg f = 2 * g + 2) (hS : Sqf f) {a b : R × R} (ha : Red dg mo f g a) (hb : Red dg mo f g b) {d1 l1 r1 d l2 r2 q2 R2 R3 v0 t v : R} (hmd : mo d)
    (h1 : d1 = l1 * a.1 + r1 * b.1) (h1a : Dv d1 a.1) (h1b : Dv d1 b.1) (h2 : d = r2 * d1 + l2 * (a.2 + b.2)) (h2b : Dv d d1) (h2a : Dv d (a.2 + b.2))
    (hq : a.1 * b.1 = (d * d) * q2 + R2) (hR2 : dg R2 < dg (d * d)) (hv : ((l1 * r2) * a.1) * b.2 + ((r1 * r2) * b.1) * a.2 + (a.2 * b.2 + f) * l2 = d * v0 + R3) (hR3 : dg R3 < dg d) :
    (v0 = q2 * t + v → a.1 * b.1 = d * (d * q2) ∧ q2 ≠ 0 ∧ Dv q2 (v * v - f) ∧ beq (bim (II f a.1 a.2) (II f b.1 b.2)) (II f q2 v) ∧ dg q2 + 1 ≤ dg a.1 + dg b.1) ∧ q2 ≠ 0 := by
  have hD := E.dom
  have d0 : d ≠ 0 := E.2.2.2.2.2.2.2.2.2.2 d hmd
  obtain ⟨q1, S1, e1, e2⟩ := E.2.2.2.2.1 (a.1 * b.1) d (E.nz d0)
  obtain ⟨y, S2, e3, e4⟩ := E.2.2.2.2.1 q1 d (E.nz d0)
  have hv' := (sm1 f l1 l2 r1 r2 a.1 a.2 b.1 b.2).trans hv
  have key := fun (t v : R) (hw : v0 = y * t + v) => add_alg E hf hS ha hb h1 h1a h1b (sm6 h2) h2a h2b e1 e2 e3 e4 hv' hR3 hw
  have k0 := key 0 v0 (sm4 v0 y)
  have dd0 : d * d ≠ 0 := fun e => by
    rcases hD.1 d d e with h | h
    · exact d0 h
    · exact d0 h
  have ex := E.exact dd0 ⟨y, sm2 (q := y) k0.1⟩ hq hR2
  have hy : y = q2 := by
    rcases hD.1 _ _ (sm3 k0.1 ex) with h | h
    · exact absurd h d0
    · rcases hD.1 _ _ h with h | h
      · exact absurd h d0
      · exact sm5 h
  subst hy
  exact ⟨fun hw => key t v hw, k0.2.1⟩
set_option maxHeartbeats 32000000 in
theorem l_mLow {p : Int} {N : Mem} {Q : Post} {to a b : Int} {f : Pz p} {g : Nat} {P : BB (Pz p) f → Prop} (hp : Pr p) (hcv : Cv f g) (hg : N 190 2 = g)
    (hQ : ∀ N' μ' u v, MT p N' μ' → PF N N' → μ' 0 = some f → μ' 14 = some u → μ' 13 = some v → pRed f g (u, v) → @beq (Pz p) (pring p) f P (@II (Pz p) (pring p) f u v) → WP 195 (0, 0) 358 [(2, 190), (0, to), (0, a), (0, b)] [] NN N' Q) :
    ∀ (n : Nat) (Ni : Mem) (μi : Int → Option (Pz p)) (u v : Pz p), dg u ≤ n → n ≤ 6 → MT p Ni μi → PF N Ni → μi 0 = some f → μi 14 = some u → μi 13 = some v → pmo u → dg v < dg u → @Dv _ (pring p) u (padd (pmul v v) (pneg f)) → @beq (Pz p) (pring p) f P (@II (Pz p) (pring p) f u v) → WP 195 (0, 0) 251 [(2, 190), (0, to), (0, a), (0, b)] [] NN Ni Q := by
  have E := Euc_Pz hp
  have hpp := hp.pos
  have hcv' := hcv
  obtain ⟨hg12, hdf, hfm, hsq⟩ := hcv
  intro n
  induction n with
  | zero =>
    intro Ni μi u v h3 h6 hS hF h0 e14 e13 hm hv
    omega
  | succ n ih =>
    intro Ni μi u v h3 h6 hS hF h0 e14 e13 hm hv hd hb
    have g2 : Ni 190 2 = g := by rw [hF 190 (by decide) (by decide)]; exact hg
    have d14 := (hS.2.2.2.2 14 u e14).2.2.2.1
    have hu0 := hm.1
    refine WP.run [(195, 251), (195, 358)] [] 120 ?_
    simp only [bk195_0, bk195_251, bk195_265, bk195_358, bk195_415, bk195_425, bk195_426, bk195_447, bk195_457, bk195_458, U_aload_n, U_iconst, U_iload_n, U_invokevirtual3, U_invokevirtual2, U_bipush, U_invokevirtual4, U_getfield, U_iald, U_icmp_le, U_invokevirtual1, U_goto, U_imul, U_iast, U_iadd, U_if_le, U_return, UN_cc, UN_cn, UN_nc, UN_nn, UJ, lget, lset, lset2, entL, wsm, wcat, Option.toList_some, Option.toList_none, List.cons_append, List.nil_append, List.mem_cons, List.not_mem_nil, Prod.mk.injEq, or_false, false_or, or_true, true_or, and_true, true_and, and_false, false_and, and_self, ne_eq, not_false_eq_true, not_true_eq_false, forall_const, true_implies, false_implies, Nat.add_zero, Nat.zero_add, Nat.le_refl, Nat.zero_le, List.set_cons_zero, List.set_cons_succ, List.set_nil, ↓reduceIte, Nat.reduceAdd, Nat.reduceSub, Nat.reduceEqDiff, Nat.reduceLeDiff, Int.reduceEq, Int.reduceNe, Int.reduceNeg, reduceCtorEq, kd190, kd199, ln199, z190_13 hS.1, d14, g2]
    refine ⟨by omega, by omega, rr (by omega), fun hgt => ?_, fun hle => ?_⟩
    · refine m_mul hS (by omega) (by omega) e13 e13 (by omega) fun N1 h1' f1 => ?_
      simp only [bk195_0, bk195_251, bk195_265, bk195_358, bk195_415, bk195_425, bk195_426, bk195_447, bk195_457, bk195_458, U_aload_n, U_iconst, U_iload_n, U_invokevirtual3, U_invokevirtual2, U_bipush, U_invokevirtual4, U_getfield, U_iald, U_icmp_le, U_invokevirtual1, U_goto, U_imul, U_iast, U_iadd, U_if_le, U_return, UN_cc, UN_cn, UN_nc, UN_nn, UJ, lget, lset, lset2, entL, wsm, wcat, Option.toList_some, Option.toList_none, List.cons_append, List.nil_append, List.mem_cons, List.not_mem_nil, Prod.mk.injEq, or_false, false_or, or_true, true_or, and_true, true_and, and_false, false_and, and_self, ne_eq, not_false_eq_true, not_true_eq_false, forall_const, true_implies, false_implies, Nat.add_zero, Nat.zero_add, Nat.le_refl, Nat.zero_le, List.set_cons_zero, List.set_cons_succ, List.set_nil, ↓reduceIte, Nat.reduceAdd, Nat.reduceSub, Nat.reduceEqDiff, Nat.reduceLeDiff, Int.reduceEq, Int.reduceNe, Int.reduceNeg, reduceCtorEq, kd190]
      refine m_add (padd f (pneg (pmul v v))) h1' (by omega) (by omega) (A := f) (B := pmul v v) (by repeat (first | assumption | rw [upq_e] | rw [upq_n (by omega)])) (by repeat (first | assumption | rw [upq_e] | rw [upq_n (by omega)])) (by omega) (fun k => by rw [padd_c, pneg_c, Int.neg_one_mul]; exact md_add rfl (md_md _ _)) fun N2 h2' f2 => ?_
      simp only [bk195_0, bk195_251, bk195_265, bk195_358, bk195_415, bk195_425, bk195_426, bk195_447, bk195_457, bk195_458, U_aload_n, U_iconst, U_iload_n, U_invokevirtual3, U_invokevirtual2, U_bipush, U_invokevirtual4, U_getfield, U_iald, U_icmp_le, U_invokevirtual1, U_goto, U_imul, U_iast, U_iadd, U_if_le, U_return, UN_cc, UN_cn, UN_nc, UN_nn, UJ, lget, lset, lset2, entL, wsm, wcat, Option.toList_some, Option.toList_none, List.cons_append, List.nil_append, List.mem_cons, List.not_mem_nil, Prod.mk.injEq, or_false, false_or, or_true, true_or, and_true, true_and, and_false, false_and, and_self, ne_eq, not_false_eq_true, not_true_eq_false, forall_const, true_implies, false_implies, Nat.add_zero, Nat.zero_add, Nat.le_refl, Nat.zero_le, List.set_cons_zero, List.set_cons_succ, List.set_nil, ↓reduceIte, Nat.reduceAdd, Nat.reduceSub, Nat.reduceEqDiff, Nat.reduceLeDiff, Int.reduceEq, Int.reduceNe, Int.reduceNeg, reduceCtorEq, kd190]
      refine m_div h2' (by omega) (by omega) (by decide) (by decide) (by decide) (by decide) (A := padd f (pneg (pmul v v))) (B := u) (by repeat (first | assumption | rw [upq_e] | rw [upq_n (by omega)])) (by repeat (first | assumption | rw [upq_e] | rw [upq_n (by omega)])) hu0 fun N3 q R h3' f3 hq1 hq2 hq3 => ?_
      simp only [bk195_0, bk195_251, bk195_265, bk195_358, bk195_415, bk195_425, bk195_426, bk195_447, bk195_457, bk195_458, U_aload_n, U_iconst, U_iload_n, U_invokevirtual3, U_invokevirtual2, U_bipush, U_invokevirtual4, U_getfield, U_iald, U_icmp_le, U_invokevirtual1, U_goto, U_imul, U_iast, U_iadd, U_if_le, U_return, UN_cc, UN_cn, UN_nc, UN_nn, UJ, lget, lset, lset2, entL, wsm, wcat, Option.toList_some, Option.toList_none, List.cons_append, List.nil_append, List.mem_cons, List.not_mem_nil, Prod.mk.injEq, or_false, false_or, or_true, true_or, and_true, true_and, and_false, false_and, and_self, ne_eq, not_false_eq_true, not_true_eq_false, forall_const, true_implies, false_implies, Nat.add_zero, Nat.zero_add, Nat.le_refl, Nat.zero_le, List.set_cons_zero, List.set_cons_succ, List.set_nil, ↓reduceIte, Nat.reduceAdd, Nat.reduceSub, Nat.reduceEqDiff, Nat.reduceLeDiff, Int.reduceEq, Int.reduceNe, Int.reduceNeg, reduceCtorEq, kd190]
      have hne : dg (padd f (pneg (pmul v v))) ≠ 0 := fun e0 => by
        have e1 := dg_zero.mp e0
        have e2 : f = pmul v v := by
          have : padd (padd f (pneg (pmul v v))) (pmul v v) = f := by rw [padd_assoc, pneg_add, pC_zero_add]
          rw [e1, padd_comm, pC_zero_add] at this; exact this.symm
        by_cases hv0 : dg v = 0
        · rw [dg_zero.mp hv0, pC_zero_mul] at e2
          have := dg_zero.mpr e2; omega
        · have := dg_mul hp v v hv0 hv0
          rw [← e2] at this; omega
      have hex := @Euc.exact (Pz p) (pring p) dg pmo E u (padd f (pneg (pmul v v))) q R (fun e => hu0 (dg_zero.mpr e)) (by
        obtain ⟨w, hw⟩ := hd
        refine ⟨pneg w, ?_⟩
        show padd f (pneg (pmul v v)) = pmul u (pneg w)
        replace hw : padd (pmul v v) (pneg f) = pmul u w := hw
        rw [pmul_comm u, pneg_mul, pmul_comm w, ← hw]
        exact Pz.ext fun k => by
          rw [psub_c, pneg_c, psub_c, md_neg (md_md _ _)]; congr 1; omega) hq1 hq2
      have hq0 : dg q ≠ 0 := fun e0 => hne (by
        have e1 := dg_zero.mp e0
        rw [hex]
        show dg (pmul u q) = 0
        rw [e1, pmul_comm, pC_zero_mul]; exact dg_zero.mpr rfl)
      have e16 : upq (upq (upq (upq μi 15 (pmul v v)) 15 (padd f (pneg (pmul v v)))) 16 q) 17 R 16 = some q := (by repeat (first | assumption | rw [upq_e] | rw [upq_n (by omega)]))
      have d16 := (h3'.2.2.2.2 16 q e16).2.2.2.1
      have dq24 := (h3'.2.2.2.2 16 q e16).2.2.1
      have hrg := pz_rg hp q (dg q - 1)
      have htop := dg_top q hq0
      have iv := pinv_ok hp (x := q.1 (dg q - 1)) (by omega) hrg.2
      simp only [kd199, ln199, z190_13 h3'.1, d16]
      refine ⟨by decide, trivial, by omega, by omega, m_get h3' e16 (r3 (by omega)) ?_⟩
      rw [if_pos (by omega), show ((dg q : Int) - 1).toNat = dg q - 1 by omega]
      simp only [bk195_0, bk195_251, bk195_265, bk195_358, bk195_415, bk195_425, bk195_426, bk195_447, bk195_457, bk195_458, U_aload_n, U_iconst, U_iload_n, U_invokevirtual3, U_invokevirtual2, U_bipush, U_invokevirtual4, U_getfield, U_iald, U_icmp_le, U_invokevirtual1, U_goto, U_imul, U_iast, U_iadd, U_if_le, U_return, UN_cc, UN_cn, UN_nc, UN_nn, UJ, lget, lset, lset2, entL, wsm, wcat, Option.toList_some, Option.toList_none, List.cons_append, List.nil_append, List.mem_cons, List.not_mem_nil, Prod.mk.injEq, or_false, false_or, or_true, true_or, and_true, true_and, and_false, false_and, and_self, ne_eq, not_false_eq_true, not_true_eq_false, forall_const, true_implies, false_implies, Nat.add_zero, Nat.zero_add, Nat.le_refl, Nat.zero_le, List.set_cons_zero, List.set_cons_succ, List.set_nil, ↓reduceIte, Nat.reduceAdd, Nat.reduceSub, Nat.reduceEqDiff, Nat.reduceLeDiff, Int.reduceEq, Int.reduceNe, Int.reduceNeg, reduceCtorEq, kd190]
      refine m_inv hp h3'.2.2.1 hrg ?_
      generalize hw : pinv p (q.1 (dg q - 1)) = w at iv
      obtain ⟨w2, w0, w1⟩ := iv
      simp only [bk195_0, bk195_251, bk195_265, bk195_358, bk195_415, bk195_425, bk195_426, bk195_447, bk195_457, bk195_458, U_aload_n, U_iconst, U_iload_n, U_invokevirtual3, U_invokevirtual2, U_bipush, U_invokevirtual4, U_getfield, U_iald, U_icmp_le, U_invokevirtual1, U_goto, U_imul, U_iast, U_iadd, U_if_le, U_return, UN_cc, UN_cn, UN_nc, UN_nn, UJ, lget, lset, lset2, entL, wsm, wcat, Option.toList_some, Option.toList_none, List.cons_append, List.nil_append, List.mem_cons, List.not_mem_nil, Prod.mk.injEq, or_false, false_or, or_true, true_or, and_true, true_and, and_false, false_and, and_self, ne_eq, not_false_eq_true, not_true_eq_false, forall_const, true_implies, false_implies, Nat.add_zero, Nat.zero_add, Nat.le_refl, Nat.zero_le, List.set_cons_zero, List.set_cons_succ, List.set_nil, ↓reduceIte, Nat.reduceAdd, Nat.reduceSub, Nat.reduceEqDiff, Nat.reduceLeDiff, Int.reduceEq, Int.reduceNe, Int.reduceNeg, reduceCtorEq, kd190]
      refine m_scale h3' (by omega) (by omega) e16 (by omega) fun N4 h4 f4 => ?_
      simp only [bk195_0, bk195_251, bk195_265, bk195_358, bk195_415, bk195_425, bk195_426, bk195_447, bk195_457, bk195_458, U_aload_n, U_iconst, U_iload_n, U_invokevirtual3, U_invokevirtual2, U_bipush, U_invokevirtual4, U_getfield, U_iald, U_icmp_le, U_invokevirtual1, U_goto, U_imul, U_iast, U_iadd, U_if_le, U_return, UN_cc, UN_cn, UN_nc, UN_nn, UJ, lget, lset, lset2, entL, wsm, wcat, Option.toList_some, Option.toList_none, List.cons_append, List.nil_append, List.mem_cons, List.not_mem_nil, Prod.mk.injEq, or_false, false_or, or_true, true_or, and_true, true_and, and_false, false_and, and_self, ne_eq, not_false_eq_true, not_true_eq_false, forall_const, true_implies, false_implies, Nat.add_zero, Nat.zero_add, Nat.le_refl, Nat.zero_le, List.set_cons_zero, List.set_cons_succ, List.set_nil, ↓reduceIte, Nat.reduceAdd, Nat.reduceSub, Nat.reduceEqDiff, Nat.reduceLeDiff, Int.reduceEq, Int.reduceNe, Int.reduceNeg, reduceCtorEq, kd190]
      refine m_copy h4 (by omega) (by omega) (by decide) (A := pmul (pC p w) q) (by repeat (first | assumption | rw [upq_e] | rw [upq_n (by omega)])) fun N5 h5 f5 => ?_
      simp only [bk195_0, bk195_251, bk195_265, bk195_358, bk195_415, bk195_425, bk195_426, bk195_447, bk195_457, bk195_458, U_aload_n, U_iconst, U_iload_n, U_invokevirtual3, U_invokevirtual2, U_bipush, U_invokevirtual4, U_getfield, U_iald, U_icmp_le, U_invokevirtual1, U_goto, U_imul, U_iast, U_iadd, U_if_le, U_return, UN_cc, UN_cn, UN_nc, UN_nn, UJ, lget, lset, lset2, entL, wsm, wcat, Option.toList_some, Option.toList_none, List.cons_append, List.nil_append, List.mem_cons, List.not_mem_nil, Prod.mk.injEq, or_false, false_or, or_true, true_or, and_true, true_and, and_false, false_and, and_self, ne_eq, not_false_eq_true, not_true_eq_false, forall_const, true_implies, false_implies, Nat.add_zero, Nat.zero_add, Nat.le_refl, Nat.zero_le, List.set_cons_zero, List.set_cons_succ, List.set_nil, ↓reduceIte, Nat.reduceAdd, Nat.reduceSub, Nat.reduceEqDiff, Nat.reduceLeDiff, Int.reduceEq, Int.reduceNe, Int.reduceNeg, reduceCtorEq, kd190]
      refine m_scale h5 (by omega) (by omega) (A := v) (by repeat (first | assumption | rw [upq_e] | rw [upq_n (by omega)])) (by omega) fun N6 h6' f6 => ?_
      simp only [bk195_0, bk195_251, bk195_265, bk195_358, bk195_415, bk195_425, bk195_426, bk195_447, bk195_457, bk195_458, U_aload_n, U_iconst, U_iload_n, U_invokevirtual3, U_invokevirtual2, U_bipush, U_invokevirtual4, U_getfield, U_iald, U_icmp_le, U_invokevirtual1, U_goto, U_imul, U_iast, U_iadd, U_if_le, U_return, UN_cc, UN_cn, UN_nc, UN_nn, UJ, lget, lset, lset2, entL, wsm, wcat, Option.toList_some, Option.toList_none, List.cons_append, List.nil_append, List.mem_cons, List.not_mem_nil, Prod.mk.injEq, or_false, false_or, or_true, true_or, and_true, true_and, and_false, false_and, and_self, ne_eq, not_false_eq_true, not_true_eq_false, forall_const, true_implies, false_implies, Nat.add_zero, Nat.zero_add, Nat.le_refl, Nat.zero_le, List.set_cons_zero, List.set_cons_succ, List.set_nil, ↓reduceIte, Nat.reduceAdd, Nat.reduceSub, Nat.reduceEqDiff, Nat.reduceLeDiff, Int.reduceEq, Int.reduceNe, Int.reduceNeg, reduceCtorEq, kd190]
      have mo := monic_of hp hq0 w2
      refine m_div h6' (by omega) (by omega) (by decide) (by decide) (by decide) (by decide) (A := pmul (pC p (-1)) v) (B := pmul (pC p w) q) (by repeat (first | assumption | rw [upq_e] | rw [upq_n (by omega)])) (by repeat (first | assumption | rw [upq_e] | rw [upq_n (by omega)])) mo.1.1 fun N7 t v' h7 f7 ht1 ht2 ht3 => ?_
      simp only [bk195_0, bk195_251, bk195_265, bk195_358, bk195_415, bk195_425, bk195_426, bk195_447, bk195_457, bk195_458, U_aload_n, U_iconst, U_iload_n, U_invokevirtual3, U_invokevirtual2, U_bipush, U_invokevirtual4, U_getfield, U_iald, U_icmp_le, U_invokevirtual1, U_goto, U_imul, U_iast, U_iadd, U_if_le, U_return, UN_cc, UN_cn, UN_nc, UN_nn, UJ, lget, lset, lset2, entL, wsm, wcat, Option.toList_some, Option.toList_none, List.cons_append, List.nil_append, List.mem_cons, List.not_mem_nil, Prod.mk.injEq, or_false, false_or, or_true, true_or, and_true, true_and, and_false, false_and, and_self, ne_eq, not_false_eq_true, not_true_eq_false, forall_const, true_implies, false_implies, Nat.add_zero, Nat.zero_add, Nat.le_refl, Nat.zero_le, List.set_cons_zero, List.set_cons_succ, List.set_nil, ↓reduceIte, Nat.reduceAdd, Nat.reduceSub, Nat.reduceEqDiff, Nat.reduceLeDiff, Int.reduceEq, Int.reduceNe, Int.reduceNeg, reduceCtorEq, kd190]
      refine m_copy h7 (by omega) (by omega) (by decide) (A := v') (by repeat (first | assumption | rw [upq_e] | rw [upq_n (by omega)])) fun N8 h8 f8 => ?_
      simp only [bk195_0, bk195_251, bk195_265, bk195_358, bk195_415, bk195_425, bk195_426, bk195_447, bk195_457, bk195_458, U_aload_n, U_iconst, U_iload_n, U_invokevirtual3, U_invokevirtual2, U_bipush, U_invokevirtual4, U_getfield, U_iald, U_icmp_le, U_invokevirtual1, U_goto, U_imul, U_iast, U_iadd, U_if_le, U_return, UN_cc, UN_cn, UN_nc, UN_nn, UJ, lget, lset, lset2, entL, wsm, wcat, Option.toList_some, Option.toList_none, List.cons_append, List.nil_append, List.mem_cons, List.not_mem_nil, Prod.mk.injEq, or_false, false_or, or_true, true_or, and_true, true_and, and_false, false_and, and_self, ne_eq, not_false_eq_true, not_true_eq_false, forall_const, true_implies, false_implies, Nat.add_zero, Nat.zero_add, Nat.le_refl, Nat.zero_le, List.set_cons_zero, List.set_cons_succ, List.set_nil, ↓reduceIte, Nat.reduceAdd, Nat.reduceSub, Nat.reduceEqDiff, Nat.reduceLeDiff, Int.reduceEq, Int.reduceNe, Int.reduceNeg, reduceCtorEq]
      have n1 := pC_m1 (p := p)
      have hcc : pmul (pC p w) (pC p (q.1 (dg q - 1))) = pC p 1 := by
        rw [pC_pC]
        exact Pz.ext fun k => by
          rw [pC_c, pC_c]
          by_cases e : k = 0
          · rw [if_pos e, if_pos e, Int.mul_comm, w2]; exact (Int.emod_eq_of_lt (by omega) (by omega)).symm
          · rw [if_neg e, if_neg e]
      rw [← n1] at ht1
      have hl := @low_alg (Pz p) (pring p) dg pmo E f g hdf u v q R (pC p w) (pC p (q.1 (dg q - 1))) t v' (fun e => hu0 (dg_zero.mpr e)) hv hd (by omega) hq1 hq2 hcc (@lw2 (Pz p) (pring p) v v _ t v' ht1)
      obtain ⟨l1, l2, l3, l4, l5⟩ := hl
      refine ih N8 _ (pmul (pC p w) q) v' (by have : dg (pmul (pC p w) q) < dg u := l5; omega) (by omega) h8 ((((((((hF.tr f1).tr f2).tr f3).tr f4).tr f5).tr f6).tr f7).tr f8) (by repeat (first | assumption | rw [upq_e] | rw [upq_n (by omega)])) (by repeat (first | assumption | rw [upq_e] | rw [upq_n (by omega)])) (by repeat (first | assumption | rw [upq_e] | rw [upq_n (by omega)])) mo.1 ht2 l3 ?_
      exact @eqv_tr (BB (Pz p) f) (@bring (Pz p) (pring p) f) (@bdom (Pz p) (pring p) dg pmo E f g hdf) _ _ _ hb l4
    · exact hQ Ni μi u v hS hF h0 e14 e13 ⟨hm, by show dg u ≤ g + 1; omega, hv, hd⟩ hb
