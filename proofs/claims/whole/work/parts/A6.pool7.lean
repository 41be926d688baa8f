/-! THE MODEL'S ROWS: the common part -/
def mtm (r : Int) : Prop := 20 ≤ r ∧ r ≤ 28
theorem m1_c {p : Int} (s q x : Pz p) (k : Nat) : (padd s (pmul (pmul (pC p (-1)) q) x)).1 k = (s.1 k + (-1) * (pmul q x).1 k) % p := by
  rw [pmul_assoc, padd_c, pC_mul]; exact md_add rfl (md_md _ _)
set_option maxHeartbeats 16000000 in
theorem l_mCmE {p : Int} {N : Mem} {μ : Int → Option (Pz p)} {Q : Post} {ra rb : Int} {x : V} {A B : Pz p}
    (hQ : ∀ N' μ' d s t, MT p N' μ' → PF N N' → (∀ r, ¬ mtm r → μ' r = μ r) → μ' 20 = some d → μ' 21 = some s → μ' 22 = some t → BZ A B d s t → Q none NN N')
    {Ni : Mem} {μi : Int → Option (Pz p)} {r0 r1 s0 t0 : Pz p} (hS : MT p Ni μi) (hF : PF N Ni) (hρ : ∀ r, ¬ mtm r → μi r = μ r) (e20 : μi 20 = some r0) (e23 : μi 23 = some r1) (e21 : μi 21 = some s0) (e22 : μi 22 = some t0) (hz : dg r1 = 0) (hr0 : r0 = padd (pmul s0 A) (pmul t0 B)) (d1 : @Dv _ (pring p) r0 A) (d2 : @Dv _ (pring p) r0 B) (hne : dg r0 ≠ 0) (g1 : dg s0 ≤ max (dg A) (dg B)) (g2 : dg t0 ≤ max (dg A) (dg B)) :
    WP 170 (0, 0) 42 [(2, 190), (0, ra), (0, rb), (9, 0)] [] NN Ni Q := by
  have hp := hS.2.1
  have hpp := hp.pos
  obtain ⟨-, -, p3, p4, p5⟩ := hS.2.2.2.2 20 r0 e20
  have q4 := (hS.2.2.2.2 23 r1 e23).2.2.2.1
  have htop := dg_top r0 hne
  have hrg := pz_rg hp r0 (dg r0 - 1)
  have iv := pinv_ok hp (x := r0.1 (dg r0 - 1)) (by omega) hrg.2
  refine WP.run [] [] 60 ?_
  simp only [bk170_0, bk170_42, bk170_52, bk170_157, U_aload_n, U_bipush, U_iload_n, U_invokevirtual2, U_iconst, U_getfield, U_iald, U_if_lt, U_invokevirtual4, U_invokevirtual3, U_goto, U_invokevirtual1, U_istore_n, U_return, UN_cc, UN_cn, UN_nc, UN_nn, UJ, lget, lset, lset2, entL, wsm, wcat, Option.toList_some, Option.toList_none, List.cons_append, List.nil_append, List.mem_cons, List.not_mem_nil, Prod.mk.injEq, or_false, false_or, or_true, true_or, and_true, true_and, and_false, false_and, and_self, ne_eq, not_false_eq_true, not_true_eq_false, forall_const, true_implies, false_implies, Nat.add_zero, Nat.zero_add, Nat.le_refl, Nat.zero_le, List.set_cons_zero, List.set_cons_succ, List.set_nil, ↓reduceIte, Nat.reduceAdd, Nat.reduceSub, Nat.reduceEqDiff, Nat.reduceLeDiff, Int.reduceEq, Int.reduceNe, Int.reduceNeg, reduceCtorEq, kd190, kd199, ln199, z190_13 hS.1, p4, q4]
  refine ⟨by omega, by omega, r3 (by omega), fun _ => ⟨by omega, by omega, m_get hS e20 (r3 (by omega)) ?_⟩, fun e => absurd (by omega) e⟩
  rw [if_pos (by omega), show ((dg r0 : Int) - 1).toNat = dg r0 - 1 by omega]
  simp only [bk170_0, bk170_42, bk170_52, bk170_157, U_aload_n, U_bipush, U_iload_n, U_invokevirtual2, U_iconst, U_getfield, U_iald, U_if_lt, U_invokevirtual4, U_invokevirtual3, U_goto, U_invokevirtual1, U_istore_n, U_return, UN_cc, UN_cn, UN_nc, UN_nn, UJ, lget, lset, lset2, entL, wsm, wcat, Option.toList_some, Option.toList_none, List.cons_append, List.nil_append, List.mem_cons, List.not_mem_nil, Prod.mk.injEq, or_false, false_or, or_true, true_or, and_true, true_and, and_false, false_and, and_self, ne_eq, not_false_eq_true, not_true_eq_false, forall_const, true_implies, false_implies, Nat.add_zero, Nat.zero_add, Nat.le_refl, Nat.zero_le, List.set_cons_zero, List.set_cons_succ, List.set_nil, ↓reduceIte, Nat.reduceAdd, Nat.reduceSub, Nat.reduceEqDiff, Nat.reduceLeDiff, Int.reduceEq, Int.reduceNe, Int.reduceNeg, reduceCtorEq, kd190]
  refine m_inv hp hS.2.2.1 hrg ?_
  simp only [bk170_0, bk170_42, bk170_52, bk170_157, U_aload_n, U_bipush, U_iload_n, U_invokevirtual2, U_iconst, U_getfield, U_iald, U_if_lt, U_invokevirtual4, U_invokevirtual3, U_goto, U_invokevirtual1, U_istore_n, U_return, UN_cc, UN_cn, UN_nc, UN_nn, UJ, lget, lset, lset2, entL, wsm, wcat, Option.toList_some, Option.toList_none, List.cons_append, List.nil_append, List.mem_cons, List.not_mem_nil, Prod.mk.injEq, or_false, false_or, or_true, true_or, and_true, true_and, and_false, false_and, and_self, ne_eq, not_false_eq_true, not_true_eq_false, forall_const, true_implies, false_implies, Nat.add_zero, Nat.zero_add, Nat.le_refl, Nat.zero_le, List.set_cons_zero, List.set_cons_succ, List.set_nil, ↓reduceIte, Nat.reduceAdd, Nat.reduceSub, Nat.reduceEqDiff, Nat.reduceLeDiff, Int.reduceEq, Int.reduceNe, Int.reduceNeg, reduceCtorEq, kd190]
  generalize hw : pinv p (r0.1 (dg r0 - 1)) = w at iv
  obtain ⟨w2, w0, w1⟩ := iv
  refine m_scale hS (by omega) (by omega) e20 (by omega) fun N1 h1 f1 => ?_
  simp only [bk170_0, bk170_42, bk170_52, bk170_157, U_aload_n, U_bipush, U_iload_n, U_invokevirtual2, U_iconst, U_getfield, U_iald, U_if_lt, U_invokevirtual4, U_invokevirtual3, U_goto, U_invokevirtual1, U_istore_n, U_return, UN_cc, UN_cn, UN_nc, UN_nn, UJ, lget, lset, lset2, entL, wsm, wcat, Option.toList_some, Option.toList_none, List.cons_append, List.nil_append, List.mem_cons, List.not_mem_nil, Prod.mk.injEq, or_false, false_or, or_true, true_or, and_true, true_and, and_false, false_and, and_self, ne_eq, not_false_eq_true, not_true_eq_false, forall_const, true_implies, false_implies, Nat.add_zero, Nat.zero_add, Nat.le_refl, Nat.zero_le, List.set_cons_zero, List.set_cons_succ, List.set_nil, ↓reduceIte, Nat.reduceAdd, Nat.reduceSub, Nat.reduceEqDiff, Nat.reduceLeDiff, Int.reduceEq, Int.reduceNe, Int.reduceNeg, reduceCtorEq, kd190]
  refine m_scale h1 (by omega) (by omega) (A := s0) (by simp [upq, e21]) (by omega) fun N2 h2 f2 => ?_
  simp only [bk170_0, bk170_42, bk170_52, bk170_157, U_aload_n, U_bipush, U_iload_n, U_invokevirtual2, U_iconst, U_getfield, U_iald, U_if_lt, U_invokevirtual4, U_invokevirtual3, U_goto, U_invokevirtual1, U_istore_n, U_return, UN_cc, UN_cn, UN_nc, UN_nn, UJ, lget, lset, lset2, entL, wsm, wcat, Option.toList_some, Option.toList_none, List.cons_append, List.nil_append, List.mem_cons, List.not_mem_nil, Prod.mk.injEq, or_false, false_or, or_true, true_or, and_true, true_and, and_false, false_and, and_self, ne_eq, not_false_eq_true, not_true_eq_false, forall_const, true_implies, false_implies, Nat.add_zero, Nat.zero_add, Nat.le_refl, Nat.zero_le, List.set_cons_zero, List.set_cons_succ, List.set_nil, ↓reduceIte, Nat.reduceAdd, Nat.reduceSub, Nat.reduceEqDiff, Nat.reduceLeDiff, Int.reduceEq, Int.reduceNe, Int.reduceNeg, reduceCtorEq, kd190]
  refine m_scale h2 (by omega) (by omega) (A := t0) (by simp [upq, e22]) (by omega) fun N3 h3 f3 => ?_
  simp only [bk170_0, bk170_42, bk170_52, bk170_157, U_aload_n, U_bipush, U_iload_n, U_invokevirtual2, U_iconst, U_getfield, U_iald, U_if_lt, U_invokevirtual4, U_invokevirtual3, U_goto, U_invokevirtual1, U_istore_n, U_return, UN_cc, UN_cn, UN_nc, UN_nn, UJ, lget, lset, lset2, entL, wsm, wcat, Option.toList_some, Option.toList_none, List.cons_append, List.nil_append, List.mem_cons, List.not_mem_nil, Prod.mk.injEq, or_false, false_or, or_true, true_or, and_true, true_and, and_false, false_and, and_self, ne_eq, not_false_eq_true, not_true_eq_false, forall_const, true_implies, false_implies, Nat.add_zero, Nat.zero_add, Nat.le_refl, Nat.zero_le, List.set_cons_zero, List.set_cons_succ, List.set_nil, ↓reduceIte, Nat.reduceAdd, Nat.reduceSub, Nat.reduceEqDiff, Nat.reduceLeDiff, Int.reduceEq, Int.reduceNe, Int.reduceNeg, reduceCtorEq]
  have mo := monic_of hp hne w2
  have hkn := hp.inv_ne w2
  refine hQ N3 _ (pmul (pC p w) r0) (pmul (pC p w) s0) (pmul (pC p w) t0) h3 (((hF.tr f1).tr f2).tr f3) (fun r hr => ?_) (by simp [upq]) (by simp [upq]) (by simp [upq]) ⟨?_, ?_, ?_, mo.1, ?_, ?_⟩
  · rw [← hρ r hr]
    unfold mtm at hr
    unfold upq
    rw [if_neg (by omega), if_neg (by omega), if_neg (by omega)]
  · exact @rg_sc (Pz p) (pring p) (pC p w) r0 s0 t0 A B hr0
  · exact @rg_dvc (Pz p) (pring p) r0 _ (pC p w) A mo.2 d1
  · exact @rg_dvc (Pz p) (pring p) r0 _ (pC p w) B mo.2 d2
  · rw [dg_Cmul hp hkn]; exact g1
  · rw [dg_Cmul hp hkn]; exact g2
set_option maxHeartbeats 16000000 in
theorem l_mCm {p : Int} {N : Mem} {μ : Int → Option (Pz p)} {Q : Post} {ra rb : Int} {A B : Pz p} {D : Nat} (hDD : D = max (dg A) (dg B)) (hAB : ¬ (dg A = 0 ∧ dg B = 0)) (hD : D ≤ 8)
    (hQ : ∀ N' μ' d s t, MT p N' μ' → PF N N' → (∀ r, ¬ mtm r → μ' r = μ r) → μ' 20 = some d → μ' 21 = some s → μ' 22 = some t → BZ A B d s t → Q none NN N') :
    ∀ (n : Nat) (Ni : Mem) (μi : Int → Option (Pz p)) (r0 r1 s0 s1 t0 t1 : Pz p), dg r1 ≤ n → MT p Ni μi → PF N Ni → (∀ r, ¬ mtm r → μi r = μ r) → μi 20 = some r0 → μi 23 = some r1 → μi 21 = some s0 → μi 24 = some s1 → μi 22 = some t0 → μi 25 = some t1 →
      r0 = padd (pmul s0 A) (pmul t0 B) → r1 = padd (pmul s1 A) (pmul t1 B) → (∀ d, @Dv _ (pring p) d r0 → @Dv _ (pring p) d r1 → @Dv _ (pring p) d A ∧ @Dv _ (pring p) d B) →
      dg s0 ≤ D → dg t0 ≤ D → dg s0 + dg r1 ≤ D + 1 → dg t0 + dg r1 ≤ D + 1 → dg s1 + dg r0 ≤ D + 1 → dg t1 + dg r0 ≤ D + 1 → dg s1 ≤ D → dg t1 ≤ D →
      WP 170 (0, 0) 42 [(2, 190), (0, ra), (0, rb), (9, 0)] [] NN Ni Q := by
  have fin : ∀ (Ni : Mem) (μi : Int → Option (Pz p)) (r0 r1 s0 t0 : Pz p), dg r1 = 0 → MT p Ni μi → PF N Ni → (∀ r, ¬ mtm r → μi r = μ r) → μi 20 = some r0 → μi 23 = some r1 → μi 21 = some s0 → μi 22 = some t0 →
      r0 = padd (pmul s0 A) (pmul t0 B) → (∀ d, @Dv _ (pring p) d r0 → @Dv _ (pring p) d r1 → @Dv _ (pring p) d A ∧ @Dv _ (pring p) d B) → dg s0 ≤ D → dg t0 ≤ D → WP 170 (0, 0) 42 [(2, 190), (0, ra), (0, rb), (9, 0)] [] NN Ni Q := by
    intro Ni μi r0 r1 s0 t0 hz hS hF hρ e20 e23 e21 e22 hr0 hd g1 g2
    have hz2 := dg_zero.mp hz
    have dd := hd r0 (@Dv.rf _ (pring p) r0) (by rw [hz2]; exact @Dv.zero _ (pring p) r0)
    have hne : dg r0 ≠ 0 := fun e => by
      have e2 := dg_zero.mp e
      rw [e2] at dd
      obtain ⟨⟨x, hx⟩, y, hy⟩ := dd
      refine hAB ⟨dg_zero.mpr ?_, dg_zero.mpr ?_⟩
      · rw [hx]; exact pC_zero_mul x
      · rw [hy]; exact pC_zero_mul y
    exact l_mCmE (x := (9, 0)) hQ hS hF hρ e20 e23 e21 e22 hz hr0 dd.1 dd.2 hne (by omega) (by omega)
  intro n
  induction n with
  | zero =>
    intro Ni μi r0 r1 s0 s1 t0 t1 h3 hS hF hρ e20 e23 e21 e24 e22 e25 hr0 hr1 hd g1 g2 g3 g4 g5 g6 g7 g8
    exact fin Ni μi r0 r1 s0 t0 (by omega) hS hF hρ e20 e23 e21 e22 hr0 hd g1 g2
  | succ n ih =>
    intro Ni μi r0 r1 s0 s1 t0 t1 h3 hS hF hρ e20 e23 e21 e24 e22 e25 hr0 hr1 hd g1 g2 g3 g4 g5 g6 g7 g8
    by_cases hz : dg r1 = 0
    · exact fin Ni μi r0 r1 s0 t0 hz hS hF hρ e20 e23 e21 e22 hr0 hd g1 g2
    · have q4 := (hS.2.2.2.2 23 r1 e23).2.2.2.1
      have q3 := (hS.2.2.2.2 23 r1 e23).2.2.1
      refine WP.run [(170, 42)] [] 200 ?_
      simp only [bk170_0, bk170_42, bk170_52, bk170_157, U_aload_n, U_bipush, U_iload_n, U_invokevirtual2, U_iconst, U_getfield, U_iald, U_if_lt, U_invokevirtual4, U_invokevirtual3, U_goto, U_invokevirtual1, U_istore_n, U_return, UN_cc, UN_cn, UN_nc, UN_nn, UJ, lget, lset, lset2, entL, wsm, wcat, Option.toList_some, Option.toList_none, List.cons_append, List.nil_append, List.mem_cons, List.not_mem_nil, Prod.mk.injEq, or_false, false_or, or_true, true_or, and_true, true_and, and_false, false_and, and_self, ne_eq, not_false_eq_true, not_true_eq_false, forall_const, true_implies, false_implies, Nat.add_zero, Nat.zero_add, Nat.le_refl, Nat.zero_le, List.set_cons_zero, List.set_cons_succ, List.set_nil, ↓reduceIte, Nat.reduceAdd, Nat.reduceSub, Nat.reduceEqDiff, Nat.reduceLeDiff, Int.reduceEq, Int.reduceNe, Int.reduceNeg, reduceCtorEq, kd190, kd199, ln199, z190_13 hS.1, q4]
      refine ⟨by omega, by omega, r3 (by omega), fun e => absurd e (by omega), fun _ => m_div hS (by omega) (by omega) (by decide) (by decide) (by decide) (by decide) e20 e23 hz fun N1 q r2 hS1 hF1 hq1 hq2 hq3 => ?_⟩
      simp only [bk170_0, bk170_42, bk170_52, bk170_157, U_aload_n, U_bipush, U_iload_n, U_invokevirtual2, U_iconst, U_getfield, U_iald, U_if_lt, U_invokevirtual4, U_invokevirtual3, U_goto, U_invokevirtual1, U_istore_n, U_return, UN_cc, UN_cn, UN_nc, UN_nn, UJ, lget, lset, lset2, entL, wsm, wcat, Option.toList_some, Option.toList_none, List.cons_append, List.nil_append, List.mem_cons, List.not_mem_nil, Prod.mk.injEq, or_false, false_or, or_true, true_or, and_true, true_and, and_false, false_and, and_self, ne_eq, not_false_eq_true, not_true_eq_false, forall_const, true_implies, false_implies, Nat.add_zero, Nat.zero_add, Nat.le_refl, Nat.zero_le, List.set_cons_zero, List.set_cons_succ, List.set_nil, ↓reduceIte, Nat.reduceAdd, Nat.reduceSub, Nat.reduceEqDiff, Nat.reduceLeDiff, Int.reduceEq, Int.reduceNe, Int.reduceNeg, reduceCtorEq, kd190]
      refine m_copy hS1 (by omega) (by omega) (by decide) (A := r1) (by simp [upq, e23]) fun N2 hS2 hF2 => ?_
      simp only [bk170_0, bk170_42, bk170_52, bk170_157, U_aload_n, U_bipush, U_iload_n, U_invokevirtual2, U_iconst, U_getfield, U_iald, U_if_lt, U_invokevirtual4, U_invokevirtual3, U_goto, U_invokevirtual1, U_istore_n, U_return, UN_cc, UN_cn, UN_nc, UN_nn, UJ, lget, lset, lset2, entL, wsm, wcat, Option.toList_some, Option.toList_none, List.cons_append, List.nil_append, List.mem_cons, List.not_mem_nil, Prod.mk.injEq, or_false, false_or, or_true, true_or, and_true, true_and, and_false, false_and, and_self, ne_eq, not_false_eq_true, not_true_eq_false, forall_const, true_implies, false_implies, Nat.add_zero, Nat.zero_add, Nat.le_refl, Nat.zero_le, List.set_cons_zero, List.set_cons_succ, List.set_nil, ↓reduceIte, Nat.reduceAdd, Nat.reduceSub, Nat.reduceEqDiff, Nat.reduceLeDiff, Int.reduceEq, Int.reduceNe, Int.reduceNeg, reduceCtorEq, kd190]
      refine m_copy hS2 (by omega) (by omega) (by decide) (A := r2) (by simp [upq]) fun N3 hS3 hF3 => ?_
      simp only [bk170_0, bk170_42, bk170_52, bk170_157, U_aload_n, U_bipush, U_iload_n, U_invokevirtual2, U_iconst, U_getfield, U_iald, U_if_lt, U_invokevirtual4, U_invokevirtual3, U_goto, U_invokevirtual1, U_istore_n, U_return, UN_cc, UN_cn, UN_nc, UN_nn, UJ, lget, lset, lset2, entL, wsm, wcat, Option.toList_some, Option.toList_none, List.cons_append, List.nil_append, List.mem_cons, List.not_mem_nil, Prod.mk.injEq, or_false, false_or, or_true, true_or, and_true, true_and, and_false, false_and, and_self, ne_eq, not_false_eq_true, not_true_eq_false, forall_const, true_implies, false_implies, Nat.add_zero, Nat.zero_add, Nat.le_refl, Nat.zero_le, List.set_cons_zero, List.set_cons_succ, List.set_nil, ↓reduceIte, Nat.reduceAdd, Nat.reduceSub, Nat.reduceEqDiff, Nat.reduceLeDiff, Int.reduceEq, Int.reduceNe, Int.reduceNeg, reduceCtorEq, kd190]
      refine m_mul hS3 (by omega) (by omega) (A := q) (B := s1) (by simp [upq]) (by simp [upq, e24]) (by omega) fun N4 hS4 hF4 => ?_
      simp only [bk170_0, bk170_42, bk170_52, bk170_157, U_aload_n, U_bipush, U_iload_n, U_invokevirtual2, U_iconst, U_getfield, U_iald, U_if_lt, U_invokevirtual4, U_invokevirtual3, U_goto, U_invokevirtual1, U_istore_n, U_return, UN_cc, UN_cn, UN_nc, UN_nn, UJ, lget, lset, lset2, entL, wsm, wcat, Option.toList_some, Option.toList_none, List.cons_append, List.nil_append, List.mem_cons, List.not_mem_nil, Prod.mk.injEq, or_false, false_or, or_true, true_or, and_true, true_and, and_false, false_and, and_self, ne_eq, not_false_eq_true, not_true_eq_false, forall_const, true_implies, false_implies, Nat.add_zero, Nat.zero_add, Nat.le_refl, Nat.zero_le, List.set_cons_zero, List.set_cons_succ, List.set_nil, ↓reduceIte, Nat.reduceAdd, Nat.reduceSub, Nat.reduceEqDiff, Nat.reduceLeDiff, Int.reduceEq, Int.reduceNe, Int.reduceNeg, reduceCtorEq, kd190]
      refine m_add (padd s0 (pmul (pmul (pC p (-1)) q) s1)) hS4 (by omega) (by omega) (A := s0) (B := pmul q s1) (by simp [upq, e21]) (by simp [upq]) (by omega) (m1_c _ _ _) fun N5 hS5 hF5 => ?_
      generalize hs2 : padd s0 (pmul (pmul (pC p (-1)) q) s1) = s2 at hS5
      simp only [bk170_0, bk170_42, bk170_52, bk170_157, U_aload_n, U_bipush, U_iload_n, U_invokevirtual2, U_iconst, U_getfield, U_iald, U_if_lt, U_invokevirtual4, U_invokevirtual3, U_goto, U_invokevirtual1, U_istore_n, U_return, UN_cc, UN_cn, UN_nc, UN_nn, UJ, lget, lset, lset2, entL, wsm, wcat, Option.toList_some, Option.toList_none, List.cons_append, List.nil_append, List.mem_cons, List.not_mem_nil, Prod.mk.injEq, or_false, false_or, or_true, true_or, and_true, true_and, and_false, false_and, and_self, ne_eq, not_false_eq_true, not_true_eq_false, forall_const, true_implies, false_implies, Nat.add_zero, Nat.zero_add, Nat.le_refl, Nat.zero_le, List.set_cons_zero, List.set_cons_succ, List.set_nil, ↓reduceIte, Nat.reduceAdd, Nat.reduceSub, Nat.reduceEqDiff, Nat.reduceLeDiff, Int.reduceEq, Int.reduceNe, Int.reduceNeg, reduceCtorEq, kd190]
      refine m_copy hS5 (by omega) (by omega) (by decide) (A := s1) (by simp [upq, e24]) fun N6 hS6 hF6 => ?_
      simp only [bk170_0, bk170_42, bk170_52, bk170_157, U_aload_n, U_bipush, U_iload_n, U_invokevirtual2, U_iconst, U_getfield, U_iald, U_if_lt, U_invokevirtual4, U_invokevirtual3, U_goto, U_invokevirtual1, U_istore_n, U_return, UN_cc, UN_cn, UN_nc, UN_nn, UJ, lget, lset, lset2, entL, wsm, wcat, Option.toList_some, Option.toList_none, List.cons_append, List.nil_append, List.mem_cons, List.not_mem_nil, Prod.mk.injEq, or_false, false_or, or_true, true_or, and_true, true_and, and_false, false_and, and_self, ne_eq, not_false_eq_true, not_true_eq_false, forall_const, true_implies, false_implies, Nat.add_zero, Nat.zero_add, Nat.le_refl, Nat.zero_le, List.set_cons_zero, List.set_cons_succ, List.set_nil, ↓reduceIte, Nat.reduceAdd, Nat.reduceSub, Nat.reduceEqDiff, Nat.reduceLeDiff, Int.reduceEq, Int.reduceNe, Int.reduceNeg, reduceCtorEq, kd190]
      refine m_copy hS6 (by omega) (by omega) (by decide) (A := s2) (by simp [upq]) fun N7 hS7 hF7 => ?_
      simp only [bk170_0, bk170_42, bk170_52, bk170_157, U_aload_n, U_bipush, U_iload_n, U_invokevirtual2, U_iconst, U_getfield, U_iald, U_if_lt, U_invokevirtual4, U_invokevirtual3, U_goto, U_invokevirtual1, U_istore_n, U_return, UN_cc, UN_cn, UN_nc, UN_nn, UJ, lget, lset, lset2, entL, wsm, wcat, Option.toList_some, Option.toList_none, List.cons_append, List.nil_append, List.mem_cons, List.not_mem_nil, Prod.mk.injEq, or_false, false_or, or_true, true_or, and_true, true_and, and_false, false_and, and_self, ne_eq, not_false_eq_true, not_true_eq_false, forall_const, true_implies, false_implies, Nat.add_zero, Nat.zero_add, Nat.le_refl, Nat.zero_le, List.set_cons_zero, List.set_cons_succ, List.set_nil, ↓reduceIte, Nat.reduceAdd, Nat.reduceSub, Nat.reduceEqDiff, Nat.reduceLeDiff, Int.reduceEq, Int.reduceNe, Int.reduceNeg, reduceCtorEq, kd190]
      refine m_mul hS7 (by omega) (by omega) (A := q) (B := t1) (by simp [upq]) (by simp [upq, e25]) (by omega) fun N8 hS8 hF8 => ?_
      simp only [bk170_0, bk170_42, bk170_52, bk170_157, U_aload_n, U_bipush, U_iload_n, U_invokevirtual2, U_iconst, U_getfield, U_iald, U_if_lt, U_invokevirtual4, U_invokevirtual3, U_goto, U_invokevirtual1, U_istore_n, U_return, UN_cc, UN_cn, UN_nc, UN_nn, UJ, lget, lset, lset2, entL, wsm, wcat, Option.toList_some, Option.toList_none, List.cons_append, List.nil_append, List.mem_cons, List.not_mem_nil, Prod.mk.injEq, or_false, false_or, or_true, true_or, and_true, true_and, and_false, false_and, and_self, ne_eq, not_false_eq_true, not_true_eq_false, forall_const, true_implies, false_implies, Nat.add_zero, Nat.zero_add, Nat.le_refl, Nat.zero_le, List.set_cons_zero, List.set_cons_succ, List.set_nil, ↓reduceIte, Nat.reduceAdd, Nat.reduceSub, Nat.reduceEqDiff, Nat.reduceLeDiff, Int.reduceEq, Int.reduceNe, Int.reduceNeg, reduceCtorEq, kd190]
      refine m_add (padd t0 (pmul (pmul (pC p (-1)) q) t1)) hS8 (by omega) (by omega) (A := t0) (B := pmul q t1) (by simp [upq, e22]) (by simp [upq]) (by omega) (m1_c _ _ _) fun N9 hS9 hF9 => ?_
      generalize ht2 : padd t0 (pmul (pmul (pC p (-1)) q) t1) = t2 at hS9
      simp only [bk170_0, bk170_42, bk170_52, bk170_157, U_aload_n, U_bipush, U_iload_n, U_invokevirtual2, U_iconst, U_getfield, U_iald, U_if_lt, U_invokevirtual4, U_invokevirtual3, U_goto, U_invokevirtual1, U_istore_n, U_return, UN_cc, UN_cn, UN_nc, UN_nn, UJ, lget, lset, lset2, entL, wsm, wcat, Option.toList_some, Option.toList_none, List.cons_append, List.nil_append, List.mem_cons, List.not_mem_nil, Prod.mk.injEq, or_false, false_or, or_true, true_or, and_true, true_and, and_false, false_and, and_self, ne_eq, not_false_eq_true, not_true_eq_false, forall_const, true_implies, false_implies, Nat.add_zero, Nat.zero_add, Nat.le_refl, Nat.zero_le, List.set_cons_zero, List.set_cons_succ, List.set_nil, ↓reduceIte, Nat.reduceAdd, Nat.reduceSub, Nat.reduceEqDiff, Nat.reduceLeDiff, Int.reduceEq, Int.reduceNe, Int.reduceNeg, reduceCtorEq, kd190]
      refine m_copy hS9 (by omega) (by omega) (by decide) (A := t1) (by simp [upq, e25]) fun Na hSa hFa => ?_
      simp only [bk170_0, bk170_42, bk170_52, bk170_157, U_aload_n, U_bipush, U_iload_n, U_invokevirtual2, U_iconst, U_getfield, U_iald, U_if_lt, U_invokevirtual4, U_invokevirtual3, U_goto, U_invokevirtual1, U_istore_n, U_return, UN_cc, UN_cn, UN_nc, UN_nn, UJ, lget, lset, lset2, entL, wsm, wcat, Option.toList_some, Option.toList_none, List.cons_append, List.nil_append, List.mem_cons, List.not_mem_nil, Prod.mk.injEq, or_false, false_or, or_true, true_or, and_true, true_and, and_false, false_and, and_self, ne_eq, not_false_eq_true, not_true_eq_false, forall_const, true_implies, false_implies, Nat.add_zero, Nat.zero_add, Nat.le_refl, Nat.zero_le, List.set_cons_zero, List.set_cons_succ, List.set_nil, ↓reduceIte, Nat.reduceAdd, Nat.reduceSub, Nat.reduceEqDiff, Nat.reduceLeDiff, Int.reduceEq, Int.reduceNe, Int.reduceNeg, reduceCtorEq, kd190]
      refine m_copy hSa (by omega) (by omega) (by decide) (A := t2) (by simp [upq]) fun Nb hSb hFb => ?_
      simp only [bk170_0, bk170_42, bk170_52, bk170_157, U_aload_n, U_bipush, U_iload_n, U_invokevirtual2, U_iconst, U_getfield, U_iald, U_if_lt, U_invokevirtual4, U_invokevirtual3, U_goto, U_invokevirtual1, U_istore_n, U_return, UN_cc, UN_cn, UN_nc, UN_nn, UJ, lget, lset, lset2, entL, wsm, wcat, Option.toList_some, Option.toList_none, List.cons_append, List.nil_append, List.mem_cons, List.not_mem_nil, Prod.mk.injEq, or_false, false_or, or_true, true_or, and_true, true_and, and_false, false_and, and_self, ne_eq, not_false_eq_true, not_true_eq_false, forall_const, true_implies, false_implies, Nat.add_zero, Nat.zero_add, Nat.le_refl, Nat.zero_le, List.set_cons_zero, List.set_cons_succ, List.set_nil, ↓reduceIte, Nat.reduceAdd, Nat.reduceSub, Nat.reduceEqDiff, Nat.reduceLeDiff, Int.reduceEq, Int.reduceNe, Int.reduceNeg, reduceCtorEq]
      have m1 : (dg (pmul (pmul (pC p (-1)) q) s1) + 1 ≤ dg q + dg s1 ∨ dg (pmul (pmul (pC p (-1)) q) s1) = 0) ∧ (dg q = 0 → dg (pmul (pmul (pC p (-1)) q) s1) = 0) := by
        have hq : dg (pmul (pC p (-1)) q) = dg q := by
          refine dg_Cmul hS.2.1 ?_ q
          rcases hS.2.1 with rfl | rfl | rfl | rfl | rfl <;> decide
        have := dg_mul_le (pmul (pC p (-1)) q) s1
        refine ⟨by omega, fun hz => ?_⟩
        have hz2 := dg_zero.mp (hq.trans hz)
        rw [hz2, pC_zero_mul]; exact dg_zero.mpr rfl
      have m2 : (dg (pmul (pmul (pC p (-1)) q) t1) + 1 ≤ dg q + dg t1 ∨ dg (pmul (pmul (pC p (-1)) q) t1) = 0) ∧ (dg q = 0 → dg (pmul (pmul (pC p (-1)) q) t1) = 0) := by
        have hq : dg (pmul (pC p (-1)) q) = dg q := by
          refine dg_Cmul hS.2.1 ?_ q
          rcases hS.2.1 with rfl | rfl | rfl | rfl | rfl <;> decide
        have := dg_mul_le (pmul (pC p (-1)) q) t1
        refine ⟨by omega, fun hz => ?_⟩
        have hz2 := dg_zero.mp (hq.trans hz)
        rw [hz2, pC_zero_mul]; exact dg_zero.mpr rfl
      have a1 := dg_add s0 (pmul (pmul (pC p (-1)) q) s1)
      have a2 := dg_add t0 (pmul (pmul (pC p (-1)) q) t1)
      rw [hs2] at a1
      rw [ht2] at a2
      obtain ⟨m1, m1z⟩ := m1
      obtain ⟨m2, m2z⟩ := m2
      have hr01 : dg r2 ≤ dg r0 := by
        by_cases hlt : dg r1 ≤ dg r0
        · omega
        · have hq0 : dg q = 0 := by omega
          have : r0 = r2 := by
            rw [hq1, dg_zero.mp hq0, pmul_comm, pC_zero_mul, padd_comm, pC_zero_add]
          rw [this]; exact Nat.le_refl _
      have n1 := pC_m1 (p := p)
      refine ih Nb _ r1 r2 s1 s2 t1 t2 (by omega) hSb (((((((((((hF.tr hF1).tr hF2).tr hF3).tr hF4).tr hF5).tr hF6).tr hF7).tr hF8).tr hF9).tr hFa).tr hFb) (fun r hr => ?_) (by simp [upq]) (by simp [upq]) (by simp [upq]) (by simp [upq]) (by simp [upq]) (by simp [upq]) hr1 ?_ ?_ g7 g8 (by omega) (by omega) (by omega) (by omega) (by omega) (by omega)
      · rw [← hρ r hr]
        unfold mtm at hr
        unfold upq
        repeat rw [if_neg (by omega)]
      · rw [← hs2, ← ht2, ← n1]
        exact @rg_bz (Pz p) (pring p) A B r0 r1 r2 q s0 s1 t0 t1 hr0 hr1 hq1
      · intro d dd1 dd2
        exact hd d (@rg_dv (Pz p) (pring p) d r0 r1 r2 q hq1 dd1 dd2) dd1
set_option maxHeartbeats 16000000 in
theorem m_common {p : Int} {N : Mem} {μ : Int → Option (Pz p)} {Q : Post} {ra rb : Int} {A B : Pz p} (h : MT p N μ) (na : ¬ mtm ra) (nb : ¬ mtm rb) (hA : μ ra = some A) (hB : μ rb = some B) (hAB : ¬ (dg A = 0 ∧ dg B = 0)) (dA : dg A ≤ 8) (dB : dg B ≤ 8)
    (hQ : ∀ N' μ' d s t, MT p N' μ' → PF N N' → (∀ r, ¬ mtm r → μ' r = μ r) → μ' 20 = some d → μ' 21 = some s → μ' 22 = some t → BZ A B d s t → Q none NN N') : CL 170 [(2, 190), (0, ra), (0, rb), (9, 0)] NN N Q := by
  have hp := h.2.1
  have u1 : dg (pC p 1) = 1 := dg_C (by rw [Int.emod_eq_of_lt (by omega) (by have := hp.pos; omega)]; omega)
  have u0 : dg (pC p 0) = 0 := dg_zero.mpr rfl
  unfold mtm at na nb
  refine WP.run [(170, 42)] [] 90 ?_
  simp only [bk170_0, bk170_42, bk170_52, bk170_157, U_aload_n, U_bipush, U_iload_n, U_invokevirtual2, U_iconst, U_getfield, U_iald, U_if_lt, U_invokevirtual4, U_invokevirtual3, U_goto, U_invokevirtual1, U_istore_n, U_return, UN_cc, UN_cn, UN_nc, UN_nn, UJ, lget, lset, lset2, entL, wsm, wcat, Option.toList_some, Option.toList_none, List.cons_append, List.nil_append, List.mem_cons, List.not_mem_nil, Prod.mk.injEq, or_false, false_or, or_true, true_or, and_true, true_and, and_false, false_and, and_self, ne_eq, not_false_eq_true, not_true_eq_false, forall_const, true_implies, false_implies, Nat.add_zero, Nat.zero_add, Nat.le_refl, Nat.zero_le, List.set_cons_zero, List.set_cons_succ, List.set_nil, ↓reduceIte, Nat.reduceAdd, Nat.reduceSub, Nat.reduceEqDiff, Nat.reduceLeDiff, Int.reduceEq, Int.reduceNe, Int.reduceNeg, reduceCtorEq, kd190]
  refine m_copy h (by omega) (by omega) (by omega) hA fun N1 h1 f1 => ?_
  simp only [bk170_0, bk170_42, bk170_52, bk170_157, U_aload_n, U_bipush, U_iload_n, U_invokevirtual2, U_iconst, U_getfield, U_iald, U_if_lt, U_invokevirtual4, U_invokevirtual3, U_goto, U_invokevirtual1, U_istore_n, U_return, UN_cc, UN_cn, UN_nc, UN_nn, UJ, lget, lset, lset2, entL, wsm, wcat, Option.toList_some, Option.toList_none, List.cons_append, List.nil_append, List.mem_cons, List.not_mem_nil, Prod.mk.injEq, or_false, false_or, or_true, true_or, and_true, true_and, and_false, false_and, and_self, ne_eq, not_false_eq_true, not_true_eq_false, forall_const, true_implies, false_implies, Nat.add_zero, Nat.zero_add, Nat.le_refl, Nat.zero_le, List.set_cons_zero, List.set_cons_succ, List.set_nil, ↓reduceIte, Nat.reduceAdd, Nat.reduceSub, Nat.reduceEqDiff, Nat.reduceLeDiff, Int.reduceEq, Int.reduceNe, Int.reduceNeg, reduceCtorEq, kd190]
  refine m_copy h1 (by omega) (by omega) (by omega) (A := B) ?_ fun N2 h2 f2 => ?_
  · rw [upq_n (by omega)]; exact hB
  simp only [bk170_0, bk170_42, bk170_52, bk170_157, U_aload_n, U_bipush, U_iload_n, U_invokevirtual2, U_iconst, U_getfield, U_iald, U_if_lt, U_invokevirtual4, U_invokevirtual3, U_goto, U_invokevirtual1, U_istore_n, U_return, UN_cc, UN_cn, UN_nc, UN_nn, UJ, lget, lset, lset2, entL, wsm, wcat, Option.toList_some, Option.toList_none, List.cons_append, List.nil_append, List.mem_cons, List.not_mem_nil, Prod.mk.injEq, or_false, false_or, or_true, true_or, and_true, true_and, and_false, false_and, and_self, ne_eq, not_false_eq_true, not_true_eq_false, forall_const, true_implies, false_implies, Nat.add_zero, Nat.zero_add, Nat.le_refl, Nat.zero_le, List.set_cons_zero, List.set_cons_succ, List.set_nil, ↓reduceIte, Nat.reduceAdd, Nat.reduceSub, Nat.reduceEqDiff, Nat.reduceLeDiff, Int.reduceEq, Int.reduceNe, Int.reduceNeg, reduceCtorEq, kd190]
  refine m_set h2 (by omega) (by omega) (r3 (by omega)) fun N3 h3 f3 => ?_
  simp only [bk170_0, bk170_42, bk170_52, bk170_157, U_aload_n, U_bipush, U_iload_n, U_invokevirtual2, U_iconst, U_getfield, U_iald, U_if_lt, U_invokevirtual4, U_invokevirtual3, U_goto, U_invokevirtual1, U_istore_n, U_return, UN_cc, UN_cn, UN_nc, UN_nn, UJ, lget, lset, lset2, entL, wsm, wcat, Option.toList_some, Option.toList_none, List.cons_append, List.nil_append, List.mem_cons, List.not_mem_nil, Prod.mk.injEq, or_false, false_or, or_true, true_or, and_true, true_and, and_false, false_and, and_self, ne_eq, not_false_eq_true, not_true_eq_false, forall_const, true_implies, false_implies, Nat.add_zero, Nat.zero_add, Nat.le_refl, Nat.zero_le, List.set_cons_zero, List.set_cons_succ, List.set_nil, ↓reduceIte, Nat.reduceAdd, Nat.reduceSub, Nat.reduceEqDiff, Nat.reduceLeDiff, Int.reduceEq, Int.reduceNe, Int.reduceNeg, reduceCtorEq, kd190]
  refine m_set h3 (by omega) (by omega) (r3 (by omega)) fun N4 h4 f4 => ?_
  simp only [bk170_0, bk170_42, bk170_52, bk170_157, U_aload_n, U_bipush, U_iload_n, U_invokevirtual2, U_iconst, U_getfield, U_iald, U_if_lt, U_invokevirtual4, U_invokevirtual3, U_goto, U_invokevirtual1, U_istore_n, U_return, UN_cc, UN_cn, UN_nc, UN_nn, UJ, lget, lset, lset2, entL, wsm, wcat, Option.toList_some, Option.toList_none, List.cons_append, List.nil_append, List.mem_cons, List.not_mem_nil, Prod.mk.injEq, or_false, false_or, or_true, true_or, and_true, true_and, and_false, false_and, and_self, ne_eq, not_false_eq_true, not_true_eq_false, forall_const, true_implies, false_implies, Nat.add_zero, Nat.zero_add, Nat.le_refl, Nat.zero_le, List.set_cons_zero, List.set_cons_succ, List.set_nil, ↓reduceIte, Nat.reduceAdd, Nat.reduceSub, Nat.reduceEqDiff, Nat.reduceLeDiff, Int.reduceEq, Int.reduceNe, Int.reduceNeg, reduceCtorEq, kd190]
  refine m_set h4 (by omega) (by omega) (r3 (by omega)) fun N5 h5 f5 => ?_
  simp only [bk170_0, bk170_42, bk170_52, bk170_157, U_aload_n, U_bipush, U_iload_n, U_invokevirtual2, U_iconst, U_getfield, U_iald, U_if_lt, U_invokevirtual4, U_invokevirtual3, U_goto, U_invokevirtual1, U_istore_n, U_return, UN_cc, UN_cn, UN_nc, UN_nn, UJ, lget, lset, lset2, entL, wsm, wcat, Option.toList_some, Option.toList_none, List.cons_append, List.nil_append, List.mem_cons, List.not_mem_nil, Prod.mk.injEq, or_false, false_or, or_true, true_or, and_true, true_and, and_false, false_and, and_self, ne_eq, not_false_eq_true, not_true_eq_false, forall_const, true_implies, false_implies, Nat.add_zero, Nat.zero_add, Nat.le_refl, Nat.zero_le, List.set_cons_zero, List.set_cons_succ, List.set_nil, ↓reduceIte, Nat.reduceAdd, Nat.reduceSub, Nat.reduceEqDiff, Nat.reduceLeDiff, Int.reduceEq, Int.reduceNe, Int.reduceNeg, reduceCtorEq, kd190]
  refine m_set h5 (by omega) (by omega) (r3 (by omega)) fun N6 h6 f6 => ?_
  simp only [bk170_0, bk170_42, bk170_52, bk170_157, U_aload_n, U_bipush, U_iload_n, U_invokevirtual2, U_iconst, U_getfield, U_iald, U_if_lt, U_invokevirtual4, U_invokevirtual3, U_goto, U_invokevirtual1, U_istore_n, U_return, UN_cc, UN_cn, UN_nc, UN_nn, UJ, lget, lset, lset2, entL, wsm, wcat, Option.toList_some, Option.toList_none, List.cons_append, List.nil_append, List.mem_cons, List.not_mem_nil, Prod.mk.injEq, or_false, false_or, or_true, true_or, and_true, true_and, and_false, false_and, and_self, ne_eq, not_false_eq_true, not_true_eq_false, forall_const, true_implies, false_implies, Nat.add_zero, Nat.zero_add, Nat.le_refl, Nat.zero_le, List.set_cons_zero, List.set_cons_succ, List.set_nil, ↓reduceIte, Nat.reduceAdd, Nat.reduceSub, Nat.reduceEqDiff, Nat.reduceLeDiff, Int.reduceEq, Int.reduceNe, Int.reduceNeg, reduceCtorEq]
  refine l_mCm (D := max (dg A) (dg B)) rfl hAB (by omega) hQ (dg B) N6 _ A B (pC p 1) (pC p 0) (pC p 0) (pC p 1) (Nat.le_refl _) h6 (((((f1.tr f2).tr f3).tr f4).tr f5).tr f6) (fun r hr => ?_) (by simp [upq]) (by simp [upq]) (by simp [upq]) (by simp [upq]) (by simp [upq]) (by simp [upq]) ?_ ?_ (fun d a b => ⟨a, b⟩) (by omega) (by omega) (by omega) (by omega) (by omega) (by omega) (by omega) (by omega)
  · unfold mtm at hr
    unfold upq
    repeat rw [if_neg (by omega)]
  · rw [pC_one_mul, pC_zero_mul, pC_zero_add]
  · rw [pC_one_mul, pC_zero_mul, padd_comm, pC_zero_add]
