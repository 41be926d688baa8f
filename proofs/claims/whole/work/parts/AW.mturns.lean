/-! THE MODEL'S TURNS -/
theorem ok_pf : FZK [198, 199] [] := fzk rfl rfl
theorem lin2 {p a b : Int} (_hp : Pr p) (ha : 0 < a ∧ a < p) : dg (lin p a b) = 2 := by
  refine dg_eq (n := 1) (fun k hk => ?_) ?_
  · rw [lin_c, if_neg (by omega), if_neg (by omega), Int.zero_emod]
  · rw [lin_c, if_neg (by decide), if_pos rfl, Int.emod_eq_of_lt (by omega) ha.2]; omega
theorem MT.l2 {p : Int} {N : Mem} {μ : Int → Option (Pz p)} {a b : Int} (h : MT p N μ) (ha : 0 < a ∧ a < p) (hb : 0 ≤ b ∧ b < p) : MT p (ust (ust (ust N 198 48 b) 198 49 a) 199 2 1) (upq μ 2 (lin p a b)) := by
  have hp := h.2.1
  have M0 := h.fg 2
  have M1 := (M0.us (v := b) (fgt_e μ 2) (k := 0) (i := 48) (by omega) (by omega) (by omega)).us (v := a) (fgt_e μ 2) (k := 1) (i := 49) (by omega) (by omega) (by omega)
  have hd := lin2 (b := b) hp ha
  have M2 := M1.ud (a := 2) (d := 1) (A := lin p a b) (by omega) (by omega) (by rw [hd]; rfl) (by omega) (fun k hk => by
    rw [hd] at hk
    rw [lin_c]
    have : k = 0 ∨ k = 1 := by omega
    rcases this with rfl | rfl
    · rw [if_pos rfl, Int.emod_eq_of_lt hb.1 hb.2]
      simp [ust_r]
    · rw [if_neg (by decide), if_pos rfl, Int.emod_eq_of_lt (by omega) ha.2]
      simp [ust_r])
  rw [upq_fgt] at M2
  exact M2
theorem sub0 {p : Int} {A B : Pz p} : dg (padd A (pneg B)) = 0 ↔ B = A := by
  constructor
  · intro h
    exact (@rg_s0 (Pz p) (pring p) A B (dg_zero.mp h)).symm
  · intro h
    subst h
    exact Nat.le_zero.mp (dg_le fun k _ => by rw [psub_c, Int.sub_self, Int.zero_emod])
set_option maxHeartbeats 16000000 in
theorem m_keeps {p : Int} {N : Mem} {Q : Post} {f : Pz p} {g : Nat} {a b c : Int} (h : MG f g N) (hp : Pr p) (hd6 : dg f ≤ 6) (ha : 0 < a ∧ a < p) (hb : 0 ≤ b ∧ b < p) (hc : 0 ≤ c ∧ c < p) (hQ : ∀ N' r, MG f g N' → FM [198, 199] [] N N' → (r = 1 ∧ pmul (pC p (c * c)) f = fat f a b ∨ r = 0 ∧ pmul (pC p (c * c)) f ≠ fat f a b) → Q (some (0, r)) NN N') : CL 236 [(2, 190), (0, a), (0, b), (0, c), (9, 0)] NN N Q := by
  have hpp := hp.pos
  have h1 := h.2.1
  have hG := h
  obtain ⟨⟨μ, hM, h0⟩, -⟩ := h
  have hcc := sq_le hp hc
  have m1 := Int.emod_nonneg (c * c) (show p ≠ 0 by omega)
  have m2 := Int.emod_lt_of_pos (c * c) (show 0 < p by omega)
  have fin : ∀ (N3 : Mem) (μ3 : Int → Option (Pz p)), MT p N3 μ3 → PF N N3 → μ3 0 = some f → μ3 1 = some (fat f a b) → ∀ k, WP 236 (0, 0) 73 [(2, 190), (0, a), (0, b), (0, c), (0, k)] [] NN N3 Q := fun N3 μ3 M3 F3 f0 f1 k => by
    have e0 : N3 190 = N 190 := F3 190 (by decide) (by decide)
    refine WP.run [(236, 35)] [] 60 ?_
    simp only [bk236_0, bk236_35, bk236_40, bk236_73, bk236_109, bk236_113, bk236_114, U_aload_n, U_iconst, U_invokevirtual2, U_getfield, U_bipush, U_iload_n, U_iast, U_istore, U_iload, U_if_lt, U_invokevirtual3, U_invokevirtual4, U_iinc, U_goto, U_imul, U_irem, U_iald, U_if_ge, U_ireturn, UN_cc, UN_cn, UN_nc, UN_nn, UJ, lget, lset, lset2, entL, wsm, wcat, Option.toList_some, Option.toList_none, List.cons_append, List.nil_append, List.mem_cons, List.not_mem_nil, Prod.mk.injEq, or_false, false_or, or_true, true_or, and_true, true_and, and_false, false_and, and_self, ne_eq, not_false_eq_true, not_true_eq_false, forall_const, true_implies, false_implies, Nat.add_zero, Nat.zero_add, Nat.le_refl, Nat.zero_le, List.set_cons_zero, List.set_cons_succ, List.set_nil, ↓reduceIte, Nat.reduceAdd, Nat.reduceSub, Nat.reduceEqDiff, Nat.reduceLeDiff, Int.reduceEq, Int.reduceNe, Int.reduceNeg, reduceCtorEq, kd190]
    refine m_copy (t := 3) (a := 0) M3 (by omega) (by omega) (by omega) f0 fun N4 M4 F4 => ?_
    obtain ⟨μ4, M4, a1, a2⟩ := M4.op1
    simp only [bk236_0, bk236_35, bk236_40, bk236_73, bk236_109, bk236_113, bk236_114, U_aload_n, U_iconst, U_invokevirtual2, U_getfield, U_bipush, U_iload_n, U_iast, U_istore, U_iload, U_if_lt, U_invokevirtual3, U_invokevirtual4, U_iinc, U_goto, U_imul, U_irem, U_iald, U_if_ge, U_ireturn, UN_cc, UN_cn, UN_nc, UN_nn, UJ, lget, lset, lset2, entL, wsm, wcat, Option.toList_some, Option.toList_none, List.cons_append, List.nil_append, List.mem_cons, List.not_mem_nil, Prod.mk.injEq, or_false, false_or, or_true, true_or, and_true, true_and, and_false, false_and, and_self, ne_eq, not_false_eq_true, not_true_eq_false, forall_const, true_implies, false_implies, Nat.add_zero, Nat.zero_add, Nat.le_refl, Nat.zero_le, List.set_cons_zero, List.set_cons_succ, List.set_nil, ↓reduceIte, Nat.reduceAdd, Nat.reduceSub, Nat.reduceEqDiff, Nat.reduceLeDiff, Int.reduceEq, Int.reduceNe, Int.reduceNeg, reduceCtorEq, kd190, M4.2.2.1]
    rw [tm_nn hcc.1]
    refine ⟨r3 (by omega), r3 (by omega), by omega, ?_⟩
    refine m_scale (a := 3) (c := c * c % p) M4 (by omega) (by omega) a1 (by omega) fun N5 M5 F5 => ?_
    obtain ⟨μ5, M5, b1, b2⟩ := M5.op1
    have eC : pC p (c * c % p) = pC p (c * c) := Pz.ext fun k => by
      rw [pC_c, pC_c]; split
      · exact md_md _ _
      · rfl
    rw [eC] at b1
    simp only [bk236_0, bk236_35, bk236_40, bk236_73, bk236_109, bk236_113, bk236_114, U_aload_n, U_iconst, U_invokevirtual2, U_getfield, U_bipush, U_iload_n, U_iast, U_istore, U_iload, U_if_lt, U_invokevirtual3, U_invokevirtual4, U_iinc, U_goto, U_imul, U_irem, U_iald, U_if_ge, U_ireturn, UN_cc, UN_cn, UN_nc, UN_nn, UJ, lget, lset, lset2, entL, wsm, wcat, Option.toList_some, Option.toList_none, List.cons_append, List.nil_append, List.mem_cons, List.not_mem_nil, Prod.mk.injEq, or_false, false_or, or_true, true_or, and_true, true_and, and_false, false_and, and_self, ne_eq, not_false_eq_true, not_true_eq_false, forall_const, true_implies, false_implies, Nat.add_zero, Nat.zero_add, Nat.le_refl, Nat.zero_le, List.set_cons_zero, List.set_cons_succ, List.set_nil, ↓reduceIte, Nat.reduceAdd, Nat.reduceSub, Nat.reduceEqDiff, Nat.reduceLeDiff, Int.reduceEq, Int.reduceNe, Int.reduceNeg, reduceCtorEq, kd190]
    refine m_add (a := 1) (b := 3) (t := 1) (tm := -1) (padd (fat f a b) (pneg (pmul (pC p (c * c)) f))) M5 (by omega) (by omega) (by rw [b2 1 (by omega), a2 1 (by omega)]; exact f1) b1 (by omega) (fun k => by rw [psub_c]; congr 1; omega) fun N6 M6 F6 => ?_
    obtain ⟨μ6, M6, c1, c2⟩ := M6.op1
    have hF : PF N N6 := F3.tr (F4.tr (F5.tr F6))
    have B6 : MB f g N6 := ⟨⟨μ6, M6, by rw [c2 0 (by omega), b2 0 (by omega), a2 0 (by omega)]; exact f0⟩, by rw [hF 190 (by decide) (by decide)]; exact hG.2.2.1⟩
    have G6 := B6.mg hG hF.fm (by decide) (by decide)
    obtain ⟨p1, p2, p3, p4, p5⟩ := M6.2.2.2.2 1 _ c1
    have hz := @sub0 p (fat f a b) (pmul (pC p (c * c)) f)
    generalize dg (padd (fat f a b) (pneg (pmul (pC p (c * c)) f))) = D at *
    simp only [bk236_0, bk236_35, bk236_40, bk236_73, bk236_109, bk236_113, bk236_114, U_aload_n, U_iconst, U_invokevirtual2, U_getfield, U_bipush, U_iload_n, U_iast, U_istore, U_iload, U_if_lt, U_invokevirtual3, U_invokevirtual4, U_iinc, U_goto, U_imul, U_irem, U_iald, U_if_ge, U_ireturn, UN_cc, UN_cn, UN_nc, UN_nn, UJ, lget, lset, lset2, entL, wsm, wcat, Option.toList_some, Option.toList_none, List.cons_append, List.nil_append, List.mem_cons, List.not_mem_nil, Prod.mk.injEq, or_false, false_or, or_true, true_or, and_true, true_and, and_false, false_and, and_self, ne_eq, not_false_eq_true, not_true_eq_false, forall_const, true_implies, false_implies, Nat.add_zero, Nat.zero_add, Nat.le_refl, Nat.zero_le, List.set_cons_zero, List.set_cons_succ, List.set_nil, ↓reduceIte, Nat.reduceAdd, Nat.reduceSub, Nat.reduceEqDiff, Nat.reduceLeDiff, Int.reduceEq, Int.reduceNe, Int.reduceNeg, reduceCtorEq, kd190, kd199, ln199, z190_13 M6.1, p4]
    refine ⟨by omega, by omega, r3 (by omega), fun e => hQ N6 1 G6 hF.fm (Or.inl ⟨rfl, hz.mp (by omega)⟩), fun e => hQ N6 0 G6 hF.fm (Or.inr ⟨rfl, fun w => e (by have := hz.mpr w; omega)⟩)⟩
  have key : ∀ (n : Nat) (k : Int) (Ni : Mem) (μi : Int → Option (Pz p)), k + 1 = n → n ≤ dg f → MT p Ni μi → PF N Ni → μi 0 = some f → μi 2 = some (lin p a b) → μi 1 = some (hor p a b (dg f - n) (fun j => f.1 (j + n))) → WP 236 (0, 0) 35 [(2, 190), (0, a), (0, b), (0, c), (0, k)] [] NN Ni Q := by
    intro n
    induction n with
    | zero =>
      intro k Ni μi hk hn hM hF f0 f2 f1
      refine WP.run [(236, 35), (236, 73)] [] 60 ?_
      simp only [bk236_0, bk236_35, bk236_40, bk236_73, bk236_109, bk236_113, bk236_114, U_aload_n, U_iconst, U_invokevirtual2, U_getfield, U_bipush, U_iload_n, U_iast, U_istore, U_iload, U_if_lt, U_invokevirtual3, U_invokevirtual4, U_iinc, U_goto, U_imul, U_irem, U_iald, U_if_ge, U_ireturn, UN_cc, UN_cn, UN_nc, UN_nn, UJ, lget, lset, lset2, entL, wsm, wcat, Option.toList_some, Option.toList_none, List.cons_append, List.nil_append, List.mem_cons, List.not_mem_nil, Prod.mk.injEq, or_false, false_or, or_true, true_or, and_true, true_and, and_false, false_and, and_self, ne_eq, not_false_eq_true, not_true_eq_false, forall_const, true_implies, false_implies, Nat.add_zero, Nat.zero_add, Nat.le_refl, Nat.zero_le, List.set_cons_zero, List.set_cons_succ, List.set_nil, ↓reduceIte, Nat.reduceAdd, Nat.reduceSub, Nat.reduceEqDiff, Nat.reduceLeDiff, Int.reduceEq, Int.reduceNe, Int.reduceNeg, reduceCtorEq]
      refine ⟨r3 (by omega), fun _ => fin Ni μi hM hF f0 ?_ k, fun e => absurd (by omega) e⟩
      rw [f1]; rfl
    | succ n ih =>
      intro k Ni μi hk hn hM hF f0 f2 f1
      have hin : k.toNat = n := by omega
      have hfn := pz_rg hp f n
      have hd1 := hor_dg p a b (dg f - (n + 1)) (fun j => f.1 (j + (n + 1)))
      have hd2 := dg_lin p a b
      refine WP.run [(236, 35), (236, 73)] [] 60 ?_
      simp only [bk236_0, bk236_35, bk236_40, bk236_73, bk236_109, bk236_113, bk236_114, U_aload_n, U_iconst, U_invokevirtual2, U_getfield, U_bipush, U_iload_n, U_iast, U_istore, U_iload, U_if_lt, U_invokevirtual3, U_invokevirtual4, U_iinc, U_goto, U_imul, U_irem, U_iald, U_if_ge, U_ireturn, UN_cc, UN_cn, UN_nc, UN_nn, UJ, lget, lset, lset2, entL, wsm, wcat, Option.toList_some, Option.toList_none, List.cons_append, List.nil_append, List.mem_cons, List.not_mem_nil, Prod.mk.injEq, or_false, false_or, or_true, true_or, and_true, true_and, and_false, false_and, and_self, ne_eq, not_false_eq_true, not_true_eq_false, forall_const, true_implies, false_implies, Nat.add_zero, Nat.zero_add, Nat.le_refl, Nat.zero_le, List.set_cons_zero, List.set_cons_succ, List.set_nil, ↓reduceIte, Nat.reduceAdd, Nat.reduceSub, Nat.reduceEqDiff, Nat.reduceLeDiff, Int.reduceEq, Int.reduceNe, Int.reduceNeg, reduceCtorEq, kd190]
      refine ⟨r3 (by omega), fun e => absurd e (by omega), fun _ => ?_⟩
      refine m_mul (a := 1) (b := 2) (t := 1) hM (by omega) (by omega) f1 f2 (by omega) fun N2 M2 F2 => ?_
      obtain ⟨μ2, M2, a1, a2⟩ := M2.op1
      simp only [bk236_0, bk236_35, bk236_40, bk236_73, bk236_109, bk236_113, bk236_114, U_aload_n, U_iconst, U_invokevirtual2, U_getfield, U_bipush, U_iload_n, U_iast, U_istore, U_iload, U_if_lt, U_invokevirtual3, U_invokevirtual4, U_iinc, U_goto, U_imul, U_irem, U_iald, U_if_ge, U_ireturn, UN_cc, UN_cn, UN_nc, UN_nn, UJ, lget, lset, lset2, entL, wsm, wcat, Option.toList_some, Option.toList_none, List.cons_append, List.nil_append, List.mem_cons, List.not_mem_nil, Prod.mk.injEq, or_false, false_or, or_true, true_or, and_true, true_and, and_false, false_and, and_self, ne_eq, not_false_eq_true, not_true_eq_false, forall_const, true_implies, false_implies, Nat.add_zero, Nat.zero_add, Nat.le_refl, Nat.zero_le, List.set_cons_zero, List.set_cons_succ, List.set_nil, ↓reduceIte, Nat.reduceAdd, Nat.reduceSub, Nat.reduceEqDiff, Nat.reduceLeDiff, Int.reduceEq, Int.reduceNe, Int.reduceNeg, reduceCtorEq, kd190]
      refine m_get (a := 0) M2 (by rw [a2 0 (by omega)]; exact f0) (r3 (by omega)) ?_
      rw [if_pos (by omega), hin]
      simp only [bk236_0, bk236_35, bk236_40, bk236_73, bk236_109, bk236_113, bk236_114, U_aload_n, U_iconst, U_invokevirtual2, U_getfield, U_bipush, U_iload_n, U_iast, U_istore, U_iload, U_if_lt, U_invokevirtual3, U_invokevirtual4, U_iinc, U_goto, U_imul, U_irem, U_iald, U_if_ge, U_ireturn, UN_cc, UN_cn, UN_nc, UN_nn, UJ, lget, lset, lset2, entL, wsm, wcat, Option.toList_some, Option.toList_none, List.cons_append, List.nil_append, List.mem_cons, List.not_mem_nil, Prod.mk.injEq, or_false, false_or, or_true, true_or, and_true, true_and, and_false, false_and, and_self, ne_eq, not_false_eq_true, not_true_eq_false, forall_const, true_implies, false_implies, Nat.add_zero, Nat.zero_add, Nat.le_refl, Nat.zero_le, List.set_cons_zero, List.set_cons_succ, List.set_nil, ↓reduceIte, Nat.reduceAdd, Nat.reduceSub, Nat.reduceEqDiff, Nat.reduceLeDiff, Int.reduceEq, Int.reduceNe, Int.reduceNeg, reduceCtorEq, kd190]
      refine m_set (t := 3) M2 (by omega) (by omega) (r3 (by omega)) fun N3 M3 F3 => ?_
      obtain ⟨μ3, M3, b1, b2⟩ := M3.op1
      simp only [bk236_0, bk236_35, bk236_40, bk236_73, bk236_109, bk236_113, bk236_114, U_aload_n, U_iconst, U_invokevirtual2, U_getfield, U_bipush, U_iload_n, U_iast, U_istore, U_iload, U_if_lt, U_invokevirtual3, U_invokevirtual4, U_iinc, U_goto, U_imul, U_irem, U_iald, U_if_ge, U_ireturn, UN_cc, UN_cn, UN_nc, UN_nn, UJ, lget, lset, lset2, entL, wsm, wcat, Option.toList_some, Option.toList_none, List.cons_append, List.nil_append, List.mem_cons, List.not_mem_nil, Prod.mk.injEq, or_false, false_or, or_true, true_or, and_true, true_and, and_false, false_and, and_self, ne_eq, not_false_eq_true, not_true_eq_false, forall_const, true_implies, false_implies, Nat.add_zero, Nat.zero_add, Nat.le_refl, Nat.zero_le, List.set_cons_zero, List.set_cons_succ, List.set_nil, ↓reduceIte, Nat.reduceAdd, Nat.reduceSub, Nat.reduceEqDiff, Nat.reduceLeDiff, Int.reduceEq, Int.reduceNe, Int.reduceNeg, reduceCtorEq, kd190]
      refine m_add (a := 1) (b := 3) (t := 1) (tm := 1) (padd (pmul (hor p a b (dg f - (n + 1)) (fun j => f.1 (j + (n + 1)))) (lin p a b)) (pC p (f.1 n))) M3 (by omega) (by omega) (by rw [b2 1 (by omega)]; exact a1) b1 (by omega) (fun k => by rw [padd_c, Int.one_mul]) fun N4 M4 F4 => ?_
      obtain ⟨μ4, M4, c1, c2⟩ := M4.op1
      simp only [bk236_0, bk236_35, bk236_40, bk236_73, bk236_109, bk236_113, bk236_114, U_aload_n, U_iconst, U_invokevirtual2, U_getfield, U_bipush, U_iload_n, U_iast, U_istore, U_iload, U_if_lt, U_invokevirtual3, U_invokevirtual4, U_iinc, U_goto, U_imul, U_irem, U_iald, U_if_ge, U_ireturn, UN_cc, UN_cn, UN_nc, UN_nn, UJ, lget, lset, lset2, entL, wsm, wcat, Option.toList_some, Option.toList_none, List.cons_append, List.nil_append, List.mem_cons, List.not_mem_nil, Prod.mk.injEq, or_false, false_or, or_true, true_or, and_true, true_and, and_false, false_and, and_self, ne_eq, not_false_eq_true, not_true_eq_false, forall_const, true_implies, false_implies, Nat.add_zero, Nat.zero_add, Nat.le_refl, Nat.zero_le, List.set_cons_zero, List.set_cons_succ, List.set_nil, ↓reduceIte, Nat.reduceAdd, Nat.reduceSub, Nat.reduceEqDiff, Nat.reduceLeDiff, Int.reduceEq, Int.reduceNe, Int.reduceNeg, reduceCtorEq]
      refine ih (k + -1) N4 μ4 (by omega) (by omega) M4 (hF.tr (F2.tr (F3.tr F4))) (by rw [c2 0 (by omega), b2 0 (by omega), a2 0 (by omega)]; exact f0) (by rw [c2 2 (by omega), b2 2 (by omega), a2 2 (by omega)]; exact f2) ?_
      rw [c1]
      congr 1
      have e : dg f - n = (dg f - (n + 1)) + 1 := by omega
      rw [e]
      show _ = padd (pmul (lin p a b) (hor p a b (dg f - (n + 1)) (sh fun j => f.1 (j + n)))) (pC p (f.1 (0 + n)))
      have e2 : (sh fun j => f.1 (j + n)) = fun j => f.1 (j + (n + 1)) := funext fun j => by show f.1 (j + 1 + n) = f.1 (j + (n + 1)); rw [show j + 1 + n = j + (n + 1) by omega]
      rw [e2, Nat.zero_add, pmul_comm]
  refine WP.run [(236, 35)] [] 60 ?_
  simp only [bk236_0, bk236_35, bk236_40, bk236_73, bk236_109, bk236_113, bk236_114, U_aload_n, U_iconst, U_invokevirtual2, U_getfield, U_bipush, U_iload_n, U_iast, U_istore, U_iload, U_if_lt, U_invokevirtual3, U_invokevirtual4, U_iinc, U_goto, U_imul, U_irem, U_iald, U_if_ge, U_ireturn, UN_cc, UN_cn, UN_nc, UN_nn, UJ, lget, lset, lset2, entL, wsm, wcat, Option.toList_some, Option.toList_none, List.cons_append, List.nil_append, List.mem_cons, List.not_mem_nil, Prod.mk.injEq, or_false, false_or, or_true, true_or, and_true, true_and, and_false, false_and, and_self, ne_eq, not_false_eq_true, not_true_eq_false, forall_const, true_implies, false_implies, Nat.add_zero, Nat.zero_add, Nat.le_refl, Nat.zero_le, List.set_cons_zero, List.set_cons_succ, List.set_nil, ↓reduceIte, Nat.reduceAdd, Nat.reduceSub, Nat.reduceEqDiff, Nat.reduceLeDiff, Int.reduceEq, Int.reduceNe, Int.reduceNeg, reduceCtorEq, kd190]
  refine m_set (t := 1) hM (by omega) (by omega) (r3 (by omega)) fun N1 M1 F1 => ?_
  have L1 := M1.l2 ha hb
  have hz1 := M1.1
  have e1 : N1 190 1 = (dg f : Int) - 1 := by rw [F1 190 (by decide) (by decide)]; exact h1
  simp only [bk236_0, bk236_35, bk236_40, bk236_73, bk236_109, bk236_113, bk236_114, U_aload_n, U_iconst, U_invokevirtual2, U_getfield, U_bipush, U_iload_n, U_iast, U_istore, U_iload, U_if_lt, U_invokevirtual3, U_invokevirtual4, U_iinc, U_goto, U_imul, U_irem, U_iald, U_if_ge, U_ireturn, UN_cc, UN_cn, UN_nc, UN_nn, UJ, lget, lset, lset2, entL, wsm, wcat, Option.toList_some, Option.toList_none, List.cons_append, List.nil_append, List.mem_cons, List.not_mem_nil, Prod.mk.injEq, or_false, false_or, or_true, true_or, and_true, true_and, and_false, false_and, and_self, ne_eq, not_false_eq_true, not_true_eq_false, forall_const, true_implies, false_implies, Nat.add_zero, Nat.zero_add, Nat.le_refl, Nat.zero_le, List.set_cons_zero, List.set_cons_succ, List.set_nil, ↓reduceIte, Nat.reduceAdd, Nat.reduceSub, Nat.reduceEqDiff, Nat.reduceLeDiff, Int.reduceEq, Int.reduceNe, Int.reduceNeg, reduceCtorEq, kd190, kd198, kd199, ln198, ln199, ust_r, z190_12 hz1, z190_13 hz1, e1]
  repeat (first | refine And.intro (by first | omega | exact not_false) ?_ | refine And.intro (rr (by omega)) ?_ | refine And.intro (r3 (by omega)) ?_ | refine And.intro (r6 (by omega)) ?_)
  refine key (dg f) _ _ _ (by omega) (Nat.le_refl _) L1 (fun c c1 c2 => by rw [ust_ne c2, ust_ne c1, ust_ne c1]; exact F1 c c1 c2) (by rw [upq_n (by omega), upq_n (by omega)]; exact h0) (upq_e _ _ _) (by rw [upq_n (by omega), upq_e, Nat.sub_self]; rfl)
theorem tuP_t {p : Int} {f : Pz p} {a b : Int} {c : Nat} : tuP f a b c = true ↔ c ≠ 0 ∧ pmul (pC p ((c : Int) * c)) f = fat f a b := by
  unfold tuP; rw [@decide_eq_true_eq _ (Classical.propDecidable _)]
/-- the answer of the search for turn i -/
noncomputable def tuO {p : Int} (f : Pz p) (i : Int) : Int := if i = -1 then ((tuL f p.toNat).length : Int) else ((tuL f p.toNat)[i.toNat]?).getD (-1)
theorem ix_mid {L T : List Int} {t : Int} {i : Int} (h : i = (L.length : Int)) : ((L ++ [t]) ++ T)[i.toNat]? = some t := by
  have e : i.toNat = L.length := by omega
  rw [e, List.append_assoc, List.getElem?_append_right (Nat.le_refl _), Nat.sub_self]; rfl
set_option maxHeartbeats 16000000 in
theorem l_mtC {p : Int} {N : Mem} {Q : Post} {f : Pz p} {g a b : Nat} {i : Int} {L : List Int} (hp : Pr p) (hd6 : dg f ≤ 6) (hi : -1 ≤ i ∧ R32 i) (ha : 0 < a ∧ (a : Int) < p) (hb : (b : Int) < p) (hlen : (L ++ tuC f (a : Int) (b : Int) p.toNat).length ≤ 1000) (hT : ∃ T, tuL f p.toNat = (L ++ tuC f (a : Int) (b : Int) p.toNat) ++ T) (hF : ∀ N' t, MG f g N' → FM [198, 199] [] N N' → 0 ≤ i → (tuL f p.toNat)[i.toNat]? = some t → Q (some (0, t)) NN N')
    (hQ : ∀ N', MG f g N' → FM [198, 199] [] N N' → (i = -1 ∨ ((L ++ tuC f (a : Int) (b : Int) p.toNat).length : Int) ≤ i) → ∀ c : V, WP 237 (0, 0) 15 [(2, 190), (0, i), (0, ((L ++ tuC f (a : Int) (b : Int) p.toNat).length : Int)), (0, (a : Int)), (0, (b : Int) + 1), c] [] NN N' Q) :
    ∀ (n c : Nat) (Ni : Mem), (c : Int) + n = p → 1 ≤ c → MG f g Ni → FM [198, 199] [] N Ni → (i = -1 ∨ ((L ++ tuC f (a : Int) (b : Int) c).length : Int) ≤ i) → WP 237 (0, 0) 27 [(2, 190), (0, i), (0, ((L ++ tuC f (a : Int) (b : Int) c).length : Int)), (0, (a : Int)), (0, (b : Int)), (0, (c : Int))] [] NN Ni Q := by
  have hpp := hp.pos
  have hi2 := hi.2
  obtain ⟨hi3, hi4⟩ := hi2
  intro n
  induction n with
  | zero =>
    intro c Ni hc h1 hG hFi hm
    have e : c = p.toNat := by omega
    subst e
    obtain ⟨hz, hP⟩ := hG.mt
    refine WP.run [(237, 15), (237, 27)] [] 60 ?_
    simp only [bk237_0, bk237_4, bk237_12, bk237_15, bk237_24, bk237_27, bk237_36, bk237_48, bk237_53, bk237_68, bk237_71, bk237_77, bk237_83, bk237_89, bk237_94, bk237_98, bk237_99, U_iconst, U_istore_n, U_iload_n, U_aload_n, U_getfield, U_icmp_ge, U_istore, U_iload, U_invokevirtual3, U_if_eq, U_icmp_ne, U_sipush, U_imul, U_bipush, U_iadd, U_ireturn, U_iinc, U_goto, UN_cc, UN_cn, UN_nc, UN_nn, UJ, lget, lset, lset2, entL, wsm, wcat, Option.toList_some, Option.toList_none, List.cons_append, List.nil_append, List.mem_cons, List.not_mem_nil, Prod.mk.injEq, or_false, false_or, or_true, true_or, and_true, true_and, and_false, false_and, and_self, ne_eq, not_false_eq_true, not_true_eq_false, forall_const, true_implies, false_implies, Nat.add_zero, Nat.zero_add, Nat.le_refl, Nat.zero_le, List.set_cons_zero, List.set_cons_succ, List.set_nil, ↓reduceIte, Nat.reduceAdd, Nat.reduceSub, Nat.reduceEqDiff, Nat.reduceLeDiff, Int.reduceEq, Int.reduceNe, Int.reduceNeg, reduceCtorEq, kd190, hP]
    exact ⟨rr (by omega), fun e => absurd e (by omega), fun _ => hQ Ni hG hFi hm _⟩
  | succ n ih =>
    intro c Ni hc h1 hG hFi hm
    obtain ⟨hz, hP⟩ := hG.mt
    have es : tuC f (a : Int) (b : Int) (c + 1) = tuC f (a : Int) (b : Int) c ++ (if tuP f (a : Int) (b : Int) c then [10000 * (a : Int) + 100 * (b : Int) + (c : Int)] else []) := rfl
    have hle : (tuC f (a : Int) (b : Int) (c + 1)).length ≤ (tuC f (a : Int) (b : Int) p.toNat).length := selT_le (by omega)
    refine WP.run [(237, 15), (237, 27)] [] 60 ?_
    simp only [bk237_0, bk237_4, bk237_12, bk237_15, bk237_24, bk237_27, bk237_36, bk237_48, bk237_53, bk237_68, bk237_71, bk237_77, bk237_83, bk237_89, bk237_94, bk237_98, bk237_99, U_iconst, U_istore_n, U_iload_n, U_aload_n, U_getfield, U_icmp_ge, U_istore, U_iload, U_invokevirtual3, U_if_eq, U_icmp_ne, U_sipush, U_imul, U_bipush, U_iadd, U_ireturn, U_iinc, U_goto, UN_cc, UN_cn, UN_nc, UN_nn, UJ, lget, lset, lset2, entL, wsm, wcat, Option.toList_some, Option.toList_none, List.cons_append, List.nil_append, List.mem_cons, List.not_mem_nil, Prod.mk.injEq, or_false, false_or, or_true, true_or, and_true, true_and, and_false, false_and, and_self, ne_eq, not_false_eq_true, not_true_eq_false, forall_const, true_implies, false_implies, Nat.add_zero, Nat.zero_add, Nat.le_refl, Nat.zero_le, List.set_cons_zero, List.set_cons_succ, List.set_nil, ↓reduceIte, Nat.reduceAdd, Nat.reduceSub, Nat.reduceEqDiff, Nat.reduceLeDiff, Int.reduceEq, Int.reduceNe, Int.reduceNeg, reduceCtorEq, kd190, hP]
    refine ⟨rr (by omega), fun _ => ?_, fun e => absurd (by omega) e⟩
    refine m_keeps (g := g) hG hp hd6 (by omega) (by omega) (by omega) fun N1 r s1 s2 s3 => ?_
    simp only [bk237_0, bk237_4, bk237_12, bk237_15, bk237_24, bk237_27, bk237_36, bk237_48, bk237_53, bk237_68, bk237_71, bk237_77, bk237_83, bk237_89, bk237_94, bk237_98, bk237_99, U_iconst, U_istore_n, U_iload_n, U_aload_n, U_getfield, U_icmp_ge, U_istore, U_iload, U_invokevirtual3, U_if_eq, U_icmp_ne, U_sipush, U_imul, U_bipush, U_iadd, U_ireturn, U_iinc, U_goto, UN_cc, UN_cn, UN_nc, UN_nn, UJ, lget, lset, lset2, entL, wsm, wcat, Option.toList_some, Option.toList_none, List.cons_append, List.nil_append, List.mem_cons, List.not_mem_nil, Prod.mk.injEq, or_false, false_or, or_true, true_or, and_true, true_and, and_false, false_and, and_self, ne_eq, not_false_eq_true, not_true_eq_false, forall_const, true_implies, false_implies, Nat.add_zero, Nat.zero_add, Nat.le_refl, Nat.zero_le, List.set_cons_zero, List.set_cons_succ, List.set_nil, ↓reduceIte, Nat.reduceAdd, Nat.reduceSub, Nat.reduceEqDiff, Nat.reduceLeDiff, Int.reduceEq, Int.reduceNe, Int.reduceNeg, reduceCtorEq, kd190]
    rcases s3 with ⟨rfl, s3⟩ | ⟨rfl, s3⟩
    · have ht : tuP f (a : Int) (b : Int) c = true := tuP_t.mpr ⟨by omega, s3⟩
      rw [if_pos ht] at es
      have hl2 : (L ++ tuC f (a : Int) (b : Int) (c + 1)).length = (L ++ tuC f (a : Int) (b : Int) c).length + 1 := by rw [es, ← List.append_assoc, List.length_append]; rfl
      have hll : (L ++ tuC f (a : Int) (b : Int) (c + 1)).length ≤ 1000 := by
        rw [List.length_append] at hlen ⊢; omega
      refine ⟨r3 (by omega), fun e => absurd e (by decide), fun _ => ⟨rr (by omega), fun e => ?_, fun e => ?_⟩⟩
      · obtain ⟨T, hT⟩ := hT
        obtain ⟨d, hd⟩ := Nat.exists_eq_add_of_le (show c + 1 ≤ p.toNat by omega)
        have hx : tuC f (a : Int) (b : Int) p.toNat = tuC f (a : Int) (b : Int) (c + 1) ++ selT (fun j => tuP f (a : Int) (b : Int) (c + 1 + j)) (fun j => 10000 * (a : Int) + 100 * (b : Int) + ((c + 1 + j : Nat) : Int)) d := by
          conv => lhs; rw [hd]
          exact selT_cat _ _ (c + 1) d
        refine hF N1 _ s1 (hFi.tr s2) (by omega) ?_
        rw [hT, hx, es, ← List.append_assoc, ← List.append_assoc, List.append_assoc]
        exact ix_mid e.symm
      · have nx := ih (c + 1) N1 (by omega) (by omega) s1 (hFi.tr s2) (by rw [hl2]; omega)
        rw [hl2] at nx
        exact nx
    · have ht : ¬ tuP f (a : Int) (b : Int) c = true := fun w => s3 (tuP_t.mp w).2
      rw [if_neg ht, List.append_nil] at es
      have nx := ih (c + 1) N1 (by omega) (by omega) s1 (hFi.tr s2) (by rw [es]; exact hm)
      rw [es] at nx
      exact ⟨r3 (by omega), fun _ => nx, fun e => absurd rfl e⟩
set_option maxHeartbeats 16000000 in
theorem l_mtB {p : Int} {N : Mem} {Q : Post} {f : Pz p} {g a : Nat} {i : Int} {L : List Int} (hp : Pr p) (hd6 : dg f ≤ 6) (hi : -1 ≤ i ∧ R32 i) (ha : 0 < a ∧ (a : Int) < p) (hlen : (L ++ tuB f (a : Int) p.toNat).length ≤ 1000) (hT : ∃ T, tuL f p.toNat = (L ++ tuB f (a : Int) p.toNat) ++ T) (hF : ∀ N' t, MG f g N' → FM [198, 199] [] N N' → 0 ≤ i → (tuL f p.toNat)[i.toNat]? = some t → Q (some (0, t)) NN N')
    (hQ : ∀ N', MG f g N' → FM [198, 199] [] N N' → (i = -1 ∨ ((L ++ tuB f (a : Int) p.toNat).length : Int) ≤ i) → ∀ b c : V, WP 237 (0, 0) 4 [(2, 190), (0, i), (0, ((L ++ tuB f (a : Int) p.toNat).length : Int)), (0, (a : Int) + 1), b, c] [] NN N' Q) :
    ∀ (n b : Nat) (c : V) (Ni : Mem), (b : Int) + n = p → MG f g Ni → FM [198, 199] [] N Ni → (i = -1 ∨ ((L ++ tuB f (a : Int) b).length : Int) ≤ i) → WP 237 (0, 0) 15 [(2, 190), (0, i), (0, ((L ++ tuB f (a : Int) b).length : Int)), (0, (a : Int)), (0, (b : Int)), c] [] NN Ni Q := by
  have hpp := hp.pos
  intro n
  induction n with
  | zero =>
    intro b c Ni hb hG hFi hm
    have e : b = p.toNat := by omega
    subst e
    obtain ⟨hz, hP⟩ := hG.mt
    refine WP.run [(237, 4), (237, 15)] [] 60 ?_
    simp only [bk237_0, bk237_4, bk237_12, bk237_15, bk237_24, bk237_27, bk237_36, bk237_48, bk237_53, bk237_68, bk237_71, bk237_77, bk237_83, bk237_89, bk237_94, bk237_98, bk237_99, U_iconst, U_istore_n, U_iload_n, U_aload_n, U_getfield, U_icmp_ge, U_istore, U_iload, U_invokevirtual3, U_if_eq, U_icmp_ne, U_sipush, U_imul, U_bipush, U_iadd, U_ireturn, U_iinc, U_goto, UN_cc, UN_cn, UN_nc, UN_nn, UJ, lget, lset, lset2, entL, wsm, wcat, Option.toList_some, Option.toList_none, List.cons_append, List.nil_append, List.mem_cons, List.not_mem_nil, Prod.mk.injEq, or_false, false_or, or_true, true_or, and_true, true_and, and_false, false_and, and_self, ne_eq, not_false_eq_true, not_true_eq_false, forall_const, true_implies, false_implies, Nat.add_zero, Nat.zero_add, Nat.le_refl, Nat.zero_le, List.set_cons_zero, List.set_cons_succ, List.set_nil, ↓reduceIte, Nat.reduceAdd, Nat.reduceSub, Nat.reduceEqDiff, Nat.reduceLeDiff, Int.reduceEq, Int.reduceNe, Int.reduceNeg, reduceCtorEq, kd190, hP]
    exact ⟨rr (by omega), fun e => absurd e (by omega), fun _ => hQ Ni hG hFi hm _ _⟩
  | succ n ih =>
    intro b c Ni hb hG hFi hm
    obtain ⟨hz, hP⟩ := hG.mt
    have es : tuB f (a : Int) (b + 1) = tuB f (a : Int) b ++ tuC f (a : Int) (b : Int) p.toNat := rfl
    have hle : (tuB f (a : Int) (b + 1)).length ≤ (tuB f (a : Int) p.toNat).length := catT_le (by omega)
    have c1 : tuC f (a : Int) (b : Int) 1 = [] := by
      show [] ++ (if tuP f (a : Int) (b : Int) 0 then _ else []) = []
      rw [if_neg (fun w => (tuP_t.mp w).1 rfl)]; rfl
    rw [List.length_append] at hlen
    have hx : ∃ T, tuL f p.toNat = ((L ++ tuB f (a : Int) b) ++ tuC f (a : Int) (b : Int) p.toNat) ++ T := by
      obtain ⟨T, hT⟩ := hT
      obtain ⟨d, hd⟩ := Nat.exists_eq_add_of_le (show b + 1 ≤ p.toNat by omega)
      have hx : tuB f (a : Int) p.toNat = tuB f (a : Int) (b + 1) ++ catT (fun j => tuC f (a : Int) ((b + 1 + j : Nat) : Int) p.toNat) d := by
        have := catT_cat (fun (b : Nat) => tuC f (a : Int) (b : Int) p.toNat) (b + 1) d
        rw [← hd] at this
        exact this
      rw [hx, es] at hT
      exact ⟨catT (fun j => tuC f (a : Int) ((b + 1 + j : Nat) : Int) p.toNat) d ++ T, by rw [hT]; simp only [List.append_assoc]⟩
    have I := l_mtC (p := p) (N := Ni) (Q := Q) (f := f) (g := g) (a := a) (b := b) (i := i) (L := L ++ tuB f (a : Int) b) hp hd6 hi ha (by omega) (by rw [List.append_assoc, ← es, List.length_append]; omega) hx (fun N' t k1 k2 k3 k4 => hF N' t k1 (hFi.tr k2) k3 k4) (fun N' k1 k2 k3 c => by
      rw [List.append_assoc, ← es] at k3 ⊢
      exact ih (b + 1) c N' (by omega) k1 (hFi.tr k2) k3) (p.toNat - 1) 1 Ni (by omega) (by omega) hG (FM.rf _ _ _) (by rw [c1, List.append_nil]; exact hm)
    rw [c1, List.append_nil] at I
    refine WP.run [(237, 15), (237, 27)] [] 60 ?_
    simp only [bk237_0, bk237_4, bk237_12, bk237_15, bk237_24, bk237_27, bk237_36, bk237_48, bk237_53, bk237_68, bk237_71, bk237_77, bk237_83, bk237_89, bk237_94, bk237_98, bk237_99, U_iconst, U_istore_n, U_iload_n, U_aload_n, U_getfield, U_icmp_ge, U_istore, U_iload, U_invokevirtual3, U_if_eq, U_icmp_ne, U_sipush, U_imul, U_bipush, U_iadd, U_ireturn, U_iinc, U_goto, UN_cc, UN_cn, UN_nc, UN_nn, UJ, lget, lset, lset2, entL, wsm, wcat, Option.toList_some, Option.toList_none, List.cons_append, List.nil_append, List.mem_cons, List.not_mem_nil, Prod.mk.injEq, or_false, false_or, or_true, true_or, and_true, true_and, and_false, false_and, and_self, ne_eq, not_false_eq_true, not_true_eq_false, forall_const, true_implies, false_implies, Nat.add_zero, Nat.zero_add, Nat.le_refl, Nat.zero_le, List.set_cons_zero, List.set_cons_succ, List.set_nil, ↓reduceIte, Nat.reduceAdd, Nat.reduceSub, Nat.reduceEqDiff, Nat.reduceLeDiff, Int.reduceEq, Int.reduceNe, Int.reduceNeg, reduceCtorEq, kd190, hP]
    exact ⟨rr (by omega), fun _ => I, fun e => absurd (by omega) e⟩
set_option maxHeartbeats 16000000 in
theorem m_turnOf {p : Int} {N : Mem} {Q : Post} {f : Pz p} {g : Nat} {i : Int} (h : MG f g N) (hp : Pr p) (hd6 : dg f ≤ 6) (hm : pmo f) (hi : -1 ≤ i ∧ R32 i) (hQ : ∀ N', MG f g N' → FM [198, 199] [] N N' → Q (some (0, tuO f i)) NN N') : CL 237 [(2, 190), (0, i), (9, 0), (9, 0), (9, 0), (9, 0)] NN N Q := by
  have hpp := hp.pos
  have hi2 := hi.2
  obtain ⟨hi3, hi4⟩ := hi2
  have hF : ∀ N' t, MG f g N' → FM [198, 199] [] N N' → 0 ≤ i → (tuL f p.toNat)[i.toNat]? = some t → Q (some (0, t)) NN N' := fun N' t a b c d => by
    have := hQ N' a b
    unfold tuO at this
    rw [if_neg (by omega), d] at this; exact this
  have hlen : ∀ n, n ≤ p.toNat → (catT (fun a => if a = 0 then [] else tuB f (a : Int) p.toNat) n).length ≤ 1000 := fun n hn => by
    have h1 : ∀ n, n ≤ p.toNat → (catT (fun a => if a = 0 then [] else tuB f (a : Int) p.toNat) n).length ≤ 26 * n := fun n => by
      induction n with
      | zero => intro _; exact Nat.le_refl _
      | succ n ih =>
        intro hn
        have := ih (by omega)
        show (catT _ n ++ (if n = 0 then [] else tuB f (n : Int) p.toNat)).length ≤ _
        rw [List.length_append]
        have h2 : (if n = 0 then [] else tuB f (n : Int) p.toNat).length ≤ 26 := by
          split
          · exact Nat.zero_le _
          · have := tuB_2 hp hm (n : Int) p.toNat; omega
        omega
    have := h1 n hn
    omega
  have key : ∀ (n a : Nat) (b c : V) (Ni : Mem), (a : Int) + n = p → 1 ≤ a → MG f g Ni → FM [198, 199] [] N Ni → (i = -1 ∨ ((catT (fun a => if a = 0 then [] else tuB f (a : Int) p.toNat) a).length : Int) ≤ i) → WP 237 (0, 0) 4 [(2, 190), (0, i), (0, ((catT (fun a => if a = 0 then [] else tuB f (a : Int) p.toNat) a).length : Int)), (0, (a : Int)), b, c] [] NN Ni Q := by
    intro n
    induction n with
    | zero =>
      intro a b c Ni ha h1 hG hFi hm
      have e : a = p.toNat := by omega
      subst e
      obtain ⟨hz, hP⟩ := hG.mt
      have hq := hQ Ni hG hFi
      have el : (tuL f p.toNat) = catT (fun a => if a = 0 then [] else tuB f (a : Int) p.toNat) p.toNat := rfl
      unfold tuO at hq
      refine WP.run [(237, 4)] [] 60 ?_
      simp only [bk237_0, bk237_4, bk237_12, bk237_15, bk237_24, bk237_27, bk237_36, bk237_48, bk237_53, bk237_68, bk237_71, bk237_77, bk237_83, bk237_89, bk237_94, bk237_98, bk237_99, U_iconst, U_istore_n, U_iload_n, U_aload_n, U_getfield, U_icmp_ge, U_istore, U_iload, U_invokevirtual3, U_if_eq, U_icmp_ne, U_sipush, U_imul, U_bipush, U_iadd, U_ireturn, U_iinc, U_goto, UN_cc, UN_cn, UN_nc, UN_nn, UJ, lget, lset, lset2, entL, wsm, wcat, Option.toList_some, Option.toList_none, List.cons_append, List.nil_append, List.mem_cons, List.not_mem_nil, Prod.mk.injEq, or_false, false_or, or_true, true_or, and_true, true_and, and_false, false_and, and_self, ne_eq, not_false_eq_true, not_true_eq_false, forall_const, true_implies, false_implies, Nat.add_zero, Nat.zero_add, Nat.le_refl, Nat.zero_le, List.set_cons_zero, List.set_cons_succ, List.set_nil, ↓reduceIte, Nat.reduceAdd, Nat.reduceSub, Nat.reduceEqDiff, Nat.reduceLeDiff, Int.reduceEq, Int.reduceNe, Int.reduceNeg, reduceCtorEq, kd190, hP]
      refine ⟨rr (by omega), fun e => absurd e (by omega), fun _ => ⟨rr (by omega), fun e => ?_, fun e => ?_⟩⟩
      · rw [if_pos e, el] at hq; exact hq
      · rw [if_neg e, el, List.getElem?_eq_none (by omega)] at hq; exact hq
    | succ n ih =>
      intro a b c Ni ha h1 hG hFi hm
      obtain ⟨hz, hP⟩ := hG.mt
      have es : catT (fun a => if a = 0 then [] else tuB f (a : Int) p.toNat) (a + 1) = catT (fun a => if a = 0 then [] else tuB f (a : Int) p.toNat) a ++ tuB f (a : Int) p.toNat := by
        show _ ++ (if a = 0 then [] else tuB f (a : Int) p.toNat) = _
        rw [if_neg (by omega)]
      have hl := hlen (a + 1) (by omega)
      rw [es] at hl
      have hx : ∃ T, tuL f p.toNat = (catT (fun a => if a = 0 then [] else tuB f (a : Int) p.toNat) a ++ tuB f (a : Int) p.toNat) ++ T := by
        obtain ⟨d, hd⟩ := Nat.exists_eq_add_of_le (show a + 1 ≤ p.toNat by omega)
        refine ⟨catT (fun j => if a + 1 + j = 0 then [] else tuB f ((a + 1 + j : Nat) : Int) p.toNat) d, ?_⟩
        rw [← es]
        have := catT_cat (fun a => if a = 0 then [] else tuB f (a : Int) p.toNat) (a + 1) d
        rw [← hd] at this
        exact this
      have I := l_mtB (p := p) (N := Ni) (Q := Q) (f := f) (g := g) (a := a) (i := i) (L := catT (fun a => if a = 0 then [] else tuB f (a : Int) p.toNat) a) hp hd6 hi (by omega) hl hx (fun N' t k1 k2 k3 k4 => hF N' t k1 (hFi.tr k2) k3 k4) (fun N' k1 k2 k3 b c => by
        rw [← es] at k3 ⊢
        exact ih (a + 1) b c N' (by omega) (by omega) k1 (hFi.tr k2) k3) p.toNat 0 c Ni (by omega) hG (FM.rf _ _ _) (by show _ ∨ (((_ ++ []) : List Int).length : Int) ≤ i; rw [List.append_nil]; exact hm)
      have I2 : WP 237 (0, 0) 15 [(2, 190), (0, i), (0, ((catT (fun a => if a = 0 then [] else tuB f (a : Int) p.toNat) a).length : Int)), (0, (a : Int)), (0, 0), c] [] NN Ni Q := by
        have e0 : (catT (fun a => if a = 0 then [] else tuB f (a : Int) p.toNat) a ++ tuB f (a : Int) 0) = catT (fun a => if a = 0 then [] else tuB f (a : Int) p.toNat) a := List.append_nil _
        rw [e0] at I; exact I
      refine WP.run [(237, 4), (237, 15)] [] 60 ?_
      simp only [bk237_0, bk237_4, bk237_12, bk237_15, bk237_24, bk237_27, bk237_36, bk237_48, bk237_53, bk237_68, bk237_71, bk237_77, bk237_83, bk237_89, bk237_94, bk237_98, bk237_99, U_iconst, U_istore_n, U_iload_n, U_aload_n, U_getfield, U_icmp_ge, U_istore, U_iload, U_invokevirtual3, U_if_eq, U_icmp_ne, U_sipush, U_imul, U_bipush, U_iadd, U_ireturn, U_iinc, U_goto, UN_cc, UN_cn, UN_nc, UN_nn, UJ, lget, lset, lset2, entL, wsm, wcat, Option.toList_some, Option.toList_none, List.cons_append, List.nil_append, List.mem_cons, List.not_mem_nil, Prod.mk.injEq, or_false, false_or, or_true, true_or, and_true, true_and, and_false, false_and, and_self, ne_eq, not_false_eq_true, not_true_eq_false, forall_const, true_implies, false_implies, Nat.add_zero, Nat.zero_add, Nat.le_refl, Nat.zero_le, List.set_cons_zero, List.set_cons_succ, List.set_nil, ↓reduceIte, Nat.reduceAdd, Nat.reduceSub, Nat.reduceEqDiff, Nat.reduceLeDiff, Int.reduceEq, Int.reduceNe, Int.reduceNeg, reduceCtorEq, kd190, hP]
      exact ⟨rr (by omega), fun _ => I2, fun e => absurd (by omega) e⟩
  refine WP.run [(237, 4)] [] 60 ?_
  simp only [bk237_0, bk237_4, bk237_12, bk237_15, bk237_24, bk237_27, bk237_36, bk237_48, bk237_53, bk237_68, bk237_71, bk237_77, bk237_83, bk237_89, bk237_94, bk237_98, bk237_99, U_iconst, U_istore_n, U_iload_n, U_aload_n, U_getfield, U_icmp_ge, U_istore, U_iload, U_invokevirtual3, U_if_eq, U_icmp_ne, U_sipush, U_imul, U_bipush, U_iadd, U_ireturn, U_iinc, U_goto, UN_cc, UN_cn, UN_nc, UN_nn, UJ, lget, lset, lset2, entL, wsm, wcat, Option.toList_some, Option.toList_none, List.cons_append, List.nil_append, List.mem_cons, List.not_mem_nil, Prod.mk.injEq, or_false, false_or, or_true, true_or, and_true, true_and, and_false, false_and, and_self, ne_eq, not_false_eq_true, not_true_eq_false, forall_const, true_implies, false_implies, Nat.add_zero, Nat.zero_add, Nat.le_refl, Nat.zero_le, List.set_cons_zero, List.set_cons_succ, List.set_nil, ↓reduceIte, Nat.reduceAdd, Nat.reduceSub, Nat.reduceEqDiff, Nat.reduceLeDiff, Int.reduceEq, Int.reduceNe, Int.reduceNeg, reduceCtorEq]
  have K := key (p.toNat - 1) 1 (9, 0) (9, 0) N (by omega) (by omega) h (FM.rf _ _ _) (by show _ ∨ (0 : Int) ≤ i; omega)
  exact K
