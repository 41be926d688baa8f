/-! THE MODEL'S CALLS: the digest -/
set_option maxHeartbeats 8000000 in
theorem l_mdP {p : Int} {N : Mem} {Q : Post} {pu : List Int} {H : Int} {b c : V} (hp : Pr p) (hz : Fz N) (h4 : N 190 4 = (pu.length : Int)) (hr : ∀ (i : Nat) (v : Int), pu[i]? = some v → N 191 (i : Int) = v) (hpu : pu.length ≤ 6 ∧ ∀ v ∈ pu, 0 ≤ v ∧ v < p) (hQ : Q (some (1, mxS H (fun i => pu.getD i 0) pu.length)) NN N) :
    ∀ (n k : Nat), k + n = pu.length → WP 246 (0, 0) 239 [(2, 190), (1, mxS H (fun i => pu.getD i 0) k), (9, 0), (0, (k : Int)), b, c] [] NN N Q := by
  have hpp := hp.pos
  intro n
  induction n with
  | zero =>
    intro k hk
    obtain rfl : k = pu.length := by omega
    refine WP.run [(246, 239)] [] 60 ?_
    simp only [bk246_0, bk246_12, bk246_20, bk246_27, bk246_47, bk246_49, bk246_55, bk246_71, bk246_77, bk246_80, bk246_92, bk246_114, bk246_120, bk246_126, bk246_128, bk246_136, bk246_143, bk246_144, bk246_147, bk246_167, bk246_169, bk246_175, bk246_195, bk246_197, bk246_205, bk246_225, bk246_239, bk246_247, bk246_267, U_ldc2_w, U_aload_n, U_getfield, U_i2l, U_ladd, U_lstore_n, U_iconst, U_istore_n, U_iload_n, U_icmp_gt, U_if_le, U_lload_n, U_lmul, U_invokevirtual2, U_iinc, U_goto, U_bipush, U_icmp_ge, U_invokevirtual3, U_istore, U_iload, U_iald, U_lreturn, UN_cc, UN_cn, UN_nc, UN_nn, UJ, lget, lset, lset2, entL, wsm, wcat, Option.toList_some, Option.toList_none, List.cons_append, List.nil_append, List.mem_cons, List.not_mem_nil, Prod.mk.injEq, or_false, false_or, or_true, true_or, and_true, true_and, and_false, false_and, and_self, ne_eq, not_false_eq_true, not_true_eq_false, forall_const, true_implies, false_implies, Nat.add_zero, Nat.zero_add, Nat.le_refl, Nat.zero_le, List.set_cons_zero, List.set_cons_succ, List.set_nil, ↓reduceIte, Nat.reduceAdd, Nat.reduceSub, Nat.reduceEqDiff, Nat.reduceLeDiff, Int.reduceEq, Int.reduceNe, Int.reduceNeg, reduceCtorEq, kd190, h4]
    exact ⟨rr (by omega), fun e => absurd e (by omega), fun _ => hQ⟩
  | succ n ih =>
    intro k hk
    have hkl : k < pu.length := by omega
    have hv : N 191 (k : Int) = pu.getD k 0 := by
      rw [List.getD_eq_getElem?_getD, List.getElem?_eq_getElem hkl]
      exact hr k _ (List.getElem?_eq_getElem hkl)
    have hm : 0 ≤ pu.getD k 0 ∧ pu.getD k 0 < p := by
      rw [List.getD_eq_getElem?_getD, List.getElem?_eq_getElem hkl]
      exact hpu.2 _ (List.getElem_mem hkl)
    refine WP.run [(246, 239)] [] 60 ?_
    simp only [bk246_0, bk246_12, bk246_20, bk246_27, bk246_47, bk246_49, bk246_55, bk246_71, bk246_77, bk246_80, bk246_92, bk246_114, bk246_120, bk246_126, bk246_128, bk246_136, bk246_143, bk246_144, bk246_147, bk246_167, bk246_169, bk246_175, bk246_195, bk246_197, bk246_205, bk246_225, bk246_239, bk246_247, bk246_267, U_ldc2_w, U_aload_n, U_getfield, U_i2l, U_ladd, U_lstore_n, U_iconst, U_istore_n, U_iload_n, U_icmp_gt, U_if_le, U_lload_n, U_lmul, U_invokevirtual2, U_iinc, U_goto, U_bipush, U_icmp_ge, U_invokevirtual3, U_istore, U_iload, U_iald, U_lreturn, UN_cc, UN_cn, UN_nc, UN_nn, UJ, lget, lset, lset2, entL, wsm, wcat, Option.toList_some, Option.toList_none, List.cons_append, List.nil_append, List.mem_cons, List.not_mem_nil, Prod.mk.injEq, or_false, false_or, or_true, true_or, and_true, true_and, and_false, false_and, and_self, ne_eq, not_false_eq_true, not_true_eq_false, forall_const, true_implies, false_implies, Nat.add_zero, Nat.zero_add, Nat.le_refl, Nat.zero_le, List.set_cons_zero, List.set_cons_succ, List.set_nil, ↓reduceIte, Nat.reduceAdd, Nat.reduceSub, Nat.reduceEqDiff, Nat.reduceLeDiff, Int.reduceEq, Int.reduceNe, Int.reduceNeg, reduceCtorEq, kd190, kd191, ln191, z190_3 hz, h4, hv]
    refine ⟨rr (by omega), fun _ => ⟨by omega, by omega, r3 (by omega), ?_⟩, fun e => absurd (by omega) e⟩
    exact ih (k + 1) (by omega)
set_option maxHeartbeats 8000000 in
theorem l_mdV {p : Int} {N : Mem} {Q : Post} {E : Nat → Nat} {H : Int} {b c : V} (hp : Pr p) (hz : Fz N) (hP : N 190 0 = p) (hE : ∀ a : Nat, a < 13 → N 197 (a : Int) = (E a : Int)) (hB : ∀ a, E a ≤ 20) (hQ : WP 246 (0, 0) 225 [(2, 190), (1, mxS H (fun a => (E a : Int)) p.toNat), (9, 0), (0, p), b, c] [] NN N Q) :
    ∀ (n k : Nat), k + n = p.toNat → WP 246 (0, 0) 197 [(2, 190), (1, mxS H (fun a => (E a : Int)) k), (9, 0), (0, (k : Int)), b, c] [] NN N Q := by
  have hpp := hp.pos
  intro n
  induction n with
  | zero =>
    intro k hk
    obtain rfl : k = p.toNat := by omega
    rw [show ((p.toNat : Nat) : Int) = p by omega]
    refine WP.run [(246, 197), (246, 225)] [] 60 ?_
    simp only [bk246_0, bk246_12, bk246_20, bk246_27, bk246_47, bk246_49, bk246_55, bk246_71, bk246_77, bk246_80, bk246_92, bk246_114, bk246_120, bk246_126, bk246_128, bk246_136, bk246_143, bk246_144, bk246_147, bk246_167, bk246_169, bk246_175, bk246_195, bk246_197, bk246_205, bk246_225, bk246_239, bk246_247, bk246_267, U_ldc2_w, U_aload_n, U_getfield, U_i2l, U_ladd, U_lstore_n, U_iconst, U_istore_n, U_iload_n, U_icmp_gt, U_if_le, U_lload_n, U_lmul, U_invokevirtual2, U_iinc, U_goto, U_bipush, U_icmp_ge, U_invokevirtual3, U_istore, U_iload, U_iald, U_lreturn, UN_cc, UN_cn, UN_nc, UN_nn, UJ, lget, lset, lset2, entL, wsm, wcat, Option.toList_some, Option.toList_none, List.cons_append, List.nil_append, List.mem_cons, List.not_mem_nil, Prod.mk.injEq, or_false, false_or, or_true, true_or, and_true, true_and, and_false, false_and, and_self, ne_eq, not_false_eq_true, not_true_eq_false, forall_const, true_implies, false_implies, Nat.add_zero, Nat.zero_add, Nat.le_refl, Nat.zero_le, List.set_cons_zero, List.set_cons_succ, List.set_nil, ↓reduceIte, Nat.reduceAdd, Nat.reduceSub, Nat.reduceEqDiff, Nat.reduceLeDiff, Int.reduceEq, Int.reduceNe, Int.reduceNeg, reduceCtorEq, kd190, hP]
    exact ⟨rr (by omega), fun e => absurd e (by omega), fun _ => hQ⟩
  | succ n ih =>
    intro k hk
    have e1 := hE k (by omega)
    have b1 := hB k
    refine WP.run [(246, 197), (246, 225)] [] 60 ?_
    simp only [bk246_0, bk246_12, bk246_20, bk246_27, bk246_47, bk246_49, bk246_55, bk246_71, bk246_77, bk246_80, bk246_92, bk246_114, bk246_120, bk246_126, bk246_128, bk246_136, bk246_143, bk246_144, bk246_147, bk246_167, bk246_169, bk246_175, bk246_195, bk246_197, bk246_205, bk246_225, bk246_239, bk246_247, bk246_267, U_ldc2_w, U_aload_n, U_getfield, U_i2l, U_ladd, U_lstore_n, U_iconst, U_istore_n, U_iload_n, U_icmp_gt, U_if_le, U_lload_n, U_lmul, U_invokevirtual2, U_iinc, U_goto, U_bipush, U_icmp_ge, U_invokevirtual3, U_istore, U_iload, U_iald, U_lreturn, UN_cc, UN_cn, UN_nc, UN_nn, UJ, lget, lset, lset2, entL, wsm, wcat, Option.toList_some, Option.toList_none, List.cons_append, List.nil_append, List.mem_cons, List.not_mem_nil, Prod.mk.injEq, or_false, false_or, or_true, true_or, and_true, true_and, and_false, false_and, and_self, ne_eq, not_false_eq_true, not_true_eq_false, forall_const, true_implies, false_implies, Nat.add_zero, Nat.zero_add, Nat.le_refl, Nat.zero_le, List.set_cons_zero, List.set_cons_succ, List.set_nil, ↓reduceIte, Nat.reduceAdd, Nat.reduceSub, Nat.reduceEqDiff, Nat.reduceLeDiff, Int.reduceEq, Int.reduceNe, Int.reduceNeg, reduceCtorEq, kd190, kd197, ln197, z190_11 hz, hP, e1]
    refine ⟨rr (by omega), fun _ => ⟨by omega, by omega, r3 (by omega), ?_⟩, fun e => absurd (by omega) e⟩
    exact ih (k + 1) (by omega)
set_option maxHeartbeats 8000000 in
theorem l_mdT {p : Int} {N : Mem} {Q : Post} {tl : Nat → Int} {H : Int} {b c : V} (hp : Pr p) (hz : Fz N) (hT : ∀ j : Nat, j < 26 → N 196 (j : Int) = tl j) (hB : ∀ j, 0 ≤ tl j ∧ tl j < p) (hQ : WP 246 (0, 0) 197 [(2, 190), (1, mxS H tl 26), (9, 0), (0, 0), b, c] [] NN N Q) :
    ∀ (n k : Nat), k + n = 26 → WP 246 (0, 0) 169 [(2, 190), (1, mxS H tl k), (9, 0), (0, (k : Int)), b, c] [] NN N Q := by
  have hpp := hp.pos
  intro n
  induction n with
  | zero =>
    intro k hk
    obtain rfl : k = 26 := by omega
    refine WP.run [(246, 169), (246, 197)] [] 60 ?_
    simp only [bk246_0, bk246_12, bk246_20, bk246_27, bk246_47, bk246_49, bk246_55, bk246_71, bk246_77, bk246_80, bk246_92, bk246_114, bk246_120, bk246_126, bk246_128, bk246_136, bk246_143, bk246_144, bk246_147, bk246_167, bk246_169, bk246_175, bk246_195, bk246_197, bk246_205, bk246_225, bk246_239, bk246_247, bk246_267, U_ldc2_w, U_aload_n, U_getfield, U_i2l, U_ladd, U_lstore_n, U_iconst, U_istore_n, U_iload_n, U_icmp_gt, U_if_le, U_lload_n, U_lmul, U_invokevirtual2, U_iinc, U_goto, U_bipush, U_icmp_ge, U_invokevirtual3, U_istore, U_iload, U_iald, U_lreturn, UN_cc, UN_cn, UN_nc, UN_nn, UJ, lget, lset, lset2, entL, wsm, wcat, Option.toList_some, Option.toList_none, List.cons_append, List.nil_append, List.mem_cons, List.not_mem_nil, Prod.mk.injEq, or_false, false_or, or_true, true_or, and_true, true_and, and_false, false_and, and_self, ne_eq, not_false_eq_true, not_true_eq_false, forall_const, true_implies, false_implies, Nat.add_zero, Nat.zero_add, Nat.le_refl, Nat.zero_le, List.set_cons_zero, List.set_cons_succ, List.set_nil, ↓reduceIte, Nat.reduceAdd, Nat.reduceSub, Nat.reduceEqDiff, Nat.reduceLeDiff, Int.reduceEq, Int.reduceNe, Int.reduceNeg, reduceCtorEq]
    exact ⟨rr (by omega), fun e => absurd e (by omega), fun _ => hQ⟩
  | succ n ih =>
    intro k hk
    have e1 := hT k (by omega)
    have b1 := hB k
    refine WP.run [(246, 169), (246, 197)] [] 60 ?_
    simp only [bk246_0, bk246_12, bk246_20, bk246_27, bk246_47, bk246_49, bk246_55, bk246_71, bk246_77, bk246_80, bk246_92, bk246_114, bk246_120, bk246_126, bk246_128, bk246_136, bk246_143, bk246_144, bk246_147, bk246_167, bk246_169, bk246_175, bk246_195, bk246_197, bk246_205, bk246_225, bk246_239, bk246_247, bk246_267, U_ldc2_w, U_aload_n, U_getfield, U_i2l, U_ladd, U_lstore_n, U_iconst, U_istore_n, U_iload_n, U_icmp_gt, U_if_le, U_lload_n, U_lmul, U_invokevirtual2, U_iinc, U_goto, U_bipush, U_icmp_ge, U_invokevirtual3, U_istore, U_iload, U_iald, U_lreturn, UN_cc, UN_cn, UN_nc, UN_nn, UJ, lget, lset, lset2, entL, wsm, wcat, Option.toList_some, Option.toList_none, List.cons_append, List.nil_append, List.mem_cons, List.not_mem_nil, Prod.mk.injEq, or_false, false_or, or_true, true_or, and_true, true_and, and_false, false_and, and_self, ne_eq, not_false_eq_true, not_true_eq_false, forall_const, true_implies, false_implies, Nat.add_zero, Nat.zero_add, Nat.le_refl, Nat.zero_le, List.set_cons_zero, List.set_cons_succ, List.set_nil, ↓reduceIte, Nat.reduceAdd, Nat.reduceSub, Nat.reduceEqDiff, Nat.reduceLeDiff, Int.reduceEq, Int.reduceNe, Int.reduceNeg, reduceCtorEq, kd190, kd196, ln196, z190_10 hz, e1]
    refine ⟨rr (by omega), fun _ => ⟨by omega, by omega, r3 (by omega), ?_⟩, fun e => absurd (by omega) e⟩
    exact ih (k + 1) (by omega)
set_option maxHeartbeats 8000000 in
theorem l_mdA {p : Int} {g : Nat} {f : Pz p} {pu : List Int} {rg : Nat → Pz p × Pz p} {A tl : Nat → Int} {E : Nat → Nat} {N : Mem} {Q : Post} {H : Int} {b c : Nat × Int} (h : MS g f pu rg A tl E N) (V : VS g f pu rg A tl E) (hQ : WP 246 (0, 0) 169 [(2, 190), (1, mxS H A (nAm g f)), (9, 0), (0, 0), b, c] [] NN N Q) :
    ∀ (n k : Nat), k + n = nAm g f → WP 246 (0, 0) 128 [(2, 190), (1, mxS H A k), (9, 0), (0, (k : Int)), b, c] [] NN N Q := by
  have hpp := V.1.pos
  have hz := h.fz
  have h26 := ptl_26 V.1 f
  have cu := h.cu V
  have hA := h.2.2.2.2.1
  have hB := V.2.2.2.1
  have e5 : g ≠ 0 → N 190 5 = ((ptl f p.toNat).length : Int) + 1 := fun q => (h.mg q).1.2.2.2
  have hn : nAm g f ≤ 27 := by unfold nAm; split <;> omega
  intro n
  induction n with
  | zero =>
    intro k hk
    obtain rfl : k = nAm g f := by omega
    refine WP.run [(246, 128), (246, 169)] [] 60 ?_
    simp only [bk246_0, bk246_12, bk246_20, bk246_27, bk246_47, bk246_49, bk246_55, bk246_71, bk246_77, bk246_80, bk246_92, bk246_114, bk246_120, bk246_126, bk246_128, bk246_136, bk246_143, bk246_144, bk246_147, bk246_167, bk246_169, bk246_175, bk246_195, bk246_197, bk246_205, bk246_225, bk246_239, bk246_247, bk246_267, U_ldc2_w, U_aload_n, U_getfield, U_i2l, U_ladd, U_lstore_n, U_iconst, U_istore_n, U_iload_n, U_icmp_gt, U_if_le, U_lload_n, U_lmul, U_invokevirtual2, U_iinc, U_goto, U_bipush, U_icmp_ge, U_invokevirtual3, U_istore, U_iload, U_iald, U_lreturn, UN_cc, UN_cn, UN_nc, UN_nn, UJ, lget, lset, lset2, entL, wsm, wcat, Option.toList_some, Option.toList_none, List.cons_append, List.nil_append, List.mem_cons, List.not_mem_nil, Prod.mk.injEq, or_false, false_or, or_true, true_or, and_true, true_and, and_false, false_and, and_self, ne_eq, not_false_eq_true, not_true_eq_false, forall_const, true_implies, false_implies, Nat.add_zero, Nat.zero_add, Nat.le_refl, Nat.zero_le, List.set_cons_zero, List.set_cons_succ, List.set_nil, ↓reduceIte, Nat.reduceAdd, Nat.reduceSub, Nat.reduceEqDiff, Nat.reduceLeDiff, Int.reduceEq, Int.reduceNe, Int.reduceNeg, reduceCtorEq, kd190]
    by_cases q : g = 0
    · have en : nAm g f = 1 := by unfold nAm; rw [if_pos q]
      exact ⟨cu.1, fun e => absurd q (cu.2.mp e), fun _ => ⟨rr (by omega), fun e => absurd e (by omega), fun _ => hQ⟩⟩
    · have en : nAm g f = (ptl f p.toNat).length + 1 := by unfold nAm; rw [if_neg q]
      rw [e5 q]
      exact ⟨cu.1, fun _ => ⟨rr (by omega), fun e => absurd e (by omega), fun _ => hQ⟩, fun e => absurd (cu.2.mpr q) e⟩
  | succ n ih =>
    intro k hk
    have e1 := hA k (by omega)
    have b1 : -30 ≤ A k ∧ A k ≤ 30 := by
      by_cases c : k = 0
      · rw [c]; exact hB.1
      · have := hB.2 k c; omega
    have nx := ih (k + 1) (by omega)
    refine WP.run [(246, 128), (246, 169)] [] 60 ?_
    simp only [bk246_0, bk246_12, bk246_20, bk246_27, bk246_47, bk246_49, bk246_55, bk246_71, bk246_77, bk246_80, bk246_92, bk246_114, bk246_120, bk246_126, bk246_128, bk246_136, bk246_143, bk246_144, bk246_147, bk246_167, bk246_169, bk246_175, bk246_195, bk246_197, bk246_205, bk246_225, bk246_239, bk246_247, bk246_267, U_ldc2_w, U_aload_n, U_getfield, U_i2l, U_ladd, U_lstore_n, U_iconst, U_istore_n, U_iload_n, U_icmp_gt, U_if_le, U_lload_n, U_lmul, U_invokevirtual2, U_iinc, U_goto, U_bipush, U_icmp_ge, U_invokevirtual3, U_istore, U_iload, U_iald, U_lreturn, UN_cc, UN_cn, UN_nc, UN_nn, UJ, lget, lset, lset2, entL, wsm, wcat, Option.toList_some, Option.toList_none, List.cons_append, List.nil_append, List.mem_cons, List.not_mem_nil, Prod.mk.injEq, or_false, false_or, or_true, true_or, and_true, true_and, and_false, false_and, and_self, ne_eq, not_false_eq_true, not_true_eq_false, forall_const, true_implies, false_implies, Nat.add_zero, Nat.zero_add, Nat.le_refl, Nat.zero_le, List.set_cons_zero, List.set_cons_succ, List.set_nil, ↓reduceIte, Nat.reduceAdd, Nat.reduceSub, Nat.reduceEqDiff, Nat.reduceLeDiff, Int.reduceEq, Int.reduceNe, Int.reduceNeg, reduceCtorEq, kd190, kd194, ln194, z190_8 hz, e1]
    by_cases q : g = 0
    · have en : nAm g f = 1 := by unfold nAm; rw [if_pos q]
      exact ⟨cu.1, fun e => absurd q (cu.2.mp e), fun _ => ⟨rr (by omega), fun _ => ⟨by omega, by omega, r3 (by omega), nx⟩, fun e => absurd (by omega) e⟩⟩
    · have en : nAm g f = (ptl f p.toNat).length + 1 := by unfold nAm; rw [if_neg q]
      rw [e5 q]
      exact ⟨cu.1, fun _ => ⟨rr (by omega), fun _ => ⟨by omega, by omega, r3 (by omega), nx⟩, fun e => absurd (by omega) e⟩, fun e => absurd (cu.2.mpr q) e⟩
set_option maxHeartbeats 8000000 in
theorem l_mdK {p : Int} {N : Mem} {μ : Int → Option (Pz p)} {Q : Post} {a : Pz p} {w r H : Int} (hM : MT p N μ) (hw : μ w = some a) (hQ : WP 246 (0, 0) 71 [(2, 190), (1, mxR H a), (9, 0), (0, r), (0, w + 1), (0, (dg a : Int))] [] NN N Q) :
    ∀ (n k : Nat), k + n = dg a → WP 246 (0, 0) 80 [(2, 190), (1, mxS H a.1 k), (9, 0), (0, r), (0, w), (0, (k : Int))] [] NN N Q := by
  have hpp := hM.2.1.pos
  obtain ⟨p1, p2, p3, p4, p5⟩ := hM.2.2.2.2 w a hw
  intro n
  induction n with
  | zero =>
    intro k hk
    obtain rfl : k = dg a := by omega
    refine WP.run [(246, 71), (246, 80)] [] 60 ?_
    simp only [bk246_0, bk246_12, bk246_20, bk246_27, bk246_47, bk246_49, bk246_55, bk246_71, bk246_77, bk246_80, bk246_92, bk246_114, bk246_120, bk246_126, bk246_128, bk246_136, bk246_143, bk246_144, bk246_147, bk246_167, bk246_169, bk246_175, bk246_195, bk246_197, bk246_205, bk246_225, bk246_239, bk246_247, bk246_267, U_ldc2_w, U_aload_n, U_getfield, U_i2l, U_ladd, U_lstore_n, U_iconst, U_istore_n, U_iload_n, U_icmp_gt, U_if_le, U_lload_n, U_lmul, U_invokevirtual2, U_iinc, U_goto, U_bipush, U_icmp_ge, U_invokevirtual3, U_istore, U_iload, U_iald, U_lreturn, UN_cc, UN_cn, UN_nc, UN_nn, UJ, lget, lset, lset2, entL, wsm, wcat, Option.toList_some, Option.toList_none, List.cons_append, List.nil_append, List.mem_cons, List.not_mem_nil, Prod.mk.injEq, or_false, false_or, or_true, true_or, and_true, true_and, and_false, false_and, and_self, ne_eq, not_false_eq_true, not_true_eq_false, forall_const, true_implies, false_implies, Nat.add_zero, Nat.zero_add, Nat.le_refl, Nat.zero_le, List.set_cons_zero, List.set_cons_succ, List.set_nil, ↓reduceIte, Nat.reduceAdd, Nat.reduceSub, Nat.reduceEqDiff, Nat.reduceLeDiff, Int.reduceEq, Int.reduceNe, Int.reduceNeg, reduceCtorEq, kd190, kd199, ln199, z190_13 hM.1, p4]
    exact ⟨by omega, by omega, rr (by omega), fun _ => hQ, fun e => absurd (by omega) e⟩
  | succ n ih =>
    intro k hk
    have ha := pz_rg hM.2.1 a k
    refine WP.run [(246, 71), (246, 80)] [] 60 ?_
    simp only [bk246_0, bk246_12, bk246_20, bk246_27, bk246_47, bk246_49, bk246_55, bk246_71, bk246_77, bk246_80, bk246_92, bk246_114, bk246_120, bk246_126, bk246_128, bk246_136, bk246_143, bk246_144, bk246_147, bk246_167, bk246_169, bk246_175, bk246_195, bk246_197, bk246_205, bk246_225, bk246_239, bk246_247, bk246_267, U_ldc2_w, U_aload_n, U_getfield, U_i2l, U_ladd, U_lstore_n, U_iconst, U_istore_n, U_iload_n, U_icmp_gt, U_if_le, U_lload_n, U_lmul, U_invokevirtual2, U_iinc, U_goto, U_bipush, U_icmp_ge, U_invokevirtual3, U_istore, U_iload, U_iald, U_lreturn, UN_cc, UN_cn, UN_nc, UN_nn, UJ, lget, lset, lset2, entL, wsm, wcat, Option.toList_some, Option.toList_none, List.cons_append, List.nil_append, List.mem_cons, List.not_mem_nil, Prod.mk.injEq, or_false, false_or, or_true, true_or, and_true, true_and, and_false, false_and, and_self, ne_eq, not_false_eq_true, not_true_eq_false, forall_const, true_implies, false_implies, Nat.add_zero, Nat.zero_add, Nat.le_refl, Nat.zero_le, List.set_cons_zero, List.set_cons_succ, List.set_nil, ↓reduceIte, Nat.reduceAdd, Nat.reduceSub, Nat.reduceEqDiff, Nat.reduceLeDiff, Int.reduceEq, Int.reduceNe, Int.reduceNeg, reduceCtorEq, kd190, kd199, ln199, z190_13 hM.1, p4]
    refine ⟨by omega, by omega, rr (by omega), fun e => absurd e (by omega), fun _ => m_get hM hw (r3 (by omega)) ?_⟩
    rw [if_pos (by omega), Int.toNat_natCast]
    simp only [bk246_0, bk246_12, bk246_20, bk246_27, bk246_47, bk246_49, bk246_55, bk246_71, bk246_77, bk246_80, bk246_92, bk246_114, bk246_120, bk246_126, bk246_128, bk246_136, bk246_143, bk246_144, bk246_147, bk246_167, bk246_169, bk246_175, bk246_195, bk246_197, bk246_205, bk246_225, bk246_239, bk246_247, bk246_267, U_ldc2_w, U_aload_n, U_getfield, U_i2l, U_ladd, U_lstore_n, U_iconst, U_istore_n, U_iload_n, U_icmp_gt, U_if_le, U_lload_n, U_lmul, U_invokevirtual2, U_iinc, U_goto, U_bipush, U_icmp_ge, U_invokevirtual3, U_istore, U_iload, U_iald, U_lreturn, UN_cc, UN_cn, UN_nc, UN_nn, UJ, lget, lset, lset2, entL, wsm, wcat, Option.toList_some, Option.toList_none, List.cons_append, List.nil_append, List.mem_cons, List.not_mem_nil, Prod.mk.injEq, or_false, false_or, or_true, true_or, and_true, true_and, and_false, false_and, and_self, ne_eq, not_false_eq_true, not_true_eq_false, forall_const, true_implies, false_implies, Nat.add_zero, Nat.zero_add, Nat.le_refl, Nat.zero_le, List.set_cons_zero, List.set_cons_succ, List.set_nil, ↓reduceIte, Nat.reduceAdd, Nat.reduceSub, Nat.reduceEqDiff, Nat.reduceLeDiff, Int.reduceEq, Int.reduceNe, Int.reduceNeg, reduceCtorEq]
    refine ⟨r3 (by omega), ?_⟩
    exact ih (k + 1) (by omega)
theorem VS.red {p : Int} {g : Nat} {f : Pz p} {pu : List Int} {rg : Nat → Pz p × Pz p} {A tl : Nat → Int} {E : Nat → Nat} (V : VS g f pu rg A tl E) (r : Nat) : pmo (rg r).1 ∧ dg (rg r).1 ≤ 3 ∧ dg (rg r).2 < dg (rg r).1 := by
  have hpp := V.1.pos
  by_cases q : g = 0
  · rcases V.2.1 with ⟨-, h, -⟩ | ⟨-, h2, -⟩
    · rw [h r]
      have e : dg (pC p 1) = 1 := dg_C (by rw [Int.emod_eq_of_lt (by omega) (by omega)]; omega)
      refine ⟨pmo_1 V.1, ?_, ?_⟩
      · show dg (pC p 1) ≤ 3; omega
      · show dg (pC p 0) < dg (pC p 1)
        rw [dg_zero.mpr rfl, e]; omega
    · have := V.2.1
      rcases V.2.1 with ⟨-, h, -⟩ | ⟨h1, h2, h3, -⟩
      · rw [h r]
        have e : dg (pC p 1) = 1 := dg_C (by rw [Int.emod_eq_of_lt (by omega) (by omega)]; omega)
        refine ⟨pmo_1 V.1, ?_, ?_⟩
        · show dg (pC p 1) ≤ 3; omega
        · show dg (pC p 0) < dg (pC p 1)
          rw [dg_zero.mpr rfl, e]; omega
      · obtain ⟨x1, x2, x3, -⟩ := h3 r
        exact ⟨x1, by omega, x3⟩
  · obtain ⟨x1, x2, x3, -⟩ := (V.cv q).2.2.2.1 r
    have := V.g2
    exact ⟨x1, by omega, x3⟩
set_option maxHeartbeats 16000000 in
theorem l_mdR {p : Int} {g : Nat} {f : Pz p} {pu : List Int} {rg : Nat → Pz p × Pz p} {A tl : Nat → Int} {E : Nat → Nat} {N : Mem} {Q : Post} {H : Int} (h : MS g f pu rg A tl E N) (V : VS g f pu rg A tl E) (hQ : ∀ N' b c, MS g f pu rg A tl E N' → clF N N' → WP 246 (0, 0) 128 [(2, 190), (1, mxG H rg 6), (9, 0), (0, 0), b, c] [] NN N' Q) :
    ∀ (n k : Nat) (b c : Nat × Int) (Ni : Mem), k + n = 6 → MS g f pu rg A tl E Ni → clF N Ni → WP 246 (0, 0) 49 [(2, 190), (1, mxG H rg k), (9, 0), (0, (k : Int)), b, c] [] NN Ni Q := by
  have hpp := V.1.pos
  intro n
  induction n with
  | zero =>
    intro k b c Ni hk hS hC
    obtain rfl : k = 6 := by omega
    refine WP.run [(246, 49), (246, 128)] [] 60 ?_
    simp only [bk246_0, bk246_12, bk246_20, bk246_27, bk246_47, bk246_49, bk246_55, bk246_71, bk246_77, bk246_80, bk246_92, bk246_114, bk246_120, bk246_126, bk246_128, bk246_136, bk246_143, bk246_144, bk246_147, bk246_167, bk246_169, bk246_175, bk246_195, bk246_197, bk246_205, bk246_225, bk246_239, bk246_247, bk246_267, U_ldc2_w, U_aload_n, U_getfield, U_i2l, U_ladd, U_lstore_n, U_iconst, U_istore_n, U_iload_n, U_icmp_gt, U_if_le, U_lload_n, U_lmul, U_invokevirtual2, U_iinc, U_goto, U_bipush, U_icmp_ge, U_invokevirtual3, U_istore, U_iload, U_iald, U_lreturn, UN_cc, UN_cn, UN_nc, UN_nn, UJ, lget, lset, lset2, entL, wsm, wcat, Option.toList_some, Option.toList_none, List.cons_append, List.nil_append, List.mem_cons, List.not_mem_nil, Prod.mk.injEq, or_false, false_or, or_true, true_or, and_true, true_and, and_false, false_and, and_self, ne_eq, not_false_eq_true, not_true_eq_false, forall_const, true_implies, false_implies, Nat.add_zero, Nat.zero_add, Nat.le_refl, Nat.zero_le, List.set_cons_zero, List.set_cons_succ, List.set_nil, ↓reduceIte, Nat.reduceAdd, Nat.reduceSub, Nat.reduceEqDiff, Nat.reduceLeDiff, Int.reduceEq, Int.reduceNe, Int.reduceNeg, reduceCtorEq]
    exact ⟨rr (by omega), fun e => absurd e (by omega), fun _ => hQ Ni _ _ hS hC⟩
  | succ n ih =>
    intro k b c Ni hk hS hC
    obtain ⟨x1, x2, x3⟩ := V.red k
    refine WP.run [(246, 49), (246, 71)] [] 60 ?_
    simp only [bk246_0, bk246_12, bk246_20, bk246_27, bk246_47, bk246_49, bk246_55, bk246_71, bk246_77, bk246_80, bk246_92, bk246_114, bk246_120, bk246_126, bk246_128, bk246_136, bk246_143, bk246_144, bk246_147, bk246_167, bk246_169, bk246_175, bk246_195, bk246_197, bk246_205, bk246_225, bk246_239, bk246_247, bk246_267, U_ldc2_w, U_aload_n, U_getfield, U_i2l, U_ladd, U_lstore_n, U_iconst, U_istore_n, U_iload_n, U_icmp_gt, U_if_le, U_lload_n, U_lmul, U_invokevirtual2, U_iinc, U_goto, U_bipush, U_icmp_ge, U_invokevirtual3, U_istore, U_iload, U_iald, U_lreturn, UN_cc, UN_cn, UN_nc, UN_nn, UJ, lget, lset, lset2, entL, wsm, wcat, Option.toList_some, Option.toList_none, List.cons_append, List.nil_append, List.mem_cons, List.not_mem_nil, Prod.mk.injEq, or_false, false_or, or_true, true_or, and_true, true_and, and_false, false_and, and_self, ne_eq, not_false_eq_true, not_true_eq_false, forall_const, true_implies, false_implies, Nat.add_zero, Nat.zero_add, Nat.le_refl, Nat.zero_le, List.set_cons_zero, List.set_cons_succ, List.set_nil, ↓reduceIte, Nat.reduceAdd, Nat.reduceSub, Nat.reduceEqDiff, Nat.reduceLeDiff, Int.reduceEq, Int.reduceNe, Int.reduceNeg, reduceCtorEq, kd190]
    refine ⟨rr (by omega), fun _ => ?_, fun e => absurd (by omega) e⟩
    refine m_fromRegister (t := 1) (a := k) hS.fz (by omega) (by omega) fun N1 s1 => ?_
    have W1 := (hS.2.2.2.1 k (by omega)).mv s1
    obtain ⟨μ, hM, h0⟩ := hS.1.fm s1.f4 ok_4 (by decide) (by decide) (by decide)
    simp only [bk246_0, bk246_12, bk246_20, bk246_27, bk246_47, bk246_49, bk246_55, bk246_71, bk246_77, bk246_80, bk246_92, bk246_114, bk246_120, bk246_126, bk246_128, bk246_136, bk246_143, bk246_144, bk246_147, bk246_167, bk246_169, bk246_175, bk246_195, bk246_197, bk246_205, bk246_225, bk246_239, bk246_247, bk246_267, U_ldc2_w, U_aload_n, U_getfield, U_i2l, U_ladd, U_lstore_n, U_iconst, U_istore_n, U_iload_n, U_icmp_gt, U_if_le, U_lload_n, U_lmul, U_invokevirtual2, U_iinc, U_goto, U_bipush, U_icmp_ge, U_invokevirtual3, U_istore, U_iload, U_iald, U_lreturn, UN_cc, UN_cn, UN_nc, UN_nn, UJ, lget, lset, lset2, entL, wsm, wcat, Option.toList_some, Option.toList_none, List.cons_append, List.nil_append, List.mem_cons, List.not_mem_nil, Prod.mk.injEq, or_false, false_or, or_true, true_or, and_true, true_and, and_false, false_and, and_self, ne_eq, not_false_eq_true, not_true_eq_false, forall_const, true_implies, false_implies, Nat.add_zero, Nat.zero_add, Nat.le_refl, Nat.zero_le, List.set_cons_zero, List.set_cons_succ, List.set_nil, ↓reduceIte, Nat.reduceAdd, Nat.reduceSub, Nat.reduceEqDiff, Nat.reduceLeDiff, Int.reduceEq, Int.reduceNe, Int.reduceNeg, reduceCtorEq, kd190]
    refine m_layWork (k := 1) (x := rg k) hM (u := 1) (v := 2) (by omega) (by omega) (by omega) (by omega) W1 x1 x2 x3 fun N2 M2 t2 => ?_
    have F2 : FM scK scL Ni N2 := (s1.f4.mo rfl rfl).tr (t2.fm.mo rfl rfl)
    have S2 : MS g f pu rg A tl E N2 := hS.sc F2 ⟨_, M2, fun g0 => by rw [upq_n (by omega), upq_n (by omega)]; exact h0 g0⟩
    have C2 : clF N N2 := hC.tr (F2.cl rfl)
    have nx := ih (k + 1) (0, 3) (0, (dg (rg k).2 : Int)) N2 (by omega) S2 C2
    have K2 := l_mdK (p := p) (N := N2) (Q := Q) (a := (rg k).2) (w := 2) (r := (k : Int)) (H := mxR (mxG H rg k) (rg k).1) M2 (upq_e _ _ _) (by
      refine WP.run [(246, 49)] [] 60 ?_
      simp only [bk246_0, bk246_12, bk246_20, bk246_27, bk246_47, bk246_49, bk246_55, bk246_71, bk246_77, bk246_80, bk246_92, bk246_114, bk246_120, bk246_126, bk246_128, bk246_136, bk246_143, bk246_144, bk246_147, bk246_167, bk246_169, bk246_175, bk246_195, bk246_197, bk246_205, bk246_225, bk246_239, bk246_247, bk246_267, U_ldc2_w, U_aload_n, U_getfield, U_i2l, U_ladd, U_lstore_n, U_iconst, U_istore_n, U_iload_n, U_icmp_gt, U_if_le, U_lload_n, U_lmul, U_invokevirtual2, U_iinc, U_goto, U_bipush, U_icmp_ge, U_invokevirtual3, U_istore, U_iload, U_iald, U_lreturn, UN_cc, UN_cn, UN_nc, UN_nn, UJ, lget, lset, lset2, entL, wsm, wcat, Option.toList_some, Option.toList_none, List.cons_append, List.nil_append, List.mem_cons, List.not_mem_nil, Prod.mk.injEq, or_false, false_or, or_true, true_or, and_true, true_and, and_false, false_and, and_self, ne_eq, not_false_eq_true, not_true_eq_false, forall_const, true_implies, false_implies, Nat.add_zero, Nat.zero_add, Nat.le_refl, Nat.zero_le, List.set_cons_zero, List.set_cons_succ, List.set_nil, ↓reduceIte, Nat.reduceAdd, Nat.reduceSub, Nat.reduceEqDiff, Nat.reduceLeDiff, Int.reduceEq, Int.reduceNe, Int.reduceNeg, reduceCtorEq]
      exact ⟨rr (by omega), fun e => absurd e (by omega), fun _ => nx⟩) (dg (rg k).2) 0 (by omega)
    have K1 := l_mdK (p := p) (N := N2) (Q := Q) (a := (rg k).1) (w := 1) (r := (k : Int)) (H := mxG H rg k) M2 (by rw [upq_n (by omega), upq_e]) (by
      refine WP.run [(246, 80)] [] 60 ?_
      simp only [bk246_0, bk246_12, bk246_20, bk246_27, bk246_47, bk246_49, bk246_55, bk246_71, bk246_77, bk246_80, bk246_92, bk246_114, bk246_120, bk246_126, bk246_128, bk246_136, bk246_143, bk246_144, bk246_147, bk246_167, bk246_169, bk246_175, bk246_195, bk246_197, bk246_205, bk246_225, bk246_239, bk246_247, bk246_267, U_ldc2_w, U_aload_n, U_getfield, U_i2l, U_ladd, U_lstore_n, U_iconst, U_istore_n, U_iload_n, U_icmp_gt, U_if_le, U_lload_n, U_lmul, U_invokevirtual2, U_iinc, U_goto, U_bipush, U_icmp_ge, U_invokevirtual3, U_istore, U_iload, U_iald, U_lreturn, UN_cc, UN_cn, UN_nc, UN_nn, UJ, lget, lset, lset2, entL, wsm, wcat, Option.toList_some, Option.toList_none, List.cons_append, List.nil_append, List.mem_cons, List.not_mem_nil, Prod.mk.injEq, or_false, false_or, or_true, true_or, and_true, true_and, and_false, false_and, and_self, ne_eq, not_false_eq_true, not_true_eq_false, forall_const, true_implies, false_implies, Nat.add_zero, Nat.zero_add, Nat.le_refl, Nat.zero_le, List.set_cons_zero, List.set_cons_succ, List.set_nil, ↓reduceIte, Nat.reduceAdd, Nat.reduceSub, Nat.reduceEqDiff, Nat.reduceLeDiff, Int.reduceEq, Int.reduceNe, Int.reduceNeg, reduceCtorEq]
      exact ⟨rr (by omega), fun _ => K2, fun e => absurd (by omega) e⟩) (dg (rg k).1) 0 (by omega)
    simp only [bk246_0, bk246_12, bk246_20, bk246_27, bk246_47, bk246_49, bk246_55, bk246_71, bk246_77, bk246_80, bk246_92, bk246_114, bk246_120, bk246_126, bk246_128, bk246_136, bk246_143, bk246_144, bk246_147, bk246_167, bk246_169, bk246_175, bk246_195, bk246_197, bk246_205, bk246_225, bk246_239, bk246_247, bk246_267, U_ldc2_w, U_aload_n, U_getfield, U_i2l, U_ladd, U_lstore_n, U_iconst, U_istore_n, U_iload_n, U_icmp_gt, U_if_le, U_lload_n, U_lmul, U_invokevirtual2, U_iinc, U_goto, U_bipush, U_icmp_ge, U_invokevirtual3, U_istore, U_iload, U_iald, U_lreturn, UN_cc, UN_cn, UN_nc, UN_nn, UJ, lget, lset, lset2, entL, wsm, wcat, Option.toList_some, Option.toList_none, List.cons_append, List.nil_append, List.mem_cons, List.not_mem_nil, Prod.mk.injEq, or_false, false_or, or_true, true_or, and_true, true_and, and_false, false_and, and_self, ne_eq, not_false_eq_true, not_true_eq_false, forall_const, true_implies, false_implies, Nat.add_zero, Nat.zero_add, Nat.le_refl, Nat.zero_le, List.set_cons_zero, List.set_cons_succ, List.set_nil, ↓reduceIte, Nat.reduceAdd, Nat.reduceSub, Nat.reduceEqDiff, Nat.reduceLeDiff, Int.reduceEq, Int.reduceNe, Int.reduceNeg, reduceCtorEq]
    refine WP.run [(246, 80)] [] 60 ?_
    simp only [bk246_0, bk246_12, bk246_20, bk246_27, bk246_47, bk246_49, bk246_55, bk246_71, bk246_77, bk246_80, bk246_92, bk246_114, bk246_120, bk246_126, bk246_128, bk246_136, bk246_143, bk246_144, bk246_147, bk246_167, bk246_169, bk246_175, bk246_195, bk246_197, bk246_205, bk246_225, bk246_239, bk246_247, bk246_267, U_ldc2_w, U_aload_n, U_getfield, U_i2l, U_ladd, U_lstore_n, U_iconst, U_istore_n, U_iload_n, U_icmp_gt, U_if_le, U_lload_n, U_lmul, U_invokevirtual2, U_iinc, U_goto, U_bipush, U_icmp_ge, U_invokevirtual3, U_istore, U_iload, U_iald, U_lreturn, UN_cc, UN_cn, UN_nc, UN_nn, UJ, lget, lset, lset2, entL, wsm, wcat, Option.toList_some, Option.toList_none, List.cons_append, List.nil_append, List.mem_cons, List.not_mem_nil, Prod.mk.injEq, or_false, false_or, or_true, true_or, and_true, true_and, and_false, false_and, and_self, ne_eq, not_false_eq_true, not_true_eq_false, forall_const, true_implies, false_implies, Nat.add_zero, Nat.zero_add, Nat.le_refl, Nat.zero_le, List.set_cons_zero, List.set_cons_succ, List.set_nil, ↓reduceIte, Nat.reduceAdd, Nat.reduceSub, Nat.reduceEqDiff, Nat.reduceLeDiff, Int.reduceEq, Int.reduceNe, Int.reduceNeg, reduceCtorEq]
    exact ⟨rr (by omega), fun _ => K1, fun e => absurd (by omega) e⟩
set_option maxHeartbeats 16000000 in
theorem q_digest {p : Int} {g : Nat} {f : Pz p} {pu : List Int} {rg : Nat → Pz p × Pz p} {A tl : Nat → Int} {E : Nat → Nat} {N : Mem} {Q : Post} (h : MS g f pu rg A tl E N) (V : VS g f pu rg A tl E) (hQ : ∀ N', MS g f pu rg A tl E N' → clF N N' → Q (some (1, dgst g f pu rg A tl E)) NN N') : CL 246 [(2, 190), (9, 0), (9, 0), (9, 0), (9, 0), (9, 0)] NN N Q := by
  have hp := V.1
  have hpp := hp.pos
  have hz := h.fz
  have hP := h.p0
  have cu := h.cu V
  have tail : ∀ H, H = (if g = 0 then 10757 + p else mxR (10757 + p) f) → ∀ b c, WP 246 (0, 0) 49 [(2, 190), (1, H), (9, 0), (0, 0), b, c] [] NN N Q := fun H hH b c => by
    refine l_mdR (N := N) (H := H) h V (fun N1 b c S1 C1 => ?_) 6 0 b c N rfl h (clF.rf N)
    have z1 := S1.fz
    refine l_mdA (H := mxG H rg 6) S1 V ?_ (nAm g f) 0 (by omega)
    refine l_mdT (H := mxS (mxG H rg 6) A (nAm g f)) hp z1 S1.2.2.2.2.2.1 V.2.2.2.2.1 ?_ 26 0 rfl
    refine l_mdV (H := mxS (mxS (mxG H rg 6) A (nAm g f)) tl 26) hp z1 S1.p0 S1.2.2.2.2.2.2.1 V.2.2.2.2.2.1 ?_ p.toNat 0 (by omega)
    have h4 := S1.2.2.1.1
    have hl := V.2.2.1.1
    have hq := hQ N1 S1 C1
    unfold dgst at hq
    rw [← hH] at hq
    refine WP.run [(246, 239)] [] 60 ?_
    simp only [bk246_0, bk246_12, bk246_20, bk246_27, bk246_47, bk246_49, bk246_55, bk246_71, bk246_77, bk246_80, bk246_92, bk246_114, bk246_120, bk246_126, bk246_128, bk246_136, bk246_143, bk246_144, bk246_147, bk246_167, bk246_169, bk246_175, bk246_195, bk246_197, bk246_205, bk246_225, bk246_239, bk246_247, bk246_267, U_ldc2_w, U_aload_n, U_getfield, U_i2l, U_ladd, U_lstore_n, U_iconst, U_istore_n, U_iload_n, U_icmp_gt, U_if_le, U_lload_n, U_lmul, U_invokevirtual2, U_iinc, U_goto, U_bipush, U_icmp_ge, U_invokevirtual3, U_istore, U_iload, U_iald, U_lreturn, UN_cc, UN_cn, UN_nc, UN_nn, UJ, lget, lset, lset2, entL, wsm, wcat, Option.toList_some, Option.toList_none, List.cons_append, List.nil_append, List.mem_cons, List.not_mem_nil, Prod.mk.injEq, or_false, false_or, or_true, true_or, and_true, true_and, and_false, false_and, and_self, ne_eq, not_false_eq_true, not_true_eq_false, forall_const, true_implies, false_implies, Nat.add_zero, Nat.zero_add, Nat.le_refl, Nat.zero_le, List.set_cons_zero, List.set_cons_succ, List.set_nil, ↓reduceIte, Nat.reduceAdd, Nat.reduceSub, Nat.reduceEqDiff, Nat.reduceLeDiff, Int.reduceEq, Int.reduceNe, Int.reduceNeg, reduceCtorEq, kd190, h4]
    refine ⟨r3 (by omega), ?_⟩
    exact l_mdP hp z1 h4 S1.2.2.1.2 V.2.2.1 hq pu.length 0 (by omega)
  refine WP.run [(246, 12)] [] 60 ?_
  simp only [bk246_0, bk246_12, bk246_20, bk246_27, bk246_47, bk246_49, bk246_55, bk246_71, bk246_77, bk246_80, bk246_92, bk246_114, bk246_120, bk246_126, bk246_128, bk246_136, bk246_143, bk246_144, bk246_147, bk246_167, bk246_169, bk246_175, bk246_195, bk246_197, bk246_205, bk246_225, bk246_239, bk246_247, bk246_267, U_ldc2_w, U_aload_n, U_getfield, U_i2l, U_ladd, U_lstore_n, U_iconst, U_istore_n, U_iload_n, U_icmp_gt, U_if_le, U_lload_n, U_lmul, U_invokevirtual2, U_iinc, U_goto, U_bipush, U_icmp_ge, U_invokevirtual3, U_istore, U_iload, U_iald, U_lreturn, UN_cc, UN_cn, UN_nc, UN_nn, UJ, lget, lset, lset2, entL, wsm, wcat, Option.toList_some, Option.toList_none, List.cons_append, List.nil_append, List.mem_cons, List.not_mem_nil, Prod.mk.injEq, or_false, false_or, or_true, true_or, and_true, true_and, and_false, false_and, and_self, ne_eq, not_false_eq_true, not_true_eq_false, forall_const, true_implies, false_implies, Nat.add_zero, Nat.zero_add, Nat.le_refl, Nat.zero_le, List.set_cons_zero, List.set_cons_succ, List.set_nil, ↓reduceIte, Nat.reduceAdd, Nat.reduceSub, Nat.reduceEqDiff, Nat.reduceLeDiff, Int.reduceEq, Int.reduceNe, Int.reduceNeg, reduceCtorEq, kd190, hP]
  refine ⟨r3 (by omega), ?_⟩
  by_cases q : g = 0
  · have c1 : N 190 1 = 0 := by
      rcases h.2.1 with ⟨-, c1, -⟩ | ⟨w, -⟩
      · exact c1
      · omega
    refine WP.run [(246, 49)] [] 60 ?_
    simp only [bk246_0, bk246_12, bk246_20, bk246_27, bk246_47, bk246_49, bk246_55, bk246_71, bk246_77, bk246_80, bk246_92, bk246_114, bk246_120, bk246_126, bk246_128, bk246_136, bk246_143, bk246_144, bk246_147, bk246_167, bk246_169, bk246_175, bk246_195, bk246_197, bk246_205, bk246_225, bk246_239, bk246_247, bk246_267, U_ldc2_w, U_aload_n, U_getfield, U_i2l, U_ladd, U_lstore_n, U_iconst, U_istore_n, U_iload_n, U_icmp_gt, U_if_le, U_lload_n, U_lmul, U_invokevirtual2, U_iinc, U_goto, U_bipush, U_icmp_ge, U_invokevirtual3, U_istore, U_iload, U_iald, U_lreturn, UN_cc, UN_cn, UN_nc, UN_nn, UJ, lget, lset, lset2, entL, wsm, wcat, Option.toList_some, Option.toList_none, List.cons_append, List.nil_append, List.mem_cons, List.not_mem_nil, Prod.mk.injEq, or_false, false_or, or_true, true_or, and_true, true_and, and_false, false_and, and_self, ne_eq, not_false_eq_true, not_true_eq_false, forall_const, true_implies, false_implies, Nat.add_zero, Nat.zero_add, Nat.le_refl, Nat.zero_le, List.set_cons_zero, List.set_cons_succ, List.set_nil, ↓reduceIte, Nat.reduceAdd, Nat.reduceSub, Nat.reduceEqDiff, Nat.reduceLeDiff, Int.reduceEq, Int.reduceNe, Int.reduceNeg, reduceCtorEq, kd190, c1]
    refine ⟨rr (by omega), fun e => absurd e (by omega), fun _ => ⟨r3 (by omega), fun e => absurd e (by omega), fun _ => ?_⟩⟩
    exact tail _ (by rw [if_pos q]) _ _
  · obtain ⟨G, -⟩ := h.mg q
    have c1 := G.2.1
    obtain ⟨⟨μ, hM, h0⟩, -⟩ := G
    have hd := (V.d6 q).1
    have hd2 := (V.cv q).2.2.1.2.1
    have key : ∀ (n k : Nat), k + n = dg f → WP 246 (0, 0) 12 [(2, 190), (1, mxS (10757 + p) f.1 k), (9, 0), (0, (k : Int)), (9, 0), (9, 0)] [] NN N Q := by
      intro n
      induction n with
      | zero =>
        intro k hk
        obtain rfl : k = dg f := by omega
        refine WP.run [(246, 12), (246, 49)] [] 60 ?_
        simp only [bk246_0, bk246_12, bk246_20, bk246_27, bk246_47, bk246_49, bk246_55, bk246_71, bk246_77, bk246_80, bk246_92, bk246_114, bk246_120, bk246_126, bk246_128, bk246_136, bk246_143, bk246_144, bk246_147, bk246_167, bk246_169, bk246_175, bk246_195, bk246_197, bk246_205, bk246_225, bk246_239, bk246_247, bk246_267, U_ldc2_w, U_aload_n, U_getfield, U_i2l, U_ladd, U_lstore_n, U_iconst, U_istore_n, U_iload_n, U_icmp_gt, U_if_le, U_lload_n, U_lmul, U_invokevirtual2, U_iinc, U_goto, U_bipush, U_icmp_ge, U_invokevirtual3, U_istore, U_iload, U_iald, U_lreturn, UN_cc, UN_cn, UN_nc, UN_nn, UJ, lget, lset, lset2, entL, wsm, wcat, Option.toList_some, Option.toList_none, List.cons_append, List.nil_append, List.mem_cons, List.not_mem_nil, Prod.mk.injEq, or_false, false_or, or_true, true_or, and_true, true_and, and_false, false_and, and_self, ne_eq, not_false_eq_true, not_true_eq_false, forall_const, true_implies, false_implies, Nat.add_zero, Nat.zero_add, Nat.le_refl, Nat.zero_le, List.set_cons_zero, List.set_cons_succ, List.set_nil, ↓reduceIte, Nat.reduceAdd, Nat.reduceSub, Nat.reduceEqDiff, Nat.reduceLeDiff, Int.reduceEq, Int.reduceNe, Int.reduceNeg, reduceCtorEq, kd190, c1]
        exact ⟨rr (by omega), fun _ => tail _ (by rw [if_neg q]; rfl) _ _, fun e => absurd (by omega) e⟩
      | succ n ih =>
        intro k hk
        have ha := pz_rg hp f k
        refine WP.run [(246, 12), (246, 49)] [] 60 ?_
        simp only [bk246_0, bk246_12, bk246_20, bk246_27, bk246_47, bk246_49, bk246_55, bk246_71, bk246_77, bk246_80, bk246_92, bk246_114, bk246_120, bk246_126, bk246_128, bk246_136, bk246_143, bk246_144, bk246_147, bk246_167, bk246_169, bk246_175, bk246_195, bk246_197, bk246_205, bk246_225, bk246_239, bk246_247, bk246_267, U_ldc2_w, U_aload_n, U_getfield, U_i2l, U_ladd, U_lstore_n, U_iconst, U_istore_n, U_iload_n, U_icmp_gt, U_if_le, U_lload_n, U_lmul, U_invokevirtual2, U_iinc, U_goto, U_bipush, U_icmp_ge, U_invokevirtual3, U_istore, U_iload, U_iald, U_lreturn, UN_cc, UN_cn, UN_nc, UN_nn, UJ, lget, lset, lset2, entL, wsm, wcat, Option.toList_some, Option.toList_none, List.cons_append, List.nil_append, List.mem_cons, List.not_mem_nil, Prod.mk.injEq, or_false, false_or, or_true, true_or, and_true, true_and, and_false, false_and, and_self, ne_eq, not_false_eq_true, not_true_eq_false, forall_const, true_implies, false_implies, Nat.add_zero, Nat.zero_add, Nat.le_refl, Nat.zero_le, List.set_cons_zero, List.set_cons_succ, List.set_nil, ↓reduceIte, Nat.reduceAdd, Nat.reduceSub, Nat.reduceEqDiff, Nat.reduceLeDiff, Int.reduceEq, Int.reduceNe, Int.reduceNeg, reduceCtorEq, kd190, c1]
        refine ⟨rr (by omega), fun e => absurd e (by omega), fun _ => ⟨r3 (by omega), fun _ => m_get hM h0 (r3 (by omega)) ?_, fun e => absurd (by omega) e⟩⟩
        rw [if_pos (by omega), Int.toNat_natCast]
        simp only [bk246_0, bk246_12, bk246_20, bk246_27, bk246_47, bk246_49, bk246_55, bk246_71, bk246_77, bk246_80, bk246_92, bk246_114, bk246_120, bk246_126, bk246_128, bk246_136, bk246_143, bk246_144, bk246_147, bk246_167, bk246_169, bk246_175, bk246_195, bk246_197, bk246_205, bk246_225, bk246_239, bk246_247, bk246_267, U_ldc2_w, U_aload_n, U_getfield, U_i2l, U_ladd, U_lstore_n, U_iconst, U_istore_n, U_iload_n, U_icmp_gt, U_if_le, U_lload_n, U_lmul, U_invokevirtual2, U_iinc, U_goto, U_bipush, U_icmp_ge, U_invokevirtual3, U_istore, U_iload, U_iald, U_lreturn, UN_cc, UN_cn, UN_nc, UN_nn, UJ, lget, lset, lset2, entL, wsm, wcat, Option.toList_some, Option.toList_none, List.cons_append, List.nil_append, List.mem_cons, List.not_mem_nil, Prod.mk.injEq, or_false, false_or, or_true, true_or, and_true, true_and, and_false, false_and, and_self, ne_eq, not_false_eq_true, not_true_eq_false, forall_const, true_implies, false_implies, Nat.add_zero, Nat.zero_add, Nat.le_refl, Nat.zero_le, List.set_cons_zero, List.set_cons_succ, List.set_nil, ↓reduceIte, Nat.reduceAdd, Nat.reduceSub, Nat.reduceEqDiff, Nat.reduceLeDiff, Int.reduceEq, Int.reduceNe, Int.reduceNeg, reduceCtorEq]
        refine ⟨r3 (by omega), ?_⟩
        exact ih (k + 1) (by omega)
    exact key (dg f) 0 (by omega)
