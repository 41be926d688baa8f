/-! CALLS OF THE CLASS: the digest -/
/-- n numbers mixed in -/
def mxS (h : Int) (F : Nat → Int) : Nat → Int
  | 0 => h
  | k + 1 => 31 * mxS h F k + F k
noncomputable def mxR {p : Int} (h : Int) (a : Pz p) : Int := mxS h a.1 (dg a)
noncomputable def mxG {p : Int} (h : Int) (rg : Nat → Pz p × Pz p) : Nat → Int
  | 0 => h
  | k + 1 => mxR (mxR (mxG h rg k) (rg k).1) (rg k).2
/-- amounts that count: the places there are -/
noncomputable def nAm {p : Int} (g : Nat) (f : Pz p) : Nat := if g = 0 then 1 else (ptl f p.toNat).length + 1
noncomputable def dgst {p : Int} (g : Nat) (f : Pz p) (pu : List Int) (rg : Nat → Pz p × Pz p) (A tl : Nat → Int) (E : Nat → Nat) : Int :=
  mxS (31 * mxS (mxS (mxS (mxG (if g = 0 then 10757 + p else mxR (10757 + p) f) rg 6) A (nAm g f)) tl 26) (fun a => (E a : Int)) p.toNat + (pu.length : Int)) (fun i => pu.getD i 0) pu.length
set_option maxHeartbeats 8000000 in
theorem l_mixR {p : Int} (hp : Pr p) {N : Mem} {Q : Post} {r c h : Int} {a : Pz p} (hr : RP N r c a) (hQ : Q (some (1, mxR h a)) NN N) : ∀ (n k : Nat), k + n = dg a → WP 154 (0, 0) 5 [(1, h), (9, 0), (2, r), (1, mxS h a.1 k), (9, 0), (0, (k : Int))] [] NN N Q := by
  have h8 := hr.2.2.1
  intro n
  induction n with
  | zero =>
    intro k hk
    obtain rfl : k = dg a := by omega
    refine WP.run [(154, 5)] [] 60 ?_
    simp only [bk154_0, bk154_5, bk154_14, bk154_34, U_lload_n, U_lstore_n, U_iconst, U_istore, U_iload, U_aload_n, U_getfield, U_icmp_gt, U_ldc2_w, U_lmul, U_invokevirtual1, U_i2l, U_ladd, U_iinc, U_goto, U_lreturn, UN_cc, UN_cn, UN_nc, UN_nn, UJ, lget, lset, lset2, entL, wsm, wcat, Option.toList_some, Option.toList_none, List.cons_append, List.nil_append, List.mem_cons, List.not_mem_nil, Prod.mk.injEq, or_false, false_or, or_true, true_or, and_true, true_and, and_false, false_and, and_self, ne_eq, not_false_eq_true, not_true_eq_false, forall_const, true_implies, false_implies, Nat.add_zero, Nat.zero_add, Nat.le_refl, Nat.zero_le, List.set_cons_zero, List.set_cons_succ, List.set_nil, ↓reduceIte, Nat.reduceAdd, Nat.reduceSub, Nat.reduceEqDiff, Nat.reduceLeDiff, Int.reduceEq, Int.reduceNe, Int.reduceNeg, reduceCtorEq, hr.1.1.1, hr.2.2.2, hr.1.1.c0]
    exact ⟨rr (by omega), fun _ => hQ, fun e => absurd (by omega) e⟩
  | succ n ih =>
    intro k hk
    refine WP.run [(154, 5)] [] 60 ?_
    simp only [bk154_0, bk154_5, bk154_14, bk154_34, U_lload_n, U_lstore_n, U_iconst, U_istore, U_iload, U_aload_n, U_getfield, U_icmp_gt, U_ldc2_w, U_lmul, U_invokevirtual1, U_i2l, U_ladd, U_iinc, U_goto, U_lreturn, UN_cc, UN_cn, UN_nc, UN_nn, UJ, lget, lset, lset2, entL, wsm, wcat, Option.toList_some, Option.toList_none, List.cons_append, List.nil_append, List.mem_cons, List.not_mem_nil, Prod.mk.injEq, or_false, false_or, or_true, true_or, and_true, true_and, and_false, false_and, and_self, ne_eq, not_false_eq_true, not_true_eq_false, forall_const, true_implies, false_implies, Nat.add_zero, Nat.zero_add, Nat.le_refl, Nat.zero_le, List.set_cons_zero, List.set_cons_succ, List.set_nil, ↓reduceIte, Nat.reduceAdd, Nat.reduceSub, Nat.reduceEqDiff, Nat.reduceLeDiff, Int.reduceEq, Int.reduceNe, Int.reduceNeg, reduceCtorEq, hr.1.1.1, hr.2.2.2, hr.1.1.c0]
    refine ⟨rr (by omega), fun e => absurd e (by omega), fun _ => c_get hr (r3 (by omega)) ?_⟩
    rw [if_pos (by omega), Int.toNat_natCast]
    simp only [bk154_0, bk154_5, bk154_14, bk154_34, U_lload_n, U_lstore_n, U_iconst, U_istore, U_iload, U_aload_n, U_getfield, U_icmp_gt, U_ldc2_w, U_lmul, U_invokevirtual1, U_i2l, U_ladd, U_iinc, U_goto, U_lreturn, UN_cc, UN_cn, UN_nc, UN_nn, UJ, lget, lset, lset2, entL, wsm, wcat, Option.toList_some, Option.toList_none, List.cons_append, List.nil_append, List.mem_cons, List.not_mem_nil, Prod.mk.injEq, or_false, false_or, or_true, true_or, and_true, true_and, and_false, false_and, and_self, ne_eq, not_false_eq_true, not_true_eq_false, forall_const, true_implies, false_implies, Nat.add_zero, Nat.zero_add, Nat.le_refl, Nat.zero_le, List.set_cons_zero, List.set_cons_succ, List.set_nil, ↓reduceIte, Nat.reduceAdd, Nat.reduceSub, Nat.reduceEqDiff, Nat.reduceLeDiff, Int.reduceEq, Int.reduceNe, Int.reduceNeg, reduceCtorEq]
    exact ⟨r3 (by have := a.2.1 k; have := hp.pos; have := Int.emod_nonneg (a.1 k) (show p ≠ 0 by omega); have := Int.emod_lt_of_pos (a.1 k) (show 0 < p by omega); omega), ih (k + 1) (by omega)⟩
set_option maxHeartbeats 8000000 in
theorem c_mixR {p : Int} (hp : Pr p) {N : Mem} {Q : Post} {r c h : Int} {a : Pz p} (hr : RP N r c a) (hQ : Q (some (1, mxR h a)) NN N) : CL 154 [(1, h), (9, 0), (2, r), (9, 0), (9, 0), (9, 0)] NN N Q := by
  refine WP.run [(154, 5)] [] 60 ?_
  simp only [bk154_0, bk154_5, bk154_14, bk154_34, U_lload_n, U_lstore_n, U_iconst, U_istore, U_iload, U_aload_n, U_getfield, U_icmp_gt, U_ldc2_w, U_lmul, U_invokevirtual1, U_i2l, U_ladd, U_iinc, U_goto, U_lreturn, UN_cc, UN_cn, UN_nc, UN_nn, UJ, lget, lset, lset2, entL, wsm, wcat, Option.toList_some, Option.toList_none, List.cons_append, List.nil_append, List.mem_cons, List.not_mem_nil, Prod.mk.injEq, or_false, false_or, or_true, true_or, and_true, true_and, and_false, false_and, and_self, ne_eq, not_false_eq_true, not_true_eq_false, forall_const, true_implies, false_implies, Nat.add_zero, Nat.zero_add, Nat.le_refl, Nat.zero_le, List.set_cons_zero, List.set_cons_succ, List.set_nil, ↓reduceIte, Nat.reduceAdd, Nat.reduceSub, Nat.reduceEqDiff, Nat.reduceLeDiff, Int.reduceEq, Int.reduceNe, Int.reduceNeg, reduceCtorEq]
  exact l_mixR hp hr hQ (dg a) 0 (by omega)

set_option maxHeartbeats 8000000 in
theorem l_dgR {p : Int} {N : Mem} {ρ : Int → Option (Pz p)} {Q : Post} {h : Int} {rg : Nat → Pz p × Pz p} (S : ST p N ρ) (R : ∀ r : Nat, r < 6 → PH ρ (58 + 5 * (r : Int)) (rg r)) (hQ : ∀ x, WP 155 (0, 0) 75 [(2, 1), (1, mxG h rg 6), (9, 0), (0, 6), x] [] NN N Q) : ∀ (n r : Nat) (x : V), r + n = 6 → WP 155 (0, 0) 37 [(2, 1), (1, mxG h rg r), (9, 0), (0, (r : Int)), x] [] NN N Q := by
  intro n
  induction n with
  | zero =>
    intro r x hr
    obtain rfl : r = 6 := by omega
    refine WP.run [(155, 37), (155, 75)] [] 60 ?_
    simp only [bk155_0, bk155_23, bk155_35, bk155_37, bk155_43, bk155_75, bk155_85, bk155_95, bk155_96, bk155_100, bk155_106, bk155_129, bk155_132, bk155_139, bk155_162, bk155_165, bk155_177, bk155_200, bk155_215, bk155_224, bk155_231, bk155_252, U_ldc2_w, U_aload_n, U_getfield, U_i2l, U_ladd, U_lstore_n, U_invokevirtual0, U_if_eq, U_lload_n, U_invokestatic2, U_iconst, U_istore_n, U_iload_n, U_bipush, U_icmp_ge, U_aald, U_iinc, U_goto, U_istore, U_iload, U_lmul, U_invokevirtual1, U_iald, U_lreturn, UN_cc, UN_cn, UN_nc, UN_nn, UJ, lget, lset, lset2, entL, wsm, wcat, Option.toList_some, Option.toList_none, List.cons_append, List.nil_append, List.mem_cons, List.not_mem_nil, Prod.mk.injEq, or_false, false_or, or_true, true_or, and_true, true_and, and_false, false_and, and_self, ne_eq, not_false_eq_true, not_true_eq_false, forall_const, true_implies, false_implies, Nat.add_zero, Nat.zero_add, Nat.le_refl, Nat.zero_le, List.set_cons_zero, List.set_cons_succ, List.set_nil, ↓reduceIte, Nat.reduceAdd, Nat.reduceSub, Nat.reduceEqDiff, Nat.reduceLeDiff, Int.reduceEq, Int.reduceNe, Int.reduceNeg, reduceCtorEq]
    exact ⟨rr (by omega), fun e => absurd e (by omega), fun _ => hQ _⟩
  | succ n ih =>
    intro r x hr
    have z1 := z57 S.1.1 (r : Int) (by omega) (by omega)
    have n0 : ¬ (58 + 5 * (r : Int) = 0) := by omega
    have n1 : ¬ (58 + 5 * (r : Int) + 1 = 0) := by omega
    have n3 : ¬ (58 + 5 * (r : Int) + 3 = 0) := by omega
    have kp := kdR (r := (r : Int)) (by omega) (by omega)
    have hz := zpr S.1.1 kp
    obtain ⟨p1, p2⟩ := R r (by omega)
    refine WP.run [(155, 37), (155, 75)] [] 60 ?_
    simp only [bk155_0, bk155_23, bk155_35, bk155_37, bk155_43, bk155_75, bk155_85, bk155_95, bk155_96, bk155_100, bk155_106, bk155_129, bk155_132, bk155_139, bk155_162, bk155_165, bk155_177, bk155_200, bk155_215, bk155_224, bk155_231, bk155_252, U_ldc2_w, U_aload_n, U_getfield, U_i2l, U_ladd, U_lstore_n, U_invokevirtual0, U_if_eq, U_lload_n, U_invokestatic2, U_iconst, U_istore_n, U_iload_n, U_bipush, U_icmp_ge, U_aald, U_iinc, U_goto, U_istore, U_iload, U_lmul, U_invokevirtual1, U_iald, U_lreturn, UN_cc, UN_cn, UN_nc, UN_nn, UJ, lget, lset, lset2, entL, wsm, wcat, Option.toList_some, Option.toList_none, List.cons_append, List.nil_append, List.mem_cons, List.not_mem_nil, Prod.mk.injEq, or_false, false_or, or_true, true_or, and_true, true_and, and_false, false_and, and_self, ne_eq, not_false_eq_true, not_true_eq_false, forall_const, true_implies, false_implies, Nat.add_zero, Nat.zero_add, Nat.le_refl, Nat.zero_le, List.set_cons_zero, List.set_cons_succ, List.set_nil, ↓reduceIte, Nat.reduceAdd, Nat.reduceSub, Nat.reduceEqDiff, Nat.reduceLeDiff, Int.reduceEq, Int.reduceNe, Int.reduceNeg, reduceCtorEq, kd1, kd57, ln57, z1_6 S.1.1, z1, n0, n1, n3, kd_of kp (by decide), hz.1, hz.2.1]
    refine ⟨rr (by omega), fun _ => ⟨by omega, by omega, c_mixR S.1.2.1 (S.rp hz.2.2.1 p1) ?_⟩, fun e => absurd (by omega) e⟩
    simp only [bk155_0, bk155_23, bk155_35, bk155_37, bk155_43, bk155_75, bk155_85, bk155_95, bk155_96, bk155_100, bk155_106, bk155_129, bk155_132, bk155_139, bk155_162, bk155_165, bk155_177, bk155_200, bk155_215, bk155_224, bk155_231, bk155_252, U_ldc2_w, U_aload_n, U_getfield, U_i2l, U_ladd, U_lstore_n, U_invokevirtual0, U_if_eq, U_lload_n, U_invokestatic2, U_iconst, U_istore_n, U_iload_n, U_bipush, U_icmp_ge, U_aald, U_iinc, U_goto, U_istore, U_iload, U_lmul, U_invokevirtual1, U_iald, U_lreturn, UN_cc, UN_cn, UN_nc, UN_nn, UJ, lget, lset, lset2, entL, wsm, wcat, Option.toList_some, Option.toList_none, List.cons_append, List.nil_append, List.mem_cons, List.not_mem_nil, Prod.mk.injEq, or_false, false_or, or_true, true_or, and_true, true_and, and_false, false_and, and_self, ne_eq, not_false_eq_true, not_true_eq_false, forall_const, true_implies, false_implies, Nat.add_zero, Nat.zero_add, Nat.le_refl, Nat.zero_le, List.set_cons_zero, List.set_cons_succ, List.set_nil, ↓reduceIte, Nat.reduceAdd, Nat.reduceSub, Nat.reduceEqDiff, Nat.reduceLeDiff, Int.reduceEq, Int.reduceNe, Int.reduceNeg, reduceCtorEq, kd1, kd57, ln57, z1_6 S.1.1, z1, n0, n1, n3, kd_of kp (by decide), hz.1, hz.2.1]
    refine ⟨by omega, by omega, c_mixR S.1.2.1 (S.rp hz.2.2.2.1 p2) ?_⟩
    simp only [bk155_0, bk155_23, bk155_35, bk155_37, bk155_43, bk155_75, bk155_85, bk155_95, bk155_96, bk155_100, bk155_106, bk155_129, bk155_132, bk155_139, bk155_162, bk155_165, bk155_177, bk155_200, bk155_215, bk155_224, bk155_231, bk155_252, U_ldc2_w, U_aload_n, U_getfield, U_i2l, U_ladd, U_lstore_n, U_invokevirtual0, U_if_eq, U_lload_n, U_invokestatic2, U_iconst, U_istore_n, U_iload_n, U_bipush, U_icmp_ge, U_aald, U_iinc, U_goto, U_istore, U_iload, U_lmul, U_invokevirtual1, U_iald, U_lreturn, UN_cc, UN_cn, UN_nc, UN_nn, UJ, lget, lset, lset2, entL, wsm, wcat, Option.toList_some, Option.toList_none, List.cons_append, List.nil_append, List.mem_cons, List.not_mem_nil, Prod.mk.injEq, or_false, false_or, or_true, true_or, and_true, true_and, and_false, false_and, and_self, ne_eq, not_false_eq_true, not_true_eq_false, forall_const, true_implies, false_implies, Nat.add_zero, Nat.zero_add, Nat.le_refl, Nat.zero_le, List.set_cons_zero, List.set_cons_succ, List.set_nil, ↓reduceIte, Nat.reduceAdd, Nat.reduceSub, Nat.reduceEqDiff, Nat.reduceLeDiff, Int.reduceEq, Int.reduceNe, Int.reduceNeg, reduceCtorEq]
    exact ih (r + 1) x (by omega)
set_option maxHeartbeats 8000000 in
theorem l_dgA {p : Int} {N : Mem} {Q : Post} {h : Int} {A : Nat → Int} {m : Nat} (hz : Fz N) (hA : AmA N A) (hm : m ≤ 27) (hQ : WP 155 (0, 0) 132 [(2, 1), (1, mxS h A m), (9, 0), (0, (m : Int)), (0, 0)] [] NN N Q) : ∀ (n k : Nat), k + n = m → WP 155 (0, 0) 100 [(2, 1), (1, mxS h A k), (9, 0), (0, (m : Int)), (0, (k : Int))] [] NN N Q := by
  intro n
  induction n with
  | zero =>
    intro k hk
    obtain rfl : k = m := by omega
    refine WP.run [(155, 100), (155, 132)] [] 60 ?_
    simp only [bk155_0, bk155_23, bk155_35, bk155_37, bk155_43, bk155_75, bk155_85, bk155_95, bk155_96, bk155_100, bk155_106, bk155_129, bk155_132, bk155_139, bk155_162, bk155_165, bk155_177, bk155_200, bk155_215, bk155_224, bk155_231, bk155_252, U_ldc2_w, U_aload_n, U_getfield, U_i2l, U_ladd, U_lstore_n, U_invokevirtual0, U_if_eq, U_lload_n, U_invokestatic2, U_iconst, U_istore_n, U_iload_n, U_bipush, U_icmp_ge, U_aald, U_iinc, U_goto, U_istore, U_iload, U_lmul, U_invokevirtual1, U_iald, U_lreturn, UN_cc, UN_cn, UN_nc, UN_nn, UJ, lget, lset, lset2, entL, wsm, wcat, Option.toList_some, Option.toList_none, List.cons_append, List.nil_append, List.mem_cons, List.not_mem_nil, Prod.mk.injEq, or_false, false_or, or_true, true_or, and_true, true_and, and_false, false_and, and_self, ne_eq, not_false_eq_true, not_true_eq_false, forall_const, true_implies, false_implies, Nat.add_zero, Nat.zero_add, Nat.le_refl, Nat.zero_le, List.set_cons_zero, List.set_cons_succ, List.set_nil, ↓reduceIte, Nat.reduceAdd, Nat.reduceSub, Nat.reduceEqDiff, Nat.reduceLeDiff, Int.reduceEq, Int.reduceNe, Int.reduceNeg, reduceCtorEq]
    exact ⟨rr (by omega), fun e => absurd e (by omega), fun _ => hQ⟩
  | succ n ih =>
    intro k hk
    have hb := hA.rg k
    refine WP.run [(155, 100), (155, 132)] [] 60 ?_
    simp only [bk155_0, bk155_23, bk155_35, bk155_37, bk155_43, bk155_75, bk155_85, bk155_95, bk155_96, bk155_100, bk155_106, bk155_129, bk155_132, bk155_139, bk155_162, bk155_165, bk155_177, bk155_200, bk155_215, bk155_224, bk155_231, bk155_252, U_ldc2_w, U_aload_n, U_getfield, U_i2l, U_ladd, U_lstore_n, U_invokevirtual0, U_if_eq, U_lload_n, U_invokestatic2, U_iconst, U_istore_n, U_iload_n, U_bipush, U_icmp_ge, U_aald, U_iinc, U_goto, U_istore, U_iload, U_lmul, U_invokevirtual1, U_iald, U_lreturn, UN_cc, UN_cn, UN_nc, UN_nn, UJ, lget, lset, lset2, entL, wsm, wcat, Option.toList_some, Option.toList_none, List.cons_append, List.nil_append, List.mem_cons, List.not_mem_nil, Prod.mk.injEq, or_false, false_or, or_true, true_or, and_true, true_and, and_false, false_and, and_self, ne_eq, not_false_eq_true, not_true_eq_false, forall_const, true_implies, false_implies, Nat.add_zero, Nat.zero_add, Nat.le_refl, Nat.zero_le, List.set_cons_zero, List.set_cons_succ, List.set_nil, ↓reduceIte, Nat.reduceAdd, Nat.reduceSub, Nat.reduceEqDiff, Nat.reduceLeDiff, Int.reduceEq, Int.reduceNe, Int.reduceNeg, reduceCtorEq, kd1, kd108, z1_9 hz]
    refine ⟨rr (by omega), fun _ => c_roGet hz hA (by omega) ?_, fun e => absurd (by omega) e⟩
    simp only [bk155_0, bk155_23, bk155_35, bk155_37, bk155_43, bk155_75, bk155_85, bk155_95, bk155_96, bk155_100, bk155_106, bk155_129, bk155_132, bk155_139, bk155_162, bk155_165, bk155_177, bk155_200, bk155_215, bk155_224, bk155_231, bk155_252, U_ldc2_w, U_aload_n, U_getfield, U_i2l, U_ladd, U_lstore_n, U_invokevirtual0, U_if_eq, U_lload_n, U_invokestatic2, U_iconst, U_istore_n, U_iload_n, U_bipush, U_icmp_ge, U_aald, U_iinc, U_goto, U_istore, U_iload, U_lmul, U_invokevirtual1, U_iald, U_lreturn, UN_cc, UN_cn, UN_nc, UN_nn, UJ, lget, lset, lset2, entL, wsm, wcat, Option.toList_some, Option.toList_none, List.cons_append, List.nil_append, List.mem_cons, List.not_mem_nil, Prod.mk.injEq, or_false, false_or, or_true, true_or, and_true, true_and, and_false, false_and, and_self, ne_eq, not_false_eq_true, not_true_eq_false, forall_const, true_implies, false_implies, Nat.add_zero, Nat.zero_add, Nat.le_refl, Nat.zero_le, List.set_cons_zero, List.set_cons_succ, List.set_nil, ↓reduceIte, Nat.reduceAdd, Nat.reduceSub, Nat.reduceEqDiff, Nat.reduceLeDiff, Int.reduceEq, Int.reduceNe, Int.reduceNeg, reduceCtorEq]
    exact ⟨r3 (by omega), ih (k + 1) (by omega)⟩
set_option maxHeartbeats 8000000 in
theorem l_dgT {p : Int} {N : Mem} {Q : Post} {h : Int} {tl : Nat → Int} (hp : Pr p) (hz : Fz N) (hT : TdA N tl) (hb : ∀ j, 0 ≤ tl j ∧ tl j < p) {x : Int} (hQ : WP 155 (0, 0) 165 [(2, 1), (1, mxS h tl 26), (9, 0), (0, x), (0, 0)] [] NN N Q) : ∀ (n k : Nat), k + n = 26 → WP 155 (0, 0) 132 [(2, 1), (1, mxS h tl k), (9, 0), (0, x), (0, (k : Int))] [] NN N Q := by
  have hpp := hp.pos
  intro n
  induction n with
  | zero =>
    intro k hk
    obtain rfl : k = 26 := by omega
    refine WP.run [(155, 132), (155, 165)] [] 60 ?_
    simp only [bk155_0, bk155_23, bk155_35, bk155_37, bk155_43, bk155_75, bk155_85, bk155_95, bk155_96, bk155_100, bk155_106, bk155_129, bk155_132, bk155_139, bk155_162, bk155_165, bk155_177, bk155_200, bk155_215, bk155_224, bk155_231, bk155_252, U_ldc2_w, U_aload_n, U_getfield, U_i2l, U_ladd, U_lstore_n, U_invokevirtual0, U_if_eq, U_lload_n, U_invokestatic2, U_iconst, U_istore_n, U_iload_n, U_bipush, U_icmp_ge, U_aald, U_iinc, U_goto, U_istore, U_iload, U_lmul, U_invokevirtual1, U_iald, U_lreturn, UN_cc, UN_cn, UN_nc, UN_nn, UJ, lget, lset, lset2, entL, wsm, wcat, Option.toList_some, Option.toList_none, List.cons_append, List.nil_append, List.mem_cons, List.not_mem_nil, Prod.mk.injEq, or_false, false_or, or_true, true_or, and_true, true_and, and_false, false_and, and_self, ne_eq, not_false_eq_true, not_true_eq_false, forall_const, true_implies, false_implies, Nat.add_zero, Nat.zero_add, Nat.le_refl, Nat.zero_le, List.set_cons_zero, List.set_cons_succ, List.set_nil, ↓reduceIte, Nat.reduceAdd, Nat.reduceSub, Nat.reduceEqDiff, Nat.reduceLeDiff, Int.reduceEq, Int.reduceNe, Int.reduceNeg, reduceCtorEq]
    exact ⟨rr (by omega), fun e => absurd e (by omega), fun _ => hQ⟩
  | succ n ih =>
    intro k hk
    have hb := hb k
    refine WP.run [(155, 132), (155, 165)] [] 60 ?_
    simp only [bk155_0, bk155_23, bk155_35, bk155_37, bk155_43, bk155_75, bk155_85, bk155_95, bk155_96, bk155_100, bk155_106, bk155_129, bk155_132, bk155_139, bk155_162, bk155_165, bk155_177, bk155_200, bk155_215, bk155_224, bk155_231, bk155_252, U_ldc2_w, U_aload_n, U_getfield, U_i2l, U_ladd, U_lstore_n, U_invokevirtual0, U_if_eq, U_lload_n, U_invokestatic2, U_iconst, U_istore_n, U_iload_n, U_bipush, U_icmp_ge, U_aald, U_iinc, U_goto, U_istore, U_iload, U_lmul, U_invokevirtual1, U_iald, U_lreturn, UN_cc, UN_cn, UN_nc, UN_nn, UJ, lget, lset, lset2, entL, wsm, wcat, Option.toList_some, Option.toList_none, List.cons_append, List.nil_append, List.mem_cons, List.not_mem_nil, Prod.mk.injEq, or_false, false_or, or_true, true_or, and_true, true_and, and_false, false_and, and_self, ne_eq, not_false_eq_true, not_true_eq_false, forall_const, true_implies, false_implies, Nat.add_zero, Nat.zero_add, Nat.le_refl, Nat.zero_le, List.set_cons_zero, List.set_cons_succ, List.set_nil, ↓reduceIte, Nat.reduceAdd, Nat.reduceSub, Nat.reduceEqDiff, Nat.reduceLeDiff, Int.reduceEq, Int.reduceNe, Int.reduceNeg, reduceCtorEq, kd1, kd120, z1_10 hz]
    refine ⟨rr (by omega), fun _ => c_toldAt hz (by omega) ?_, fun e => absurd (by omega) e⟩
    rw [hT k (by omega)]
    simp only [bk155_0, bk155_23, bk155_35, bk155_37, bk155_43, bk155_75, bk155_85, bk155_95, bk155_96, bk155_100, bk155_106, bk155_129, bk155_132, bk155_139, bk155_162, bk155_165, bk155_177, bk155_200, bk155_215, bk155_224, bk155_231, bk155_252, U_ldc2_w, U_aload_n, U_getfield, U_i2l, U_ladd, U_lstore_n, U_invokevirtual0, U_if_eq, U_lload_n, U_invokestatic2, U_iconst, U_istore_n, U_iload_n, U_bipush, U_icmp_ge, U_aald, U_iinc, U_goto, U_istore, U_iload, U_lmul, U_invokevirtual1, U_iald, U_lreturn, UN_cc, UN_cn, UN_nc, UN_nn, UJ, lget, lset, lset2, entL, wsm, wcat, Option.toList_some, Option.toList_none, List.cons_append, List.nil_append, List.mem_cons, List.not_mem_nil, Prod.mk.injEq, or_false, false_or, or_true, true_or, and_true, true_and, and_false, false_and, and_self, ne_eq, not_false_eq_true, not_true_eq_false, forall_const, true_implies, false_implies, Nat.add_zero, Nat.zero_add, Nat.le_refl, Nat.zero_le, List.set_cons_zero, List.set_cons_succ, List.set_nil, ↓reduceIte, Nat.reduceAdd, Nat.reduceSub, Nat.reduceEqDiff, Nat.reduceLeDiff, Int.reduceEq, Int.reduceNe, Int.reduceNeg, reduceCtorEq]
    exact ⟨r3 (by omega), ih (k + 1) (by omega)⟩
set_option maxHeartbeats 8000000 in
theorem l_dgC {p : Int} {N : Mem} {Q : Post} {h : Int} {E : Nat → Nat} (hC : CB p N) (hT : CoA N E) (hb : ∀ a, E a ≤ 20) {x : Int} (hQ : ∀ y, WP 155 (0, 0) 200 [(2, 1), (1, mxS h (fun a => (E a : Int)) p.toNat), (9, 0), (0, x), y] [] NN N Q) : ∀ (n k : Nat), k + n = p.toNat → WP 155 (0, 0) 165 [(2, 1), (1, mxS h (fun a => (E a : Int)) k), (9, 0), (0, x), (0, (k : Int))] [] NN N Q := by
  have hpp := hC.2.1.pos
  have hz := hC.1
  intro n
  induction n with
  | zero =>
    intro k hk
    obtain rfl : k = p.toNat := by omega
    refine WP.run [(155, 165), (155, 200)] [] 60 ?_
    simp only [bk155_0, bk155_23, bk155_35, bk155_37, bk155_43, bk155_75, bk155_85, bk155_95, bk155_96, bk155_100, bk155_106, bk155_129, bk155_132, bk155_139, bk155_162, bk155_165, bk155_177, bk155_200, bk155_215, bk155_224, bk155_231, bk155_252, U_ldc2_w, U_aload_n, U_getfield, U_i2l, U_ladd, U_lstore_n, U_invokevirtual0, U_if_eq, U_lload_n, U_invokestatic2, U_iconst, U_istore_n, U_iload_n, U_bipush, U_icmp_ge, U_aald, U_iinc, U_goto, U_istore, U_iload, U_lmul, U_invokevirtual1, U_iald, U_lreturn, UN_cc, UN_cn, UN_nc, UN_nn, UJ, lget, lset, lset2, entL, wsm, wcat, Option.toList_some, Option.toList_none, List.cons_append, List.nil_append, List.mem_cons, List.not_mem_nil, Prod.mk.injEq, or_false, false_or, or_true, true_or, and_true, true_and, and_false, false_and, and_self, ne_eq, not_false_eq_true, not_true_eq_false, forall_const, true_implies, false_implies, Nat.add_zero, Nat.zero_add, Nat.le_refl, Nat.zero_le, List.set_cons_zero, List.set_cons_succ, List.set_nil, ↓reduceIte, Nat.reduceAdd, Nat.reduceSub, Nat.reduceEqDiff, Nat.reduceLeDiff, Int.reduceEq, Int.reduceNe, Int.reduceNeg, reduceCtorEq, kd1, kd2, z1_0 hz, hC.2.2.1]
    exact ⟨rr (by omega), fun e => absurd e (by omega), fun _ => hQ _⟩
  | succ n ih =>
    intro k hk
    have hb := hb k
    refine WP.run [(155, 165), (155, 200)] [] 60 ?_
    simp only [bk155_0, bk155_23, bk155_35, bk155_37, bk155_43, bk155_75, bk155_85, bk155_95, bk155_96, bk155_100, bk155_106, bk155_129, bk155_132, bk155_139, bk155_162, bk155_165, bk155_177, bk155_200, bk155_215, bk155_224, bk155_231, bk155_252, U_ldc2_w, U_aload_n, U_getfield, U_i2l, U_ladd, U_lstore_n, U_invokevirtual0, U_if_eq, U_lload_n, U_invokestatic2, U_iconst, U_istore_n, U_iload_n, U_bipush, U_icmp_ge, U_aald, U_iinc, U_goto, U_istore, U_iload, U_lmul, U_invokevirtual1, U_iald, U_lreturn, UN_cc, UN_cn, UN_nc, UN_nn, UJ, lget, lset, lset2, entL, wsm, wcat, Option.toList_some, Option.toList_none, List.cons_append, List.nil_append, List.mem_cons, List.not_mem_nil, Prod.mk.injEq, or_false, false_or, or_true, true_or, and_true, true_and, and_false, false_and, and_self, ne_eq, not_false_eq_true, not_true_eq_false, forall_const, true_implies, false_implies, Nat.add_zero, Nat.zero_add, Nat.le_refl, Nat.zero_le, List.set_cons_zero, List.set_cons_succ, List.set_nil, ↓reduceIte, Nat.reduceAdd, Nat.reduceSub, Nat.reduceEqDiff, Nat.reduceLeDiff, Int.reduceEq, Int.reduceNe, Int.reduceNeg, reduceCtorEq, kd1, kd2, kd188, z1_0 hz, z1_12 hz, hC.2.2.1]
    refine ⟨rr (by omega), fun _ => c_coGet hz hT (by omega) ?_, fun e => absurd (by omega) e⟩
    simp only [bk155_0, bk155_23, bk155_35, bk155_37, bk155_43, bk155_75, bk155_85, bk155_95, bk155_96, bk155_100, bk155_106, bk155_129, bk155_132, bk155_139, bk155_162, bk155_165, bk155_177, bk155_200, bk155_215, bk155_224, bk155_231, bk155_252, U_ldc2_w, U_aload_n, U_getfield, U_i2l, U_ladd, U_lstore_n, U_invokevirtual0, U_if_eq, U_lload_n, U_invokestatic2, U_iconst, U_istore_n, U_iload_n, U_bipush, U_icmp_ge, U_aald, U_iinc, U_goto, U_istore, U_iload, U_lmul, U_invokevirtual1, U_iald, U_lreturn, UN_cc, UN_cn, UN_nc, UN_nn, UJ, lget, lset, lset2, entL, wsm, wcat, Option.toList_some, Option.toList_none, List.cons_append, List.nil_append, List.mem_cons, List.not_mem_nil, Prod.mk.injEq, or_false, false_or, or_true, true_or, and_true, true_and, and_false, false_and, and_self, ne_eq, not_false_eq_true, not_true_eq_false, forall_const, true_implies, false_implies, Nat.add_zero, Nat.zero_add, Nat.le_refl, Nat.zero_le, List.set_cons_zero, List.set_cons_succ, List.set_nil, ↓reduceIte, Nat.reduceAdd, Nat.reduceSub, Nat.reduceEqDiff, Nat.reduceLeDiff, Int.reduceEq, Int.reduceNe, Int.reduceNeg, reduceCtorEq]
    exact ⟨r3 (by omega), ih (k + 1) (by omega)⟩
set_option maxHeartbeats 8000000 in
theorem l_dgP {p : Int} {N : Mem} {Q : Post} {h : Int} {pu : List Int} (hp : Pr p) (hz : Fz N) (hP : PuA N pu) (hl : pu.length ≤ 6 ∧ ∀ v ∈ pu, 0 ≤ v ∧ v < p) {x : Int} (hQ : Q (some (1, mxS h (fun i => pu.getD i 0) pu.length)) NN N) : ∀ (n k : Nat), k + n = pu.length → WP 155 (0, 0) 215 [(2, 1), (1, mxS h (fun i => pu.getD i 0) k), (9, 0), (0, x), (0, (k : Int))] [] NN N Q := by
  have hpp := hp.pos
  have e1 := hP.1
  intro n
  induction n with
  | zero =>
    intro k hk
    obtain rfl : k = pu.length := by omega
    refine WP.run [(155, 215), (155, 252)] [] 60 ?_
    simp only [bk155_0, bk155_23, bk155_35, bk155_37, bk155_43, bk155_75, bk155_85, bk155_95, bk155_96, bk155_100, bk155_106, bk155_129, bk155_132, bk155_139, bk155_162, bk155_165, bk155_177, bk155_200, bk155_215, bk155_224, bk155_231, bk155_252, U_ldc2_w, U_aload_n, U_getfield, U_i2l, U_ladd, U_lstore_n, U_invokevirtual0, U_if_eq, U_lload_n, U_invokestatic2, U_iconst, U_istore_n, U_iload_n, U_bipush, U_icmp_ge, U_aald, U_iinc, U_goto, U_istore, U_iload, U_lmul, U_invokevirtual1, U_iald, U_lreturn, UN_cc, UN_cn, UN_nc, UN_nn, UJ, lget, lset, lset2, entL, wsm, wcat, Option.toList_some, Option.toList_none, List.cons_append, List.nil_append, List.mem_cons, List.not_mem_nil, Prod.mk.injEq, or_false, false_or, or_true, true_or, and_true, true_and, and_false, false_and, and_self, ne_eq, not_false_eq_true, not_true_eq_false, forall_const, true_implies, false_implies, Nat.add_zero, Nat.zero_add, Nat.le_refl, Nat.zero_le, List.set_cons_zero, List.set_cons_succ, List.set_nil, ↓reduceIte, Nat.reduceAdd, Nat.reduceSub, Nat.reduceEqDiff, Nat.reduceLeDiff, Int.reduceEq, Int.reduceNe, Int.reduceNeg, reduceCtorEq, kd1, e1]
    refine ⟨rr (by omega), fun e => absurd e (by omega), fun _ => ?_⟩
    refine WP.run [] [] 60 ?_
    simp only [bk155_0, bk155_23, bk155_35, bk155_37, bk155_43, bk155_75, bk155_85, bk155_95, bk155_96, bk155_100, bk155_106, bk155_129, bk155_132, bk155_139, bk155_162, bk155_165, bk155_177, bk155_200, bk155_215, bk155_224, bk155_231, bk155_252, U_ldc2_w, U_aload_n, U_getfield, U_i2l, U_ladd, U_lstore_n, U_invokevirtual0, U_if_eq, U_lload_n, U_invokestatic2, U_iconst, U_istore_n, U_iload_n, U_bipush, U_icmp_ge, U_aald, U_iinc, U_goto, U_istore, U_iload, U_lmul, U_invokevirtual1, U_iald, U_lreturn, UN_cc, UN_cn, UN_nc, UN_nn, UJ, lget, lset, lset2, entL, wsm, wcat, Option.toList_some, Option.toList_none, List.cons_append, List.nil_append, List.mem_cons, List.not_mem_nil, Prod.mk.injEq, or_false, false_or, or_true, true_or, and_true, true_and, and_false, false_and, and_self, ne_eq, not_false_eq_true, not_true_eq_false, forall_const, true_implies, false_implies, Nat.add_zero, Nat.zero_add, Nat.le_refl, Nat.zero_le, List.set_cons_zero, List.set_cons_succ, List.set_nil, ↓reduceIte, Nat.reduceAdd, Nat.reduceSub, Nat.reduceEqDiff, Nat.reduceLeDiff, Int.reduceEq, Int.reduceNe, Int.reduceNeg, reduceCtorEq]
    exact hQ
  | succ n ih =>
    intro k hk
    have hkl : k < pu.length := by omega
    have hv := hP.2 k pu[k] (List.getElem?_eq_getElem hkl)
    have hm := hl.2 _ (List.getElem_mem hkl)
    have hg : pu.getD k 0 = pu[k] := by rw [List.getD_eq_getElem?_getD, List.getElem?_eq_getElem hkl]; rfl
    refine WP.run [(155, 215), (155, 252)] [] 60 ?_
    simp only [bk155_0, bk155_23, bk155_35, bk155_37, bk155_43, bk155_75, bk155_85, bk155_95, bk155_96, bk155_100, bk155_106, bk155_129, bk155_132, bk155_139, bk155_162, bk155_165, bk155_177, bk155_200, bk155_215, bk155_224, bk155_231, bk155_252, U_ldc2_w, U_aload_n, U_getfield, U_i2l, U_ladd, U_lstore_n, U_invokevirtual0, U_if_eq, U_lload_n, U_invokestatic2, U_iconst, U_istore_n, U_iload_n, U_bipush, U_icmp_ge, U_aald, U_iinc, U_goto, U_istore, U_iload, U_lmul, U_invokevirtual1, U_iald, U_lreturn, UN_cc, UN_cn, UN_nc, UN_nn, UJ, lget, lset, lset2, entL, wsm, wcat, Option.toList_some, Option.toList_none, List.cons_append, List.nil_append, List.mem_cons, List.not_mem_nil, Prod.mk.injEq, or_false, false_or, or_true, true_or, and_true, true_and, and_false, false_and, and_self, ne_eq, not_false_eq_true, not_true_eq_false, forall_const, true_implies, false_implies, Nat.add_zero, Nat.zero_add, Nat.le_refl, Nat.zero_le, List.set_cons_zero, List.set_cons_succ, List.set_nil, ↓reduceIte, Nat.reduceAdd, Nat.reduceSub, Nat.reduceEqDiff, Nat.reduceLeDiff, Int.reduceEq, Int.reduceNe, Int.reduceNeg, reduceCtorEq, kd1, kd18, ln18, z1_1 hz, e1, hv]
    refine ⟨rr (by omega), fun _ => ⟨rr (by omega), fun _ => ⟨by omega, by omega, r3 (by omega), ?_⟩, fun e => absurd (by omega) e⟩, fun e => absurd (by omega) e⟩
    have := ih (k + 1) (by omega)
    rw [show mxS h (fun i => pu.getD i 0) (k + 1) = 31 * mxS h (fun i => pu.getD i 0) k + pu[k] by rw [← hg]; rfl] at this
    exact this
set_option maxHeartbeats 16000000 in
theorem k_digest {p : Int} {g : Nat} {f : Pz p} {pu : List Int} {rg : Nat → Pz p × Pz p} {A tl : Nat → Int} {E : Nat → Nat} {N : Mem} {Q : Post} (h : CS g f pu rg A tl E N) (V : VS g f pu rg A tl E) (hQ : Q (some (1, dgst g f pu rg A tl E)) NN N) : CL 155 [(2, 1), (9, 0), (9, 0), (9, 0), (9, 0)] NN N Q := by
  obtain ⟨⟨ρ, S, R⟩, a1, a2, a3, a4, a5, a6, a7, a8, a9⟩ := h
  have hz := S.1.1
  have hp := S.1.2.1
  have hpp := hp.pos
  have g2 := V.g2
  have h26 := ptl_26 hp f
  have hA : AmA N A := ⟨a3, V.2.2.2.1⟩
  unfold dgst at hQ
  have aft : ∀ (h : Int) x y, h = mxG (if g = 0 then 10757 + p else mxR (10757 + p) f) rg 6 → WP 155 (0, 0) 75 [(2, 1), (1, h), (9, 0), x, y] [] NN N Q := by
    intro h x y hh
    have aft2 : ∀ z : Int, WP 155 (0, 0) 132 [(2, 1), (1, mxS h A (nAm g f)), (9, 0), (0, z), (0, 0)] [] NN N Q := fun z => by
      refine l_dgT hp hz a4 V.2.2.2.2.1 ?_ 26 0 (by omega)
      refine l_dgC S.1 ⟨a5, V.2.2.2.2.2.1⟩ V.2.2.2.2.2.1 (fun y => ?_) p.toNat 0 (by omega)
      refine WP.run [(155, 215)] [] 60 ?_
      simp only [bk155_0, bk155_23, bk155_35, bk155_37, bk155_43, bk155_75, bk155_85, bk155_95, bk155_96, bk155_100, bk155_106, bk155_129, bk155_132, bk155_139, bk155_162, bk155_165, bk155_177, bk155_200, bk155_215, bk155_224, bk155_231, bk155_252, U_ldc2_w, U_aload_n, U_getfield, U_i2l, U_ladd, U_lstore_n, U_invokevirtual0, U_if_eq, U_lload_n, U_invokestatic2, U_iconst, U_istore_n, U_iload_n, U_bipush, U_icmp_ge, U_aald, U_iinc, U_goto, U_istore, U_iload, U_lmul, U_invokevirtual1, U_iald, U_lreturn, UN_cc, UN_cn, UN_nc, UN_nn, UJ, lget, lset, lset2, entL, wsm, wcat, Option.toList_some, Option.toList_none, List.cons_append, List.nil_append, List.mem_cons, List.not_mem_nil, Prod.mk.injEq, or_false, false_or, or_true, true_or, and_true, true_and, and_false, false_and, and_self, ne_eq, not_false_eq_true, not_true_eq_false, forall_const, true_implies, false_implies, Nat.add_zero, Nat.zero_add, Nat.le_refl, Nat.zero_le, List.set_cons_zero, List.set_cons_succ, List.set_nil, ↓reduceIte, Nat.reduceAdd, Nat.reduceSub, Nat.reduceEqDiff, Nat.reduceLeDiff, Int.reduceEq, Int.reduceNe, Int.reduceNeg, reduceCtorEq, kd1, a1.1]
      have hl := V.2.2.1.1
      refine ⟨r3 (by omega), ?_⟩
      subst hh
      exact l_dgP hp hz a1 V.2.2.1 hQ pu.length 0 (by omega)
    refine WP.run [(155, 100)] [] 60 ?_
    simp only [bk155_0, bk155_23, bk155_35, bk155_37, bk155_43, bk155_75, bk155_85, bk155_95, bk155_96, bk155_100, bk155_106, bk155_129, bk155_132, bk155_139, bk155_162, bk155_165, bk155_177, bk155_200, bk155_215, bk155_224, bk155_231, bk155_252, U_ldc2_w, U_aload_n, U_getfield, U_i2l, U_ladd, U_lstore_n, U_invokevirtual0, U_if_eq, U_lload_n, U_invokestatic2, U_iconst, U_istore_n, U_iload_n, U_bipush, U_icmp_ge, U_aald, U_iinc, U_goto, U_istore, U_iload, U_lmul, U_invokevirtual1, U_iald, U_lreturn, UN_cc, UN_cn, UN_nc, UN_nn, UJ, lget, lset, lset2, entL, wsm, wcat, Option.toList_some, Option.toList_none, List.cons_append, List.nil_append, List.mem_cons, List.not_mem_nil, Prod.mk.injEq, or_false, false_or, or_true, true_or, and_true, true_and, and_false, false_and, and_self, ne_eq, not_false_eq_true, not_true_eq_false, forall_const, true_implies, false_implies, Nat.add_zero, Nat.zero_add, Nat.le_refl, Nat.zero_le, List.set_cons_zero, List.set_cons_succ, List.set_nil, ↓reduceIte, Nat.reduceAdd, Nat.reduceSub, Nat.reduceEqDiff, Nat.reduceLeDiff, Int.reduceEq, Int.reduceNe, Int.reduceNeg, reduceCtorEq, kd1, kd21, z1_4 hz]
    refine c_std a2 g2 ?_
    by_cases q : g = 0
    · rw [if_pos q]
      unfold nAm at aft2
      rw [if_pos q] at aft2
      simp only [bk155_0, bk155_23, bk155_35, bk155_37, bk155_43, bk155_75, bk155_85, bk155_95, bk155_96, bk155_100, bk155_106, bk155_129, bk155_132, bk155_139, bk155_162, bk155_165, bk155_177, bk155_200, bk155_215, bk155_224, bk155_231, bk155_252, U_ldc2_w, U_aload_n, U_getfield, U_i2l, U_ladd, U_lstore_n, U_invokevirtual0, U_if_eq, U_lload_n, U_invokestatic2, U_iconst, U_istore_n, U_iload_n, U_bipush, U_icmp_ge, U_aald, U_iinc, U_goto, U_istore, U_iload, U_lmul, U_invokevirtual1, U_iald, U_lreturn, UN_cc, UN_cn, UN_nc, UN_nn, UJ, lget, lset, lset2, entL, wsm, wcat, Option.toList_some, Option.toList_none, List.cons_append, List.nil_append, List.mem_cons, List.not_mem_nil, Prod.mk.injEq, or_false, false_or, or_true, true_or, and_true, true_and, and_false, false_and, and_self, ne_eq, not_false_eq_true, not_true_eq_false, forall_const, true_implies, false_implies, Nat.add_zero, Nat.zero_add, Nat.le_refl, Nat.zero_le, List.set_cons_zero, List.set_cons_succ, List.set_nil, ↓reduceIte, Nat.reduceAdd, Nat.reduceSub, Nat.reduceEqDiff, Nat.reduceLeDiff, Int.reduceEq, Int.reduceNe, Int.reduceNeg, reduceCtorEq]
      refine ⟨r3 (by omega), ?_⟩
      exact l_dgA (p := p) hz hA (m := 1) (by omega) (aft2 _) 1 0 (by omega)
    · rw [if_neg q]
      have hc := (a2.resolve_left (fun e => q e.1)).2
      unfold nAm at aft2
      rw [if_neg q] at aft2
      simp only [bk155_0, bk155_23, bk155_35, bk155_37, bk155_43, bk155_75, bk155_85, bk155_95, bk155_96, bk155_100, bk155_106, bk155_129, bk155_132, bk155_139, bk155_162, bk155_165, bk155_177, bk155_200, bk155_215, bk155_224, bk155_231, bk155_252, U_ldc2_w, U_aload_n, U_getfield, U_i2l, U_ladd, U_lstore_n, U_invokevirtual0, U_if_eq, U_lload_n, U_invokestatic2, U_iconst, U_istore_n, U_iload_n, U_bipush, U_icmp_ge, U_aald, U_iinc, U_goto, U_istore, U_iload, U_lmul, U_invokevirtual1, U_iald, U_lreturn, UN_cc, UN_cn, UN_nc, UN_nn, UJ, lget, lset, lset2, entL, wsm, wcat, Option.toList_some, Option.toList_none, List.cons_append, List.nil_append, List.mem_cons, List.not_mem_nil, Prod.mk.injEq, or_false, false_or, or_true, true_or, and_true, true_and, and_false, false_and, and_self, ne_eq, not_false_eq_true, not_true_eq_false, forall_const, true_implies, false_implies, Nat.add_zero, Nat.zero_add, Nat.le_refl, Nat.zero_le, List.set_cons_zero, List.set_cons_succ, List.set_nil, ↓reduceIte, Nat.reduceAdd, Nat.reduceSub, Nat.reduceEqDiff, Nat.reduceLeDiff, Int.reduceEq, Int.reduceNe, Int.reduceNeg, reduceCtorEq, kd1, kd21, z1_4 hz, hc.2.1.1]
      refine ⟨r3 (by omega), ?_⟩
      have := l_dgA (p := p) (h := h) hz hA (m := (ptl f p.toNat).length + 1) (by omega) (aft2 _) ((ptl f p.toNat).length + 1) 0 (by omega)
      exact this
  refine WP.run [(155, 37)] [] 60 ?_
  simp only [bk155_0, bk155_23, bk155_35, bk155_37, bk155_43, bk155_75, bk155_85, bk155_95, bk155_96, bk155_100, bk155_106, bk155_129, bk155_132, bk155_139, bk155_162, bk155_165, bk155_177, bk155_200, bk155_215, bk155_224, bk155_231, bk155_252, U_ldc2_w, U_aload_n, U_getfield, U_i2l, U_ladd, U_lstore_n, U_invokevirtual0, U_if_eq, U_lload_n, U_invokestatic2, U_iconst, U_istore_n, U_iload_n, U_bipush, U_icmp_ge, U_aald, U_iinc, U_goto, U_istore, U_iload, U_lmul, U_invokevirtual1, U_iald, U_lreturn, UN_cc, UN_cn, UN_nc, UN_nn, UJ, lget, lset, lset2, entL, wsm, wcat, Option.toList_some, Option.toList_none, List.cons_append, List.nil_append, List.mem_cons, List.not_mem_nil, Prod.mk.injEq, or_false, false_or, or_true, true_or, and_true, true_and, and_false, false_and, and_self, ne_eq, not_false_eq_true, not_true_eq_false, forall_const, true_implies, false_implies, Nat.add_zero, Nat.zero_add, Nat.le_refl, Nat.zero_le, List.set_cons_zero, List.set_cons_succ, List.set_nil, ↓reduceIte, Nat.reduceAdd, Nat.reduceSub, Nat.reduceEqDiff, Nat.reduceLeDiff, Int.reduceEq, Int.reduceNe, Int.reduceNeg, reduceCtorEq, kd1, kd2, kd21, z1_0 hz, z1_4 hz, S.1.2.2.1]
  refine ⟨r3 (by omega), c_std a2 g2 ?_⟩
  by_cases q : g = 0
  · rw [if_pos q]
    simp only [bk155_0, bk155_23, bk155_35, bk155_37, bk155_43, bk155_75, bk155_85, bk155_95, bk155_96, bk155_100, bk155_106, bk155_129, bk155_132, bk155_139, bk155_162, bk155_165, bk155_177, bk155_200, bk155_215, bk155_224, bk155_231, bk155_252, U_ldc2_w, U_aload_n, U_getfield, U_i2l, U_ladd, U_lstore_n, U_invokevirtual0, U_if_eq, U_lload_n, U_invokestatic2, U_iconst, U_istore_n, U_iload_n, U_bipush, U_icmp_ge, U_aald, U_iinc, U_goto, U_istore, U_iload, U_lmul, U_invokevirtual1, U_iald, U_lreturn, UN_cc, UN_cn, UN_nc, UN_nn, UJ, lget, lset, lset2, entL, wsm, wcat, Option.toList_some, Option.toList_none, List.cons_append, List.nil_append, List.mem_cons, List.not_mem_nil, Prod.mk.injEq, or_false, false_or, or_true, true_or, and_true, true_and, and_false, false_and, and_self, ne_eq, not_false_eq_true, not_true_eq_false, forall_const, true_implies, false_implies, Nat.add_zero, Nat.zero_add, Nat.le_refl, Nat.zero_le, List.set_cons_zero, List.set_cons_succ, List.set_nil, ↓reduceIte, Nat.reduceAdd, Nat.reduceSub, Nat.reduceEqDiff, Nat.reduceLeDiff, Int.reduceEq, Int.reduceNe, Int.reduceNeg, reduceCtorEq]
    refine ⟨r3 (by omega), l_dgR S R.2 (fun x => aft _ _ x ?_) 6 0 _ (by omega)⟩
    rw [if_pos q]
  · rw [if_neg q]
    have rp := S.rp (r := 22) rfl (R.1 (by omega))
    simp only [bk155_0, bk155_23, bk155_35, bk155_37, bk155_43, bk155_75, bk155_85, bk155_95, bk155_96, bk155_100, bk155_106, bk155_129, bk155_132, bk155_139, bk155_162, bk155_165, bk155_177, bk155_200, bk155_215, bk155_224, bk155_231, bk155_252, U_ldc2_w, U_aload_n, U_getfield, U_i2l, U_ladd, U_lstore_n, U_invokevirtual0, U_if_eq, U_lload_n, U_invokestatic2, U_iconst, U_istore_n, U_iload_n, U_bipush, U_icmp_ge, U_aald, U_iinc, U_goto, U_istore, U_iload, U_lmul, U_invokevirtual1, U_iald, U_lreturn, UN_cc, UN_cn, UN_nc, UN_nn, UJ, lget, lset, lset2, entL, wsm, wcat, Option.toList_some, Option.toList_none, List.cons_append, List.nil_append, List.mem_cons, List.not_mem_nil, Prod.mk.injEq, or_false, false_or, or_true, true_or, and_true, true_and, and_false, false_and, and_self, ne_eq, not_false_eq_true, not_true_eq_false, forall_const, true_implies, false_implies, Nat.add_zero, Nat.zero_add, Nat.le_refl, Nat.zero_le, List.set_cons_zero, List.set_cons_succ, List.set_nil, ↓reduceIte, Nat.reduceAdd, Nat.reduceSub, Nat.reduceEqDiff, Nat.reduceLeDiff, Int.reduceEq, Int.reduceNe, Int.reduceNeg, reduceCtorEq, kd1, kd21, kd22, z1_4 hz, z21_1 hz]
    refine ⟨r3 (by omega), c_mixR hp rp ?_⟩
    simp only [bk155_0, bk155_23, bk155_35, bk155_37, bk155_43, bk155_75, bk155_85, bk155_95, bk155_96, bk155_100, bk155_106, bk155_129, bk155_132, bk155_139, bk155_162, bk155_165, bk155_177, bk155_200, bk155_215, bk155_224, bk155_231, bk155_252, U_ldc2_w, U_aload_n, U_getfield, U_i2l, U_ladd, U_lstore_n, U_invokevirtual0, U_if_eq, U_lload_n, U_invokestatic2, U_iconst, U_istore_n, U_iload_n, U_bipush, U_icmp_ge, U_aald, U_iinc, U_goto, U_istore, U_iload, U_lmul, U_invokevirtual1, U_iald, U_lreturn, UN_cc, UN_cn, UN_nc, UN_nn, UJ, lget, lset, lset2, entL, wsm, wcat, Option.toList_some, Option.toList_none, List.cons_append, List.nil_append, List.mem_cons, List.not_mem_nil, Prod.mk.injEq, or_false, false_or, or_true, true_or, and_true, true_and, and_false, false_and, and_self, ne_eq, not_false_eq_true, not_true_eq_false, forall_const, true_implies, false_implies, Nat.add_zero, Nat.zero_add, Nat.le_refl, Nat.zero_le, List.set_cons_zero, List.set_cons_succ, List.set_nil, ↓reduceIte, Nat.reduceAdd, Nat.reduceSub, Nat.reduceEqDiff, Nat.reduceLeDiff, Int.reduceEq, Int.reduceNe, Int.reduceNeg, reduceCtorEq]
    refine l_dgR S R.2 (fun x => aft _ _ x ?_) 6 0 _ (by omega)
    rw [if_neg q]; rfl
