/-! THE LIST OF CLASSES: whole -/
noncomputable def tkS1 {p : Int} (f : Pz p) (u1 : Int) (n : Nat) : List Int := catT (fun u0 => tkR f u1 u0 p.toNat) n
noncomputable def tkS {p : Int} (f : Pz p) (n : Nat) : List Int := catT (fun u1 => tkS1 f u1 p.toNat) n
/-- all classes, by their tokens -/
noncomputable def tkl {p : Int} (f : Pz p) (g : Nat) : List Int := [0] ++ tkP f p.toNat ++ (if g = 2 then tkS f p.toNat else [])
/-- the rows that the list is made with -/
def lro (r : Int) : Prop := r = 4 ∨ r = 90 ∨ r = 92
set_option maxHeartbeats 8000000 in
theorem l_sqI {p : Int} {N : Mem} {ρ : Int → Option (Pz p)} {Q : Post} {f : Pz p} {L : List Int} {u1 : Int} (hf : ρ 22 = some f) (hp : Pr p) (h1 : 0 ≤ u1 ∧ u1 < p) (hQ : ∀ N' ρ', ST p N' ρ' → (∀ r, ¬ lro r → ρ' r = ρ r) → FX [88, 89] N N' → TkA N' (L ++ tkS1 f u1 p.toNat) → ∀ a : V, WP 95 (0, 0) 2 [(2, 88), (0, u1 + 1), a] [] NN N' Q) :
    ∀ (n u : Nat) (Ni : Mem) (ρi : Int → Option (Pz p)), (u : Int) + n = p → ST p Ni ρi → (∀ r, ¬ lro r → ρi r = ρ r) → FX [88, 89] N Ni → TkA Ni (L ++ tkS1 f u1 u) → WP 95 (0, 0) 15 [(2, 88), (0, u1), (0, (u : Int))] [] NN Ni Q := by
  have hpp := hp.pos
  intro n
  induction n with
  | zero =>
    intro u Ni ρi hk hS hr hF hA
    have e : u = p.toNat := by omega
    subst e
    refine WP.run [(95, 15), (95, 2)] [] 60 ?_
    simp only [bk95_0, bk95_2, bk95_13, bk95_15, bk95_26, bk95_38, bk95_44, U_iconst, U_istore_n, U_iload_n, U_aload_n, U_getfield, U_icmp_ge, U_invokevirtual2, U_iinc, U_goto, U_return, UN_cc, UN_cn, UN_nc, UN_nn, UJ, lget, lset, lset2, entL, wsm, wcat, Option.toList_some, Option.toList_none, List.cons_append, List.nil_append, List.mem_cons, List.not_mem_nil, Prod.mk.injEq, or_false, false_or, or_true, true_or, and_true, true_and, and_false, false_and, and_self, ne_eq, not_false_eq_true, not_true_eq_false, forall_const, true_implies, false_implies, Nat.add_zero, Nat.zero_add, Nat.le_refl, Nat.zero_le, List.set_cons_zero, List.set_cons_succ, List.set_nil, ↓reduceIte, Nat.reduceAdd, Nat.reduceSub, Nat.reduceEqDiff, Nat.reduceLeDiff, Int.reduceEq, Int.reduceNe, Int.reduceNeg, reduceCtorEq, kd88, kd2, z88_0 hS.1.1, hS.1.2.2.1]
    exact ⟨rr (by omega), fun e => absurd e (by omega), fun _ => hQ Ni ρi hS hr hF hA _⟩
  | succ n ih =>
    intro u Ni ρi hk hS hr hF hA
    have es : tkS1 f u1 (u + 1) = tkS1 f u1 u ++ tkR f u1 u p.toNat := rfl
    refine WP.run [(95, 15), (95, 2)] [] 60 ?_
    simp only [bk95_0, bk95_2, bk95_13, bk95_15, bk95_26, bk95_38, bk95_44, U_iconst, U_istore_n, U_iload_n, U_aload_n, U_getfield, U_icmp_ge, U_invokevirtual2, U_iinc, U_goto, U_return, UN_cc, UN_cn, UN_nc, UN_nn, UJ, lget, lset, lset2, entL, wsm, wcat, Option.toList_some, Option.toList_none, List.cons_append, List.nil_append, List.mem_cons, List.not_mem_nil, Prod.mk.injEq, or_false, false_or, or_true, true_or, and_true, true_and, and_false, false_and, and_self, ne_eq, not_false_eq_true, not_true_eq_false, forall_const, true_implies, false_implies, Nat.add_zero, Nat.zero_add, Nat.le_refl, Nat.zero_le, List.set_cons_zero, List.set_cons_succ, List.set_nil, ↓reduceIte, Nat.reduceAdd, Nat.reduceSub, Nat.reduceEqDiff, Nat.reduceLeDiff, Int.reduceEq, Int.reduceNe, Int.reduceNeg, reduceCtorEq, kd88, kd2, z88_0 hS.1.1, hS.1.2.2.1]
    refine ⟨rr (by omega), fun _ => ?_, fun e => absurd (by omega) e⟩
    refine s_listRoots (f := f) hS (by rw [hr 22 (by unfold lro; omega)]; exact hf) hA h1 (by omega) fun N' ρ' g1 g2 g3 g4 => ?_
    simp only [bk95_0, bk95_2, bk95_13, bk95_15, bk95_26, bk95_38, bk95_44, U_iconst, U_istore_n, U_iload_n, U_aload_n, U_getfield, U_icmp_ge, U_invokevirtual2, U_iinc, U_goto, U_return, UN_cc, UN_cn, UN_nc, UN_nn, UJ, lget, lset, lset2, entL, wsm, wcat, Option.toList_some, Option.toList_none, List.cons_append, List.nil_append, List.mem_cons, List.not_mem_nil, Prod.mk.injEq, or_false, false_or, or_true, true_or, and_true, true_and, and_false, false_and, and_self, ne_eq, not_false_eq_true, not_true_eq_false, forall_const, true_implies, false_implies, Nat.add_zero, Nat.zero_add, Nat.le_refl, Nat.zero_le, List.set_cons_zero, List.set_cons_succ, List.set_nil, ↓reduceIte, Nat.reduceAdd, Nat.reduceSub, Nat.reduceEqDiff, Nat.reduceLeDiff, Int.reduceEq, Int.reduceNe, Int.reduceNeg, reduceCtorEq]
    rw [List.append_assoc, ← es] at g4
    exact ih (u + 1) N' ρ' (by omega) g1 (fun r q => by rw [g2 r (fun e => q (Or.inl e)) (fun e => q (Or.inr (Or.inl e))) (fun e => q (Or.inr (Or.inr e)))]; exact hr r q) (hF.tr g3) g4
set_option maxHeartbeats 8000000 in
theorem l_sqO {p : Int} {N : Mem} {ρ : Int → Option (Pz p)} {Q : Post} {f : Pz p} {L : List Int} (hf : ρ 22 = some f) (hp : Pr p) (hQ : ∀ N' ρ', ST p N' ρ' → (∀ r, ¬ lro r → ρ' r = ρ r) → FX [88, 89] N N' → TkA N' (L ++ tkS f p.toNat) → Q none NN N') :
    ∀ (n u : Nat) (a : V) (Ni : Mem) (ρi : Int → Option (Pz p)), (u : Int) + n = p → ST p Ni ρi → (∀ r, ¬ lro r → ρi r = ρ r) → FX [88, 89] N Ni → TkA Ni (L ++ tkS f u) → WP 95 (0, 0) 2 [(2, 88), (0, (u : Int)), a] [] NN Ni Q := by
  have hpp := hp.pos
  intro n
  induction n with
  | zero =>
    intro u a Ni ρi hk hS hr hF hA
    have e : u = p.toNat := by omega
    subst e
    refine WP.run [(95, 2)] [] 60 ?_
    simp only [bk95_0, bk95_2, bk95_13, bk95_15, bk95_26, bk95_38, bk95_44, U_iconst, U_istore_n, U_iload_n, U_aload_n, U_getfield, U_icmp_ge, U_invokevirtual2, U_iinc, U_goto, U_return, UN_cc, UN_cn, UN_nc, UN_nn, UJ, lget, lset, lset2, entL, wsm, wcat, Option.toList_some, Option.toList_none, List.cons_append, List.nil_append, List.mem_cons, List.not_mem_nil, Prod.mk.injEq, or_false, false_or, or_true, true_or, and_true, true_and, and_false, false_and, and_self, ne_eq, not_false_eq_true, not_true_eq_false, forall_const, true_implies, false_implies, Nat.add_zero, Nat.zero_add, Nat.le_refl, Nat.zero_le, List.set_cons_zero, List.set_cons_succ, List.set_nil, ↓reduceIte, Nat.reduceAdd, Nat.reduceSub, Nat.reduceEqDiff, Nat.reduceLeDiff, Int.reduceEq, Int.reduceNe, Int.reduceNeg, reduceCtorEq, kd88, kd2, z88_0 hS.1.1, hS.1.2.2.1]
    exact ⟨rr (by omega), fun e => absurd e (by omega), fun _ => hQ Ni ρi hS hr hF hA⟩
  | succ n ih =>
    intro u a Ni ρi hk hS hr hF hA
    have es : tkS f (u + 1) = tkS f u ++ tkS1 f u p.toNat := rfl
    refine WP.run [(95, 15), (95, 2)] [] 60 ?_
    simp only [bk95_0, bk95_2, bk95_13, bk95_15, bk95_26, bk95_38, bk95_44, U_iconst, U_istore_n, U_iload_n, U_aload_n, U_getfield, U_icmp_ge, U_invokevirtual2, U_iinc, U_goto, U_return, UN_cc, UN_cn, UN_nc, UN_nn, UJ, lget, lset, lset2, entL, wsm, wcat, Option.toList_some, Option.toList_none, List.cons_append, List.nil_append, List.mem_cons, List.not_mem_nil, Prod.mk.injEq, or_false, false_or, or_true, true_or, and_true, true_and, and_false, false_and, and_self, ne_eq, not_false_eq_true, not_true_eq_false, forall_const, true_implies, false_implies, Nat.add_zero, Nat.zero_add, Nat.le_refl, Nat.zero_le, List.set_cons_zero, List.set_cons_succ, List.set_nil, ↓reduceIte, Nat.reduceAdd, Nat.reduceSub, Nat.reduceEqDiff, Nat.reduceLeDiff, Int.reduceEq, Int.reduceNe, Int.reduceNeg, reduceCtorEq, kd88, kd2, z88_0 hS.1.1, hS.1.2.2.1]
    refine ⟨rr (by omega), fun _ => ?_, fun e => absurd (by omega) e⟩
    exact l_sqI (N := Ni) (ρ := ρi) (f := f) (L := L ++ tkS f u) (by rw [hr 22 (by unfold lro; omega)]; exact hf) hp (by omega) (fun N' ρ' g1 g2 g3 g4 a => by
      rw [List.append_assoc, ← es] at g4
      exact ih (u + 1) a N' ρ' (by omega) g1 (fun r q => by rw [g2 r q]; exact hr r q) (hF.tr g3) g4) p.toNat 0 Ni ρi (by omega) hS (fun _ _ => rfl) (FX.rf _ _) (by show TkA Ni (L ++ tkS f u ++ []); rw [List.append_nil]; exact hA)
set_option maxHeartbeats 8000000 in
theorem s_listSquares {p : Int} {N : Mem} {ρ : Int → Option (Pz p)} {Q : Post} {f : Pz p} {L : List Int} (h : ST p N ρ) (hf : ρ 22 = some f) (hA : TkA N L) (hQ : ∀ N' ρ', ST p N' ρ' → (∀ r, ¬ lro r → ρ' r = ρ r) → FX [88, 89] N N' → TkA N' (L ++ tkS f p.toNat) → Q none NN N') : CL 95 [(2, 88), (9, 0), (9, 0)] NN N Q := by
  have hpp := h.1.2.1.pos
  refine WP.run [(95, 2)] [] 60 ?_
  simp only [bk95_0, bk95_2, bk95_13, bk95_15, bk95_26, bk95_38, bk95_44, U_iconst, U_istore_n, U_iload_n, U_aload_n, U_getfield, U_icmp_ge, U_invokevirtual2, U_iinc, U_goto, U_return, UN_cc, UN_cn, UN_nc, UN_nn, UJ, lget, lset, lset2, entL, wsm, wcat, Option.toList_some, Option.toList_none, List.cons_append, List.nil_append, List.mem_cons, List.not_mem_nil, Prod.mk.injEq, or_false, false_or, or_true, true_or, and_true, true_and, and_false, false_and, and_self, ne_eq, not_false_eq_true, not_true_eq_false, forall_const, true_implies, false_implies, Nat.add_zero, Nat.zero_add, Nat.le_refl, Nat.zero_le, List.set_cons_zero, List.set_cons_succ, List.set_nil, ↓reduceIte, Nat.reduceAdd, Nat.reduceSub, Nat.reduceEqDiff, Nat.reduceLeDiff, Int.reduceEq, Int.reduceNe, Int.reduceNeg, reduceCtorEq]
  exact l_sqO (f := f) (L := L) hf h.1.2.1 hQ p.toNat 0 _ N ρ (by omega) h (fun _ _ => rfl) (FX.rf _ _) (by show TkA N (L ++ []); rw [List.append_nil]; exact hA)
theorem tkl_pos {p : Int} (f : Pz p) (g : Nat) : 1 ≤ (tkl f g).length := by
  unfold tkl; rw [List.length_append, List.length_append]; simp; omega
set_option maxHeartbeats 8000000 in
/-- the list made where it was not there yet -/
theorem s_lensure {p : Int} {N : Mem} {ρ : Int → Option (Pz p)} {Q : Post} {f : Pz p} {g : Nat} (h : ST p N ρ) (hf : ρ 22 = some f) (hg : N 21 3 = g) (hg2 : g ≤ 2) (hA : N 88 3 = 0 ∨ TkA N (tkl f g)) (hQ : ∀ N' ρ', ST p N' ρ' → (∀ r, ¬ lro r → ρ' r = ρ r) → FX [88, 89] N N' → TkA N' (tkl f g) → Q none NN N') : CL 96 [(2, 88)] NN N Q := by
  rcases hA with h0 | hA
  · refine WP.run [] [] 60 ?_
    simp only [bk96_0, bk96_7, bk96_8, bk96_28, bk96_32, U_aload_n, U_getfield, U_if_le, U_return, U_iconst, U_invokevirtual1, U_invokevirtual0, U_icmp_ne, UN_cc, UN_cn, UN_nc, UN_nn, UJ, lget, lset, lset2, entL, wsm, wcat, Option.toList_some, Option.toList_none, List.cons_append, List.nil_append, List.mem_cons, List.not_mem_nil, Prod.mk.injEq, or_false, false_or, or_true, true_or, and_true, true_and, and_false, false_and, and_self, ne_eq, not_false_eq_true, not_true_eq_false, forall_const, true_implies, false_implies, Nat.add_zero, Nat.zero_add, Nat.le_refl, Nat.zero_le, List.set_cons_zero, List.set_cons_succ, List.set_nil, ↓reduceIte, Nat.reduceAdd, Nat.reduceSub, Nat.reduceEqDiff, Nat.reduceLeDiff, Int.reduceEq, Int.reduceNe, Int.reduceNeg, reduceCtorEq, kd88, h0]
    refine ⟨r3 (by omega), fun e => absurd e (by omega), fun _ => ?_⟩
    have hA0 : TkA N [] := ⟨by rw [h0]; rfl, fun i t _ e => by cases e⟩
    refine s_keep h hA0 (r3 (by omega)) fun N1 g1 f1 t1 => ?_
    simp only [bk96_0, bk96_7, bk96_8, bk96_28, bk96_32, U_aload_n, U_getfield, U_if_le, U_return, U_iconst, U_invokevirtual1, U_invokevirtual0, U_icmp_ne, UN_cc, UN_cn, UN_nc, UN_nn, UJ, lget, lset, lset2, entL, wsm, wcat, Option.toList_some, Option.toList_none, List.cons_append, List.nil_append, List.mem_cons, List.not_mem_nil, Prod.mk.injEq, or_false, false_or, or_true, true_or, and_true, true_and, and_false, false_and, and_self, ne_eq, not_false_eq_true, not_true_eq_false, forall_const, true_implies, false_implies, Nat.add_zero, Nat.zero_add, Nat.le_refl, Nat.zero_le, List.set_cons_zero, List.set_cons_succ, List.set_nil, ↓reduceIte, Nat.reduceAdd, Nat.reduceSub, Nat.reduceEqDiff, Nat.reduceLeDiff, Int.reduceEq, Int.reduceNe, Int.reduceNeg, reduceCtorEq, kd88]
    refine s_llistPoints (f := f) g1 hf t1 fun N2 g2 f2 t2 => ?_
    have e3 : N2 21 3 = g := by rw [f2 21 (by decide) (by decide), f1 21 (by decide) (by decide)]; exact hg
    simp only [bk96_0, bk96_7, bk96_8, bk96_28, bk96_32, U_aload_n, U_getfield, U_if_le, U_return, U_iconst, U_invokevirtual1, U_invokevirtual0, U_icmp_ne, UN_cc, UN_cn, UN_nc, UN_nn, UJ, lget, lset, lset2, entL, wsm, wcat, Option.toList_some, Option.toList_none, List.cons_append, List.nil_append, List.mem_cons, List.not_mem_nil, Prod.mk.injEq, or_false, false_or, or_true, true_or, and_true, true_and, and_false, false_and, and_self, ne_eq, not_false_eq_true, not_true_eq_false, forall_const, true_implies, false_implies, Nat.add_zero, Nat.zero_add, Nat.le_refl, Nat.zero_le, List.set_cons_zero, List.set_cons_succ, List.set_nil, ↓reduceIte, Nat.reduceAdd, Nat.reduceSub, Nat.reduceEqDiff, Nat.reduceLeDiff, Int.reduceEq, Int.reduceNe, Int.reduceNeg, reduceCtorEq, kd88, kd21, z88_1 g2.1.1, e3]
    refine ⟨rr (by omega), fun e => ?_, fun e => ?_⟩
    · refine s_listSquares (f := f) g2 hf t2 fun N3 ρ3 g3 r3 f3 t3 => ?_
      simp only [bk96_0, bk96_7, bk96_8, bk96_28, bk96_32, U_aload_n, U_getfield, U_if_le, U_return, U_iconst, U_invokevirtual1, U_invokevirtual0, U_icmp_ne, UN_cc, UN_cn, UN_nc, UN_nn, UJ, lget, lset, lset2, entL, wsm, wcat, Option.toList_some, Option.toList_none, List.cons_append, List.nil_append, List.mem_cons, List.not_mem_nil, Prod.mk.injEq, or_false, false_or, or_true, true_or, and_true, true_and, and_false, false_and, and_self, ne_eq, not_false_eq_true, not_true_eq_false, forall_const, true_implies, false_implies, Nat.add_zero, Nat.zero_add, Nat.le_refl, Nat.zero_le, List.set_cons_zero, List.set_cons_succ, List.set_nil, ↓reduceIte, Nat.reduceAdd, Nat.reduceSub, Nat.reduceEqDiff, Nat.reduceLeDiff, Int.reduceEq, Int.reduceNe, Int.reduceNeg, reduceCtorEq]
      refine hQ N3 ρ3 g3 r3 ((f1.tr f2).tr f3) ?_
      unfold tkl; rw [if_pos (by omega)]; exact t3
    · refine hQ N2 ρ g2 (fun _ _ => rfl) (f1.tr f2) ?_
      unfold tkl; rw [if_neg (by omega), List.append_nil]; exact t2
  · have hl := tkl_pos f g
    refine WP.run [] [] 60 ?_
    simp only [bk96_0, bk96_7, bk96_8, bk96_28, bk96_32, U_aload_n, U_getfield, U_if_le, U_return, U_iconst, U_invokevirtual1, U_invokevirtual0, U_icmp_ne, UN_cc, UN_cn, UN_nc, UN_nn, UJ, lget, lset, lset2, entL, wsm, wcat, Option.toList_some, Option.toList_none, List.cons_append, List.nil_append, List.mem_cons, List.not_mem_nil, Prod.mk.injEq, or_false, false_or, or_true, true_or, and_true, true_and, and_false, false_and, and_self, ne_eq, not_false_eq_true, not_true_eq_false, forall_const, true_implies, false_implies, Nat.add_zero, Nat.zero_add, Nat.le_refl, Nat.zero_le, List.set_cons_zero, List.set_cons_succ, List.set_nil, ↓reduceIte, Nat.reduceAdd, Nat.reduceSub, Nat.reduceEqDiff, Nat.reduceLeDiff, Int.reduceEq, Int.reduceNe, Int.reduceNeg, reduceCtorEq, kd88, hA.1]
    exact ⟨r3 (by omega), fun _ => hQ N ρ h (fun _ _ => rfl) (FX.rf _ _) hA, fun e => absurd (by omega) e⟩
