/-! THE CURVE: taken, dropped; its points over towers, its places -/
theorem nn2_rg {p : Int} (hp : Pr p) (f : Pz p) : 0 ≤ nn2 f ∧ nn2 f ≤ 30000 := by
  have h := pp_le hp
  have := isum_rg (F := fun x => cnt2 p (hv p (nsq p) x (dg f) f.1)) (B := 169) (fun i => cnt2_rg hp _) (p * p).toNat
  unfold nn2; omega
/-- all that the curve object tells of f -/
def CvN {p : Int} (N : Mem) (f : Pz p) (g : Nat) : Prop := N 21 3 = g ∧ PTS N f ∧ N 21 7 = nn2 f + 1 ∧ (∀ i : Nat, i < 7 → N 29 (i : Int) = shs f g i) ∧ OvA N (shs f g) 6 ∧ N 21 13 = hcl f g
theorem CvN.fx {p : Int} {N N' : Mem} {f : Pz p} {g : Nat} (h : CvN N f g) (h1 : N' 21 = N 21) (h2 : N' 26 = N 26) (h3 : N' 27 = N 27) (h4 : N' 29 = N 29) (h5 : N' 30 = N 30) : CvN N' f g := by
  obtain ⟨a1, a2, a3, a4, a5, a6⟩ := h
  refine ⟨by rw [h1]; exact a1, a2.fx h1 h2 h3, by rw [h1]; exact a3, fun i hi => by rw [h4]; exact a4 i hi, fun j j1 j2 => by rw [h5]; exact a5 j j1 j2, by rw [h1]; exact a6⟩
set_option maxHeartbeats 4000000 in
theorem s_drop {p : Int} {N : Mem} {ρ : Int → Option (Pz p)} {Q : Post} (h : ST p N ρ) (hQ : ∀ N', ST p N' (upq ρ 22 (pC p 0)) → FX [21] N N' → (∀ i, i ≠ 3 → i ≠ 4 → i ≠ 13 → N' 21 i = N 21 i) → N' 21 3 = 0 → N' 21 4 = 0 → N' 21 13 = 0 → Q none NN N') : CL 62 [(2, 21)] NN N Q := by
  have h1 := st_u21 (st_u21 (st_u21 h 3 0 (by omega)) 4 0 (by omega)) 13 0 (by omega)
  refine WP.run [] [] 60 ?_
  simp only [bk62_0, U_aload_n, U_iconst, U_putfield, U_getfield, U_invokevirtual0, U_return, UN_cc, UN_cn, UN_nc, UN_nn, UJ, lget, lset, lset2, entL, wsm, wcat, Option.toList_some, Option.toList_none, List.cons_append, List.nil_append, List.mem_cons, List.not_mem_nil, Prod.mk.injEq, or_false, false_or, or_true, true_or, and_true, true_and, and_false, false_and, and_self, ne_eq, not_false_eq_true, not_true_eq_false, forall_const, true_implies, false_implies, Nat.add_zero, Nat.zero_add, Nat.le_refl, Nat.zero_le, List.set_cons_zero, List.set_cons_succ, List.set_nil, ↓reduceIte, Nat.reduceAdd, Nat.reduceSub, Nat.reduceEqDiff, Nat.reduceLeDiff, Int.reduceEq, Int.reduceNe, Int.reduceNeg, reduceCtorEq, kd21, kd22, ust_r, z21_1 h.1.1]
  refine s_clear h1 rfl fun N1 g1 g2 => ?_
  simp only [bk62_0, U_aload_n, U_iconst, U_putfield, U_getfield, U_invokevirtual0, U_return, UN_cc, UN_cn, UN_nc, UN_nn, UJ, lget, lset, lset2, entL, wsm, wcat, Option.toList_some, Option.toList_none, List.cons_append, List.nil_append, List.mem_cons, List.not_mem_nil, Prod.mk.injEq, or_false, false_or, or_true, true_or, and_true, true_and, and_false, false_and, and_self, ne_eq, not_false_eq_true, not_true_eq_false, forall_const, true_implies, false_implies, Nat.add_zero, Nat.zero_add, Nat.le_refl, Nat.zero_le, List.set_cons_zero, List.set_cons_succ, List.set_nil, ↓reduceIte, Nat.reduceAdd, Nat.reduceSub, Nat.reduceEqDiff, Nat.reduceLeDiff, Int.reduceEq, Int.reduceNe, Int.reduceNeg, reduceCtorEq]
  have e : N1 21 = _ := g2 21 (by decide)
  refine hQ N1 g1 (fun b hb hk => ?_) (fun i i1 i2 i3 => ?_) ?_ ?_ ?_
  · have q : b ≠ 21 := fun e => hk (by simp [e])
    rw [g2 b hb, ust_ne q, ust_ne q, ust_ne q]
  · rw [e, ust_at, if_neg i3, ust_at, if_neg i2, ust_at, if_neg i1]
  · rw [e, ust_at, if_neg (by decide), ust_at, if_neg (by decide), ust_at, if_pos rfl]
  · rw [e, ust_at, if_neg (by decide), ust_at, if_pos rfl]
  · rw [e, ust_at, if_pos rfl]
set_option maxHeartbeats 8000000 in
theorem s_take {p : Int} {N : Mem} {ρ : Int → Option (Pz p)} {Q : Post} {s : Int} {f : Pz p} {g : Nat} (h : ST p N ρ) (hs : KD s = 18) (hn : s ≠ 22) (hf : ρ s = some f) (hd : dg f = 4 ∨ dg f = 6) (hg : g = dg f / 2 - 1) (hQ : ∀ N', ST p N' (upq ρ 22 f) → FX [21, 26, 27, 28, 29, 30] N N' → CvN N' f g → Q none NN N') : CL 73 [(2, 21), (2, s)] NN N Q := by
  have hp := h.1.2.1
  have k22 : KD 22 = 18 := rfl
  refine WP.run [] [] 60 ?_
  simp only [bk73_0, U_aload_n, U_getfield, U_invokevirtual1, U_iconst, U_idiv, U_putfield, U_invokevirtual0, U_return, UN_cc, UN_cn, UN_nc, UN_nn, UJ, lget, lset, lset2, entL, wsm, wcat, Option.toList_some, Option.toList_none, List.cons_append, List.nil_append, List.mem_cons, List.not_mem_nil, Prod.mk.injEq, or_false, false_or, or_true, true_or, and_true, true_and, and_false, false_and, and_self, ne_eq, not_false_eq_true, not_true_eq_false, forall_const, true_implies, false_implies, Nat.add_zero, Nat.zero_add, Nat.le_refl, Nat.zero_le, List.set_cons_zero, List.set_cons_succ, List.set_nil, ↓reduceIte, Nat.reduceAdd, Nat.reduceSub, Nat.reduceEqDiff, Nat.reduceLeDiff, Int.reduceEq, Int.reduceNe, Int.reduceNeg, reduceCtorEq, kd21, kd22, kd_of hs (by decide), z21_1 h.1.1]
  refine s_copy h k22 hs (Ne.symm hn) hf fun N1 h1 f1 => ?_
  have d22 := (h1.rp k22 (upq_e _ _ _)).2.2.2
  have e1 : ((dg f : Int) - 1).tdiv 2 = (g : Int) := by rw [Int.tdiv_eq_ediv_of_nonneg (by omega)]; omega
  simp only [bk73_0, U_aload_n, U_getfield, U_invokevirtual1, U_iconst, U_idiv, U_putfield, U_invokevirtual0, U_return, UN_cc, UN_cn, UN_nc, UN_nn, UJ, lget, lset, lset2, entL, wsm, wcat, Option.toList_some, Option.toList_none, List.cons_append, List.nil_append, List.mem_cons, List.not_mem_nil, Prod.mk.injEq, or_false, false_or, or_true, true_or, and_true, true_and, and_false, false_and, and_self, ne_eq, not_false_eq_true, not_true_eq_false, forall_const, true_implies, false_implies, Nat.add_zero, Nat.zero_add, Nat.le_refl, Nat.zero_le, List.set_cons_zero, List.set_cons_succ, List.set_nil, ↓reduceIte, Nat.reduceAdd, Nat.reduceSub, Nat.reduceEqDiff, Nat.reduceLeDiff, Int.reduceEq, Int.reduceNe, Int.reduceNeg, reduceCtorEq, kd21, kd22, z21_1 h1.1.1, d22, e1]
  refine ⟨r3 (by omega), r3 (by omega), ?_⟩
  have h2 := st_u21 h1 3 (g : Int) (by omega)
  refine s_listPoints (f := f) h2 (upq_e _ _ _) fun N3 h3 f3 a3 b3 c3 => ?_
  simp only [bk73_0, U_aload_n, U_getfield, U_invokevirtual1, U_iconst, U_idiv, U_putfield, U_invokevirtual0, U_return, UN_cc, UN_cn, UN_nc, UN_nn, UJ, lget, lset, lset2, entL, wsm, wcat, Option.toList_some, Option.toList_none, List.cons_append, List.nil_append, List.mem_cons, List.not_mem_nil, Prod.mk.injEq, or_false, false_or, or_true, true_or, and_true, true_and, and_false, false_and, and_self, ne_eq, not_false_eq_true, not_true_eq_false, forall_const, true_implies, false_implies, Nat.add_zero, Nat.zero_add, Nat.le_refl, Nat.zero_le, List.set_cons_zero, List.set_cons_succ, List.set_nil, ↓reduceIte, Nat.reduceAdd, Nat.reduceSub, Nat.reduceEqDiff, Nat.reduceLeDiff, Int.reduceEq, Int.reduceNe, Int.reduceNeg, reduceCtorEq, kd21]
  refine s_countWide (f := f) h3 (upq_e _ _ _) fun N4 h4 f4 a4 b4 => ?_
  simp only [bk73_0, U_aload_n, U_getfield, U_invokevirtual1, U_iconst, U_idiv, U_putfield, U_invokevirtual0, U_return, UN_cc, UN_cn, UN_nc, UN_nn, UJ, lget, lset, lset2, entL, wsm, wcat, Option.toList_some, Option.toList_none, List.cons_append, List.nil_append, List.mem_cons, List.not_mem_nil, Prod.mk.injEq, or_false, false_or, or_true, true_or, and_true, true_and, and_false, false_and, and_self, ne_eq, not_false_eq_true, not_true_eq_false, forall_const, true_implies, false_implies, Nat.add_zero, Nat.zero_add, Nat.le_refl, Nat.zero_le, List.set_cons_zero, List.set_cons_succ, List.set_nil, ↓reduceIte, Nat.reduceAdd, Nat.reduceSub, Nat.reduceEqDiff, Nat.reduceLeDiff, Int.reduceEq, Int.reduceNe, Int.reduceNeg, reduceCtorEq, kd21]
  have g3 : N4 21 3 = g := by rw [a4 3 (by decide) (by decide), a3 3 (by decide), ust_at, if_pos rfl]
  have g4 : N4 21 4 = ((ptl f p.toNat).length : Int) + 1 := by rw [a4 4 (by decide) (by decide), b3]
  have l26 := ptl_26 hp f
  have l2 := nn2_rg hp f
  refine s_findShares (g := g) (n1 := (ptl f p.toNat).length) (n2 := nn2 f) h4 (by omega) g3 g4 b4 (by omega) l2 fun N5 h5 f5 a5 b5 c5 d5 => ?_
  simp only [bk73_0, U_aload_n, U_getfield, U_invokevirtual1, U_iconst, U_idiv, U_putfield, U_invokevirtual0, U_return, UN_cc, UN_cn, UN_nc, UN_nn, UJ, lget, lset, lset2, entL, wsm, wcat, Option.toList_some, Option.toList_none, List.cons_append, List.nil_append, List.mem_cons, List.not_mem_nil, Prod.mk.injEq, or_false, false_or, or_true, true_or, and_true, true_and, and_false, false_and, and_self, ne_eq, not_false_eq_true, not_true_eq_false, forall_const, true_implies, false_implies, Nat.add_zero, Nat.zero_add, Nat.le_refl, Nat.zero_le, List.set_cons_zero, List.set_cons_succ, List.set_nil, ↓reduceIte, Nat.reduceAdd, Nat.reduceSub, Nat.reduceEqDiff, Nat.reduceLeDiff, Int.reduceEq, Int.reduceNe, Int.reduceNeg, reduceCtorEq]
  have m26 : N5 26 = N3 26 := by rw [f5 26 (by decide) (by decide), f4 26 (by decide) (by decide)]
  have m27 : N5 27 = N3 27 := by rw [f5 27 (by decide) (by decide), f4 27 (by decide) (by decide)]
  refine hQ N5 h5 (fun b hb hk => ?_) ⟨by rw [a5 3 (by decide)]; exact g3, ⟨by rw [a5 4 (by decide)]; exact g4, fun i q hq => by rw [m26, m27]; exact c3 i q hq⟩, by rw [a5 7 (by decide)]; exact b4, c5, d5, b5⟩
  simp at hk
  rw [f5 b hb (by simp; omega), f4 b hb (by simp; omega), f3 b hb (by simp; omega), ust_ne (by omega), f1 b hb]
set_option maxHeartbeats 4000000 in
theorem c_shareOf {p : Int} {N : Mem} {Q : Post} {f : Pz p} {g : Nat} {i : Int} (hz : Fz N) (h : CvN N f g) (hi : R32 i) (hQ : Q (some (1, if 0 ≤ i ∧ i ≤ 6 then shs f g i.toNat else 0)) NN N) : CL 74 [(2, 21), (0, i)] NN N Q := by
  refine WP.run [] [] 60 ?_
  simp only [bk74_0, bk74_4, bk74_10, bk74_14, bk74_20, U_iload_n, U_if_lt, U_bipush, U_icmp_le, U_lconst, U_goto, U_aload_n, U_getfield, U_lald, U_lreturn, UN_cc, UN_cn, UN_nc, UN_nn, UJ, lget, lset, lset2, entL, wsm, wcat, Option.toList_some, Option.toList_none, List.cons_append, List.nil_append, List.mem_cons, List.not_mem_nil, Prod.mk.injEq, or_false, false_or, or_true, true_or, and_true, true_and, and_false, false_and, and_self, ne_eq, not_false_eq_true, not_true_eq_false, forall_const, true_implies, false_implies, Nat.add_zero, Nat.zero_add, Nat.le_refl, Nat.zero_le, List.set_cons_zero, List.set_cons_succ, List.set_nil, ↓reduceIte, Nat.reduceAdd, Nat.reduceSub, Nat.reduceEqDiff, Nat.reduceLeDiff, Int.reduceEq, Int.reduceNe, Int.reduceNeg, reduceCtorEq, kd21, kd29, ln29, z21_10 hz]
  have hi' := hi
  obtain ⟨u1, u2⟩ := hi'
  refine ⟨hi, fun e => ?_, fun e => ⟨rr (by omega), fun e2 => ?_, fun e2 => ⟨by omega, by omega, ?_⟩⟩⟩
  · rw [if_neg (by omega)] at hQ; exact hQ
  · rw [if_neg (by omega)] at hQ; exact hQ
  · rw [if_pos (by omega)] at hQ
    have := h.2.2.2.1 i.toNat (by omega)
    rw [show ((i.toNat : Nat) : Int) = i by omega] at this
    rw [this]; exact hQ
noncomputable def ptO {p : Int} (f : Pz p) (g : Nat) (k : Nat) : Int := 1 + p ^ k + ovT (shs f g) 6 k
set_option maxHeartbeats 4000000 in
theorem l_pointsOver {p : Int} {N : Mem} {ρ : Int → Option (Pz p)} {Q : Post} {f : Pz p} {g k : Nat} (h : ST p N ρ) (hC : CvN N f g) (hk : 1 ≤ k ∧ k ≤ 6) (hQ : Q (some (1, ptO f g k)) NN N) : ∀ (n i : Nat), i + n = k → WP 75 (0, 0) 18 [(2, 21), (0, (k : Int)), (1, p ^ i), (9, 0), (0, (i : Int))] [] NN N Q := by
  have hp := h.1.2.1
  have hpp := hp.pos
  intro n
  induction n with
  | zero =>
    intro i hi
    obtain rfl : i = k := by omega
    have e1 := hC.2.2.2.2.1 i (by omega) (by omega)
    refine WP.run [(75, 18)] [] 60 ?_
    simp only [bk75_0, bk75_5, bk75_11, bk75_13, bk75_18, bk75_24, bk75_41, U_iload_n, U_iconst, U_icmp_lt, U_bipush, U_icmp_le, U_lconst, U_lreturn, U_lstore_n, U_istore, U_iload, U_icmp_ge, U_lload_n, U_aload_n, U_getfield, U_i2l, U_lmul, U_iinc, U_goto, U_ladd, U_lald, UN_cc, UN_cn, UN_nc, UN_nn, UJ, lget, lset, lset2, entL, wsm, wcat, Option.toList_some, Option.toList_none, List.cons_append, List.nil_append, List.mem_cons, List.not_mem_nil, Prod.mk.injEq, or_false, false_or, or_true, true_or, and_true, true_and, and_false, false_and, and_self, ne_eq, not_false_eq_true, not_true_eq_false, forall_const, true_implies, false_implies, Nat.add_zero, Nat.zero_add, Nat.le_refl, Nat.zero_le, List.set_cons_zero, List.set_cons_succ, List.set_nil, ↓reduceIte, Nat.reduceAdd, Nat.reduceSub, Nat.reduceEqDiff, Nat.reduceLeDiff, Int.reduceEq, Int.reduceNe, Int.reduceNeg, reduceCtorEq, kd21, kd30, ln30, z21_11 h.1.1, e1]
    exact ⟨rr (by omega), fun e => absurd e (by omega), fun _ => ⟨by omega, by omega, hQ⟩⟩
  | succ n ih =>
    intro i hi
    refine WP.run [(75, 18)] [] 60 ?_
    simp only [bk75_0, bk75_5, bk75_11, bk75_13, bk75_18, bk75_24, bk75_41, U_iload_n, U_iconst, U_icmp_lt, U_bipush, U_icmp_le, U_lconst, U_lreturn, U_lstore_n, U_istore, U_iload, U_icmp_ge, U_lload_n, U_aload_n, U_getfield, U_i2l, U_lmul, U_iinc, U_goto, U_ladd, U_lald, UN_cc, UN_cn, UN_nc, UN_nn, UJ, lget, lset, lset2, entL, wsm, wcat, Option.toList_some, Option.toList_none, List.cons_append, List.nil_append, List.mem_cons, List.not_mem_nil, Prod.mk.injEq, or_false, false_or, or_true, true_or, and_true, true_and, and_false, false_and, and_self, ne_eq, not_false_eq_true, not_true_eq_false, forall_const, true_implies, false_implies, Nat.add_zero, Nat.zero_add, Nat.le_refl, Nat.zero_le, List.set_cons_zero, List.set_cons_succ, List.set_nil, ↓reduceIte, Nat.reduceAdd, Nat.reduceSub, Nat.reduceEqDiff, Nat.reduceLeDiff, Int.reduceEq, Int.reduceNe, Int.reduceNeg, reduceCtorEq, kd21, kd2, z21_0 h.1.1, h.1.2.2.1]
    refine ⟨rr (by omega), fun _ => ⟨r3 (by omega), ?_⟩, fun e => absurd (by omega) e⟩
    rw [← Int.pow_succ]
    exact ih (i + 1) (by omega)
set_option maxHeartbeats 4000000 in
theorem s_pointsOver {p : Int} {N : Mem} {ρ : Int → Option (Pz p)} {Q : Post} {f : Pz p} {g k : Nat} (h : ST p N ρ) (hC : CvN N f g) (hk : 1 ≤ k ∧ k ≤ 6) (hQ : Q (some (1, ptO f g k)) NN N) : CL 75 [(2, 21), (0, (k : Int)), (9, 0), (9, 0), (9, 0)] NN N Q := by
  refine WP.run [(75, 18)] [] 60 ?_
  simp only [bk75_0, bk75_5, bk75_11, bk75_13, bk75_18, bk75_24, bk75_41, U_iload_n, U_iconst, U_icmp_lt, U_bipush, U_icmp_le, U_lconst, U_lreturn, U_lstore_n, U_istore, U_iload, U_icmp_ge, U_lload_n, U_aload_n, U_getfield, U_i2l, U_lmul, U_iinc, U_goto, U_ladd, U_lald, UN_cc, UN_cn, UN_nc, UN_nn, UJ, lget, lset, lset2, entL, wsm, wcat, Option.toList_some, Option.toList_none, List.cons_append, List.nil_append, List.mem_cons, List.not_mem_nil, Prod.mk.injEq, or_false, false_or, or_true, true_or, and_true, true_and, and_false, false_and, and_self, ne_eq, not_false_eq_true, not_true_eq_false, forall_const, true_implies, false_implies, Nat.add_zero, Nat.zero_add, Nat.le_refl, Nat.zero_le, List.set_cons_zero, List.set_cons_succ, List.set_nil, ↓reduceIte, Nat.reduceAdd, Nat.reduceSub, Nat.reduceEqDiff, Nat.reduceLeDiff, Int.reduceEq, Int.reduceNe, Int.reduceNeg, reduceCtorEq]
  refine ⟨rr (by omega), fun e => absurd e (by omega), fun _ => ⟨rr (by omega), fun e => absurd e (by omega), fun _ => ?_⟩⟩
  have := l_pointsOver h hC hk hQ k 0 (by omega)
  rw [Int.pow_zero] at this; exact this
