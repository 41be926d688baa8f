/-! CLASSES ADDED -/
def pRed {p : Int} (f : Pz p) (g : Nat) (q : Pz p × Pz p) : Prop := @Red (Pz p) (pring p) dg pmo f g q
def pSum {p : Int} (f : Pz p) (a b c : Pz p × Pz p) : Prop := @Gsum (Pz p) (pring p) f a b c
def Cv {p : Int} (f : Pz p) (g : Nat) : Prop := (g = 1 ∨ g = 2) ∧ dg f = 2 * g + 2 ∧ pmo f ∧ @Sqf (Pz p) (pring p) f
theorem prL : (List.range 218).all (fun q => !decide (KD (q : Int) = 16) || (decide (fz (q : Int) 0 = some ((q : Int) + 1)) && decide (fz (q : Int) 1 = some ((q : Int) + 3)) && decide (KD ((q : Int) + 1) = 18) && decide (KD ((q : Int) + 3) = 18) && decide (47 ≤ q) && decide (KD ((q : Int) + 2) = 1))) = true := by decide +kernel
theorem zpr {N : Mem} (h : Fz N) {q : Int} (hq : KD q = 16) : N q 0 = q + 1 ∧ N q 1 = q + 3 ∧ KD (q + 1) = 18 ∧ KD (q + 3) = 18 ∧ 47 ≤ q ∧ KD (q + 2) = 1 := by
  obtain ⟨n, hn, rfl⟩ := KD_lt (a := q) (by omega)
  have := List.all_eq_true.mp prL n (List.mem_range.mpr hn)
  rw [hq] at this
  simp only [decide_true, Bool.not_true, Bool.false_or, Bool.and_eq_true, decide_eq_true_eq] at this
  obtain ⟨⟨⟨⟨⟨h1, h2⟩, h3⟩, h4⟩, h5⟩, h6⟩ := this
  exact ⟨h _ _ _ h1, h _ _ _ h2, h3, h4, by omega, h6⟩
def scr (r : Int) : Prop := tmp r ∨ r = 33 ∨ r = 35 ∨ r = 37 ∨ r = 39 ∨ r = 41 ∨ r = 43 ∨ r = 45
set_option maxHeartbeats 16000000 in
theorem s_takeQuotient {p : Int} {N : Mem} {ρ : Int → Option (Pz p)} {Q : Post} {r s : Int} {A B : Pz p} (h : ST p N ρ) (hr : KD r = 18) (hs : KD s = 18) (hrs : r ≠ s) (hr4 : r ≠ 4) (hs4 : s ≠ 4) (hA : ρ r = some A) (hB : ρ s = some B) (hB0 : dg B ≠ 0)
    (hQ : ∀ N' q R, ST p N' (upq (upq ρ 4 q) r q) → FR N N' → A = padd (pmul B q) R → dg R < dg B → dg q + dg B ≤ max (dg A + 1) (dg B) → Q none NN N') : CL 24 [(2, 32), (2, r), (2, s)] NN N Q := by
  have k4 : KD 4 = 18 := rfl
  refine WP.run [] [] 60 ?_
  simp only [bk24_0, U_aload_n, U_getfield, U_invokevirtual2, U_invokevirtual1, U_return, UN_cc, UN_cn, UN_nc, UN_nn, UJ, lget, lset, lset2, entL, wsm, wcat, Option.toList_some, Option.toList_none, List.cons_append, List.nil_append, List.mem_cons, List.not_mem_nil, Prod.mk.injEq, or_false, false_or, or_true, true_or, and_true, true_and, and_false, false_and, and_self, ne_eq, not_false_eq_true, not_true_eq_false, forall_const, true_implies, false_implies, Nat.add_zero, Nat.zero_add, Nat.le_refl, Nat.zero_le, ↓reduceIte, Nat.reduceAdd, Nat.reduceSub, Nat.reduceEqDiff, Nat.reduceLeDiff, Int.reduceEq, Int.reduceNe, Int.reduceNeg, reduceCtorEq, kd32, kd2, z32_0 h.1.1]
  refine s_divide h hr hs hrs hr4 hs4 hA hB hB0 fun N1 q R h1 f1 e1 e2 e3 => ?_
  simp only [bk24_0, U_aload_n, U_getfield, U_invokevirtual2, U_invokevirtual1, U_return, UN_cc, UN_cn, UN_nc, UN_nn, UJ, lget, lset, lset2, entL, wsm, wcat, Option.toList_some, Option.toList_none, List.cons_append, List.nil_append, List.mem_cons, List.not_mem_nil, Prod.mk.injEq, or_false, false_or, or_true, true_or, and_true, true_and, and_false, false_and, and_self, ne_eq, not_false_eq_true, not_true_eq_false, forall_const, true_implies, false_implies, Nat.add_zero, Nat.zero_add, Nat.le_refl, Nat.zero_le, ↓reduceIte, Nat.reduceAdd, Nat.reduceSub, Nat.reduceEqDiff, Nat.reduceLeDiff, Int.reduceEq, Int.reduceNe, Int.reduceNeg, reduceCtorEq, kd32, kd2, kd_of hr (by decide), z32_0 h1.1.1, z2_2 h1.1.1]
  refine s_copy h1 hr k4 hr4 (a := q) (by repeat (first | assumption | rw [upq_e] | rw [upq_n (by omega)])) fun N2 h2 f2 => ?_
  simp only [bk24_0, U_aload_n, U_getfield, U_invokevirtual2, U_invokevirtual1, U_return, UN_cc, UN_cn, UN_nc, UN_nn, UJ, lget, lset, lset2, entL, wsm, wcat, Option.toList_some, Option.toList_none, List.cons_append, List.nil_append, List.mem_cons, List.not_mem_nil, Prod.mk.injEq, or_false, false_or, or_true, true_or, and_true, true_and, and_false, false_and, and_self, ne_eq, not_false_eq_true, not_true_eq_false, forall_const, true_implies, false_implies, Nat.add_zero, Nat.zero_add, Nat.le_refl, Nat.zero_le, ↓reduceIte, Nat.reduceAdd, Nat.reduceSub, Nat.reduceEqDiff, Nat.reduceLeDiff, Int.reduceEq, Int.reduceNe, Int.reduceNeg, reduceCtorEq]
  rw [upq_u] at h2
  exact hQ N2 q R h2 (f1.tr f2) e1 e2 e3
theorem padd_1M {p : Int} (A B : Pz p) : padd A (pmul (pM p 1 0) B) = padd A B := Pz.ext fun k => by
  rw [padd_c, padd_c, pM_mul, if_pos (by omega), md_add rfl (md_md _ _), Int.one_mul, Nat.sub_zero]
theorem lw1 {R : Type} [Lean.Grind.CommRing R] (f v : R) : f + (-1 * v) * v = f - v * v := by grind
theorem lw2 {R : Type} [Lean.Grind.CommRing R] {w v u t x : R} (h : -1 * v = u * t + x) : -v = u * t + x := by
  rw [← h]; clear h; grind
theorem Pr.m1 {p : Int} (hp : Pr p) : (-1 : Int) % p ≠ 0 := by rcases hp with rfl | rfl | rfl | rfl | rfl <;> decide
set_option maxHeartbeats 32000000 in
theorem l_lower {p : Int} {N : Mem} {ρ : Int → Option (Pz p)} {Q : Post} {f : Pz p} {g : Nat} {P : BB (Pz p) f → Prop} (hp : Pr p) (hcv : Cv f g) (hf : ρ 22 = some f) (hg : N 21 3 = g)
    (hQ : ∀ N' ρ' u v, ST p N' ρ' → FR N N' → (∀ r, ¬ scr r → ρ' r = ρ r) → ρ' 33 = some u → ρ' 35 = some v → pRed f g (u, v) → @beq (Pz p) (pring p) f P (@II (Pz p) (pring p) f u v) → Q none NN N') :
    ∀ (n : Nat) (i : Int) (Ni : Mem) (ρi : Int → Option (Pz p)) (u v : Pz p), i + n = 5 → 0 ≤ i → dg u ≤ n → ST p Ni ρi → FR N Ni → (∀ r, ¬ scr r → ρi r = ρ r) → ρi 33 = some u → ρi 35 = some v → pmo u → dg v < dg u → @Dv _ (pring p) u (padd (pmul v v) (pneg f)) → @beq (Pz p) (pring p) f P (@II (Pz p) (pring p) f u v) → WP 25 (0, 0) 2 [(2, 32), (0, i)] [] NN Ni Q := by
  have E := Euc_Pz hp
  have k33 : KD 33 = 18 := rfl
  have k35 : KD 35 = 18 := rfl
  have k45 : KD 45 = 18 := rfl
  have k4 : KD 4 = 18 := rfl
  have k22 : KD 22 = 18 := rfl
  obtain ⟨hg12, hdf, hfm, hsq⟩ := hcv
  intro n
  induction n with
  | zero =>
    intro i Ni ρi u v h1 h2 h3 hS hF hρ e33 e35 hm hv
    omega
  | succ n ih =>
    intro i Ni ρi u v h1 h2 h3 hS hF hρ e33 e35 hm hv hd hb
    have g21 : Ni 21 3 = g := by rw [hF 21 (by decide)]; exact hg
    have h33 := hS.rp k33 e33
    have h35 := hS.rp k35 e35
    have hu0 := hm.1
    have e22 : ρi 22 = some f := (hρ 22 (by unfold scr tmp; omega)).trans hf
    refine WP.run [(25, 2)] [] 120 ?_
    simp only [bk25_0, bk25_2, bk25_8, bk25_25, bk25_153, U_iconst, U_istore_n, U_iload_n, U_bipush, U_icmp_ge, U_aload_n, U_getfield, U_icmp_le, U_invokevirtual1, U_invokevirtual4, U_invokevirtual2, U_iinc, U_goto, U_return, UN_cc, UN_cn, UN_nc, UN_nn, UJ, lget, lset, lset2, entL, wsm, wcat, Option.toList_some, Option.toList_none, List.cons_append, List.nil_append, List.mem_cons, List.not_mem_nil, Prod.mk.injEq, or_false, false_or, or_true, true_or, and_true, true_and, and_false, false_and, and_self, ne_eq, not_false_eq_true, not_true_eq_false, forall_const, true_implies, false_implies, Nat.add_zero, Nat.zero_add, Nat.le_refl, Nat.zero_le, ↓reduceIte, Nat.reduceAdd, Nat.reduceSub, Nat.reduceEqDiff, Nat.reduceLeDiff, Int.reduceEq, Int.reduceNe, Int.reduceNeg, reduceCtorEq, kd2, kd21, kd22, kd32, kd33, kd35, kd37, kd39, kd41, kd43, kd45, z32_0 hS.1.1, z32_2 hS.1.1, z32_1 hS.1.1, z32_8 hS.1.1, z21_1 hS.1.1, h33.2.2.2, g21]
    refine ⟨rr (by omega), fun h => ⟨rr (by omega), fun hgt => ?_, fun hle => ?_⟩, fun h => by omega⟩
    · refine s_copy hS k45 k22 (by decide) e22 fun N1 h1' f1 => ?_
      simp only [bk25_0, bk25_2, bk25_8, bk25_25, bk25_153, U_iconst, U_istore_n, U_iload_n, U_bipush, U_icmp_ge, U_aload_n, U_getfield, U_icmp_le, U_invokevirtual1, U_invokevirtual4, U_invokevirtual2, U_iinc, U_goto, U_return, UN_cc, UN_cn, UN_nc, UN_nn, UJ, lget, lset, lset2, entL, wsm, wcat, Option.toList_some, Option.toList_none, List.cons_append, List.nil_append, List.mem_cons, List.not_mem_nil, Prod.mk.injEq, or_false, false_or, or_true, true_or, and_true, true_and, and_false, false_and, and_self, ne_eq, not_false_eq_true, not_true_eq_false, forall_const, true_implies, false_implies, Nat.add_zero, Nat.zero_add, Nat.le_refl, Nat.zero_le, ↓reduceIte, Nat.reduceAdd, Nat.reduceSub, Nat.reduceEqDiff, Nat.reduceLeDiff, Int.reduceEq, Int.reduceNe, Int.reduceNeg, reduceCtorEq, kd2, kd21, kd22, kd32, kd33, kd35, kd37, kd39, kd41, kd43, kd45, z32_0 h1'.1.1, z32_8 h1'.1.1, z32_3 h1'.1.1]
      refine s_addProduct h1' k45 k35 k35 (by decide) (by decide) (O := f) (A := v) (B := v) (by repeat (first | assumption | rw [upq_e] | rw [upq_n (by omega)])) (by repeat (first | assumption | rw [upq_e] | rw [upq_n (by omega)])) (by repeat (first | assumption | rw [upq_e] | rw [upq_n (by omega)])) (Or.inr rfl) (by omega) fun N2 h2' f2 => ?_
      simp only [bk25_0, bk25_2, bk25_8, bk25_25, bk25_153, U_iconst, U_istore_n, U_iload_n, U_bipush, U_icmp_ge, U_aload_n, U_getfield, U_icmp_le, U_invokevirtual1, U_invokevirtual4, U_invokevirtual2, U_iinc, U_goto, U_return, UN_cc, UN_cn, UN_nc, UN_nn, UJ, lget, lset, lset2, entL, wsm, wcat, Option.toList_some, Option.toList_none, List.cons_append, List.nil_append, List.mem_cons, List.not_mem_nil, Prod.mk.injEq, or_false, false_or, or_true, true_or, and_true, true_and, and_false, false_and, and_self, ne_eq, not_false_eq_true, not_true_eq_false, forall_const, true_implies, false_implies, Nat.add_zero, Nat.zero_add, Nat.le_refl, Nat.zero_le, ↓reduceIte, Nat.reduceAdd, Nat.reduceSub, Nat.reduceEqDiff, Nat.reduceLeDiff, Int.reduceEq, Int.reduceNe, Int.reduceNeg, reduceCtorEq, kd2, kd21, kd22, kd32, kd33, kd35, kd37, kd39, kd41, kd43, kd45, z32_0 h2'.1.1, z32_8 h2'.1.1, z32_2 h2'.1.1]
      refine s_divide h2' k45 k33 (by decide) (by decide) (by decide) (upq_e _ _ _) (B := u) (by repeat (first | assumption | rw [upq_e] | rw [upq_n (by omega)])) hu0 fun N3 q R h3' f3 hq1 hq2 hq3 => ?_
      simp only [bk25_0, bk25_2, bk25_8, bk25_25, bk25_153, U_iconst, U_istore_n, U_iload_n, U_bipush, U_icmp_ge, U_aload_n, U_getfield, U_icmp_le, U_invokevirtual1, U_invokevirtual4, U_invokevirtual2, U_iinc, U_goto, U_return, UN_cc, UN_cn, UN_nc, UN_nn, UJ, lget, lset, lset2, entL, wsm, wcat, Option.toList_some, Option.toList_none, List.cons_append, List.nil_append, List.mem_cons, List.not_mem_nil, Prod.mk.injEq, or_false, false_or, or_true, true_or, and_true, true_and, and_false, false_and, and_self, ne_eq, not_false_eq_true, not_true_eq_false, forall_const, true_implies, false_implies, Nat.add_zero, Nat.zero_add, Nat.le_refl, Nat.zero_le, ↓reduceIte, Nat.reduceAdd, Nat.reduceSub, Nat.reduceEqDiff, Nat.reduceLeDiff, Int.reduceEq, Int.reduceNe, Int.reduceNeg, reduceCtorEq, kd2, kd21, kd22, kd32, kd33, kd35, kd37, kd39, kd41, kd43, kd45, z32_0 h3'.1.1, z32_2 h3'.1.1, z2_2 h3'.1.1]
      refine s_copy h3' k33 k4 (by decide) (a := q) (by repeat (first | assumption | rw [upq_e] | rw [upq_n (by omega)])) fun N4 h4 f4 => ?_
      have h433 := h4.rp k33 (upq_e _ _ _)
      have dq8 := h433.2.2.1
      simp only [bk25_0, bk25_2, bk25_8, bk25_25, bk25_153, U_iconst, U_istore_n, U_iload_n, U_bipush, U_icmp_ge, U_aload_n, U_getfield, U_icmp_le, U_invokevirtual1, U_invokevirtual4, U_invokevirtual2, U_iinc, U_goto, U_return, UN_cc, UN_cn, UN_nc, UN_nn, UJ, lget, lset, lset2, entL, wsm, wcat, Option.toList_some, Option.toList_none, List.cons_append, List.nil_append, List.mem_cons, List.not_mem_nil, Prod.mk.injEq, or_false, false_or, or_true, true_or, and_true, true_and, and_false, false_and, and_self, ne_eq, not_false_eq_true, not_true_eq_false, forall_const, true_implies, false_implies, Nat.add_zero, Nat.zero_add, Nat.le_refl, Nat.zero_le, ↓reduceIte, Nat.reduceAdd, Nat.reduceSub, Nat.reduceEqDiff, Nat.reduceLeDiff, Int.reduceEq, Int.reduceNe, Int.reduceNeg, reduceCtorEq, kd2, kd21, kd22, kd32, kd33, kd35, kd37, kd39, kd41, kd43, kd45, z32_0 h4.1.1, z32_2 h4.1.1, h433.2.2.2]
      have n1 := pC_m1 (p := p)
      have hfq : padd f (pmul (pmul (pC p (-1)) v) v) = padd f (pneg (pmul v v)) := by
        rw [← n1]; exact @lw1 (Pz p) (pring p) f v
      rw [hfq] at hq1
      -- the quotient isn't nought
      have hne : dg (padd f (pneg (pmul v v))) ≠ 0 := fun e0 => by
        have e1 := dg_zero.mp e0
        have e2 : f = pmul v v := by
          have : padd (padd f (pneg (pmul v v))) (pmul v v) = f := by rw [padd_assoc, pneg_add, pC_zero_add]
          rw [e1, padd_comm, pC_zero_add] at this; exact this.symm
        by_cases hv0 : dg v = 0
        · rw [dg_zero.mp hv0, pC_zero_mul] at e2
          have := dg_zero.mpr e2; omega
        · have := dg_mul hp v v hv0 hv0
          rw [← e2] at this; omega
      have hex := @Euc.exact (Pz p) (pring p) dg pmo E u (padd f (pneg (pmul v v))) q R (fun e => hu0 (dg_zero.mpr e)) (by
        obtain ⟨w, hw⟩ := hd
        refine ⟨pneg w, ?_⟩
        show padd f (pneg (pmul v v)) = pmul u (pneg w)
        replace hw : padd (pmul v v) (pneg f) = pmul u w := hw
        rw [pmul_comm u, pneg_mul, pmul_comm w, ← hw]
        exact Pz.ext fun k => by
          rw [psub_c, pneg_c, psub_c, md_neg (md_md _ _)]; congr 1; omega) hq1 hq2
      have hq0 : dg q ≠ 0 := fun e0 => hne (by
        have e1 := dg_zero.mp e0
        rw [hex]
        show dg (pmul u q) = 0
        rw [e1, pmul_comm, pC_zero_mul]; exact dg_zero.mpr rfl)
      refine c_get h433 (r3 (by omega)) ?_
      rw [if_pos (by omega), show ((dg q : Int) - 1).toNat = dg q - 1 by omega]
      simp only [bk25_0, bk25_2, bk25_8, bk25_25, bk25_153, U_iconst, U_istore_n, U_iload_n, U_bipush, U_icmp_ge, U_aload_n, U_getfield, U_icmp_le, U_invokevirtual1, U_invokevirtual4, U_invokevirtual2, U_iinc, U_goto, U_return, UN_cc, UN_cn, UN_nc, UN_nn, UJ, lget, lset, lset2, entL, wsm, wcat, Option.toList_some, Option.toList_none, List.cons_append, List.nil_append, List.mem_cons, List.not_mem_nil, Prod.mk.injEq, or_false, false_or, or_true, true_or, and_true, true_and, and_false, false_and, and_self, ne_eq, not_false_eq_true, not_true_eq_false, forall_const, true_implies, false_implies, Nat.add_zero, Nat.zero_add, Nat.le_refl, Nat.zero_le, ↓reduceIte, Nat.reduceAdd, Nat.reduceSub, Nat.reduceEqDiff, Nat.reduceLeDiff, Int.reduceEq, Int.reduceNe, Int.reduceNeg, reduceCtorEq, kd2, kd21, kd22, kd32, kd33, kd35, kd37, kd39, kd41, kd43, kd45, z32_0 h4.1.1, z32_2 h4.1.1]
      have hlt := hp.lt (q.2.1 (dg q - 1))
      have htop := dg_top q hq0
      refine c_inverse h4.1 (by omega) hlt.2 (fun w w0 w1 w2 => ?_)
      simp only [bk25_0, bk25_2, bk25_8, bk25_25, bk25_153, U_iconst, U_istore_n, U_iload_n, U_bipush, U_icmp_ge, U_aload_n, U_getfield, U_icmp_le, U_invokevirtual1, U_invokevirtual4, U_invokevirtual2, U_iinc, U_goto, U_return, UN_cc, UN_cn, UN_nc, UN_nn, UJ, lget, lset, lset2, entL, wsm, wcat, Option.toList_some, Option.toList_none, List.cons_append, List.nil_append, List.mem_cons, List.not_mem_nil, Prod.mk.injEq, or_false, false_or, or_true, true_or, and_true, true_and, and_false, false_and, and_self, ne_eq, not_false_eq_true, not_true_eq_false, forall_const, true_implies, false_implies, Nat.add_zero, Nat.zero_add, Nat.le_refl, Nat.zero_le, ↓reduceIte, Nat.reduceAdd, Nat.reduceSub, Nat.reduceEqDiff, Nat.reduceLeDiff, Int.reduceEq, Int.reduceNe, Int.reduceNeg, reduceCtorEq, kd2, kd21, kd22, kd32, kd33, kd35, kd37, kd39, kd41, kd43, kd45, z32_0 h4.1.1, z32_2 h4.1.1]
      refine s_scale h4 k33 (upq_e _ _ _) (by omega) fun N5 h5 f5 => ?_
      simp only [bk25_0, bk25_2, bk25_8, bk25_25, bk25_153, U_iconst, U_istore_n, U_iload_n, U_bipush, U_icmp_ge, U_aload_n, U_getfield, U_icmp_le, U_invokevirtual1, U_invokevirtual4, U_invokevirtual2, U_iinc, U_goto, U_return, UN_cc, UN_cn, UN_nc, UN_nn, UJ, lget, lset, lset2, entL, wsm, wcat, Option.toList_some, Option.toList_none, List.cons_append, List.nil_append, List.mem_cons, List.not_mem_nil, Prod.mk.injEq, or_false, false_or, or_true, true_or, and_true, true_and, and_false, false_and, and_self, ne_eq, not_false_eq_true, not_true_eq_false, forall_const, true_implies, false_implies, Nat.add_zero, Nat.zero_add, Nat.le_refl, Nat.zero_le, ↓reduceIte, Nat.reduceAdd, Nat.reduceSub, Nat.reduceEqDiff, Nat.reduceLeDiff, Int.reduceEq, Int.reduceNe, Int.reduceNeg, reduceCtorEq, kd2, kd21, kd22, kd32, kd33, kd35, kd37, kd39, kd41, kd43, kd45, z32_0 h5.1.1, z32_3 h5.1.1]
      refine s_scale h5 k35 (A := v) (by repeat (first | assumption | rw [upq_e] | rw [upq_n (by omega)])) (by omega) fun N6 h6 f6 => ?_
      simp only [bk25_0, bk25_2, bk25_8, bk25_25, bk25_153, U_iconst, U_istore_n, U_iload_n, U_bipush, U_icmp_ge, U_aload_n, U_getfield, U_icmp_le, U_invokevirtual1, U_invokevirtual4, U_invokevirtual2, U_iinc, U_goto, U_return, UN_cc, UN_cn, UN_nc, UN_nn, UJ, lget, lset, lset2, entL, wsm, wcat, Option.toList_some, Option.toList_none, List.cons_append, List.nil_append, List.mem_cons, List.not_mem_nil, Prod.mk.injEq, or_false, false_or, or_true, true_or, and_true, true_and, and_false, false_and, and_self, ne_eq, not_false_eq_true, not_true_eq_false, forall_const, true_implies, false_implies, Nat.add_zero, Nat.zero_add, Nat.le_refl, Nat.zero_le, ↓reduceIte, Nat.reduceAdd, Nat.reduceSub, Nat.reduceEqDiff, Nat.reduceLeDiff, Int.reduceEq, Int.reduceNe, Int.reduceNeg, reduceCtorEq, kd2, kd21, kd22, kd32, kd33, kd35, kd37, kd39, kd41, kd43, kd45, z32_0 h6.1.1, z32_3 h6.1.1, z32_2 h6.1.1]
      have mo := monic_of hp hq0 w2
      refine s_divide h6 k35 k33 (by decide) (by decide) (by decide) (upq_e _ _ _) (B := pmul (pC p w) q) (by repeat (first | assumption | rw [upq_e] | rw [upq_n (by omega)])) mo.1.1 fun N7 t v' h7 f7 ht1 ht2 ht3 => ?_
      simp only [bk25_0, bk25_2, bk25_8, bk25_25, bk25_153, U_iconst, U_istore_n, U_iload_n, U_bipush, U_icmp_ge, U_aload_n, U_getfield, U_icmp_le, U_invokevirtual1, U_invokevirtual4, U_invokevirtual2, U_iinc, U_goto, U_return, UN_cc, UN_cn, UN_nc, UN_nn, UJ, lget, lset, lset2, entL, wsm, wcat, Option.toList_some, Option.toList_none, List.cons_append, List.nil_append, List.mem_cons, List.not_mem_nil, Prod.mk.injEq, or_false, false_or, or_true, true_or, and_true, true_and, and_false, false_and, and_self, ne_eq, not_false_eq_true, not_true_eq_false, forall_const, true_implies, false_implies, Nat.add_zero, Nat.zero_add, Nat.le_refl, Nat.zero_le, ↓reduceIte, Nat.reduceAdd, Nat.reduceSub, Nat.reduceEqDiff, Nat.reduceLeDiff, Int.reduceEq, Int.reduceNe, Int.reduceNeg, reduceCtorEq]
      have hcc : pmul (pC p w) (pC p (q.1 (dg q - 1))) = pC p 1 := by
        rw [pC_pC]
        exact Pz.ext fun k => by
          rw [pC_c, pC_c]
          have := hp.pos
          by_cases e : k = 0
          · rw [if_pos e, if_pos e, Int.mul_comm, w2]; exact (Int.emod_eq_of_lt (by omega) (by omega)).symm
          · rw [if_neg e, if_neg e]
      rw [← n1] at ht1
      have hl := @low_alg (Pz p) (pring p) dg pmo E f g hdf u v q R (pC p w) (pC p (q.1 (dg q - 1))) t v' (fun e => hu0 (dg_zero.mpr e)) hv hd (by omega) hq1 hq2 hcc (@lw2 (Pz p) (pring p) v v _ t v' ht1)
      obtain ⟨l1, l2, l3, l4, l5⟩ := hl
      refine ih (i + 1) N7 _ (pmul (pC p w) q) v' (by omega) (by omega) (by have : dg (pmul (pC p w) q) < dg u := l5; omega) h7 (((((((hF.tr f1).tr f2).tr f3).tr f4).tr f5).tr f6).tr f7) (fun r hr => ?_) (by repeat (first | assumption | rw [upq_e] | rw [upq_n (by omega)])) (upq_e _ _ _) mo.1 ht2 l3 ?_
      · rw [← hρ r hr]
        unfold scr tmp at hr
        repeat rw [upq_n (by omega)]
      · exact @eqv_tr (BB (Pz p) f) (@bring (Pz p) (pring p) f) (@bdom (Pz p) (pring p) dg pmo E f g hdf) _ _ _ hb l4
    · exact hQ Ni ρi u v hS hF hρ e33 e35 ⟨hm, by show dg u ≤ g + 1; omega, hv, hd⟩ hb
