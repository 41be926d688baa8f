/-! THE CURVE OBJECT: fit or not, standing, dropped -/
theorem ST.other {p : Int} {N N' : Mem} {ρ : Int → Option (Pz p)} (h : ST p N ρ) (hz : Fz N') (h2 : N' 2 = N 2) (h3 : N' 3 = N 3) (hb : ∀ b, inR b = true → N' b = N b) : ST p N' ρ := by
  have hr : ∀ r, KD r = 18 → N' r = N r := fun r k => hb r (inR_row k)
  have hc : ∀ r, KD r = 18 → N' (N r 0) = N (N r 0) := fun r k => hb _ (h.2.1 r k).2
  refine ⟨⟨hz, h.1.2.1, by rw [h2]; exact h.1.2.2.1, by rw [h3]; exact h.1.2.2.2⟩, fun r k => ?_, fun r s k l e => ?_, fun r a k e => ?_⟩
  · rw [hr r k]; exact ⟨⟨(h.rs k).1, by rw [hr r k]⟩, (h.2.1 r k).2⟩
  · rw [hr r k, hr s l] at e; exact h.2.2.1 r s k l e
  · have q := h.rp k e
    rw [hr r k]
    exact ⟨⟨q.1.1, by rw [hr r k]⟩, fun j hj => by rw [hc r k]; exact q.2.1 j hj, q.2.2.1, by rw [hr r k]; exact q.2.2.2⟩
theorem ST.ust {p : Int} {N : Mem} {ρ : Int → Option (Pz p)} (h : ST p N ρ) {a : Int} (i x : Int) (hf : fz a i = none) (h2 : a ≠ 2) (h3 : a ≠ 3) (hb : inR a = false) : ST p (ust N a i x) ρ :=
  h.other (h.1.1.ust hf) (ust_ne h2.symm) (ust_ne h3.symm) (fun b hb2 => ust_ne (fun e => by rw [e, hb] at hb2; cases hb2))
/-- only rows and the cells told are changed -/
def FX (K : List Int) (N N' : Mem) : Prop := ∀ b, inR b = false → b ∉ K → N' b = N b
theorem FX.rf (K : List Int) (N : Mem) : FX K N N := fun _ _ _ => rfl
theorem FX.tr {K : List Int} {N N' N'' : Mem} (h1 : FX K N N') (h2 : FX K N' N'') : FX K N N'' := fun b hb hk => (h2 b hb hk).trans (h1 b hb hk)
theorem FX.mo {K K' : List Int} {N N' : Mem} (h : FX K N N') (hs : ∀ b, b ∈ K → b ∈ K') : FX K' N N' := fun b hb hk => h b hb (fun q => hk (hs b q))
theorem FR.fx {K : List Int} {N N' : Mem} (h : FR N N') : FX K N N' := fun b hb _ => h b hb
theorem FX.us {K : List Int} {N N' : Mem} (h : FX K N N') {a : Int} (i x : Int) (ha : a ∈ K) : FX K N (ust N' a i x) := fun b hb hk => by
  rw [ust_ne (fun e => hk (by rw [e]; exact ha))]; exact h b hb hk
set_option maxHeartbeats 8000000 in
theorem c_stands {N : Mem} {Q : Post} (h : R32 (N 21 3)) (h1 : 0 < N 21 3 → Q (some (0, 1)) NN N) (h0 : ¬ 0 < N 21 3 → Q (some (0, 0)) NN N) : CL 61 [(2, 21)] NN N Q := by
  refine WP.run [] [] 30 ?_
  simp only [bk61_0, bk61_7, bk61_11, bk61_12, U_aload_n, U_getfield, U_if_le, U_iconst, U_goto, U_ireturn, UN_cc, UN_cn, UN_nc, UN_nn, UJ, lget, lset, lset2, entL, wsm, wcat, Option.toList_some, Option.toList_none, List.cons_append, List.nil_append, List.mem_cons, List.not_mem_nil, Prod.mk.injEq, or_false, false_or, or_true, true_or, and_true, true_and, and_false, false_and, and_self, ne_eq, not_false_eq_true, not_true_eq_false, forall_const, true_implies, false_implies, Nat.add_zero, Nat.zero_add, Nat.le_refl, Nat.zero_le, ↓reduceIte, Nat.reduceAdd, Nat.reduceSub, Nat.reduceEqDiff, Nat.reduceLeDiff, Int.reduceEq, Int.reduceNe, Int.reduceNeg, reduceCtorEq, kd21]
  refine ⟨h, fun e => ?_, fun e => ?_⟩
  · simpa using h1 e
  · simpa using h0 e
set_option maxHeartbeats 8000000 in
theorem l_der {p : Int} {N : Mem} {ρ : Int → Option (Pz p)} {Q : Post} {r : Int} {A : Pz p} (hr : KD r = 18) (hrd : r ≠ 24) (hA : ρ r = some A) (hQ : ∀ N', ST p N' (upq ρ 24 (pder A)) → FR N N' → WP 63 (0, 0) 80 [(2, 21), (2, r), (0, (dg A : Int))] [] NN N' Q) :
    ∀ (n i : Nat) (Ni : Mem) (D : Pz p), i + n = dg A → 1 ≤ i → ST p Ni (upq ρ 24 D) → FR N Ni → (∀ k, D.1 k = if k + 1 < i then (pder A).1 k else 0) → WP 63 (0, 0) 41 [(2, 21), (2, r), (0, (i : Int))] [] NN Ni Q := by
  have k24 : KD 24 = 18 := rfl
  intro n
  induction n with
  | zero =>
    intro i Ni D h1 h2 hS hF hD
    have hsA := hS.rp hr (a := A) ((upq_n hrd).trans hA)
    have d8 := hsA.2.2.1
    have e : D = pder A := Pz.ext fun k => by
      rw [hD]
      by_cases q : k + 1 < i
      · rw [if_pos q]
      · rw [if_neg q]; exact (dg_far _ (by have := dg_der A; omega)).symm
    obtain rfl : i = dg A := by omega
    rw [e] at hS
    refine WP.run [(63, 41), (63, 80)] [] 60 ?_
    simp only [bk63_0, bk63_8, bk63_16, bk63_18, bk63_30, bk63_32, bk63_41, bk63_49, bk63_80, bk63_105, bk63_109, bk63_110, U_aload_n, U_getfield, U_iconst, U_icmp_eq, U_ireturn, U_invokevirtual1, U_invokevirtual0, U_istore_n, U_iload_n, U_icmp_gt, U_isub, U_imul, U_irem, U_invokevirtual2, U_iinc, U_goto, U_if_ne, UN_cc, UN_cn, UN_nc, UN_nn, UJ, lget, lset, lset2, entL, wsm, wcat, Option.toList_some, Option.toList_none, List.cons_append, List.nil_append, List.mem_cons, List.not_mem_nil, Prod.mk.injEq, or_false, false_or, or_true, true_or, and_true, true_and, and_false, false_and, and_self, ne_eq, not_false_eq_true, not_true_eq_false, forall_const, true_implies, false_implies, Nat.add_zero, Nat.zero_add, Nat.le_refl, Nat.zero_le, ↓reduceIte, Nat.reduceAdd, Nat.reduceSub, Nat.reduceEqDiff, Nat.reduceLeDiff, Int.reduceEq, Int.reduceNe, Int.reduceNeg, reduceCtorEq, kd21, kd_of hr (by decide), hsA.2.2.2]
    exact ⟨rr (by omega), fun _ => hQ Ni hS hF, fun h => absurd h (by omega)⟩
  | succ n ih =>
    intro i Ni D h1 h2 hS hF hD
    have hsA := hS.rp hr (a := A) ((upq_n hrd).trans hA)
    have d8 := hsA.2.2.1
    have hpp := hS.1.2.1.pos
    have b1 := hS.1.2.1.r32 A i
    have m1 : 0 ≤ (i : Int) * A.1 i := Int.mul_nonneg (by omega) b1.1
    have m2 : (i : Int) * A.1 i ≤ 8 * 13 := Int.mul_le_mul (by omega) (by omega) b1.1 (by omega)
    refine WP.run [(63, 41), (63, 80)] [] 60 ?_
    simp only [bk63_0, bk63_8, bk63_16, bk63_18, bk63_30, bk63_32, bk63_41, bk63_49, bk63_80, bk63_105, bk63_109, bk63_110, U_aload_n, U_getfield, U_iconst, U_icmp_eq, U_ireturn, U_invokevirtual1, U_invokevirtual0, U_istore_n, U_iload_n, U_icmp_gt, U_isub, U_imul, U_irem, U_invokevirtual2, U_iinc, U_goto, U_if_ne, UN_cc, UN_cn, UN_nc, UN_nn, UJ, lget, lset, lset2, entL, wsm, wcat, Option.toList_some, Option.toList_none, List.cons_append, List.nil_append, List.mem_cons, List.not_mem_nil, Prod.mk.injEq, or_false, false_or, or_true, true_or, and_true, true_and, and_false, false_and, and_self, ne_eq, not_false_eq_true, not_true_eq_false, forall_const, true_implies, false_implies, Nat.add_zero, Nat.zero_add, Nat.le_refl, Nat.zero_le, ↓reduceIte, Nat.reduceAdd, Nat.reduceSub, Nat.reduceEqDiff, Nat.reduceLeDiff, Int.reduceEq, Int.reduceNe, Int.reduceNeg, reduceCtorEq, kd21, kd24, kd2, z21_2 hS.1.1, z21_0 hS.1.1, kd_of hr (by decide), hsA.2.2.2]
    refine ⟨rr (by omega), fun h => absurd h (by omega), fun _ => c_get hsA (r3 (by omega)) ?_⟩
    rw [if_pos (by omega), Int.toNat_natCast]
    simp only [bk63_0, bk63_8, bk63_16, bk63_18, bk63_30, bk63_32, bk63_41, bk63_49, bk63_80, bk63_105, bk63_109, bk63_110, U_aload_n, U_getfield, U_iconst, U_icmp_eq, U_ireturn, U_invokevirtual1, U_invokevirtual0, U_istore_n, U_iload_n, U_icmp_gt, U_isub, U_imul, U_irem, U_invokevirtual2, U_iinc, U_goto, U_if_ne, UN_cc, UN_cn, UN_nc, UN_nn, UJ, lget, lset, lset2, entL, wsm, wcat, Option.toList_some, Option.toList_none, List.cons_append, List.nil_append, List.mem_cons, List.not_mem_nil, Prod.mk.injEq, or_false, false_or, or_true, true_or, and_true, true_and, and_false, false_and, and_self, ne_eq, not_false_eq_true, not_true_eq_false, forall_const, true_implies, false_implies, Nat.add_zero, Nat.zero_add, Nat.le_refl, Nat.zero_le, ↓reduceIte, Nat.reduceAdd, Nat.reduceSub, Nat.reduceEqDiff, Nat.reduceLeDiff, Int.reduceEq, Int.reduceNe, Int.reduceNeg, reduceCtorEq, kd21, kd24, kd2, z21_2 hS.1.1, z21_0 hS.1.1, hS.1.2.2.1]
    rw [tm_nn m1, show (i : Int) - 1 = ((i - 1 : Nat) : Int) by omega]
    refine ⟨r3 (by omega), r3 (by omega), by omega, s_put hS k24 (upq_e _ _ _) (i - 1) (by omega) (md_md _ _) fun N1 h1' f1 => ?_⟩
    simp only [bk63_0, bk63_8, bk63_16, bk63_18, bk63_30, bk63_32, bk63_41, bk63_49, bk63_80, bk63_105, bk63_109, bk63_110, U_aload_n, U_getfield, U_iconst, U_icmp_eq, U_ireturn, U_invokevirtual1, U_invokevirtual0, U_istore_n, U_iload_n, U_icmp_gt, U_isub, U_imul, U_irem, U_invokevirtual2, U_iinc, U_goto, U_if_ne, UN_cc, UN_cn, UN_nc, UN_nn, UJ, lget, lset, lset2, entL, wsm, wcat, Option.toList_some, Option.toList_none, List.cons_append, List.nil_append, List.mem_cons, List.not_mem_nil, Prod.mk.injEq, or_false, false_or, or_true, true_or, and_true, true_and, and_false, false_and, and_self, ne_eq, not_false_eq_true, not_true_eq_false, forall_const, true_implies, false_implies, Nat.add_zero, Nat.zero_add, Nat.le_refl, Nat.zero_le, ↓reduceIte, Nat.reduceAdd, Nat.reduceSub, Nat.reduceEqDiff, Nat.reduceLeDiff, Int.reduceEq, Int.reduceNe, Int.reduceNeg, reduceCtorEq]
    rw [upq_u] at h1'
    refine ih (i + 1) N1 _ (by omega) (by omega) h1' (hF.tr f1) (fun k => ?_)
    rw [pput_c]
    by_cases q : k = i - 1
    · rw [if_pos q, if_pos (by omega), pder_c, q, show i - 1 + 1 = i by omega, show ((i - 1 : Nat) : Int) + 1 = i by omega, md_md]
    · rw [if_neg q, hD]
      by_cases q2 : k + 1 < i
      · rw [if_pos q2, if_pos (by omega), (pder A).2.1]
      · rw [if_neg q2, if_neg (by omega), Int.zero_emod]
set_option maxHeartbeats 16000000 in
theorem s_isFit {p : Int} {N : Mem} {ρ : Int → Option (Pz p)} {Q : Post} {r : Int} {A : Pz p} (h : ST p N ρ) (hr : KD r = 18) (hrd : r ≠ 24) (hrt : ¬ tmp r) (hA : ρ r = some A) (h1 : ∀ N' ρ', ST p N' ρ' → FR N N' → (∀ r, ¬ tmp r → r ≠ 24 → ρ' r = ρ r) → Fit A → Q (some (0, 1)) NN N') (h0 : ∀ N' ρ', ST p N' ρ' → FR N N' → (∀ r, ¬ tmp r → r ≠ 24 → ρ' r = ρ r) → ¬ Fit A → Q (some (0, 0)) NN N') :
    CL 63 [(2, 21), (2, r), (9, 0)] NN N Q := by
  have k24 : KD 24 = 18 := rfl
  have k6 : KD 6 = 18 := rfl
  have hsA := h.rp hr hA
  have d8 := hsA.2.2.1
  have b1 := h.1.2.1.r32 A (dg A - 1)
  -- from the degrees on
  have main : (dg A = 4 ∨ dg A = 6) → WP 63 (0, 0) 18 [(2, 21), (2, r), (9, 0)] [] NN N Q := by
    intro hd
    refine WP.run [(63, 41)] [] 60 ?_
    simp only [bk63_0, bk63_8, bk63_16, bk63_18, bk63_30, bk63_32, bk63_41, bk63_49, bk63_80, bk63_105, bk63_109, bk63_110, U_aload_n, U_getfield, U_iconst, U_icmp_eq, U_ireturn, U_invokevirtual1, U_invokevirtual0, U_istore_n, U_iload_n, U_icmp_gt, U_isub, U_imul, U_irem, U_invokevirtual2, U_iinc, U_goto, U_if_ne, UN_cc, UN_cn, UN_nc, UN_nn, UJ, lget, lset, lset2, entL, wsm, wcat, Option.toList_some, Option.toList_none, List.cons_append, List.nil_append, List.mem_cons, List.not_mem_nil, Prod.mk.injEq, or_false, false_or, or_true, true_or, and_true, true_and, and_false, false_and, and_self, ne_eq, not_false_eq_true, not_true_eq_false, forall_const, true_implies, false_implies, Nat.add_zero, Nat.zero_add, Nat.le_refl, Nat.zero_le, ↓reduceIte, Nat.reduceAdd, Nat.reduceSub, Nat.reduceEqDiff, Nat.reduceLeDiff, Int.reduceEq, Int.reduceNe, Int.reduceNeg, reduceCtorEq, kd21, kd24, z21_2 h.1.1, kd_of hr (by decide), hsA.2.2.2]
    refine c_get hsA (r3 (by omega)) ?_
    rw [if_pos (by omega), show ((dg A : Int) - 1).toNat = dg A - 1 by omega]
    simp only [bk63_0, bk63_8, bk63_16, bk63_18, bk63_30, bk63_32, bk63_41, bk63_49, bk63_80, bk63_105, bk63_109, bk63_110, U_aload_n, U_getfield, U_iconst, U_icmp_eq, U_ireturn, U_invokevirtual1, U_invokevirtual0, U_istore_n, U_iload_n, U_icmp_gt, U_isub, U_imul, U_irem, U_invokevirtual2, U_iinc, U_goto, U_if_ne, UN_cc, UN_cn, UN_nc, UN_nn, UJ, lget, lset, lset2, entL, wsm, wcat, Option.toList_some, Option.toList_none, List.cons_append, List.nil_append, List.mem_cons, List.not_mem_nil, Prod.mk.injEq, or_false, false_or, or_true, true_or, and_true, true_and, and_false, false_and, and_self, ne_eq, not_false_eq_true, not_true_eq_false, forall_const, true_implies, false_implies, Nat.add_zero, Nat.zero_add, Nat.le_refl, Nat.zero_le, ↓reduceIte, Nat.reduceAdd, Nat.reduceSub, Nat.reduceEqDiff, Nat.reduceLeDiff, Int.reduceEq, Int.reduceNe, Int.reduceNeg, reduceCtorEq, kd21, kd24, z21_2 h.1.1]
    refine ⟨rr (by omega), fun e => ?_, fun e => h0 N ρ h (FR.rf N) (fun _ _ _ => rfl) (fun hf => e hf.2.1)⟩
    refine s_clear h k24 fun N1 hS1 hF1 => ?_
    simp only [bk63_0, bk63_8, bk63_16, bk63_18, bk63_30, bk63_32, bk63_41, bk63_49, bk63_80, bk63_105, bk63_109, bk63_110, U_aload_n, U_getfield, U_iconst, U_icmp_eq, U_ireturn, U_invokevirtual1, U_invokevirtual0, U_istore_n, U_iload_n, U_icmp_gt, U_isub, U_imul, U_irem, U_invokevirtual2, U_iinc, U_goto, U_if_ne, UN_cc, UN_cn, UN_nc, UN_nn, UJ, lget, lset, lset2, entL, wsm, wcat, Option.toList_some, Option.toList_none, List.cons_append, List.nil_append, List.mem_cons, List.not_mem_nil, Prod.mk.injEq, or_false, false_or, or_true, true_or, and_true, true_and, and_false, false_and, and_self, ne_eq, not_false_eq_true, not_true_eq_false, forall_const, true_implies, false_implies, Nat.add_zero, Nat.zero_add, Nat.le_refl, Nat.zero_le, ↓reduceIte, Nat.reduceAdd, Nat.reduceSub, Nat.reduceEqDiff, Nat.reduceLeDiff, Int.reduceEq, Int.reduceNe, Int.reduceNeg, reduceCtorEq]
    refine l_der (ρ := ρ) (A := A) hr hrd hA (fun N2 hS2 hF2 => ?_) (dg A - 1) 1 N1 (pC p 0) (by omega) (by omega) hS1 hF1 (fun k => by rw [if_neg (by omega)]; exact dg_far _ (by rw [dg_zero.mpr rfl]; omega))
    refine WP.run [] [] 60 ?_
    simp only [bk63_0, bk63_8, bk63_16, bk63_18, bk63_30, bk63_32, bk63_41, bk63_49, bk63_80, bk63_105, bk63_109, bk63_110, U_aload_n, U_getfield, U_iconst, U_icmp_eq, U_ireturn, U_invokevirtual1, U_invokevirtual0, U_istore_n, U_iload_n, U_icmp_gt, U_isub, U_imul, U_irem, U_invokevirtual2, U_iinc, U_goto, U_if_ne, UN_cc, UN_cn, UN_nc, UN_nn, UJ, lget, lset, lset2, entL, wsm, wcat, Option.toList_some, Option.toList_none, List.cons_append, List.nil_append, List.mem_cons, List.not_mem_nil, Prod.mk.injEq, or_false, false_or, or_true, true_or, and_true, true_and, and_false, false_and, and_self, ne_eq, not_false_eq_true, not_true_eq_false, forall_const, true_implies, false_implies, Nat.add_zero, Nat.zero_add, Nat.le_refl, Nat.zero_le, ↓reduceIte, Nat.reduceAdd, Nat.reduceSub, Nat.reduceEqDiff, Nat.reduceLeDiff, Int.reduceEq, Int.reduceNe, Int.reduceNeg, reduceCtorEq, kd21, kd2, z21_2 hS2.1.1, z21_0 hS2.1.1]
    refine s_common hS2 hr k24 hrt (by unfold tmp; omega) (A := A) (B := pder A) ((upq_n hrd).trans hA) (upq_e _ _ _) (by omega) fun N3 ρ3 d s t hS3 hF3 hr3 e6 e8 e10 hbz => ?_
    have h6 := hS3.rp k6 e6
    have hfit := fit_of hd e hbz
    have d6 := h6.2.2.1
    have hrho : ∀ r, ¬ tmp r → r ≠ 24 → ρ3 r = ρ r := fun r r0 r1 => (hr3 r r0).trans (upq_n r1)
    simp only [bk63_0, bk63_8, bk63_16, bk63_18, bk63_30, bk63_32, bk63_41, bk63_49, bk63_80, bk63_105, bk63_109, bk63_110, U_aload_n, U_getfield, U_iconst, U_icmp_eq, U_ireturn, U_invokevirtual1, U_invokevirtual0, U_istore_n, U_iload_n, U_icmp_gt, U_isub, U_imul, U_irem, U_invokevirtual2, U_iinc, U_goto, U_if_ne, UN_cc, UN_cn, UN_nc, UN_nn, UJ, lget, lset, lset2, entL, wsm, wcat, Option.toList_some, Option.toList_none, List.cons_append, List.nil_append, List.mem_cons, List.not_mem_nil, Prod.mk.injEq, or_false, false_or, or_true, true_or, and_true, true_and, and_false, false_and, and_self, ne_eq, not_false_eq_true, not_true_eq_false, forall_const, true_implies, false_implies, Nat.add_zero, Nat.zero_add, Nat.le_refl, Nat.zero_le, ↓reduceIte, Nat.reduceAdd, Nat.reduceSub, Nat.reduceEqDiff, Nat.reduceLeDiff, Int.reduceEq, Int.reduceNe, Int.reduceNeg, reduceCtorEq, kd21, kd2, kd6, z21_0 hS3.1.1, z2_3 hS3.1.1, h6.2.2.2]
    refine ⟨r3 (by omega), fun e2 => ?_, fun e2 => ?_⟩
    · simpa using h1 N3 ρ3 hS3 (hF2.tr hF3) hrho (hfit.mpr (by omega))
    · simpa using h0 N3 ρ3 hS3 (hF2.tr hF3) hrho (fun hf => e2 (by have := hfit.mp hf; omega))
  refine WP.run [(63, 18)] [] 60 ?_
  simp only [bk63_0, bk63_8, bk63_16, bk63_18, bk63_30, bk63_32, bk63_41, bk63_49, bk63_80, bk63_105, bk63_109, bk63_110, U_aload_n, U_getfield, U_iconst, U_icmp_eq, U_ireturn, U_invokevirtual1, U_invokevirtual0, U_istore_n, U_iload_n, U_icmp_gt, U_isub, U_imul, U_irem, U_invokevirtual2, U_iinc, U_goto, U_if_ne, UN_cc, UN_cn, UN_nc, UN_nn, UJ, lget, lset, lset2, entL, wsm, wcat, Option.toList_some, Option.toList_none, List.cons_append, List.nil_append, List.mem_cons, List.not_mem_nil, Prod.mk.injEq, or_false, false_or, or_true, true_or, and_true, true_and, and_false, false_and, and_self, ne_eq, not_false_eq_true, not_true_eq_false, forall_const, true_implies, false_implies, Nat.add_zero, Nat.zero_add, Nat.le_refl, Nat.zero_le, ↓reduceIte, Nat.reduceAdd, Nat.reduceSub, Nat.reduceEqDiff, Nat.reduceLeDiff, Int.reduceEq, Int.reduceNe, Int.reduceNeg, reduceCtorEq, kd_of hr (by decide), hsA.2.2.2]
  refine ⟨rr (by omega), fun e => main (Or.inl (by omega)), fun e => ⟨rr (by omega), fun e2 => main (Or.inr (by omega)), fun e2 => h0 N ρ h (FR.rf N) (fun _ _ _ => rfl) (fun hf => by have := hf.1; omega)⟩⟩
