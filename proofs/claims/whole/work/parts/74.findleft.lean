/-! CODES: kept where anything is left; all functions found -/
set_option maxHeartbeats 8000000 in
theorem l_kpP {p : Int} {N : Mem} {Q : Post} {l L : Nat} {pole : Int} {c : Nat → Int} (hl : l < 26) (hL : L ≤ 26) (h8 : N 120 8 = L) (hc : RgV p c) (hp : Pr p) (hA : ∀ j : Nat, j < L → N (150 + (l : Int)) (j : Int) = c j)
    (hQ : WP 41 (0, 0) 32 [(2, 120), (0, pole), (2, 150 + (l : Int)), (0, (ld c L : Int)), (9, 0), (9, 0)] [] NN N Q) :
    ∀ (n j : Nat), j + n = L → (∀ i, i < j → c i = 0) → WP 41 (0, 0) 12 [(2, 120), (0, pole), (2, 150 + (l : Int)), (0, (j : Int)), (9, 0), (9, 0)] [] NN N Q := by
  have hpp := hp.pos
  obtain ⟨-, k2, -, l2, -, -⟩ := cdk (i := (l : Int)) (by omega) (by omega)
  intro n
  induction n with
  | zero =>
    intro j hj hz
    obtain rfl : j = L := by omega
    have e : ld c j = j := ld_un hz (Or.inl rfl)
    rw [e] at hQ
    refine WP.run [(41, 12), (41, 32)] [] 60 ?_
    simp only [bk41_0, bk41_12, bk41_20, bk41_26, bk41_32, bk41_40, bk41_41, bk41_56, bk41_65, bk41_90, U_aload_n, U_getfield, U_aald, U_astore_n, U_iconst, U_istore_n, U_iload_n, U_icmp_ge, U_iald, U_if_ne, U_iinc, U_goto, U_icmp_lt, U_return, U_invokevirtual1, U_istore, U_iload, U_imul, U_irem, U_iast, U_dup, U_iadd, U_putfield, UN_cc, UN_cn, UN_nc, UN_nn, UJ, lget, lset, lset2, entL, wsm, wcat, Option.toList_some, Option.toList_none, List.cons_append, List.nil_append, List.mem_cons, List.not_mem_nil, Prod.mk.injEq, or_false, false_or, or_true, true_or, and_true, true_and, and_false, false_and, and_self, ne_eq, not_false_eq_true, not_true_eq_false, forall_const, true_implies, false_implies, Nat.add_zero, Nat.zero_add, Nat.le_refl, Nat.zero_le, List.set_cons_zero, List.set_cons_succ, List.set_nil, ↓reduceIte, Nat.reduceAdd, Nat.reduceSub, Nat.reduceEqDiff, Nat.reduceLeDiff, Int.reduceEq, Int.reduceNe, Int.reduceNeg, reduceCtorEq, kd120, h8]
    exact ⟨rr (by omega), fun e => absurd e (by omega), fun _ => hQ⟩
  | succ n ih =>
    intro j hj hz
    have ec := hA j (by omega)
    obtain ⟨a1, a2⟩ := hc j
    refine WP.run [(41, 12), (41, 32)] [] 60 ?_
    simp only [bk41_0, bk41_12, bk41_20, bk41_26, bk41_32, bk41_40, bk41_41, bk41_56, bk41_65, bk41_90, U_aload_n, U_getfield, U_aald, U_astore_n, U_iconst, U_istore_n, U_iload_n, U_icmp_ge, U_iald, U_if_ne, U_iinc, U_goto, U_icmp_lt, U_return, U_invokevirtual1, U_istore, U_iload, U_imul, U_irem, U_iast, U_dup, U_iadd, U_putfield, UN_cc, UN_cn, UN_nc, UN_nn, UJ, lget, lset, lset2, entL, wsm, wcat, Option.toList_some, Option.toList_none, List.cons_append, List.nil_append, List.mem_cons, List.not_mem_nil, Prod.mk.injEq, or_false, false_or, or_true, true_or, and_true, true_and, and_false, false_and, and_self, ne_eq, not_false_eq_true, not_true_eq_false, forall_const, true_implies, false_implies, Nat.add_zero, Nat.zero_add, Nat.le_refl, Nat.zero_le, List.set_cons_zero, List.set_cons_succ, List.set_nil, ↓reduceIte, Nat.reduceAdd, Nat.reduceSub, Nat.reduceEqDiff, Nat.reduceLeDiff, Int.reduceEq, Int.reduceNe, Int.reduceNeg, reduceCtorEq, kd120, h8, k2, l2, ec]
    refine ⟨rr (by omega), fun _ => ⟨by omega, by omega, r3 (by omega), fun e0 => ?_, fun e0 => ?_⟩, fun e => absurd (by omega) e⟩
    · exact ih (j + 1) (by omega) (fun i hi => by
        by_cases q : i = j
        · subst q; exact e0
        · exact hz i (by omega))
    · have e : ld c L = j := ld_un hz (Or.inr ⟨by omega, e0⟩)
      rw [e] at hQ; exact hQ
set_option maxHeartbeats 8000000 in
theorem l_kpJ {p : Int} {N : Mem} {Q : Post} {l L : Nat} {pole pv k : Int} {c : Nat → Int} (hC : CB p N) (hl : l < 26) (hL : L ≤ 26) (h8 : N 120 8 = L) (hc : RgV p c) (hk : 0 ≤ k ∧ k < 13) (hA : ∀ j : Nat, j < L → N (150 + (l : Int)) (j : Int) = c j)
    (hQ : ∀ N', Fr [150 + (l : Int)] N N' → (∀ j : Nat, j < L → N' (150 + (l : Int)) (j : Int) = c j * k % p) → WP 41 (0, 0) 90 [(2, 120), (0, pole), (2, 150 + (l : Int)), (0, pv), (0, k), (0, (L : Int))] [] NN N' Q) :
    ∀ (n j : Nat) (Ni : Mem), j + n = L → Fr [150 + (l : Int)] N Ni → (∀ i : Nat, i < L → Ni (150 + (l : Int)) (i : Int) = if i < j then c i * k % p else c i) → WP 41 (0, 0) 56 [(2, 120), (0, pole), (2, 150 + (l : Int)), (0, pv), (0, k), (0, (j : Int))] [] NN Ni Q := by
  have hp := hC.2.1
  have hpp := hp.pos
  obtain ⟨-, k2, -, l2, -, -⟩ := cdk (i := (l : Int)) (by omega) (by omega)
  intro n
  induction n with
  | zero =>
    intro j Ni hj hF hI
    have e8 : Ni 120 8 = (L : Int) := by rw [hF 120 (by simp <;> omega)]; exact h8
    obtain rfl : j = L := by omega
    refine WP.run [(41, 56), (41, 90)] [] 60 ?_
    simp only [bk41_0, bk41_12, bk41_20, bk41_26, bk41_32, bk41_40, bk41_41, bk41_56, bk41_65, bk41_90, U_aload_n, U_getfield, U_aald, U_astore_n, U_iconst, U_istore_n, U_iload_n, U_icmp_ge, U_iald, U_if_ne, U_iinc, U_goto, U_icmp_lt, U_return, U_invokevirtual1, U_istore, U_iload, U_imul, U_irem, U_iast, U_dup, U_iadd, U_putfield, UN_cc, UN_cn, UN_nc, UN_nn, UJ, lget, lset, lset2, entL, wsm, wcat, Option.toList_some, Option.toList_none, List.cons_append, List.nil_append, List.mem_cons, List.not_mem_nil, Prod.mk.injEq, or_false, false_or, or_true, true_or, and_true, true_and, and_false, false_and, and_self, ne_eq, not_false_eq_true, not_true_eq_false, forall_const, true_implies, false_implies, Nat.add_zero, Nat.zero_add, Nat.le_refl, Nat.zero_le, List.set_cons_zero, List.set_cons_succ, List.set_nil, ↓reduceIte, Nat.reduceAdd, Nat.reduceSub, Nat.reduceEqDiff, Nat.reduceLeDiff, Int.reduceEq, Int.reduceNe, Int.reduceNeg, reduceCtorEq, kd120, e8]
    exact ⟨rr (by omega), fun e => absurd e (by omega), fun _ => hQ Ni hF (fun i hi => by rw [hI i hi, if_pos hi])⟩
  | succ n ih =>
    intro j Ni hj hF hI
    have fc := FC.fr hF (by unfold cdC; omega) (by omega)
    have hz := fc.fz hC.1
    have e8 : Ni 120 8 = (L : Int) := by rw [hF 120 (by simp <;> omega)]; exact h8
    have ew : Ni (150 + (l : Int)) (j : Int) = c j := by rw [hI j (by omega), if_neg (by omega)]
    have ep : Ni 2 0 = p := by rw [hF 2 (by simp <;> omega)]; exact hC.2.2.1
    obtain ⟨a1, a2⟩ := hc j
    have m1 := ab_mul (A := 13) (B := 13) (a := c j) (b := k) (by omega) (by omega)
    have m0 : 0 ≤ c j * k := Int.mul_nonneg a1 hk.1
    refine WP.run [(41, 56), (41, 90)] [] 60 ?_
    simp only [bk41_0, bk41_12, bk41_20, bk41_26, bk41_32, bk41_40, bk41_41, bk41_56, bk41_65, bk41_90, U_aload_n, U_getfield, U_aald, U_astore_n, U_iconst, U_istore_n, U_iload_n, U_icmp_ge, U_iald, U_if_ne, U_iinc, U_goto, U_icmp_lt, U_return, U_invokevirtual1, U_istore, U_iload, U_imul, U_irem, U_iast, U_dup, U_iadd, U_putfield, UN_cc, UN_cn, UN_nc, UN_nn, UJ, lget, lset, lset2, entL, wsm, wcat, Option.toList_some, Option.toList_none, List.cons_append, List.nil_append, List.mem_cons, List.not_mem_nil, Prod.mk.injEq, or_false, false_or, or_true, true_or, and_true, true_and, and_false, false_and, and_self, ne_eq, not_false_eq_true, not_true_eq_false, forall_const, true_implies, false_implies, Nat.add_zero, Nat.zero_add, Nat.le_refl, Nat.zero_le, List.set_cons_zero, List.set_cons_succ, List.set_nil, ↓reduceIte, Nat.reduceAdd, Nat.reduceSub, Nat.reduceEqDiff, Nat.reduceLeDiff, Int.reduceEq, Int.reduceNe, Int.reduceNeg, reduceCtorEq, kd120, kd2, z120_0 hz, e8, k2, l2, ew, ep]
    rw [tm_nn m0]
    refine ⟨rr (by omega), fun _ => ⟨by omega, by omega, r3 (by omega), r3 (by omega), by omega, by omega, by omega, ?_⟩, fun e => absurd (by omega) e⟩
    refine ih (j + 1) _ (by omega) (fun b hb => ?_) (fun i hi => ?_)
    · rw [ust_ne (fun e => hb (by simp [e]))]; exact hF b hb
    · rw [ust_at]
      by_cases e : i = j
      · subst e; rw [if_pos rfl, if_pos (by omega)]
      · rw [if_neg (by omega), hI i hi]
        by_cases q : i < j
        · rw [if_pos q, if_pos (by omega)]
        · rw [if_neg q, if_neg (by omega)]
theorem CdA.push {p : Int} {N N' : Mem} {f : Pz p} {K : List CdE} {e : CdE} (h : CdA N f K) (h7 : N' 120 7 = (K.length : Int) + 1) (h8 : N' 120 8 = N 120 8) (h176 : ∀ i : Nat, N' 176 (i : Int) = if i = K.length then (e.1 : Int) else N 176 (i : Int)) (h177 : ∀ i : Nat, N' 177 (i : Int) = if i = K.length then (ld e.2.2 (ptl f p.toNat).length : Int) else N 177 (i : Int))
    (hw : ∀ i : Nat, i < K.length → N' (123 + (i : Int)) = N (123 + (i : Int)) ∧ N' (150 + (i : Int)) = N (150 + (i : Int))) (hn : ∀ j : Nat, j < (ptl f p.toNat).length → N' (123 + (K.length : Int)) (j : Int) = e.2.1 j ∧ N' (150 + (K.length : Int)) (j : Int) = e.2.2 j) : CdA N' f (K ++ [e]) := by
  refine ⟨by rw [h7, List.length_append]; simp, by rw [h8]; exact h.2.1, fun i e' he => ?_⟩
  rw [h176, h177]
  by_cases q : i < K.length
  · rw [List.getElem?_append_left q] at he
    rw [if_neg (by omega), if_neg (by omega), (hw i q).1, (hw i q).2]; exact h.2.2 i e' he
  · rw [List.getElem?_append_right (by omega)] at he
    by_cases q2 : i = K.length
    · subst q2
      simp at he
      subst he
      rw [if_pos rfl, if_pos rfl]; exact ⟨rfl, rfl, hn⟩
    · rw [List.getElem?_eq_none (by simp <;> omega)] at he; cases he
set_option maxHeartbeats 16000000 in
theorem s_keepLeft {p : Int} {N : Mem} {ρ : Int → Option (Pz p)} {Q : Post} {f : Pz p} {K : List CdE} {pole : Nat} {w c : Nat → Int} (hS : ST p N ρ) (hA : CdA N f K) (hc : RgV p c) (hl : K.length < 26)
    (hww : ∀ j : Nat, j < (ptl f p.toNat).length → N (123 + (K.length : Int)) (j : Int) = w j) (hcc : ∀ j : Nat, j < (ptl f p.toNat).length → N (150 + (K.length : Int)) (j : Int) = c j)
    (hQ : ∀ N', FC N N' → (N' 120 9 = N 120 9 ∧ N' 120 13 = N 120 13) → CdA N' f (if ld c (ptl f p.toNat).length < (ptl f p.toNat).length then K ++ [(pole, w, nrm p (ptl f p.toNat).length c)] else K) → Q none NN N') : CL 41 [(2, 120), (0, (pole : Int)), (9, 0), (9, 0), (9, 0), (9, 0)] NN N Q := by
  have hp := hS.1.2.1
  have hpp := hp.pos
  have h26 := ptl_26 hp f
  have z2 := (z122 hS.1.1 (K.length : Int) (by omega) (by omega)).2
  have nz : ¬ (150 + (K.length : Int) = 0) := by omega
  obtain ⟨-, k2, -, l2, -, -⟩ := cdk (i := (K.length : Int)) (by omega) (by omega)
  refine WP.run [(41, 12)] [] 60 ?_
  simp only [bk41_0, bk41_12, bk41_20, bk41_26, bk41_32, bk41_40, bk41_41, bk41_56, bk41_65, bk41_90, U_aload_n, U_getfield, U_aald, U_astore_n, U_iconst, U_istore_n, U_iload_n, U_icmp_ge, U_iald, U_if_ne, U_iinc, U_goto, U_icmp_lt, U_return, U_invokevirtual1, U_istore, U_iload, U_imul, U_irem, U_iast, U_dup, U_iadd, U_putfield, UN_cc, UN_cn, UN_nc, UN_nn, UJ, lget, lset, lset2, entL, wsm, wcat, Option.toList_some, Option.toList_none, List.cons_append, List.nil_append, List.mem_cons, List.not_mem_nil, Prod.mk.injEq, or_false, false_or, or_true, true_or, and_true, true_and, and_false, false_and, and_self, ne_eq, not_false_eq_true, not_true_eq_false, forall_const, true_implies, false_implies, Nat.add_zero, Nat.zero_add, Nat.le_refl, Nat.zero_le, List.set_cons_zero, List.set_cons_succ, List.set_nil, ↓reduceIte, Nat.reduceAdd, Nat.reduceSub, Nat.reduceEqDiff, Nat.reduceLeDiff, Int.reduceEq, Int.reduceNe, Int.reduceNeg, reduceCtorEq, kd120, kd149, ln149, z120_4 hS.1.1, hA.1, z2, nz]
  refine ⟨by omega, by omega, ?_⟩
  refine l_kpP (N := N) (l := K.length) (L := (ptl f p.toNat).length) (c := c) hl h26 hA.2.1 hc hp hcc ?_ (ptl f p.toNat).length 0 (by omega) (fun i hi => by omega)
  have hle := ld_le c (ptl f p.toNat).length
  by_cases hlt : ld c (ptl f p.toNat).length < (ptl f p.toNat).length
  · rw [if_pos hlt] at hQ
    have hcp := hcc _ hlt
    have hcn := ld_ne hlt
    obtain ⟨a1, a2⟩ := hc (ld c (ptl f p.toNat).length)
    have hgn := (nrm_gd hp hc hlt).2
    have hin := pinv_ok hp (x := c (ld c (ptl f p.toNat).length)) (by omega) a2
    generalize hpv : ld c (ptl f p.toNat).length = pv at *
    refine WP.run [(41, 56)] [] 60 ?_
    simp only [bk41_0, bk41_12, bk41_20, bk41_26, bk41_32, bk41_40, bk41_41, bk41_56, bk41_65, bk41_90, U_aload_n, U_getfield, U_aald, U_astore_n, U_iconst, U_istore_n, U_iload_n, U_icmp_ge, U_iald, U_if_ne, U_iinc, U_goto, U_icmp_lt, U_return, U_invokevirtual1, U_istore, U_iload, U_imul, U_irem, U_iast, U_dup, U_iadd, U_putfield, UN_cc, UN_cn, UN_nc, UN_nn, UJ, lget, lset, lset2, entL, wsm, wcat, Option.toList_some, Option.toList_none, List.cons_append, List.nil_append, List.mem_cons, List.not_mem_nil, Prod.mk.injEq, or_false, false_or, or_true, true_or, and_true, true_and, and_false, false_and, and_self, ne_eq, not_false_eq_true, not_true_eq_false, forall_const, true_implies, false_implies, Nat.add_zero, Nat.zero_add, Nat.le_refl, Nat.zero_le, List.set_cons_zero, List.set_cons_succ, List.set_nil, ↓reduceIte, Nat.reduceAdd, Nat.reduceSub, Nat.reduceEqDiff, Nat.reduceLeDiff, Int.reduceEq, Int.reduceNe, Int.reduceNeg, reduceCtorEq, kd120, kd2, z120_0 hS.1.1, hA.2.1, k2, l2, hcp]
    refine ⟨rr (by omega), fun _ => ⟨by omega, by omega, c_inverse hS.1 (by omega) a2 (fun x x0 x1 x2 => ?_)⟩, fun e => absurd (by omega) e⟩
    simp only [bk41_0, bk41_12, bk41_20, bk41_26, bk41_32, bk41_40, bk41_41, bk41_56, bk41_65, bk41_90, U_aload_n, U_getfield, U_aald, U_astore_n, U_iconst, U_istore_n, U_iload_n, U_icmp_ge, U_iald, U_if_ne, U_iinc, U_goto, U_icmp_lt, U_return, U_invokevirtual1, U_istore, U_iload, U_imul, U_irem, U_iast, U_dup, U_iadd, U_putfield, UN_cc, UN_cn, UN_nc, UN_nn, UJ, lget, lset, lset2, entL, wsm, wcat, Option.toList_some, Option.toList_none, List.cons_append, List.nil_append, List.mem_cons, List.not_mem_nil, Prod.mk.injEq, or_false, false_or, or_true, true_or, and_true, true_and, and_false, false_and, and_self, ne_eq, not_false_eq_true, not_true_eq_false, forall_const, true_implies, false_implies, Nat.add_zero, Nat.zero_add, Nat.le_refl, Nat.zero_le, List.set_cons_zero, List.set_cons_succ, List.set_nil, ↓reduceIte, Nat.reduceAdd, Nat.reduceSub, Nat.reduceEqDiff, Nat.reduceLeDiff, Int.reduceEq, Int.reduceNe, Int.reduceNeg, reduceCtorEq]
    refine l_kpJ (N := N) (l := K.length) (L := (ptl f p.toNat).length) (c := c) (k := x) hS.1 hl h26 hA.2.1 hc ⟨x0, x1⟩ hcc (fun N' g1 g2 => ?_) (ptl f p.toNat).length 0 N (by omega) (Fr.rf _ _) (fun i hi => by rw [if_neg (by omega)]; exact hcc i hi)
    have fc := FC.fr g1 (by unfold cdC; omega) (by omega)
    have hz := fc.fz hS.1.1
    have e7 : N' 120 7 = (K.length : Int) := by rw [g1 120 (by simp <;> omega)]; exact hA.1
    refine WP.run [] [] 60 ?_
    simp only [bk41_0, bk41_12, bk41_20, bk41_26, bk41_32, bk41_40, bk41_41, bk41_56, bk41_65, bk41_90, U_aload_n, U_getfield, U_aald, U_astore_n, U_iconst, U_istore_n, U_iload_n, U_icmp_ge, U_iald, U_if_ne, U_iinc, U_goto, U_icmp_lt, U_return, U_invokevirtual1, U_istore, U_iload, U_imul, U_irem, U_iast, U_dup, U_iadd, U_putfield, UN_cc, UN_cn, UN_nc, UN_nn, UJ, lget, lset, lset2, entL, wsm, wcat, Option.toList_some, Option.toList_none, List.cons_append, List.nil_append, List.mem_cons, List.not_mem_nil, Prod.mk.injEq, or_false, false_or, or_true, true_or, and_true, true_and, and_false, false_and, and_self, ne_eq, not_false_eq_true, not_true_eq_false, forall_const, true_implies, false_implies, Nat.add_zero, Nat.zero_add, Nat.le_refl, Nat.zero_le, List.set_cons_zero, List.set_cons_succ, List.set_nil, ↓reduceIte, Nat.reduceAdd, Nat.reduceSub, Nat.reduceEqDiff, Nat.reduceLeDiff, Int.reduceEq, Int.reduceNe, Int.reduceNeg, reduceCtorEq, kd120, kd176, kd177, ln176, ln177, z120_5 hz, z120_6 hz, e7, ust_r]
    refine ⟨by omega, by omega, by omega, by omega, ?_⟩
    refine hQ _ (((fc.us _ _ (by unfold cdC; omega) (by omega)).us _ _ (by unfold cdC; omega) (by omega)).u0 _ (by omega)) ?_ ?_
    · constructor <;> rw [ust_at, if_neg (by omega), ust_ne (by omega), ust_ne (by omega), g1 120 (by simp <;> omega)]
    · refine hA.push (by rw [ust_at, if_pos rfl]) (by rw [ust_at, if_neg (by omega), ust_ne (by omega), ust_ne (by omega), g1 120 (by simp <;> omega)]) (fun i => ?_) (fun i => ?_) (fun i hi => ⟨?_, ?_⟩) (fun j hj => ⟨?_, ?_⟩)
      · rw [ust_ne (by omega), ust_at]
        by_cases q : i = K.length
        · rw [if_pos q, if_pos (by omega)]
        · rw [if_neg q, if_neg (by omega), ust_ne (by omega), g1 176 (by simp <;> omega)]
      · show _ = if i = K.length then (ld (nrm p (ptl f p.toNat).length c) (ptl f p.toNat).length : Int) else N 177 (i : Int)
        rw [hgn, ust_ne (by omega), ust_ne (by omega), ust_at]
        by_cases q : i = K.length
        · rw [if_pos q, if_pos (by omega)]
        · rw [if_neg q, if_neg (by omega), g1 177 (by simp <;> omega)]
      · rw [ust_ne (by omega), ust_ne (by omega), ust_ne (by omega)]; exact g1 _ (by simp <;> omega)
      · rw [ust_ne (by omega), ust_ne (by omega), ust_ne (by omega)]; exact g1 _ (by simp <;> omega)
      · rw [ust_ne (by omega), ust_ne (by omega), ust_ne (by omega), g1 _ (by simp <;> omega)]; exact hww j hj
      · rw [ust_ne (by omega), ust_ne (by omega), ust_ne (by omega), g2 j hj]
        show c j * x % p = c j * pinv p (c (ld c (ptl f p.toNat).length)) % p
        rw [hpv]
        exact inv_un hp x2 hin.1
  · rw [if_neg hlt] at hQ
    refine WP.run [] [] 60 ?_
    simp only [bk41_0, bk41_12, bk41_20, bk41_26, bk41_32, bk41_40, bk41_41, bk41_56, bk41_65, bk41_90, U_aload_n, U_getfield, U_aald, U_astore_n, U_iconst, U_istore_n, U_iload_n, U_icmp_ge, U_iald, U_if_ne, U_iinc, U_goto, U_icmp_lt, U_return, U_invokevirtual1, U_istore, U_iload, U_imul, U_irem, U_iast, U_dup, U_iadd, U_putfield, UN_cc, UN_cn, UN_nc, UN_nn, UJ, lget, lset, lset2, entL, wsm, wcat, Option.toList_some, Option.toList_none, List.cons_append, List.nil_append, List.mem_cons, List.not_mem_nil, Prod.mk.injEq, or_false, false_or, or_true, true_or, and_true, true_and, and_false, false_and, and_self, ne_eq, not_false_eq_true, not_true_eq_false, forall_const, true_implies, false_implies, Nat.add_zero, Nat.zero_add, Nat.le_refl, Nat.zero_le, List.set_cons_zero, List.set_cons_succ, List.set_nil, ↓reduceIte, Nat.reduceAdd, Nat.reduceSub, Nat.reduceEqDiff, Nat.reduceLeDiff, Int.reduceEq, Int.reduceNe, Int.reduceNeg, reduceCtorEq, kd120, hA.2.1]
    exact ⟨rr (by omega), fun e => absurd e (by omega), fun _ => hQ N (FC.rf _) ⟨rfl, rfl⟩ hA⟩
