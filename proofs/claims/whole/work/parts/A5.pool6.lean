/-! THE MODEL'S ROWS: division -/
set_option maxHeartbeats 16000000 in
theorem l_mdO {p : Int} {N : Mem} {μ : Int → Option (Pz p)} {Q : Post} {t l a b : Int} {A B : Pz p} (ht : 0 ≤ t ∧ t < 39) (hl : 0 ≤ l ∧ l < 39) (htl : t ≠ l) (htb : t ≠ b) (hlb : l ≠ b) (hb : μ b = some B) (hB0 : dg B ≠ 0) (hA : dg A ≤ 24) (hB24 : dg B ≤ 24)
    (hQ : ∀ N' q R, MT p N' (upq (upq μ t q) l R) → PF N N' → A = padd (pmul B q) R → dg R < dg B → dg q + dg B ≤ max (dg A + 1) (dg B) → Q none NN N') : ∀ (n : Nat) (i : Int) (Ni : Mem) (q R : Pz p) (x y : V), (i + 1 = n ∨ (n = 0 ∧ i < 0 ∧ -100 ≤ i)) → i ≤ (dg A : Int) - (dg B : Int) → MT p Ni (upq (fgt μ t) l R) → PF N Ni → A = padd (pmul B q) R → dg R + 1 ≤ n + dg B → (∀ j : Nat, n ≤ j → j < dg A + 1 - dg B → Ni 198 (24 * t + (j : Int)) = q.1 j) → (∀ j : Nat, j < n → q.1 j = 0) → (∀ j : Nat, dg A + 1 - dg B ≤ j → q.1 j = 0) → WP 169 (0, 0) 74 [(2, 190), (0, t), (0, l), (0, a), (0, b), (0, (dg A : Int) - 1 - ((dg B : Int) - 1)), (0, pinv p (B.1 (dg B - 1))), (0, i), x, y] [] NN Ni Q := by
  intro n
  induction n with
  | zero =>
    intro i Ni q R x y h1 h2 hS hF hq hd hc hn hf
    have fin : ∀ N', MT p N' (upq (upq (fgt μ t) l R) t q) → PF Ni N' → Q none NN N' := fun N' S' F' => by
      rw [upq_c _ _ _ htl.symm, upq_fgt] at S'
      refine hQ N' q R S' (hF.tr F') hq (by omega) ?_
      have : dg q ≤ dg A + 1 - dg B := dg_le fun k hk => hf k hk
      omega
    refine WP.run [(169, 74)] [] 60 ?_
    simp only [bk169_0, bk169_25, bk169_32, bk169_51, bk169_74, bk169_79, bk169_121, bk169_133, bk169_138, bk169_184, bk169_190, bk169_195, bk169_206, bk169_212, bk169_219, bk169_223, bk169_225, U_aload_n, U_iload_n, U_invokevirtual2, U_getfield, U_iald, U_iload, U_isub, U_istore, U_iconst, U_icmp_gt, U_bipush, U_imul, U_iadd, U_iast, U_iinc, U_goto, U_invokevirtual1, U_if_lt, U_irem, U_if_eq, U_if_ge, U_return, UN_cc, UN_cn, UN_nc, UN_nn, UJ, lget, lset, lset2, entL, wsm, wcat, Option.toList_some, Option.toList_none, List.cons_append, List.nil_append, List.mem_cons, List.not_mem_nil, Prod.mk.injEq, or_false, false_or, or_true, true_or, and_true, true_and, and_false, false_and, and_self, ne_eq, not_false_eq_true, not_true_eq_false, forall_const, true_implies, false_implies, Nat.add_zero, Nat.zero_add, Nat.le_refl, Nat.zero_le, List.set_cons_zero, List.set_cons_succ, List.set_nil, ↓reduceIte, Nat.reduceAdd, Nat.reduceSub, Nat.reduceEqDiff, Nat.reduceLeDiff, Int.reduceEq, Int.reduceNe, Int.reduceNeg, reduceCtorEq, kd190]
    refine ⟨r3 (by omega), fun _ => ⟨r3 (by omega), fun e => ?_, fun e => ?_⟩, fun e => absurd (by omega) e⟩
    · refine m_trim hS ht.1 ht.2 (by omega) (by omega) (A := q) (fun k hk => hc k (by omega) (by omega)) (fun k hk => hf k (by omega)) fun N' S' F' _ => ?_
      simp only [bk169_0, bk169_25, bk169_32, bk169_51, bk169_74, bk169_79, bk169_121, bk169_133, bk169_138, bk169_184, bk169_190, bk169_195, bk169_206, bk169_212, bk169_219, bk169_223, bk169_225, U_aload_n, U_iload_n, U_invokevirtual2, U_getfield, U_iald, U_iload, U_isub, U_istore, U_iconst, U_icmp_gt, U_bipush, U_imul, U_iadd, U_iast, U_iinc, U_goto, U_invokevirtual1, U_if_lt, U_irem, U_if_eq, U_if_ge, U_return, UN_cc, UN_cn, UN_nc, UN_nn, UJ, lget, lset, lset2, entL, wsm, wcat, Option.toList_some, Option.toList_none, List.cons_append, List.nil_append, List.mem_cons, List.not_mem_nil, Prod.mk.injEq, or_false, false_or, or_true, true_or, and_true, true_and, and_false, false_and, and_self, ne_eq, not_false_eq_true, not_true_eq_false, forall_const, true_implies, false_implies, Nat.add_zero, Nat.zero_add, Nat.le_refl, Nat.zero_le, List.set_cons_zero, List.set_cons_succ, List.set_nil, ↓reduceIte, Nat.reduceAdd, Nat.reduceSub, Nat.reduceEqDiff, Nat.reduceLeDiff, Int.reduceEq, Int.reduceNe, Int.reduceNeg, reduceCtorEq]
      exact fin N' S' F'
    · refine m_trim hS ht.1 ht.2 (by omega) (by omega) (A := q) (fun k hk => hc k (by omega) (by omega)) (fun k hk => hf k (by omega)) fun N' S' F' _ => ?_
      simp only [bk169_0, bk169_25, bk169_32, bk169_51, bk169_74, bk169_79, bk169_121, bk169_133, bk169_138, bk169_184, bk169_190, bk169_195, bk169_206, bk169_212, bk169_219, bk169_223, bk169_225, U_aload_n, U_iload_n, U_invokevirtual2, U_getfield, U_iald, U_iload, U_isub, U_istore, U_iconst, U_icmp_gt, U_bipush, U_imul, U_iadd, U_iast, U_iinc, U_goto, U_invokevirtual1, U_if_lt, U_irem, U_if_eq, U_if_ge, U_return, UN_cc, UN_cn, UN_nc, UN_nn, UJ, lget, lset, lset2, entL, wsm, wcat, Option.toList_some, Option.toList_none, List.cons_append, List.nil_append, List.mem_cons, List.not_mem_nil, Prod.mk.injEq, or_false, false_or, or_true, true_or, and_true, true_and, and_false, false_and, and_self, ne_eq, not_false_eq_true, not_true_eq_false, forall_const, true_implies, false_implies, Nat.add_zero, Nat.zero_add, Nat.le_refl, Nat.zero_le, List.set_cons_zero, List.set_cons_succ, List.set_nil, ↓reduceIte, Nat.reduceAdd, Nat.reduceSub, Nat.reduceEqDiff, Nat.reduceLeDiff, Int.reduceEq, Int.reduceNe, Int.reduceNeg, reduceCtorEq]
      exact fin N' S' F'
  | succ n ih =>
    intro i Ni q R x y h1 h2 hS hF hq hd hc hn hf
    obtain rfl : i = (n : Int) := by omega
    have hpp := hS.2.1.pos
    have hbB : upq (fgt μ t) l R b = some B := by rw [upq_n hlb.symm, fgt_n htb.symm]; exact hb
    obtain ⟨p1, p2, p3, p4, p5⟩ := hS.2.2.2.2 b B hbB
    obtain ⟨r1, r2, r3', r4, r5⟩ := hS.2.2.2.2 l R (upq_e _ _ _)
    have hlead := pz_rg hS.2.1 B (dg B - 1)
    have hne := dg_top B hB0
    obtain ⟨i1, i2, i3⟩ := pinv_ok hS.2.1 (x := B.1 (dg B - 1)) (by omega) hlead.2
    have b1 := pz_rg hS.2.1 R (n + dg B - 1)
    have m1 : 0 ≤ R.1 (n + dg B - 1) * pinv p (B.1 (dg B - 1)) := Int.mul_nonneg b1.1 i2
    have m2 := ab_mul (A := 13) (B := 13) (a := R.1 (n + dg B - 1)) (b := pinv p (B.1 (dg B - 1))) (by omega) (by omega)
    have g1 := Int.emod_nonneg (R.1 (n + dg B - 1) * pinv p (B.1 (dg B - 1))) (b := p) (by omega)
    have g2 := Int.emod_lt_of_pos (R.1 (n + dg B - 1) * pinv p (B.1 (dg B - 1))) (b := p) (by omega)
    refine WP.run [(169, 74), (169, 121)] [] 60 ?_
    simp only [bk169_0, bk169_25, bk169_32, bk169_51, bk169_74, bk169_79, bk169_121, bk169_133, bk169_138, bk169_184, bk169_190, bk169_195, bk169_206, bk169_212, bk169_219, bk169_223, bk169_225, U_aload_n, U_iload_n, U_invokevirtual2, U_getfield, U_iald, U_iload, U_isub, U_istore, U_iconst, U_icmp_gt, U_bipush, U_imul, U_iadd, U_iast, U_iinc, U_goto, U_invokevirtual1, U_if_lt, U_irem, U_if_eq, U_if_ge, U_return, UN_cc, UN_cn, UN_nc, UN_nn, UJ, lget, lset, lset2, entL, wsm, wcat, Option.toList_some, Option.toList_none, List.cons_append, List.nil_append, List.mem_cons, List.not_mem_nil, Prod.mk.injEq, or_false, false_or, or_true, true_or, and_true, true_and, and_false, false_and, and_self, ne_eq, not_false_eq_true, not_true_eq_false, forall_const, true_implies, false_implies, Nat.add_zero, Nat.zero_add, Nat.le_refl, Nat.zero_le, List.set_cons_zero, List.set_cons_succ, List.set_nil, ↓reduceIte, Nat.reduceAdd, Nat.reduceSub, Nat.reduceEqDiff, Nat.reduceLeDiff, Int.reduceEq, Int.reduceNe, Int.reduceNeg, reduceCtorEq, kd190, kd199, ln199, z190_13 hS.1, p4]
    refine ⟨r3 (by omega), fun h => by omega, fun _ => ⟨p1, p2, m_get hS (upq_e _ _ _) (r3 (by omega)) ?_⟩⟩
    rw [if_pos (by omega), show ((n : Int) + ((dg B : Int) - 1)).toNat = n + dg B - 1 by omega]
    simp only [bk169_0, bk169_25, bk169_32, bk169_51, bk169_74, bk169_79, bk169_121, bk169_133, bk169_138, bk169_184, bk169_190, bk169_195, bk169_206, bk169_212, bk169_219, bk169_223, bk169_225, U_aload_n, U_iload_n, U_invokevirtual2, U_getfield, U_iald, U_iload, U_isub, U_istore, U_iconst, U_icmp_gt, U_bipush, U_imul, U_iadd, U_iast, U_iinc, U_goto, U_invokevirtual1, U_if_lt, U_irem, U_if_eq, U_if_ge, U_return, UN_cc, UN_cn, UN_nc, UN_nn, UJ, lget, lset, lset2, entL, wsm, wcat, Option.toList_some, Option.toList_none, List.cons_append, List.nil_append, List.mem_cons, List.not_mem_nil, Prod.mk.injEq, or_false, false_or, or_true, true_or, and_true, true_and, and_false, false_and, and_self, ne_eq, not_false_eq_true, not_true_eq_false, forall_const, true_implies, false_implies, Nat.add_zero, Nat.zero_add, Nat.le_refl, Nat.zero_le, List.set_cons_zero, List.set_cons_succ, List.set_nil, ↓reduceIte, Nat.reduceAdd, Nat.reduceSub, Nat.reduceEqDiff, Nat.reduceLeDiff, Int.reduceEq, Int.reduceNe, Int.reduceNeg, reduceCtorEq, kd190, kd198, ln198, z190_12 hS.1, hS.2.2.1]
    rw [tm_nn m1]
    have hki := i1
    have hT : n < dg A + 1 - dg B := by omega
    have S1 := hS.us (a := t) (k := (n : Int)) (i := 24 * t + (n : Int)) (v := R.1 (n + dg B - 1) * pinv p (B.1 (dg B - 1)) % p) (by rw [upq_n htl]; exact fgt_e μ t) (by omega) (by omega) rfl
    have hR1 : R.1 (n + dg B - 1) % p = (R.1 (n + dg B - 1) * pinv p (B.1 (dg B - 1)) % p) * B.1 (dg B - 1) % p := by
      rw [md_mul (md_md _ _) rfl, Int.mul_assoc, Int.mul_comm (pinv p (B.1 (dg B - 1))), md_mul (p := p) (b' := 1) rfl (hki.trans (Int.emod_eq_of_lt (by omega) (by omega)).symm), Int.mul_one]
    refine ⟨r3 (by omega), r3 (by omega), by omega, by omega, by omega, ?_⟩
    generalize hcc : R.1 (n + dg B - 1) * pinv p (B.1 (dg B - 1)) % p = c at *
    by_cases c0 : c = 0
    · subst c0
      have hz : R.1 (n + dg B - 1) = 0 := by
        rw [Int.zero_mul, Int.zero_emod] at hR1
        rw [← R.2.1 (n + dg B - 1)]; exact hR1
      have hd2 : dg R + 1 ≤ n + dg B := by
        have : dg R ≤ n + dg B - 1 := dg_le fun k hk => by
          by_cases e : k = n + dg B - 1
          · rw [e]; exact hz
          · exact dg_far R (by omega)
        omega
      refine l_mdZ S1 hbB ?_ (dg B) 0 (by omega)
      refine WP.run [(169, 74)] [] 60 ?_
      simp only [bk169_0, bk169_25, bk169_32, bk169_51, bk169_74, bk169_79, bk169_121, bk169_133, bk169_138, bk169_184, bk169_190, bk169_195, bk169_206, bk169_212, bk169_219, bk169_223, bk169_225, U_aload_n, U_iload_n, U_invokevirtual2, U_getfield, U_iald, U_iload, U_isub, U_istore, U_iconst, U_icmp_gt, U_bipush, U_imul, U_iadd, U_iast, U_iinc, U_goto, U_invokevirtual1, U_if_lt, U_irem, U_if_eq, U_if_ge, U_return, UN_cc, UN_cn, UN_nc, UN_nn, UJ, lget, lset, lset2, entL, wsm, wcat, Option.toList_some, Option.toList_none, List.cons_append, List.nil_append, List.mem_cons, List.not_mem_nil, Prod.mk.injEq, or_false, false_or, or_true, true_or, and_true, true_and, and_false, false_and, and_self, ne_eq, not_false_eq_true, not_true_eq_false, forall_const, true_implies, false_implies, Nat.add_zero, Nat.zero_add, Nat.le_refl, Nat.zero_le, List.set_cons_zero, List.set_cons_succ, List.set_nil, ↓reduceIte, Nat.reduceAdd, Nat.reduceSub, Nat.reduceEqDiff, Nat.reduceLeDiff, Int.reduceEq, Int.reduceNe, Int.reduceNeg, reduceCtorEq]
      refine ⟨r3 (by omega), ?_⟩
      refine ih ((n : Int) + -1) _ q R _ _ (by omega) (by omega) S1 (hF.tr (PF.us _ _ _)) hq hd2 (fun j hj1 hj2 => ?_) (fun j hj => hn j (by omega)) hf
      rw [ust_at]
      by_cases e : j = n
      · rw [if_pos (by omega), e, hn n (by omega)]
      · rw [if_neg (by omega)]; exact hc j (by omega) hj2
    · have hRd : dg R = n + dg B := by
        have : R.1 (n + dg B - 1) ≠ 0 := fun e => c0 (by rw [← hcc, e, Int.zero_mul, Int.zero_emod])
        have : ¬ dg R ≤ n + dg B - 1 := fun e => this (dg_far R e)
        omega
      have S2 := S1.fg l
      have h199 : (ust Ni 198 (24 * t + (n : Int)) c) 199 l = (dg R : Int) - 1 := by rw [ust_ne (by decide)]; exact r4
      refine l_mdI (N := ust Ni 198 (24 * t + (n : Int)) c) (R := R) (B := B) hl (fgt_e _ l) (by rw [fgt_n hlb.symm]; exact hbB) ⟨g1, by omega⟩ c0 hRd r3' (fun N3 S3 F3 O3 I3 => ?_) (dg B) 0 _ (by omega) S2 (Fr.rf _ _) (fun _ _ => rfl) (fun i hi => ?_) (fun i hi1 hi2 => ?_)
      · have d3 : N3 199 l = (dg R : Int) - 1 := by rw [F3 199 (by simp)]; exact h199
        refine WP.run [(169, 74)] [] 60 ?_
        simp only [bk169_0, bk169_25, bk169_32, bk169_51, bk169_74, bk169_79, bk169_121, bk169_133, bk169_138, bk169_184, bk169_190, bk169_195, bk169_206, bk169_212, bk169_219, bk169_223, bk169_225, U_aload_n, U_iload_n, U_invokevirtual2, U_getfield, U_iald, U_iload, U_isub, U_istore, U_iconst, U_icmp_gt, U_bipush, U_imul, U_iadd, U_iast, U_iinc, U_goto, U_invokevirtual1, U_if_lt, U_irem, U_if_eq, U_if_ge, U_return, UN_cc, UN_cn, UN_nc, UN_nn, UJ, lget, lset, lset2, entL, wsm, wcat, Option.toList_some, Option.toList_none, List.cons_append, List.nil_append, List.mem_cons, List.not_mem_nil, Prod.mk.injEq, or_false, false_or, or_true, true_or, and_true, true_and, and_false, false_and, and_self, ne_eq, not_false_eq_true, not_true_eq_false, forall_const, true_implies, false_implies, Nat.add_zero, Nat.zero_add, Nat.le_refl, Nat.zero_le, List.set_cons_zero, List.set_cons_succ, List.set_nil, ↓reduceIte, Nat.reduceAdd, Nat.reduceSub, Nat.reduceEqDiff, Nat.reduceLeDiff, Int.reduceEq, Int.reduceNe, Int.reduceNeg, reduceCtorEq, kd190, kd199, ln199, z190_13 S3.1, d3]
        refine ⟨r3 (by omega), fun e => absurd e c0, fun _ => ⟨by omega, by omega, m_trim S3 hl.1 hl.2 (by omega) (by omega) (A := padd R (pmul (pM p (-c) n) B)) (fun k hk => I3 k (by omega)) (fun k hk => ?_) fun N4 S4 F4 e4 => ?_⟩⟩
        · rw [dvR_c, if_pos (by omega), dg_far R (by omega), dg_far B (by omega), Int.mul_zero, Int.sub_zero, Int.zero_emod]
        · rw [upq_fgt, upq_u] at S4
          simp only [bk169_0, bk169_25, bk169_32, bk169_51, bk169_74, bk169_79, bk169_121, bk169_133, bk169_138, bk169_184, bk169_190, bk169_195, bk169_206, bk169_212, bk169_219, bk169_223, bk169_225, U_aload_n, U_iload_n, U_invokevirtual2, U_getfield, U_iald, U_iload, U_isub, U_istore, U_iconst, U_icmp_gt, U_bipush, U_imul, U_iadd, U_iast, U_iinc, U_goto, U_invokevirtual1, U_if_lt, U_irem, U_if_eq, U_if_ge, U_return, UN_cc, UN_cn, UN_nc, UN_nn, UJ, lget, lset, lset2, entL, wsm, wcat, Option.toList_some, Option.toList_none, List.cons_append, List.nil_append, List.mem_cons, List.not_mem_nil, Prod.mk.injEq, or_false, false_or, or_true, true_or, and_true, true_and, and_false, false_and, and_self, ne_eq, not_false_eq_true, not_true_eq_false, forall_const, true_implies, false_implies, Nat.add_zero, Nat.zero_add, Nat.le_refl, Nat.zero_le, List.set_cons_zero, List.set_cons_succ, List.set_nil, ↓reduceIte, Nat.reduceAdd, Nat.reduceSub, Nat.reduceEqDiff, Nat.reduceLeDiff, Int.reduceEq, Int.reduceNe, Int.reduceNeg, reduceCtorEq]
          have hF3 : PF (ust Ni 198 (24 * t + (n : Int)) c) N3 := fun b x y => F3 b (by simp [x])
          refine ih ((n : Int) + -1) N4 (pput q n c) _ _ _ (by omega) (by omega) S4 (((hF.tr (PF.us _ _ _)).tr hF3).tr F4) ?_ ?_ (fun j hj1 hj2 => ?_) (fun j hj => ?_) (fun j hj => ?_)
          · rw [pput_M q n _ (hn n (by omega)), pM_neg]
            exact @rg_div (Pz p) (pring p) A B q R (pM p c n) hq
          · have : dg (padd R (pmul (pM p (-c) n) B)) ≤ n + dg B - 1 := dg_le fun j hj => by
              rw [dvR_c, if_pos (by omega)]
              by_cases e : j = n + dg B - 1
              · subst e
                rw [show n + dg B - 1 - n = dg B - 1 by omega, md_sub rfl hR1.symm, Int.sub_self, Int.zero_emod]
              · rw [dg_far R (by omega), dg_far B (by omega), Int.mul_zero, Int.sub_zero, Int.zero_emod]
            omega
          · rw [e4, O3 _ (fun j' hj' => by omega), ust_at]
            by_cases e : j = n
            · rw [if_pos (by omega), e, pput_c, if_pos rfl, Int.emod_eq_of_lt g1 g2]
            · rw [if_neg (by omega), pput_n e]; exact hc j (by omega) hj2
          · rw [pput_n (by omega)]; exact hn j (by omega)
          · rw [pput_n (by omega)]; exact hf j hj
      · rw [ust_at, if_neg (by omega), dvR_c, if_neg (by omega)]; exact r5 i (by omega)
      · rw [ust_at, if_neg (by omega)]; exact r5 i hi2
set_option maxHeartbeats 8000000 in
theorem l_mdC {p : Int} {N : Mem} {μ : Int → Option (Pz p)} {Q : Post} {t l a b : Int} {T : Int} (ht : 0 ≤ t ∧ t < 39) (htl : μ t = none) (hT : T < 24) (hQ : ∀ x Ni, MT p Ni μ → PF N Ni → WP 169 (0, 0) 51 [(2, 190), (0, t), (0, l), (0, a), (0, b), (0, T), x, (9, 0), (9, 0), (9, 0)] [] NN Ni Q) : ∀ (n : Nat) (k : Int) (Ni : Mem), (k + n = T + 1 ∨ (n = 0 ∧ T < k ∧ k ≤ 100 ∧ -100 ≤ T)) → 0 ≤ k → MT p Ni μ → PF N Ni → WP 169 (0, 0) 25 [(2, 190), (0, t), (0, l), (0, a), (0, b), (0, T), (0, k), (9, 0), (9, 0), (9, 0)] [] NN Ni Q := by
  intro n
  induction n with
  | zero =>
    intro k Ni hk h0 hS hF
    refine WP.run [(169, 25), (169, 51)] [] 40 ?_
    simp only [bk169_0, bk169_25, bk169_32, bk169_51, bk169_74, bk169_79, bk169_121, bk169_133, bk169_138, bk169_184, bk169_190, bk169_195, bk169_206, bk169_212, bk169_219, bk169_223, bk169_225, U_aload_n, U_iload_n, U_invokevirtual2, U_getfield, U_iald, U_iload, U_isub, U_istore, U_iconst, U_icmp_gt, U_bipush, U_imul, U_iadd, U_iast, U_iinc, U_goto, U_invokevirtual1, U_if_lt, U_irem, U_if_eq, U_if_ge, U_return, UN_cc, UN_cn, UN_nc, UN_nn, UJ, lget, lset, lset2, entL, wsm, wcat, Option.toList_some, Option.toList_none, List.cons_append, List.nil_append, List.mem_cons, List.not_mem_nil, Prod.mk.injEq, or_false, false_or, or_true, true_or, and_true, true_and, and_false, false_and, and_self, ne_eq, not_false_eq_true, not_true_eq_false, forall_const, true_implies, false_implies, Nat.add_zero, Nat.zero_add, Nat.le_refl, Nat.zero_le, List.set_cons_zero, List.set_cons_succ, List.set_nil, ↓reduceIte, Nat.reduceAdd, Nat.reduceSub, Nat.reduceEqDiff, Nat.reduceLeDiff, Int.reduceEq, Int.reduceNe, Int.reduceNeg, reduceCtorEq]
    exact ⟨rr (by omega), fun _ => hQ _ Ni hS hF, fun e => absurd (by omega) e⟩
  | succ n ih =>
    intro k Ni hk h0 hS hF
    refine WP.run [(169, 25), (169, 51)] [] 40 ?_
    simp only [bk169_0, bk169_25, bk169_32, bk169_51, bk169_74, bk169_79, bk169_121, bk169_133, bk169_138, bk169_184, bk169_190, bk169_195, bk169_206, bk169_212, bk169_219, bk169_223, bk169_225, U_aload_n, U_iload_n, U_invokevirtual2, U_getfield, U_iald, U_iload, U_isub, U_istore, U_iconst, U_icmp_gt, U_bipush, U_imul, U_iadd, U_iast, U_iinc, U_goto, U_invokevirtual1, U_if_lt, U_irem, U_if_eq, U_if_ge, U_return, UN_cc, UN_cn, UN_nc, UN_nn, UJ, lget, lset, lset2, entL, wsm, wcat, Option.toList_some, Option.toList_none, List.cons_append, List.nil_append, List.mem_cons, List.not_mem_nil, Prod.mk.injEq, or_false, false_or, or_true, true_or, and_true, true_and, and_false, false_and, and_self, ne_eq, not_false_eq_true, not_true_eq_false, forall_const, true_implies, false_implies, Nat.add_zero, Nat.zero_add, Nat.le_refl, Nat.zero_le, List.set_cons_zero, List.set_cons_succ, List.set_nil, ↓reduceIte, Nat.reduceAdd, Nat.reduceSub, Nat.reduceEqDiff, Nat.reduceLeDiff, Int.reduceEq, Int.reduceNe, Int.reduceNeg, reduceCtorEq, kd190, kd198, ln198, z190_12 hS.1]
    refine ⟨rr (by omega), fun e => absurd e (by omega), fun _ => ⟨by omega, by omega, ?_⟩⟩
    exact ih (k + 1) _ (by omega) (by omega) (hS.us (a := t) (k := k) htl (by omega) (by omega) rfl) (hF.tr (PF.us _ _ _))
set_option maxHeartbeats 8000000 in
theorem m_div {p : Int} {N : Mem} {μ : Int → Option (Pz p)} {Q : Post} {t l a b : Int} {A B : Pz p} (h : MT p N μ) (ht : 0 ≤ t ∧ t < 39) (hl : 0 ≤ l ∧ l < 39) (htl : t ≠ l) (htb : t ≠ b) (hlb : l ≠ b) (hal : a ≠ l) (ha : μ a = some A) (hb : μ b = some B) (hB0 : dg B ≠ 0)
    (hQ : ∀ N' q R, MT p N' (upq (upq μ t q) l R) → PF N N' → A = padd (pmul B q) R → dg R < dg B → dg q + dg B ≤ max (dg A + 1) (dg B) → Q none NN N') : CL 169 [(2, 190), (0, t), (0, l), (0, a), (0, b), (9, 0), (9, 0), (9, 0), (9, 0), (9, 0)] NN N Q := by
  have hA24 := (h.2.2.2.2 a A ha).2.2.1
  have hB24 := (h.2.2.2.2 b B hb).2.2.1
  refine WP.run [(169, 25)] [] 60 ?_
  simp only [bk169_0, bk169_25, bk169_32, bk169_51, bk169_74, bk169_79, bk169_121, bk169_133, bk169_138, bk169_184, bk169_190, bk169_195, bk169_206, bk169_212, bk169_219, bk169_223, bk169_225, U_aload_n, U_iload_n, U_invokevirtual2, U_getfield, U_iald, U_iload, U_isub, U_istore, U_iconst, U_icmp_gt, U_bipush, U_imul, U_iadd, U_iast, U_iinc, U_goto, U_invokevirtual1, U_if_lt, U_irem, U_if_eq, U_if_ge, U_return, UN_cc, UN_cn, UN_nc, UN_nn, UJ, lget, lset, lset2, entL, wsm, wcat, Option.toList_some, Option.toList_none, List.cons_append, List.nil_append, List.mem_cons, List.not_mem_nil, Prod.mk.injEq, or_false, false_or, or_true, true_or, and_true, true_and, and_false, false_and, and_self, ne_eq, not_false_eq_true, not_true_eq_false, forall_const, true_implies, false_implies, Nat.add_zero, Nat.zero_add, Nat.le_refl, Nat.zero_le, List.set_cons_zero, List.set_cons_succ, List.set_nil, ↓reduceIte, Nat.reduceAdd, Nat.reduceSub, Nat.reduceEqDiff, Nat.reduceLeDiff, Int.reduceEq, Int.reduceNe, Int.reduceNeg, reduceCtorEq, kd190]
  refine m_copy h hl.1 hl.2 hal ha fun N1 S1 F1 => ?_
  obtain ⟨p1, p2, p3, p4, p5⟩ := S1.2.2.2.2 b B ((upq_n hlb.symm).trans hb)
  obtain ⟨q1, q2, q3, q4, q5⟩ := S1.2.2.2.2 a A ((upq_n hal).trans ha)
  simp only [bk169_0, bk169_25, bk169_32, bk169_51, bk169_74, bk169_79, bk169_121, bk169_133, bk169_138, bk169_184, bk169_190, bk169_195, bk169_206, bk169_212, bk169_219, bk169_223, bk169_225, U_aload_n, U_iload_n, U_invokevirtual2, U_getfield, U_iald, U_iload, U_isub, U_istore, U_iconst, U_icmp_gt, U_bipush, U_imul, U_iadd, U_iast, U_iinc, U_goto, U_invokevirtual1, U_if_lt, U_irem, U_if_eq, U_if_ge, U_return, UN_cc, UN_cn, UN_nc, UN_nn, UJ, lget, lset, lset2, entL, wsm, wcat, Option.toList_some, Option.toList_none, List.cons_append, List.nil_append, List.mem_cons, List.not_mem_nil, Prod.mk.injEq, or_false, false_or, or_true, true_or, and_true, true_and, and_false, false_and, and_self, ne_eq, not_false_eq_true, not_true_eq_false, forall_const, true_implies, false_implies, Nat.add_zero, Nat.zero_add, Nat.le_refl, Nat.zero_le, List.set_cons_zero, List.set_cons_succ, List.set_nil, ↓reduceIte, Nat.reduceAdd, Nat.reduceSub, Nat.reduceEqDiff, Nat.reduceLeDiff, Int.reduceEq, Int.reduceNe, Int.reduceNeg, reduceCtorEq, kd190, kd199, ln199, z190_13 S1.1, p4, q4]
  refine ⟨q1, q2, p1, p2, ?_⟩
  have hpp := h.2.1.pos
  have hμt : fgt (upq μ l A) t = upq (fgt μ t) l A := by
    funext s
    show (if s = t then none else (if s = l then some A else μ s)) = (if s = l then some A else (if s = t then none else μ s))
    by_cases e1 : s = t
    · rw [if_pos e1, if_neg (by omega), if_pos e1]
    · rw [if_neg e1, if_neg e1]
  have S1' := S1.fg t
  rw [hμt] at S1'
  have htn : upq (fgt μ t) l A t = none := by rw [upq_n htl]; exact fgt_e μ t
  refine l_mdC (N := N1) ht htn (by omega) (fun x N2 S2 F2 => ?_) (dg A + 1 - dg B) 0 N1 (by omega) (by omega) S1' (PF.rf N1)
  have hbB : upq (fgt μ t) l A b = some B := by rw [upq_n hlb.symm, fgt_n htb.symm]; exact hb
  obtain ⟨p1, p2, p3, p4, p5⟩ := S2.2.2.2.2 b B hbB
  have hlead := pz_rg S2.2.1 B (dg B - 1)
  refine WP.run [(169, 74)] [] 60 ?_
  simp only [bk169_0, bk169_25, bk169_32, bk169_51, bk169_74, bk169_79, bk169_121, bk169_133, bk169_138, bk169_184, bk169_190, bk169_195, bk169_206, bk169_212, bk169_219, bk169_223, bk169_225, U_aload_n, U_iload_n, U_invokevirtual2, U_getfield, U_iald, U_iload, U_isub, U_istore, U_iconst, U_icmp_gt, U_bipush, U_imul, U_iadd, U_iast, U_iinc, U_goto, U_invokevirtual1, U_if_lt, U_irem, U_if_eq, U_if_ge, U_return, UN_cc, UN_cn, UN_nc, UN_nn, UJ, lget, lset, lset2, entL, wsm, wcat, Option.toList_some, Option.toList_none, List.cons_append, List.nil_append, List.mem_cons, List.not_mem_nil, Prod.mk.injEq, or_false, false_or, or_true, true_or, and_true, true_and, and_false, false_and, and_self, ne_eq, not_false_eq_true, not_true_eq_false, forall_const, true_implies, false_implies, Nat.add_zero, Nat.zero_add, Nat.le_refl, Nat.zero_le, List.set_cons_zero, List.set_cons_succ, List.set_nil, ↓reduceIte, Nat.reduceAdd, Nat.reduceSub, Nat.reduceEqDiff, Nat.reduceLeDiff, Int.reduceEq, Int.reduceNe, Int.reduceNeg, reduceCtorEq, kd190, kd199, ln199, z190_13 S2.1, p4]
  refine ⟨p1, p2, m_get S2 hbB (r3 (by omega)) ?_⟩
  rw [if_pos (by omega), show ((dg B : Int) - 1).toNat = dg B - 1 by omega]
  simp only [bk169_0, bk169_25, bk169_32, bk169_51, bk169_74, bk169_79, bk169_121, bk169_133, bk169_138, bk169_184, bk169_190, bk169_195, bk169_206, bk169_212, bk169_219, bk169_223, bk169_225, U_aload_n, U_iload_n, U_invokevirtual2, U_getfield, U_iald, U_iload, U_isub, U_istore, U_iconst, U_icmp_gt, U_bipush, U_imul, U_iadd, U_iast, U_iinc, U_goto, U_invokevirtual1, U_if_lt, U_irem, U_if_eq, U_if_ge, U_return, UN_cc, UN_cn, UN_nc, UN_nn, UJ, lget, lset, lset2, entL, wsm, wcat, Option.toList_some, Option.toList_none, List.cons_append, List.nil_append, List.mem_cons, List.not_mem_nil, Prod.mk.injEq, or_false, false_or, or_true, true_or, and_true, true_and, and_false, false_and, and_self, ne_eq, not_false_eq_true, not_true_eq_false, forall_const, true_implies, false_implies, Nat.add_zero, Nat.zero_add, Nat.le_refl, Nat.zero_le, List.set_cons_zero, List.set_cons_succ, List.set_nil, ↓reduceIte, Nat.reduceAdd, Nat.reduceSub, Nat.reduceEqDiff, Nat.reduceLeDiff, Int.reduceEq, Int.reduceNe, Int.reduceNeg, reduceCtorEq, kd190]
  refine m_inv S2.2.1 S2.2.2.1 hlead ?_
  simp only [bk169_0, bk169_25, bk169_32, bk169_51, bk169_74, bk169_79, bk169_121, bk169_133, bk169_138, bk169_184, bk169_190, bk169_195, bk169_206, bk169_212, bk169_219, bk169_223, bk169_225, U_aload_n, U_iload_n, U_invokevirtual2, U_getfield, U_iald, U_iload, U_isub, U_istore, U_iconst, U_icmp_gt, U_bipush, U_imul, U_iadd, U_iast, U_iinc, U_goto, U_invokevirtual1, U_if_lt, U_irem, U_if_eq, U_if_ge, U_return, UN_cc, UN_cn, UN_nc, UN_nn, UJ, lget, lset, lset2, entL, wsm, wcat, Option.toList_some, Option.toList_none, List.cons_append, List.nil_append, List.mem_cons, List.not_mem_nil, Prod.mk.injEq, or_false, false_or, or_true, true_or, and_true, true_and, and_false, false_and, and_self, ne_eq, not_false_eq_true, not_true_eq_false, forall_const, true_implies, false_implies, Nat.add_zero, Nat.zero_add, Nat.le_refl, Nat.zero_le, List.set_cons_zero, List.set_cons_succ, List.set_nil, ↓reduceIte, Nat.reduceAdd, Nat.reduceSub, Nat.reduceEqDiff, Nat.reduceLeDiff, Int.reduceEq, Int.reduceNe, Int.reduceNeg, reduceCtorEq]
  have e3 : A = padd (pmul B (pC p 0)) A := by rw [pmul_comm, pC_zero_mul, padd_comm, pC_zero_add]
  have z0 : ∀ j, (pC p 0).1 j = 0 := fun j => by rw [pC_c]; split <;> exact Int.zero_emod _
  refine l_mdO (N := N1) ht hl htl htb hlb hb hB0 hA24 hB24 (fun N' q R g1 g2 g3 g4 g5 => hQ N' q R g1 (F1.tr g2) g3 g4 g5) (dg A + 1 - dg B) _ N2 (pC p 0) A _ _ (by omega) (by omega) S2 F2 e3 (by omega) (fun j h1 h2 => by omega) (fun j _ => z0 j) (fun j _ => z0 j)
