/-! THE MODEL'S ORDERS -/
theorem od1 {o O l q l' : Nat} (hq : 2 ≤ q) (hl : l = q * l') (h1 : l ∣ O) (h2 : O ∣ o * l) (h3 : o ∣ O / q) : l' ∣ O / q ∧ O / q ∣ o * l' := by
  obtain ⟨c, hc⟩ := h1
  have e1 : O = q * (l' * c) := by rw [hc, hl, Nat.mul_assoc]
  have e2 : O / q = l' * c := by rw [e1, Nat.mul_div_cancel_left _ (by omega)]
  rw [e2]
  refine ⟨⟨c, rfl⟩, ?_⟩
  obtain ⟨d, hd⟩ := h2
  refine ⟨d, ?_⟩
  have e3 : q * (o * l') = q * (l' * c * d) := by
    have : o * l = O * d := hd
    rw [hl, e1] at this
    rw [← Nat.mul_assoc q o l', Nat.mul_comm q o, Nat.mul_assoc o q l', this, Nat.mul_assoc q (l' * c) d]
  exact Nat.eq_of_mul_eq_mul_left (by omega) e3
theorem od2 {o O l q l' : Nat} (hq : Prm q) (ho : 0 < O) (hl : l = q * l') (h0 : o ∣ O) (h1 : l ∣ O) (h2 : O ∣ o * l) (h3 : ¬ o ∣ O / q) : l' ∣ O ∧ O ∣ o * l' := by
  refine ⟨Nat.dvd_trans ⟨q, by rw [hl, Nat.mul_comm]⟩ h1, ?_⟩
  obtain ⟨c, hc⟩ := h0
  have ho0 : 0 < o := Nat.pos_of_ne_zero (fun e => by rw [hc, e, Nat.zero_mul] at ho; omega)
  have hcl : c ∣ q * l' := by
    obtain ⟨d, hd⟩ := h2
    refine ⟨d, ?_⟩
    rw [hc, hl, Nat.mul_assoc] at hd
    exact Nat.eq_of_mul_eq_mul_left ho0 hd
  have hg : Nat.gcd c q = 1 := by
    rcases hq.2 _ (Nat.gcd_dvd_right c q) with e | e
    · exact e
    · exfalso
      have hqc : q ∣ c := by rw [← e]; exact Nat.gcd_dvd_left c q
      obtain ⟨d, hd⟩ := hqc
      refine h3 ⟨d, ?_⟩
      rw [hc, hd, ← Nat.mul_assoc, Nat.mul_comm o q, Nat.mul_assoc, Nat.mul_div_cancel_left _ (by have := hq.1; omega)]
  have := Nat.Coprime.dvd_of_dvd_mul_left hg hcl
  rw [hc]
  exact Nat.mul_dvd_mul_left o this
theorem od3 {q l : Nat} (hq : 2 ≤ q) (hl : q ∣ l) (h : ∀ d, 2 ≤ d → d < q → ¬ d ∣ l) : Prm q := by
  refine ⟨hq, fun d hd => ?_⟩
  have h1 := Nat.le_of_dvd (by omega) hd
  rcases Nat.eq_zero_or_pos d with e | e
  · subst e; have := Nat.eq_zero_of_zero_dvd hd; omega
  · by_cases e1 : d = 1
    · exact Or.inl e1
    · right
      false_or_by_contra
      exact h d (by omega) (by omega) (Nat.dvd_trans hd hl)
theorem lcm_e {x y : Int} : lcm3 x y = 0 ↔ x = y := by
  unfold lcm3
  split
  · constructor <;> intro h <;> omega
  · split
    · constructor <;> intro h <;> omega
    · constructor <;> intro h <;> omega
set_option maxHeartbeats 16000000 in
theorem l_ord {p : Int} {N : Mem} {Q : Post} {f : Pz p} {g h o : Nat} {ad : Gq f g → Gq f g → Gq f g} {z : Gq f g} {ng : Gq f g → Gq f g} {x : Gq f g} (hG : GG f g ad z ng) (hp : Pr p) (hcv : Cv f g) (hg2 : g ≤ 2) (ho : IsOrd ad z x o) (hQ : ∀ N', MB f g N' → FM [198, 199, 200, 204] [14] N N' → Q (some (1, (o : Int))) NN N') :
    ∀ (fu l O q : Nat) (Ni : Mem), l + (451 - q) ≤ fu → 0 < l → l ≤ 450 → 0 < O → O ≤ 450 → 2 ≤ q → q ≤ 451 → o ∣ O → l ∣ O → O ∣ o * l → (∀ d, 2 ≤ d → d < q → ¬ d ∣ l) → MB f g Ni → FM [198, 199, 200, 204] [14] N Ni → WK Ni 204 1 x.1 → WK Ni 204 7 z.1 → WP 210 (0, 0) 18 [(2, 190), (1, (O : Int)), (9, 0), (1, (l : Int)), (9, 0), (1, (q : Int)), (9, 0)] [] NN Ni Q := by
  intro fu
  induction fu with
  | zero => intro l O q Ni hf h0; omega
  | succ fu ih =>
    intro l O q Ni hf h0 hl hO0 hO hq hq2 d1 d2 d3 hd hB hF w1 w7
    have L1 := lcm_lt (x := (l : Int)) (y := 1)
    by_cases c : l = 1
    · subst c
      have : O = o := by
        rw [Nat.mul_one] at d3
        exact Nat.dvd_antisymm d3 d1
      subst this
      refine WP.run [(210, 18), (210, 24)] [] 60 ?_
      simp only [bk210_0, bk210_18, bk210_24, bk210_33, bk210_58, bk210_65, bk210_66, bk210_70, bk210_79, U_aload_n, U_bipush, U_invokevirtual1, U_invokevirtual0, U_lstore_n, U_lload_n, U_ldc2_w, U_lstore, U_lconst, U_lcmp, U_if_le, U_lload, U_lrem, U_if_ne, U_ldiv, U_iconst, U_invokevirtual3, U_invokevirtual2, U_if_eq, U_goto, U_ladd, U_lreturn, UN_cc, UN_cn, UN_nc, UN_nn, UJ, lget, lset, lset2, entL, wsm, wcat, Option.toList_some, Option.toList_none, List.cons_append, List.nil_append, List.mem_cons, List.not_mem_nil, Prod.mk.injEq, or_false, false_or, or_true, true_or, and_true, true_and, and_false, false_and, and_self, ne_eq, not_false_eq_true, not_true_eq_false, forall_const, true_implies, false_implies, Nat.add_zero, Nat.zero_add, Nat.le_refl, Nat.zero_le, List.set_cons_zero, List.set_cons_succ, List.set_nil, ↓reduceIte, Nat.reduceAdd, Nat.reduceSub, Nat.reduceEqDiff, Nat.reduceLeDiff, Int.reduceEq, Int.reduceNe, Int.reduceNeg, reduceCtorEq]
      exact ⟨Or.inr ⟨r64 (by omega), r64 (by omega)⟩, lcm_r _ _, fun e => absurd e (by omega), fun _ => hQ Ni hB hF⟩
    · have hql : q ≤ l := by
        false_or_by_contra
        exact hd l (by omega) (by omega) (Nat.dvd_refl _)
      -- one step at 24
      have st : ∀ (fu' l' O' : Nat) (Nj : Mem), l' ≤ fu' → l' + (451 - q) ≤ fu + 1 → 0 < l' → l' ≤ 450 → 0 < O' → O' ≤ 450 → o ∣ O' → l' ∣ O' → O' ∣ o * l' → (∀ d, 2 ≤ d → d < q → ¬ d ∣ l') → MB f g Nj → FM [198, 199, 200, 204] [14] N Nj → WK Nj 204 1 x.1 → WK Nj 204 7 z.1 → WP 210 (0, 0) 24 [(2, 190), (1, (O' : Int)), (9, 0), (1, (l' : Int)), (9, 0), (1, (q : Int)), (9, 0)] [] NN Nj Q := by
        intro fu'
        induction fu' with
        | zero => intro l' O' Nj a1 a2 a3; omega
        | succ fu' ihi =>
          intro l' O' Nj a1 a2 a3 a4 a5 a6 a7 a8 a9 a10 jB jF j1 j7
          have em : (l' : Int).tmod (q : Int) = ((l' % q : Nat) : Int) := by rw [tm_nn (by omega), Int.natCast_emod]
          have el : (l' : Int).tdiv (q : Int) = ((l' / q : Nat) : Int) := by rw [Int.tdiv_eq_ediv_of_nonneg (by omega), Int.natCast_ediv]
          have eO : (O' : Int).tdiv (q : Int) = ((O' / q : Nat) : Int) := by rw [Int.tdiv_eq_ediv_of_nonneg (by omega), Int.natCast_ediv]
          have L2 := lcm_e (x := ((l' % q : Nat) : Int)) (y := 0)
          have hmq : l' % q < q := Nat.mod_lt _ (by omega)
          have hOq : O' / q ≤ O' := Nat.div_le_self _ _
          refine WP.run [(210, 18), (210, 24)] [] 60 ?_
          simp only [bk210_0, bk210_18, bk210_24, bk210_33, bk210_58, bk210_65, bk210_66, bk210_70, bk210_79, U_aload_n, U_bipush, U_invokevirtual1, U_invokevirtual0, U_lstore_n, U_lload_n, U_ldc2_w, U_lstore, U_lconst, U_lcmp, U_if_le, U_lload, U_lrem, U_if_ne, U_ldiv, U_iconst, U_invokevirtual3, U_invokevirtual2, U_if_eq, U_goto, U_ladd, U_lreturn, UN_cc, UN_cn, UN_nc, UN_nn, UJ, lget, lset, lset2, entL, wsm, wcat, Option.toList_some, Option.toList_none, List.cons_append, List.nil_append, List.mem_cons, List.not_mem_nil, Prod.mk.injEq, or_false, false_or, or_true, true_or, and_true, true_and, and_false, false_and, and_self, ne_eq, not_false_eq_true, not_true_eq_false, forall_const, true_implies, false_implies, Nat.add_zero, Nat.zero_add, Nat.le_refl, Nat.zero_le, List.set_cons_zero, List.set_cons_succ, List.set_nil, ↓reduceIte, Nat.reduceAdd, Nat.reduceSub, Nat.reduceEqDiff, Nat.reduceLeDiff, Int.reduceEq, Int.reduceNe, Int.reduceNeg, reduceCtorEq, em, el, eO, kd190]
          refine ⟨r64 (by omega), r64 (by omega), by omega, Or.inr ⟨r64 (by omega), r64 (by omega)⟩, lcm_r _ _, fun e => ?_, fun e => ?_⟩
          · have hm0 : l' % q = 0 := by have := L2.mp e; omega
            have hdv : q ∣ l' := Nat.dvd_of_mod_eq_zero hm0
            have hll : l' = q * (l' / q) := (Nat.mul_div_cancel' hdv).symm
            have hlp : 0 < l' / q := Nat.div_pos (Nat.le_of_dvd a3 hdv) (by omega)
            have hlt : l' / q < l' := Nat.div_lt_self a3 (by omega)
            have hpr := od3 hq hdv a10
            have hqO : q ∣ O' := Nat.dvd_trans hdv a8
            have hOp : 0 < O' / q := Nat.div_pos (Nat.le_of_dvd a5 hqO) (by omega)
            have hnd : ∀ d, 2 ≤ d → d < q → ¬ d ∣ l' / q := fun d e1 e2 e3 => a10 d e1 e2 (Nat.dvd_trans e3 ⟨q, by rw [Nat.mul_comm]; exact hll⟩)
            refine ⟨r64 (by omega), r64 (by omega), by omega, r64 (by omega), r64 (by omega), by omega, ?_⟩
            refine m_timesOf (to := 0) (ka := 1) (n := O' / q) hG jB hp hcv (by omega) (by omega) (by omega) (by omega) (by omega) j1 fun N1 t1 t2 t3 t4 => ?_
            have k1 : WK N1 204 1 x.1 := fun j hj => by rw [t4 _ (by omega) (by omega)]; exact j1 j hj
            have k7 : WK N1 204 7 z.1 := fun j hj => by rw [t4 _ (by omega) (by omega)]; exact j7 j hj
            have F1 : FM [198, 199, 200, 204] [14] N N1 := jF.tr (t2.fm.mo rfl rfl)
            have hlk := lkC_is hp hg2 t3 k7
            have hod := ord_dvd hG.1 ho (O' / q)
            have h01 := lkN_01 N1 0 7 5
            have elk : lkN N1 0 7 5 = lkC N1 204 204 0 7 5 := rfl
            simp only [bk210_0, bk210_18, bk210_24, bk210_33, bk210_58, bk210_65, bk210_66, bk210_70, bk210_79, U_aload_n, U_bipush, U_invokevirtual1, U_invokevirtual0, U_lstore_n, U_lload_n, U_ldc2_w, U_lstore, U_lconst, U_lcmp, U_if_le, U_lload, U_lrem, U_if_ne, U_ldiv, U_iconst, U_invokevirtual3, U_invokevirtual2, U_if_eq, U_goto, U_ladd, U_lreturn, UN_cc, UN_cn, UN_nc, UN_nn, UJ, lget, lset, lset2, entL, wsm, wcat, Option.toList_some, Option.toList_none, List.cons_append, List.nil_append, List.mem_cons, List.not_mem_nil, Prod.mk.injEq, or_false, false_or, or_true, true_or, and_true, true_and, and_false, false_and, and_self, ne_eq, not_false_eq_true, not_true_eq_false, forall_const, true_implies, false_implies, Nat.add_zero, Nat.zero_add, Nat.le_refl, Nat.zero_le, List.set_cons_zero, List.set_cons_succ, List.set_nil, ↓reduceIte, Nat.reduceAdd, Nat.reduceSub, Nat.reduceEqDiff, Nat.reduceLeDiff, Int.reduceEq, Int.reduceNe, Int.reduceNeg, reduceCtorEq, kd190]
            refine m_isLike (t := 0) (a := 7) t1.fz (by omega) (by omega) (fun j hj => ⟨?_, ?_⟩) ?_
            · rw [t3 j hj]; have := gq_rg hp hg2 (nsm ad z (O' / q) x) j; exact r3 (by omega)
            · rw [k7 j hj]; have := gq_rg hp hg2 z j; exact r3 (by omega)
            simp only [bk210_0, bk210_18, bk210_24, bk210_33, bk210_58, bk210_65, bk210_66, bk210_70, bk210_79, U_aload_n, U_bipush, U_invokevirtual1, U_invokevirtual0, U_lstore_n, U_lload_n, U_ldc2_w, U_lstore, U_lconst, U_lcmp, U_if_le, U_lload, U_lrem, U_if_ne, U_ldiv, U_iconst, U_invokevirtual3, U_invokevirtual2, U_if_eq, U_goto, U_ladd, U_lreturn, UN_cc, UN_cn, UN_nc, UN_nn, UJ, lget, lset, lset2, entL, wsm, wcat, Option.toList_some, Option.toList_none, List.cons_append, List.nil_append, List.mem_cons, List.not_mem_nil, Prod.mk.injEq, or_false, false_or, or_true, true_or, and_true, true_and, and_false, false_and, and_self, ne_eq, not_false_eq_true, not_true_eq_false, forall_const, true_implies, false_implies, Nat.add_zero, Nat.zero_add, Nat.le_refl, Nat.zero_le, List.set_cons_zero, List.set_cons_succ, List.set_nil, ↓reduceIte, Nat.reduceAdd, Nat.reduceSub, Nat.reduceEqDiff, Nat.reduceLeDiff, Int.reduceEq, Int.reduceNe, Int.reduceNeg, reduceCtorEq, eO]
            refine ⟨r3 (by omega), fun e2 => ?_, fun e2 => ?_⟩
            · have hn : ¬ o ∣ O' / q := fun w => by
                have := hlk.mpr (hod.mpr w)
                omega
              obtain ⟨b1, b2⟩ := od2 hpr a5 hll a7 a8 a9 hn
              exact ihi (l' / q) O' N1 (by omega) (by omega) hlp (by omega) a5 a6 a7 b1 b2 hnd t1 F1 k1 k7
            · have hy : o ∣ O' / q := hod.mp (hlk.mp (by omega))
              obtain ⟨b1, b2⟩ := od1 hq hll a8 a9 hy
              refine ⟨r64 (by omega), r64 (by omega), by omega, ?_⟩
              exact ihi (l' / q) (O' / q) N1 (by omega) (by omega) hlp (by omega) hOp (by omega) hy b1 b2 hnd t1 F1 k1 k7
          · have hm0 : l' % q ≠ 0 := fun w => e (L2.mpr (by omega))
            have hnd : ∀ d, 2 ≤ d → d < q + 1 → ¬ d ∣ l' := fun d e1 e2 e3 => by
              by_cases w : d = q
              · subst w; exact hm0 (Nat.mod_eq_zero_of_dvd e3)
              · exact a10 d e1 (by omega) e3
            have hqq : q ≤ 450 := by omega
            exact ih l' O' (q + 1) Nj (by omega) a3 a4 a5 a6 (by omega) (by omega) a7 a8 a9 hnd jB jF j1 j7
      refine WP.run [(210, 18), (210, 24)] [] 60 ?_
      simp only [bk210_0, bk210_18, bk210_24, bk210_33, bk210_58, bk210_65, bk210_66, bk210_70, bk210_79, U_aload_n, U_bipush, U_invokevirtual1, U_invokevirtual0, U_lstore_n, U_lload_n, U_ldc2_w, U_lstore, U_lconst, U_lcmp, U_if_le, U_lload, U_lrem, U_if_ne, U_ldiv, U_iconst, U_invokevirtual3, U_invokevirtual2, U_if_eq, U_goto, U_ladd, U_lreturn, UN_cc, UN_cn, UN_nc, UN_nn, UJ, lget, lset, lset2, entL, wsm, wcat, Option.toList_some, Option.toList_none, List.cons_append, List.nil_append, List.mem_cons, List.not_mem_nil, Prod.mk.injEq, or_false, false_or, or_true, true_or, and_true, true_and, and_false, false_and, and_self, ne_eq, not_false_eq_true, not_true_eq_false, forall_const, true_implies, false_implies, Nat.add_zero, Nat.zero_add, Nat.le_refl, Nat.zero_le, List.set_cons_zero, List.set_cons_succ, List.set_nil, ↓reduceIte, Nat.reduceAdd, Nat.reduceSub, Nat.reduceEqDiff, Nat.reduceLeDiff, Int.reduceEq, Int.reduceNe, Int.reduceNeg, reduceCtorEq]
      refine ⟨Or.inr ⟨r64 (by omega), r64 (by omega)⟩, lcm_r _ _, fun _ => ?_, fun e => absurd (by omega) e⟩
      exact st l l O Ni (Nat.le_refl _) hf h0 hl hO0 hO d1 d2 d3 hd hB hF w1 w7
set_option maxHeartbeats 8000000 in
theorem m_orderOf {p : Int} {N : Mem} {Q : Post} {f : Pz p} {g : Nat} {ad : Gq f g → Gq f g → Gq f g} {z : Gq f g} {ng : Gq f g → Gq f g} {x : Gq f g} (hG : GG f g ad z ng) (h : MG f g N) (hp : Pr p) (hcv : Cv f g) (hg2 : g ≤ 2) (M : mhP f g) (w1 : WK N 204 1 x.1) (hQ : ∀ N', MG f g N' → FM [198, 199, 200, 204] [14] N N' → Q (some (1, (orN ad z x : Int))) NN N') : CL 210 [(2, 190), (9, 0), (9, 0), (9, 0), (9, 0), (9, 0), (9, 0)] NN N Q := by
  have hl := tkl_pos f g
  have hll := M.2.1
  have hlag := lagr hG.1 (cll_is hp hcv.1 z).1 (cll_is hp hcv.1 z).2 x
  rw [cll_len] at hlag
  obtain ⟨o, ho⟩ := ord_ex (by omega) hlag
  have hdv := (ord_dvd hG.1 ho _).mp hlag
  refine WP.run [(210, 18)] [] 60 ?_
  simp only [bk210_0, bk210_18, bk210_24, bk210_33, bk210_58, bk210_65, bk210_66, bk210_70, bk210_79, U_aload_n, U_bipush, U_invokevirtual1, U_invokevirtual0, U_lstore_n, U_lload_n, U_ldc2_w, U_lstore, U_lconst, U_lcmp, U_if_le, U_lload, U_lrem, U_if_ne, U_ldiv, U_iconst, U_invokevirtual3, U_invokevirtual2, U_if_eq, U_goto, U_ladd, U_lreturn, UN_cc, UN_cn, UN_nc, UN_nn, UJ, lget, lset, lset2, entL, wsm, wcat, Option.toList_some, Option.toList_none, List.cons_append, List.nil_append, List.mem_cons, List.not_mem_nil, Prod.mk.injEq, or_false, false_or, or_true, true_or, and_true, true_and, and_false, false_and, and_self, ne_eq, not_false_eq_true, not_true_eq_false, forall_const, true_implies, false_implies, Nat.add_zero, Nat.zero_add, Nat.le_refl, Nat.zero_le, List.set_cons_zero, List.set_cons_succ, List.set_nil, ↓reduceIte, Nat.reduceAdd, Nat.reduceSub, Nat.reduceEqDiff, Nat.reduceLeDiff, Int.reduceEq, Int.reduceNe, Int.reduceNeg, reduceCtorEq, kd190]
  refine m_nought (t := 7) h.mt.1 (by omega) fun N1 t1 t2 t3 => ?_
  have F1 : FM [204] [] N N1 := ⟨fun c _ y => t1 c (fun w => y (by simp [w])), fun i _ => by rw [t1 190 (by decide)]⟩
  have G1 := h.fm F1 ok_4 (by decide) (by decide) (by decide) (by decide) (by decide) (by decide)
  have k1 : WK N1 204 1 x.1 := fun j hj => by rw [t3 _ (by omega)]; exact w1 j hj
  have k7 : WK N1 204 7 z.1 := fun j hj => by rw [t2 j hj]; exact (wkD_z hp hG.2.2.1 j).symm
  simp only [bk210_0, bk210_18, bk210_24, bk210_33, bk210_58, bk210_65, bk210_66, bk210_70, bk210_79, U_aload_n, U_bipush, U_invokevirtual1, U_invokevirtual0, U_lstore_n, U_lload_n, U_ldc2_w, U_lstore, U_lconst, U_lcmp, U_if_le, U_lload, U_lrem, U_if_ne, U_ldiv, U_iconst, U_invokevirtual3, U_invokevirtual2, U_if_eq, U_goto, U_ladd, U_lreturn, UN_cc, UN_cn, UN_nc, UN_nn, UJ, lget, lset, lset2, entL, wsm, wcat, Option.toList_some, Option.toList_none, List.cons_append, List.nil_append, List.mem_cons, List.not_mem_nil, Prod.mk.injEq, or_false, false_or, or_true, true_or, and_true, true_and, and_false, false_and, and_self, ne_eq, not_false_eq_true, not_true_eq_false, forall_const, true_implies, false_implies, Nat.add_zero, Nat.zero_add, Nat.le_refl, Nat.zero_le, List.set_cons_zero, List.set_cons_succ, List.set_nil, ↓reduceIte, Nat.reduceAdd, Nat.reduceSub, Nat.reduceEqDiff, Nat.reduceLeDiff, Int.reduceEq, Int.reduceNe, Int.reduceNeg, reduceCtorEq, kd190]
  refine m_classMany G1 hp hcv.1 fun N2 s1 s2 => ?_
  simp only [bk210_0, bk210_18, bk210_24, bk210_33, bk210_58, bk210_65, bk210_66, bk210_70, bk210_79, U_aload_n, U_bipush, U_invokevirtual1, U_invokevirtual0, U_lstore_n, U_lload_n, U_ldc2_w, U_lstore, U_lconst, U_lcmp, U_if_le, U_lload, U_lrem, U_if_ne, U_ldiv, U_iconst, U_invokevirtual3, U_invokevirtual2, U_if_eq, U_goto, U_ladd, U_lreturn, UN_cc, UN_cn, UN_nc, UN_nn, UJ, lget, lset, lset2, entL, wsm, wcat, Option.toList_some, Option.toList_none, List.cons_append, List.nil_append, List.mem_cons, List.not_mem_nil, Prod.mk.injEq, or_false, false_or, or_true, true_or, and_true, true_and, and_false, false_and, and_self, ne_eq, not_false_eq_true, not_true_eq_false, forall_const, true_implies, false_implies, Nat.add_zero, Nat.zero_add, Nat.le_refl, Nat.zero_le, List.set_cons_zero, List.set_cons_succ, List.set_nil, ↓reduceIte, Nat.reduceAdd, Nat.reduceSub, Nat.reduceEqDiff, Nat.reduceLeDiff, Int.reduceEq, Int.reduceNe, Int.reduceNeg, reduceCtorEq]
  rw [M.1]
  have F2 : FM [198, 199, 200, 204] [14] N N2 := (F1.mo rfl rfl).tr (s2.mo rfl rfl)
  refine l_ord (N := N) (h := 0) hG hp hcv hg2 ho (fun N3 u1 u2 => ?_) ((tkl f g).length + (451 - 2)) (tkl f g).length (tkl f g).length 2 N2 (Nat.le_refl _) (by omega) hll (by omega) hll (by omega) (by omega) hdv (Nat.dvd_refl _) ⟨o, by rw [Nat.mul_comm]⟩ (fun d e1 e2 => by omega) s1.mb F2 (k1.fx (s2.1 204 (by decide) (by decide))) (k7.fx (s2.1 204 (by decide) (by decide)))
  have := hQ N3 (u1.mg h u2 (by decide) (by decide)) u2
  rw [orN_is ho] at this
  exact this
set_option maxHeartbeats 8000000 in
theorem q_order {p : Int} {g : Nat} {f : Pz p} {pu : List Int} {rg : Nat → Pz p × Pz p} {A tl : Nat → Int} {E : Nat → Nat} {N : Mem} {Q : Post} {ad : Gq f g → Gq f g → Gq f g} {z : Gq f g} {ng : Gq f g → Gq f g} {r : Int} (h : MS g f pu rg A tl E N) (V : VS g f pu rg A tl E) (hG : g ≠ 0 → GG f g ad z ng) (M : g ≠ 0 → mhP f g) (hr : R32 r)
    (hQ : ∀ N', MS g f pu rg A tl E N' → clF N N' → Q (some (0, oReg g r (orN ad z (rx z rg r.toNat)))) NN N') : CL 211 [(2, 190), (0, r)] NN N Q := by
  unfold oReg at hQ
  refine WP.run [] [] 90 ?_
  simp only [bk211_0, bk211_7, bk211_10, bk211_17, bk211_20, U_iload_n, U_invokestatic1, U_if_ne, U_bipush, U_ireturn, U_aload_n, U_invokevirtual0, U_iconst, U_invokevirtual2, U_l2i, UN_cc, UN_cn, UN_nc, UN_nn, UJ, lget, lset, lset2, entL, wsm, wcat, Option.toList_some, Option.toList_none, List.cons_append, List.nil_append, List.mem_cons, List.not_mem_nil, Prod.mk.injEq, or_false, false_or, or_true, true_or, and_true, true_and, and_false, false_and, and_self, ne_eq, not_false_eq_true, not_true_eq_false, forall_const, true_implies, false_implies, Nat.add_zero, Nat.zero_add, Nat.le_refl, Nat.zero_le, List.set_cons_zero, List.set_cons_succ, List.set_nil, ↓reduceIte, Nat.reduceAdd, Nat.reduceSub, Nat.reduceEqDiff, Nat.reduceLeDiff, Int.reduceEq, Int.reduceNe, Int.reduceNeg, reduceCtorEq]
  refine m_isReg hr ?_
  by_cases q : 0 ≤ r ∧ r < 6
  · rw [if_pos q]
    rw [if_neg (by omega)] at hQ
    simp only [bk211_0, bk211_7, bk211_10, bk211_17, bk211_20, U_iload_n, U_invokestatic1, U_if_ne, U_bipush, U_ireturn, U_aload_n, U_invokevirtual0, U_iconst, U_invokevirtual2, U_l2i, UN_cc, UN_cn, UN_nc, UN_nn, UJ, lget, lset, lset2, entL, wsm, wcat, Option.toList_some, Option.toList_none, List.cons_append, List.nil_append, List.mem_cons, List.not_mem_nil, Prod.mk.injEq, or_false, false_or, or_true, true_or, and_true, true_and, and_false, false_and, and_self, ne_eq, not_false_eq_true, not_true_eq_false, forall_const, true_implies, false_implies, Nat.add_zero, Nat.zero_add, Nat.le_refl, Nat.zero_le, List.set_cons_zero, List.set_cons_succ, List.set_nil, ↓reduceIte, Nat.reduceAdd, Nat.reduceSub, Nat.reduceEqDiff, Nat.reduceLeDiff, Int.reduceEq, Int.reduceNe, Int.reduceNeg, reduceCtorEq, kd190]
    refine ⟨r3 (by omega), m_std h V ?_⟩
    by_cases q0 : g = 0
    · rw [if_pos q0]
      rw [if_pos q0] at hQ
      simp only [bk211_0, bk211_7, bk211_10, bk211_17, bk211_20, U_iload_n, U_invokestatic1, U_if_ne, U_bipush, U_ireturn, U_aload_n, U_invokevirtual0, U_iconst, U_invokevirtual2, U_l2i, UN_cc, UN_cn, UN_nc, UN_nn, UJ, lget, lset, lset2, entL, wsm, wcat, Option.toList_some, Option.toList_none, List.cons_append, List.nil_append, List.mem_cons, List.not_mem_nil, Prod.mk.injEq, or_false, false_or, or_true, true_or, and_true, true_and, and_false, false_and, and_self, ne_eq, not_false_eq_true, not_true_eq_false, forall_const, true_implies, false_implies, Nat.add_zero, Nat.zero_add, Nat.le_refl, Nat.zero_le, List.set_cons_zero, List.set_cons_succ, List.set_nil, ↓reduceIte, Nat.reduceAdd, Nat.reduceSub, Nat.reduceEqDiff, Nat.reduceLeDiff, Int.reduceEq, Int.reduceNe, Int.reduceNeg, reduceCtorEq]
      exact ⟨r3 (by omega), hQ N h (clF.rf N)⟩
    · rw [if_neg q0]
      rw [if_neg q0] at hQ
      obtain ⟨k, rfl⟩ : ∃ k : Nat, r = k := ⟨r.toNat, by omega⟩
      simp only [Int.toNat_natCast] at hQ
      have cv := V.cv q0
      have wm := h.2.2.2.1 k (by omega)
      rw [← rxw (z := z) V q0] at wm
      simp only [bk211_0, bk211_7, bk211_10, bk211_17, bk211_20, U_iload_n, U_invokestatic1, U_if_ne, U_bipush, U_ireturn, U_aload_n, U_invokevirtual0, U_iconst, U_invokevirtual2, U_l2i, UN_cc, UN_cn, UN_nc, UN_nn, UJ, lget, lset, lset2, entL, wsm, wcat, Option.toList_some, Option.toList_none, List.cons_append, List.nil_append, List.mem_cons, List.not_mem_nil, Prod.mk.injEq, or_false, false_or, or_true, true_or, and_true, true_and, and_false, false_and, and_self, ne_eq, not_false_eq_true, not_true_eq_false, forall_const, true_implies, false_implies, Nat.add_zero, Nat.zero_add, Nat.le_refl, Nat.zero_le, List.set_cons_zero, List.set_cons_succ, List.set_nil, ↓reduceIte, Nat.reduceAdd, Nat.reduceSub, Nat.reduceEqDiff, Nat.reduceLeDiff, Int.reduceEq, Int.reduceNe, Int.reduceNeg, reduceCtorEq, kd190]
      refine ⟨r3 (by omega), m_fromRegister (t := 1) (a := k) h.fz (by omega) (by omega) fun N1 s1 => ?_⟩
      have F1 : FM scK scL N N1 := s1.f4.mo rfl rfl
      have G1 := (h.mg q0).1.fm s1.f4 ok_4 (by decide) (by decide) (by decide) (by decide) (by decide) (by decide)
      simp only [bk211_0, bk211_7, bk211_10, bk211_17, bk211_20, U_iload_n, U_invokestatic1, U_if_ne, U_bipush, U_ireturn, U_aload_n, U_invokevirtual0, U_iconst, U_invokevirtual2, U_l2i, UN_cc, UN_cn, UN_nc, UN_nn, UJ, lget, lset, lset2, entL, wsm, wcat, Option.toList_some, Option.toList_none, List.cons_append, List.nil_append, List.mem_cons, List.not_mem_nil, Prod.mk.injEq, or_false, false_or, or_true, true_or, and_true, true_and, and_false, false_and, and_self, ne_eq, not_false_eq_true, not_true_eq_false, forall_const, true_implies, false_implies, Nat.add_zero, Nat.zero_add, Nat.le_refl, Nat.zero_le, List.set_cons_zero, List.set_cons_succ, List.set_nil, ↓reduceIte, Nat.reduceAdd, Nat.reduceSub, Nat.reduceEqDiff, Nat.reduceLeDiff, Int.reduceEq, Int.reduceNe, Int.reduceNeg, reduceCtorEq, kd190]
      refine m_orderOf (hG q0) G1 V.1 cv.2.2.1 V.g2 (M q0) (wm.mv s1) fun N2 u1 u2 => ?_
      have F2 := F1.tr (u2.mo (K' := scK) (L' := scL) rfl rfl)
      simp only [bk211_0, bk211_7, bk211_10, bk211_17, bk211_20, U_iload_n, U_invokestatic1, U_if_ne, U_bipush, U_ireturn, U_aload_n, U_invokevirtual0, U_iconst, U_invokevirtual2, U_l2i, UN_cc, UN_cn, UN_nc, UN_nn, UJ, lget, lset, lset2, entL, wsm, wcat, Option.toList_some, Option.toList_none, List.cons_append, List.nil_append, List.mem_cons, List.not_mem_nil, Prod.mk.injEq, or_false, false_or, or_true, true_or, and_true, true_and, and_false, false_and, and_self, ne_eq, not_false_eq_true, not_true_eq_false, forall_const, true_implies, false_implies, Nat.add_zero, Nat.zero_add, Nat.le_refl, Nat.zero_le, List.set_cons_zero, List.set_cons_succ, List.set_nil, ↓reduceIte, Nat.reduceAdd, Nat.reduceSub, Nat.reduceEqDiff, Nat.reduceLeDiff, Int.reduceEq, Int.reduceNe, Int.reduceNeg, reduceCtorEq]
      exact hQ N2 (h.sc F2 u1.rw) (F2.cl rfl)
  · rw [if_neg q]
    rw [if_pos q] at hQ
    simp only [bk211_0, bk211_7, bk211_10, bk211_17, bk211_20, U_iload_n, U_invokestatic1, U_if_ne, U_bipush, U_ireturn, U_aload_n, U_invokevirtual0, U_iconst, U_invokevirtual2, U_l2i, UN_cc, UN_cn, UN_nc, UN_nn, UJ, lget, lset, lset2, entL, wsm, wcat, Option.toList_some, Option.toList_none, List.cons_append, List.nil_append, List.mem_cons, List.not_mem_nil, Prod.mk.injEq, or_false, false_or, or_true, true_or, and_true, true_and, and_false, false_and, and_self, ne_eq, not_false_eq_true, not_true_eq_false, forall_const, true_implies, false_implies, Nat.add_zero, Nat.zero_add, Nat.le_refl, Nat.zero_le, List.set_cons_zero, List.set_cons_succ, List.set_nil, ↓reduceIte, Nat.reduceAdd, Nat.reduceSub, Nat.reduceEqDiff, Nat.reduceLeDiff, Int.reduceEq, Int.reduceNe, Int.reduceNeg, reduceCtorEq]
    exact ⟨r3 (by omega), hQ N h (clF.rf N)⟩
set_option maxHeartbeats 8000000 in
theorem q_log {p : Int} {g : Nat} {f : Pz p} {pu : List Int} {rg : Nat → Pz p × Pz p} {A tl : Nat → Int} {E : Nat → Nat} {N : Mem} {Q : Post} {ad : Gq f g → Gq f g → Gq f g} {z : Gq f g} {ng : Gq f g → Gq f g} {a b : Int} (h : MS g f pu rg A tl E N) (V : VS g f pu rg A tl E) (hG : g ≠ 0 → GG f g ad z ng) (M : g ≠ 0 → mhP f g) (ha : R32 a) (hb : R32 b)
    (hQ : ∀ N', MS g f pu rg A tl E N' → clF N N' → Q (some (0, oLog g a b (lgN ad z (rx z rg a.toNat) (rx z rg b.toNat)))) NN N') : CL 212 [(2, 190), (0, a), (0, b), (9, 0)] NN N Q := by
  unfold oLog at hQ
  have bad : (¬ (0 ≤ a ∧ a < 6) ∨ ¬ (0 ≤ b ∧ b < 6)) → Q (some (0, -2)) NN N := fun e => by
    rw [if_pos e] at hQ; exact hQ N h (clF.rf N)
  refine WP.run [(212, 51)] [] 90 ?_
  simp only [bk212_0, bk212_7, bk212_14, bk212_17, bk212_24, bk212_27, bk212_51, bk212_60, bk212_62, bk212_81, U_iload_n, U_invokestatic1, U_if_eq, U_if_ne, U_bipush, U_ireturn, U_aload_n, U_invokevirtual0, U_iconst, U_invokevirtual2, U_invokevirtual1, U_istore_n, U_invokevirtual3, U_iinc, UN_cc, UN_cn, UN_nc, UN_nn, UJ, lget, lset, lset2, entL, wsm, wcat, Option.toList_some, Option.toList_none, List.cons_append, List.nil_append, List.mem_cons, List.not_mem_nil, Prod.mk.injEq, or_false, false_or, or_true, true_or, and_true, true_and, and_false, false_and, and_self, ne_eq, not_false_eq_true, not_true_eq_false, forall_const, true_implies, false_implies, Nat.add_zero, Nat.zero_add, Nat.le_refl, Nat.zero_le, List.set_cons_zero, List.set_cons_succ, List.set_nil, ↓reduceIte, Nat.reduceAdd, Nat.reduceSub, Nat.reduceEqDiff, Nat.reduceLeDiff, Int.reduceEq, Int.reduceNe, Int.reduceNeg, reduceCtorEq]
  refine m_isReg ha ?_
  by_cases q : 0 ≤ a ∧ a < 6
  · rw [if_pos q]
    simp only [bk212_0, bk212_7, bk212_14, bk212_17, bk212_24, bk212_27, bk212_51, bk212_60, bk212_62, bk212_81, U_iload_n, U_invokestatic1, U_if_eq, U_if_ne, U_bipush, U_ireturn, U_aload_n, U_invokevirtual0, U_iconst, U_invokevirtual2, U_invokevirtual1, U_istore_n, U_invokevirtual3, U_iinc, UN_cc, UN_cn, UN_nc, UN_nn, UJ, lget, lset, lset2, entL, wsm, wcat, Option.toList_some, Option.toList_none, List.cons_append, List.nil_append, List.mem_cons, List.not_mem_nil, Prod.mk.injEq, or_false, false_or, or_true, true_or, and_true, true_and, and_false, false_and, and_self, ne_eq, not_false_eq_true, not_true_eq_false, forall_const, true_implies, false_implies, Nat.add_zero, Nat.zero_add, Nat.le_refl, Nat.zero_le, List.set_cons_zero, List.set_cons_succ, List.set_nil, ↓reduceIte, Nat.reduceAdd, Nat.reduceSub, Nat.reduceEqDiff, Nat.reduceLeDiff, Int.reduceEq, Int.reduceNe, Int.reduceNeg, reduceCtorEq]
    refine ⟨r3 (by omega), m_isReg hb ?_⟩
    by_cases q1 : 0 ≤ b ∧ b < 6
    · rw [if_pos q1]
      rw [if_neg (show ¬ (¬ (0 ≤ a ∧ a < 6) ∨ ¬ (0 ≤ b ∧ b < 6)) by omega)] at hQ
      simp only [bk212_0, bk212_7, bk212_14, bk212_17, bk212_24, bk212_27, bk212_51, bk212_60, bk212_62, bk212_81, U_iload_n, U_invokestatic1, U_if_eq, U_if_ne, U_bipush, U_ireturn, U_aload_n, U_invokevirtual0, U_iconst, U_invokevirtual2, U_invokevirtual1, U_istore_n, U_invokevirtual3, U_iinc, UN_cc, UN_cn, UN_nc, UN_nn, UJ, lget, lset, lset2, entL, wsm, wcat, Option.toList_some, Option.toList_none, List.cons_append, List.nil_append, List.mem_cons, List.not_mem_nil, Prod.mk.injEq, or_false, false_or, or_true, true_or, and_true, true_and, and_false, false_and, and_self, ne_eq, not_false_eq_true, not_true_eq_false, forall_const, true_implies, false_implies, Nat.add_zero, Nat.zero_add, Nat.le_refl, Nat.zero_le, List.set_cons_zero, List.set_cons_succ, List.set_nil, ↓reduceIte, Nat.reduceAdd, Nat.reduceSub, Nat.reduceEqDiff, Nat.reduceLeDiff, Int.reduceEq, Int.reduceNe, Int.reduceNeg, reduceCtorEq, kd190]
      refine ⟨r3 (by omega), m_std h V ?_⟩
      by_cases q0 : g = 0
      · rw [if_pos q0]
        rw [if_pos q0] at hQ
        simp only [bk212_0, bk212_7, bk212_14, bk212_17, bk212_24, bk212_27, bk212_51, bk212_60, bk212_62, bk212_81, U_iload_n, U_invokestatic1, U_if_eq, U_if_ne, U_bipush, U_ireturn, U_aload_n, U_invokevirtual0, U_iconst, U_invokevirtual2, U_invokevirtual1, U_istore_n, U_invokevirtual3, U_iinc, UN_cc, UN_cn, UN_nc, UN_nn, UJ, lget, lset, lset2, entL, wsm, wcat, Option.toList_some, Option.toList_none, List.cons_append, List.nil_append, List.mem_cons, List.not_mem_nil, Prod.mk.injEq, or_false, false_or, or_true, true_or, and_true, true_and, and_false, false_and, and_self, ne_eq, not_false_eq_true, not_true_eq_false, forall_const, true_implies, false_implies, Nat.add_zero, Nat.zero_add, Nat.le_refl, Nat.zero_le, List.set_cons_zero, List.set_cons_succ, List.set_nil, ↓reduceIte, Nat.reduceAdd, Nat.reduceSub, Nat.reduceEqDiff, Nat.reduceLeDiff, Int.reduceEq, Int.reduceNe, Int.reduceNeg, reduceCtorEq]
        exact ⟨r3 (by omega), hQ N h (clF.rf N)⟩
      · rw [if_neg q0]
        rw [if_neg q0] at hQ
        obtain ⟨k, rfl⟩ : ∃ k : Nat, a = k := ⟨a.toNat, by omega⟩
        obtain ⟨m, rfl⟩ : ∃ m : Nat, b = m := ⟨b.toNat, by omega⟩
        simp only [Int.toNat_natCast] at hQ
        have cv := V.cv q0
        have hcv := cv.2.2.1
        have hg2 := V.g2
        have hp := V.1
        have hl := tkl_pos f g
        have hll := (M q0).2.1
        have wk := h.2.2.2.1 k (by omega)
        have wm := h.2.2.2.1 m (by omega)
        rw [← rxw (z := z) V q0] at wk wm
        generalize rx z rg k = x at *
        generalize rx z rg m = y at *
        have hGG := hG q0
        have hlag := lagr hGG.1 (cll_is hp hcv.1 z).1 (cll_is hp hcv.1 z).2 x
        rw [cll_len] at hlag
        obtain ⟨o, ho⟩ := ord_ex (by omega) hlag
        have hol : o ≤ (tkl f g).length := ho.2.2 _ (by omega) hlag
        simp only [bk212_0, bk212_7, bk212_14, bk212_17, bk212_24, bk212_27, bk212_51, bk212_60, bk212_62, bk212_81, U_iload_n, U_invokestatic1, U_if_eq, U_if_ne, U_bipush, U_ireturn, U_aload_n, U_invokevirtual0, U_iconst, U_invokevirtual2, U_invokevirtual1, U_istore_n, U_invokevirtual3, U_iinc, UN_cc, UN_cn, UN_nc, UN_nn, UJ, lget, lset, lset2, entL, wsm, wcat, Option.toList_some, Option.toList_none, List.cons_append, List.nil_append, List.mem_cons, List.not_mem_nil, Prod.mk.injEq, or_false, false_or, or_true, true_or, and_true, true_and, and_false, false_and, and_self, ne_eq, not_false_eq_true, not_true_eq_false, forall_const, true_implies, false_implies, Nat.add_zero, Nat.zero_add, Nat.le_refl, Nat.zero_le, List.set_cons_zero, List.set_cons_succ, List.set_nil, ↓reduceIte, Nat.reduceAdd, Nat.reduceSub, Nat.reduceEqDiff, Nat.reduceLeDiff, Int.reduceEq, Int.reduceNe, Int.reduceNeg, reduceCtorEq, kd190]
        refine ⟨r3 (by omega), m_fromRegister (t := 1) (a := k) h.fz (by omega) (by omega) fun N1 s1 => ?_⟩
        have B1 := (h.mg q0).1.mb.mv (c := 204) s1
        simp only [bk212_0, bk212_7, bk212_14, bk212_17, bk212_24, bk212_27, bk212_51, bk212_60, bk212_62, bk212_81, U_iload_n, U_invokestatic1, U_if_eq, U_if_ne, U_bipush, U_ireturn, U_aload_n, U_invokevirtual0, U_iconst, U_invokevirtual2, U_invokevirtual1, U_istore_n, U_invokevirtual3, U_iinc, UN_cc, UN_cn, UN_nc, UN_nn, UJ, lget, lset, lset2, entL, wsm, wcat, Option.toList_some, Option.toList_none, List.cons_append, List.nil_append, List.mem_cons, List.not_mem_nil, Prod.mk.injEq, or_false, false_or, or_true, true_or, and_true, true_and, and_false, false_and, and_self, ne_eq, not_false_eq_true, not_true_eq_false, forall_const, true_implies, false_implies, Nat.add_zero, Nat.zero_add, Nat.le_refl, Nat.zero_le, List.set_cons_zero, List.set_cons_succ, List.set_nil, ↓reduceIte, Nat.reduceAdd, Nat.reduceSub, Nat.reduceEqDiff, Nat.reduceLeDiff, Int.reduceEq, Int.reduceNe, Int.reduceNeg, reduceCtorEq, kd190]
        refine m_fromRegister (t := 2) (a := m) B1.fz (by omega) (by omega) fun N2 s2 => ?_
        have B2 := B1.mv (c := 204) s2
        have x1 : WK N2 204 1 x.1 := (wk.mv s1).kp s2 (by omega)
        have x2 : WK N2 204 2 y.1 := (wm.fx (s1.1 195 (by decide))).mv s2
        simp only [bk212_0, bk212_7, bk212_14, bk212_17, bk212_24, bk212_27, bk212_51, bk212_60, bk212_62, bk212_81, U_iload_n, U_invokestatic1, U_if_eq, U_if_ne, U_bipush, U_ireturn, U_aload_n, U_invokevirtual0, U_iconst, U_invokevirtual2, U_invokevirtual1, U_istore_n, U_invokevirtual3, U_iinc, UN_cc, UN_cn, UN_nc, UN_nn, UJ, lget, lset, lset2, entL, wsm, wcat, Option.toList_some, Option.toList_none, List.cons_append, List.nil_append, List.mem_cons, List.not_mem_nil, Prod.mk.injEq, or_false, false_or, or_true, true_or, and_true, true_and, and_false, false_and, and_self, ne_eq, not_false_eq_true, not_true_eq_false, forall_const, true_implies, false_implies, Nat.add_zero, Nat.zero_add, Nat.le_refl, Nat.zero_le, List.set_cons_zero, List.set_cons_succ, List.set_nil, ↓reduceIte, Nat.reduceAdd, Nat.reduceSub, Nat.reduceEqDiff, Nat.reduceLeDiff, Int.reduceEq, Int.reduceNe, Int.reduceNeg, reduceCtorEq, kd190]
        refine m_nought (t := 3) B2.fz (by omega) fun N3 t1 t2 t3 => ?_
        have F3 : FM [204] [] N2 N3 := ⟨fun c _ y => t1 c (fun w => y (by simp [w])), fun i _ => by rw [t1 190 (by decide)]⟩
        have z3 := F3.fz ok_4 B2.fz
        simp only [bk212_0, bk212_7, bk212_14, bk212_17, bk212_24, bk212_27, bk212_51, bk212_60, bk212_62, bk212_81, U_iload_n, U_invokestatic1, U_if_eq, U_if_ne, U_bipush, U_ireturn, U_aload_n, U_invokevirtual0, U_iconst, U_invokevirtual2, U_invokevirtual1, U_istore_n, U_invokevirtual3, U_iinc, UN_cc, UN_cn, UN_nc, UN_nn, UJ, lget, lset, lset2, entL, wsm, wcat, Option.toList_some, Option.toList_none, List.cons_append, List.nil_append, List.mem_cons, List.not_mem_nil, Prod.mk.injEq, or_false, false_or, or_true, true_or, and_true, true_and, and_false, false_and, and_self, ne_eq, not_false_eq_true, not_true_eq_false, forall_const, true_implies, false_implies, Nat.add_zero, Nat.zero_add, Nat.le_refl, Nat.zero_le, List.set_cons_zero, List.set_cons_succ, List.set_nil, ↓reduceIte, Nat.reduceAdd, Nat.reduceSub, Nat.reduceEqDiff, Nat.reduceLeDiff, Int.reduceEq, Int.reduceNe, Int.reduceNeg, reduceCtorEq, kd190]
        refine m_nought (t := 4) z3 (by omega) fun N4 u1 u2 u3 => ?_
        have F4 : FM [204] [] N3 N4 := ⟨fun c _ y => u1 c (fun w => y (by simp [w])), fun i _ => by rw [u1 190 (by decide)]⟩
        have FA : FM scK scL N N4 := (((s1.f4.mo rfl rfl).tr (s2.f4.mo rfl rfl)).tr (F3.mo rfl rfl)).tr (F4.mo rfl rfl)
        have z4 := F4.fz ok_4 z3
        have B4 : MB f g N4 := B2.fx z4 (by rw [u1 190 (by decide), t1 190 (by decide)]) (by rw [u1 198 (by decide), t1 198 (by decide)]) (by rw [u1 199 (by decide), t1 199 (by decide)])
        have y1 : WK N4 204 1 x.1 := fun j hj => by rw [u3 _ (by omega), t3 _ (by omega)]; exact x1 j hj
        have y2 : WK N4 204 2 y.1 := fun j hj => by rw [u3 _ (by omega), t3 _ (by omega)]; exact x2 j hj
        have y3 : WK N4 204 3 (nsm ad z 0 x).1 := fun j hj => by rw [u3 _ (by omega), t2 j hj]; exact (wkD_z hp hGG.2.2.1 j).symm
        have y4 : WK N4 204 4 z.1 := fun j hj => by rw [u2 j hj]; exact (wkD_z hp hGG.2.2.1 j).symm
        have key : ∀ (fu n : Nat) (Ni : Mem), n + fu = o → 0 < fu → (∀ j, j < n → nsm ad z j x ≠ y) → MB f g Ni → FM scK scL N Ni → WK Ni 204 1 x.1 → WK Ni 204 2 y.1 → WK Ni 204 3 (nsm ad z n x).1 → WK Ni 204 4 z.1 → WP 212 (0, 0) 51 [(2, 190), (0, (k : Int)), (0, (m : Int)), (0, (n : Int))] [] NN Ni Q := by
          intro fu
          induction fu with
          | zero => intro n Ni _ h0; omega
          | succ fu ih =>
            intro n Ni hn h0 hd hB hF v1 v2 v3 v4
            have hlk := lkC_is hp hg2 v3 v2
            have elk : lkN Ni 3 2 5 = lkC Ni 204 204 3 2 5 := rfl
            have h01 := lkN_01 Ni 3 2 5
            refine WP.run [(212, 51)] [] 90 ?_
            simp only [bk212_0, bk212_7, bk212_14, bk212_17, bk212_24, bk212_27, bk212_51, bk212_60, bk212_62, bk212_81, U_iload_n, U_invokestatic1, U_if_eq, U_if_ne, U_bipush, U_ireturn, U_aload_n, U_invokevirtual0, U_iconst, U_invokevirtual2, U_invokevirtual1, U_istore_n, U_invokevirtual3, U_iinc, UN_cc, UN_cn, UN_nc, UN_nn, UJ, lget, lset, lset2, entL, wsm, wcat, Option.toList_some, Option.toList_none, List.cons_append, List.nil_append, List.mem_cons, List.not_mem_nil, Prod.mk.injEq, or_false, false_or, or_true, true_or, and_true, true_and, and_false, false_and, and_self, ne_eq, not_false_eq_true, not_true_eq_false, forall_const, true_implies, false_implies, Nat.add_zero, Nat.zero_add, Nat.le_refl, Nat.zero_le, List.set_cons_zero, List.set_cons_succ, List.set_nil, ↓reduceIte, Nat.reduceAdd, Nat.reduceSub, Nat.reduceEqDiff, Nat.reduceLeDiff, Int.reduceEq, Int.reduceNe, Int.reduceNeg, reduceCtorEq, kd190]
            refine m_isLike (t := 3) (a := 2) hB.fz (by omega) (by omega) (fun j hj => ⟨?_, ?_⟩) ?_
            · rw [v3 j hj]; have := gq_rg hp hg2 (nsm ad z n x) j; exact r3 (by omega)
            · rw [v2 j hj]; have := gq_rg hp hg2 y j; exact r3 (by omega)
            simp only [bk212_0, bk212_7, bk212_14, bk212_17, bk212_24, bk212_27, bk212_51, bk212_60, bk212_62, bk212_81, U_iload_n, U_invokestatic1, U_if_eq, U_if_ne, U_bipush, U_ireturn, U_aload_n, U_invokevirtual0, U_iconst, U_invokevirtual2, U_invokevirtual1, U_istore_n, U_invokevirtual3, U_iinc, UN_cc, UN_cn, UN_nc, UN_nn, UJ, lget, lset, lset2, entL, wsm, wcat, Option.toList_some, Option.toList_none, List.cons_append, List.nil_append, List.mem_cons, List.not_mem_nil, Prod.mk.injEq, or_false, false_or, or_true, true_or, and_true, true_and, and_false, false_and, and_self, ne_eq, not_false_eq_true, not_true_eq_false, forall_const, true_implies, false_implies, Nat.add_zero, Nat.zero_add, Nat.le_refl, Nat.zero_le, List.set_cons_zero, List.set_cons_succ, List.set_nil, ↓reduceIte, Nat.reduceAdd, Nat.reduceSub, Nat.reduceEqDiff, Nat.reduceLeDiff, Int.reduceEq, Int.reduceNe, Int.reduceNeg, reduceCtorEq, kd190]
            refine ⟨r3 (by omega), fun e => ?_, fun e => ?_⟩
            · have hne : nsm ad z n x ≠ y := fun w => by have := hlk.mpr w; omega
              have hd' : ∀ j, j < n + 1 → nsm ad z j x ≠ y := fun j hj => by
                by_cases w : j = n
                · rw [w]; exact hne
                · exact hd j (by omega)
              refine m_sumG (to := 3) (ka := 3) (kb := 1) hGG hB hcv (by omega) (by omega) (by omega) v3 v1 fun N5 a1 a2 a3 a4 => ?_
              have es : ad (nsm ad z n x) x = nsm ad z (n + 1) x := by rw [nsm_add hGG.1, nsm_one hGG.1]
              rw [es] at a2
              have F5 := hF.tr (a3.fm.mo (K' := scK) (L' := scL) rfl rfl)
              have w1 : WK N5 204 1 x.1 := v1.keep (t := 3) (by omega) a4
              have w2 : WK N5 204 2 y.1 := v2.keep (t := 3) (by omega) a4
              have w4 : WK N5 204 4 z.1 := v4.keep (t := 3) (by omega) a4
              have hlk2 := lkC_is hp hg2 a2 w4
              have elk2 : lkN N5 3 4 5 = lkC N5 204 204 3 4 5 := rfl
              have h012 := lkN_01 N5 3 4 5
              simp only [bk212_0, bk212_7, bk212_14, bk212_17, bk212_24, bk212_27, bk212_51, bk212_60, bk212_62, bk212_81, U_iload_n, U_invokestatic1, U_if_eq, U_if_ne, U_bipush, U_ireturn, U_aload_n, U_invokevirtual0, U_iconst, U_invokevirtual2, U_invokevirtual1, U_istore_n, U_invokevirtual3, U_iinc, UN_cc, UN_cn, UN_nc, UN_nn, UJ, lget, lset, lset2, entL, wsm, wcat, Option.toList_some, Option.toList_none, List.cons_append, List.nil_append, List.mem_cons, List.not_mem_nil, Prod.mk.injEq, or_false, false_or, or_true, true_or, and_true, true_and, and_false, false_and, and_self, ne_eq, not_false_eq_true, not_true_eq_false, forall_const, true_implies, false_implies, Nat.add_zero, Nat.zero_add, Nat.le_refl, Nat.zero_le, List.set_cons_zero, List.set_cons_succ, List.set_nil, ↓reduceIte, Nat.reduceAdd, Nat.reduceSub, Nat.reduceEqDiff, Nat.reduceLeDiff, Int.reduceEq, Int.reduceNe, Int.reduceNeg, reduceCtorEq, kd190]
              refine m_isLike (t := 3) (a := 4) a1.fz (by omega) (by omega) (fun j hj => ⟨?_, ?_⟩) ?_
              · rw [a2 j hj]; have := gq_rg hp hg2 (nsm ad z (n + 1) x) j; exact r3 (by omega)
              · rw [w4 j hj]; have := gq_rg hp hg2 z j; exact r3 (by omega)
              simp only [bk212_0, bk212_7, bk212_14, bk212_17, bk212_24, bk212_27, bk212_51, bk212_60, bk212_62, bk212_81, U_iload_n, U_invokestatic1, U_if_eq, U_if_ne, U_bipush, U_ireturn, U_aload_n, U_invokevirtual0, U_iconst, U_invokevirtual2, U_invokevirtual1, U_istore_n, U_invokevirtual3, U_iinc, UN_cc, UN_cn, UN_nc, UN_nn, UJ, lget, lset, lset2, entL, wsm, wcat, Option.toList_some, Option.toList_none, List.cons_append, List.nil_append, List.mem_cons, List.not_mem_nil, Prod.mk.injEq, or_false, false_or, or_true, true_or, and_true, true_and, and_false, false_and, and_self, ne_eq, not_false_eq_true, not_true_eq_false, forall_const, true_implies, false_implies, Nat.add_zero, Nat.zero_add, Nat.le_refl, Nat.zero_le, List.set_cons_zero, List.set_cons_succ, List.set_nil, ↓reduceIte, Nat.reduceAdd, Nat.reduceSub, Nat.reduceEqDiff, Nat.reduceLeDiff, Int.reduceEq, Int.reduceNe, Int.reduceNeg, reduceCtorEq]
              refine ⟨r3 (by omega), fun e2 => ?_, fun e2 => ?_⟩
              · have hnz : nsm ad z (n + 1) x ≠ z := fun w => by have := hlk2.mpr w; omega
                have hno : n + 1 ≠ o := fun w => hnz (by rw [w]; exact ho.2.1)
                exact ih (n + 1) N5 (by omega) (by omega) hd' a1 F5 w1 w2 a2 w4
              · have hz1 : nsm ad z (n + 1) x = z := hlk2.mp (by omega)
                have hlog : IsLog ad z x y (-1) := Or.inr ⟨rfl, log_none hGG.1 hz1 hd'⟩
                have := hQ N5 (h.sc F5 a1.rw) (F5.cl rfl)
                rw [lgN_is hlog] at this; exact this
            · have hy : nsm ad z n x = y := hlk.mp (by omega)
              have hlog : IsLog ad z x y (n : Int) := Or.inl ⟨n, rfl, hy, hd⟩
              have := hQ Ni (h.sc hF hB.rw) (hF.cl rfl)
              rw [lgN_is hlog] at this; exact this
        simp only [bk212_0, bk212_7, bk212_14, bk212_17, bk212_24, bk212_27, bk212_51, bk212_60, bk212_62, bk212_81, U_iload_n, U_invokestatic1, U_if_eq, U_if_ne, U_bipush, U_ireturn, U_aload_n, U_invokevirtual0, U_iconst, U_invokevirtual2, U_invokevirtual1, U_istore_n, U_invokevirtual3, U_iinc, UN_cc, UN_cn, UN_nc, UN_nn, UJ, lget, lset, lset2, entL, wsm, wcat, Option.toList_some, Option.toList_none, List.cons_append, List.nil_append, List.mem_cons, List.not_mem_nil, Prod.mk.injEq, or_false, false_or, or_true, true_or, and_true, true_and, and_false, false_and, and_self, ne_eq, not_false_eq_true, not_true_eq_false, forall_const, true_implies, false_implies, Nat.add_zero, Nat.zero_add, Nat.le_refl, Nat.zero_le, List.set_cons_zero, List.set_cons_succ, List.set_nil, ↓reduceIte, Nat.reduceAdd, Nat.reduceSub, Nat.reduceEqDiff, Nat.reduceLeDiff, Int.reduceEq, Int.reduceNe, Int.reduceNeg, reduceCtorEq]
        exact key o 0 N4 (by omega) ho.1 (fun j hj => by omega) B4 FA y1 y2 y3 y4
    · rw [if_neg q1]
      simp only [bk212_0, bk212_7, bk212_14, bk212_17, bk212_24, bk212_27, bk212_51, bk212_60, bk212_62, bk212_81, U_iload_n, U_invokestatic1, U_if_eq, U_if_ne, U_bipush, U_ireturn, U_aload_n, U_invokevirtual0, U_iconst, U_invokevirtual2, U_invokevirtual1, U_istore_n, U_invokevirtual3, U_iinc, UN_cc, UN_cn, UN_nc, UN_nn, UJ, lget, lset, lset2, entL, wsm, wcat, Option.toList_some, Option.toList_none, List.cons_append, List.nil_append, List.mem_cons, List.not_mem_nil, Prod.mk.injEq, or_false, false_or, or_true, true_or, and_true, true_and, and_false, false_and, and_self, ne_eq, not_false_eq_true, not_true_eq_false, forall_const, true_implies, false_implies, Nat.add_zero, Nat.zero_add, Nat.le_refl, Nat.zero_le, List.set_cons_zero, List.set_cons_succ, List.set_nil, ↓reduceIte, Nat.reduceAdd, Nat.reduceSub, Nat.reduceEqDiff, Nat.reduceLeDiff, Int.reduceEq, Int.reduceNe, Int.reduceNeg, reduceCtorEq]
      exact ⟨r3 (by omega), bad (Or.inr q1)⟩
  · rw [if_neg q]
    simp only [bk212_0, bk212_7, bk212_14, bk212_17, bk212_24, bk212_27, bk212_51, bk212_60, bk212_62, bk212_81, U_iload_n, U_invokestatic1, U_if_eq, U_if_ne, U_bipush, U_ireturn, U_aload_n, U_invokevirtual0, U_iconst, U_invokevirtual2, U_invokevirtual1, U_istore_n, U_invokevirtual3, U_iinc, UN_cc, UN_cn, UN_nc, UN_nn, UJ, lget, lset, lset2, entL, wsm, wcat, Option.toList_some, Option.toList_none, List.cons_append, List.nil_append, List.mem_cons, List.not_mem_nil, Prod.mk.injEq, or_false, false_or, or_true, true_or, and_true, true_and, and_false, false_and, and_self, ne_eq, not_false_eq_true, not_true_eq_false, forall_const, true_implies, false_implies, Nat.add_zero, Nat.zero_add, Nat.le_refl, Nat.zero_le, List.set_cons_zero, List.set_cons_succ, List.set_nil, ↓reduceIte, Nat.reduceAdd, Nat.reduceSub, Nat.reduceEqDiff, Nat.reduceLeDiff, Int.reduceEq, Int.reduceNe, Int.reduceNeg, reduceCtorEq]
    exact ⟨r3 (by omega), bad (Or.inl q)⟩
