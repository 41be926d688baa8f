/-! THE MODEL'S CALLS: the least -/
theorem mn_s {D : Nat → Nat} {n m : Nat} (h1 : 2 ≤ n) (h : IsMn D n m) : IsMn D (n + 1) (if D n < m then D n else m) := by
  obtain ⟨a, x, b, c, d⟩ := h
  by_cases e : D n < m
  · rw [if_pos e]
    refine ⟨fun k k1 k2 => ?_, n, by omega, by omega, rfl⟩
    by_cases w : k = n
    · rw [w]; exact Nat.le_refl _
    · have := a k k1 (by omega); omega
  · rw [if_neg e]
    refine ⟨fun k k1 k2 => ?_, x, b, by omega, d⟩
    by_cases w : k = n
    · rw [w]; omega
    · exact a k k1 (by omega)
theorem mn_2 {D : Nat → Nat} : IsMn D 2 (D 1) := ⟨fun k k1 k2 => by obtain rfl : k = 1 := by omega
                                                                    exact Nat.le_refl _, 1, by omega, by omega, rfl⟩
set_option maxHeartbeats 16000000 in
theorem q_least {p : Int} {g : Nat} {f : Pz p} {pu : List Int} {rg : Nat → Pz p × Pz p} {A tl : Nat → Int} {E : Nat → Nat} {N : Mem} {Q : Post} {m : Int} (h : MS g f pu rg A tl E N) (V : VS g f pu rg A tl E) (hm : R32 m) (hQ : ∀ N', MS g f pu rg A tl E N' → clF N N' → Q (some (0, oLeast g f m)) NN N') : CL 235 [(2, 190), (0, m), (9, 0), (9, 0), (9, 0), (9, 0)] NN N Q := by
  have hp := V.1
  have hpp := hp.pos
  have bad : ¬ (0 ≤ m ∧ m ≤ 30) → Q (some (0, -2)) NN N := fun e => by
    have := hQ N h (clF.rf N)
    unfold oLeast at this
    rw [if_pos e] at this; exact this
  refine WP.run [(235, 45)] [] 90 ?_
  simp only [bk235_0, bk235_7, bk235_10, bk235_17, bk235_20, bk235_37, bk235_40, bk235_45, bk235_51, bk235_65, bk235_71, bk235_76, bk235_77, bk235_84, U_iload_n, U_invokestatic1, U_if_ne, U_bipush, U_ireturn, U_aload_n, U_invokevirtual0, U_invokevirtual1, U_istore_n, U_sipush, U_icmp_le, U_iconst, U_istore, U_iload, U_icmp_ge, U_invokevirtual2, U_icmp_eq, U_goto, U_iinc, UN_cc, UN_cn, UN_nc, UN_nn, UJ, lget, lset, lset2, entL, wsm, wcat, Option.toList_some, Option.toList_none, List.cons_append, List.nil_append, List.mem_cons, List.not_mem_nil, Prod.mk.injEq, or_false, false_or, or_true, true_or, and_true, true_and, and_false, false_and, and_self, ne_eq, not_false_eq_true, not_true_eq_false, forall_const, true_implies, false_implies, Nat.add_zero, Nat.zero_add, Nat.le_refl, Nat.zero_le, List.set_cons_zero, List.set_cons_succ, List.set_nil, ↓reduceIte, Nat.reduceAdd, Nat.reduceSub, Nat.reduceEqDiff, Nat.reduceLeDiff, Int.reduceEq, Int.reduceNe, Int.reduceNeg, reduceCtorEq]
  refine m_isPole hm ?_
  by_cases q : 0 ≤ m ∧ m ≤ 30
  · rw [if_pos q]
    simp only [bk235_0, bk235_7, bk235_10, bk235_17, bk235_20, bk235_37, bk235_40, bk235_45, bk235_51, bk235_65, bk235_71, bk235_76, bk235_77, bk235_84, U_iload_n, U_invokestatic1, U_if_ne, U_bipush, U_ireturn, U_aload_n, U_invokevirtual0, U_invokevirtual1, U_istore_n, U_sipush, U_icmp_le, U_iconst, U_istore, U_iload, U_icmp_ge, U_invokevirtual2, U_icmp_eq, U_goto, U_iinc, UN_cc, UN_cn, UN_nc, UN_nn, UJ, lget, lset, lset2, entL, wsm, wcat, Option.toList_some, Option.toList_none, List.cons_append, List.nil_append, List.mem_cons, List.not_mem_nil, Prod.mk.injEq, or_false, false_or, or_true, true_or, and_true, true_and, and_false, false_and, and_self, ne_eq, not_false_eq_true, not_true_eq_false, forall_const, true_implies, false_implies, Nat.add_zero, Nat.zero_add, Nat.le_refl, Nat.zero_le, List.set_cons_zero, List.set_cons_succ, List.set_nil, ↓reduceIte, Nat.reduceAdd, Nat.reduceSub, Nat.reduceEqDiff, Nat.reduceLeDiff, Int.reduceEq, Int.reduceNe, Int.reduceNeg, reduceCtorEq, kd190]
    refine ⟨r3 (by omega), m_std h V ?_⟩
    unfold oLeast at hQ
    rw [if_neg (by omega)] at hQ
    by_cases q0 : g = 0
    · rw [if_pos q0]
      rw [if_pos q0] at hQ
      simp only [bk235_0, bk235_7, bk235_10, bk235_17, bk235_20, bk235_37, bk235_40, bk235_45, bk235_51, bk235_65, bk235_71, bk235_76, bk235_77, bk235_84, U_iload_n, U_invokestatic1, U_if_ne, U_bipush, U_ireturn, U_aload_n, U_invokevirtual0, U_invokevirtual1, U_istore_n, U_sipush, U_icmp_le, U_iconst, U_istore, U_iload, U_icmp_ge, U_invokevirtual2, U_icmp_eq, U_goto, U_iinc, UN_cc, UN_cn, UN_nc, UN_nn, UJ, lget, lset, lset2, entL, wsm, wcat, Option.toList_some, Option.toList_none, List.cons_append, List.nil_append, List.mem_cons, List.not_mem_nil, Prod.mk.injEq, or_false, false_or, or_true, true_or, and_true, true_and, and_false, false_and, and_self, ne_eq, not_false_eq_true, not_true_eq_false, forall_const, true_implies, false_implies, Nat.add_zero, Nat.zero_add, Nat.le_refl, Nat.zero_le, List.set_cons_zero, List.set_cons_succ, List.set_nil, ↓reduceIte, Nat.reduceAdd, Nat.reduceSub, Nat.reduceEqDiff, Nat.reduceLeDiff, Int.reduceEq, Int.reduceNe, Int.reduceNeg, reduceCtorEq]
      exact ⟨r3 (by omega), hQ N h (clF.rf N)⟩
    · rw [if_neg q0]
      rw [if_neg q0] at hQ
      obtain ⟨k, rfl⟩ : ∃ k : Nat, m = k := ⟨m.toNat, by omega⟩
      rw [Int.toNat_natCast] at hQ
      simp only [bk235_0, bk235_7, bk235_10, bk235_17, bk235_20, bk235_37, bk235_40, bk235_45, bk235_51, bk235_65, bk235_71, bk235_76, bk235_77, bk235_84, U_iload_n, U_invokestatic1, U_if_ne, U_bipush, U_ireturn, U_aload_n, U_invokevirtual0, U_invokevirtual1, U_istore_n, U_sipush, U_icmp_le, U_iconst, U_istore, U_iload, U_icmp_ge, U_invokevirtual2, U_icmp_eq, U_goto, U_iinc, UN_cc, UN_cn, UN_nc, UN_nn, UJ, lget, lset, lset2, entL, wsm, wcat, Option.toList_some, Option.toList_none, List.cons_append, List.nil_append, List.mem_cons, List.not_mem_nil, Prod.mk.injEq, or_false, false_or, or_true, true_or, and_true, true_and, and_false, false_and, and_self, ne_eq, not_false_eq_true, not_true_eq_false, forall_const, true_implies, false_implies, Nat.add_zero, Nat.zero_add, Nat.le_refl, Nat.zero_le, List.set_cons_zero, List.set_cons_succ, List.set_nil, ↓reduceIte, Nat.reduceAdd, Nat.reduceSub, Nat.reduceEqDiff, Nat.reduceLeDiff, Int.reduceEq, Int.reduceNe, Int.reduceNeg, reduceCtorEq, kd190]
      refine ⟨r3 (by omega), q_fc h V q0 (by omega) fun N1 S1 G1 C1 F1 => ?_⟩
      have cw := C1.cw hp (by omega)
      have hq := hQ N1 S1 (F1.cl rfl)
      obtain ⟨hz, hP⟩ := G1.mt
      have h26 := ptl_26 hp f
      have hcw := (cwd_le hp f k).2
      have hpos : 0 < p.toNat ^ cwd f k := Nat.pow_pos (by omega)
      simp only [bk235_0, bk235_7, bk235_10, bk235_17, bk235_20, bk235_37, bk235_40, bk235_45, bk235_51, bk235_65, bk235_71, bk235_76, bk235_77, bk235_84, U_iload_n, U_invokestatic1, U_if_ne, U_bipush, U_ireturn, U_aload_n, U_invokevirtual0, U_invokevirtual1, U_istore_n, U_sipush, U_icmp_le, U_iconst, U_istore, U_iload, U_icmp_ge, U_invokevirtual2, U_icmp_eq, U_goto, U_iinc, UN_cc, UN_cn, UN_nc, UN_nn, UJ, lget, lset, lset2, entL, wsm, wcat, Option.toList_some, Option.toList_none, List.cons_append, List.nil_append, List.mem_cons, List.not_mem_nil, Prod.mk.injEq, or_false, false_or, or_true, true_or, and_true, true_and, and_false, false_and, and_self, ne_eq, not_false_eq_true, not_true_eq_false, forall_const, true_implies, false_implies, Nat.add_zero, Nat.zero_add, Nat.le_refl, Nat.zero_le, List.set_cons_zero, List.set_cons_succ, List.set_nil, ↓reduceIte, Nat.reduceAdd, Nat.reduceSub, Nat.reduceEqDiff, Nat.reduceLeDiff, Int.reduceEq, Int.reduceNe, Int.reduceNeg, reduceCtorEq, kd190]
      refine m_words hp hP cw ?_
      by_cases big : p.toNat ^ cwd f k ≤ 20000
      · rw [if_pos big]
        rw [if_neg (by omega)] at hq
        have h0e : cwd f k = 0 ↔ p.toNat ^ cwd f k = 1 := by
          constructor
          · intro e; rw [e, Nat.pow_zero]
          · intro e
            false_or_by_contra
            have := Nat.pow_le_pow_right (show 0 < p.toNat by omega) (show 1 ≤ cwd f k by omega)
            rw [Nat.pow_one] at this; omega
        have hDd : dfF f (fun _ => 0) k = difN p.toNat p (wdK f) (fun _ => 0) (cwd f k) (ptl f p.toNat).length := rfl
        have hD : ∀ n, dfF f (fun _ => 0) k n ≤ 26 := fun n => by rw [hDd]; have := difN_le p.toNat p (wdK f) (fun _ => 0) (cwd f k) (ptl f p.toNat).length n; omega
        generalize hal : p.toNat ^ cwd f k = al at *
        have dif : ∀ (n : Nat) (Q' : Post), n ≤ 20000 → Q' (some (0, (dfF f (fun _ => 0) k n : Int))) NN N1 → CL 233 [(2, 190), (0, (n : Int)), (0, 0), (9, 0), (9, 0), (9, 0), (9, 0), (9, 0)] NN N1 Q' := fun n Q' hn hq' =>
          m_differs (T := fun _ => 0) hp hz hP cw hn (Or.inr ⟨rfl, fun _ => rfl⟩) (fun _ => ⟨Int.le_refl _, by omega⟩) (by rw [hDd] at hq'; exact hq')
        generalize dfF f (fun _ => 0) k = D at *
        have key : ∀ (x n l : Nat) (e : Nat × Int), n + x = al → 2 ≤ n → IsMn D n l → l ≤ 26 → WP 235 (0, 0) 45 [(2, 190), (0, (k : Int)), (0, (al : Int)), (0, (l : Int)), (0, (n : Int)), e] [] NN N1 Q := by
          intro x
          induction x with
          | zero =>
            intro n l e hn h2 hF hl
            obtain rfl : n = al := by omega
            rw [if_neg (by omega), mnN_is hF] at hq
            refine WP.run [(235, 45)] [] 60 ?_
            simp only [bk235_0, bk235_7, bk235_10, bk235_17, bk235_20, bk235_37, bk235_40, bk235_45, bk235_51, bk235_65, bk235_71, bk235_76, bk235_77, bk235_84, U_iload_n, U_invokestatic1, U_if_ne, U_bipush, U_ireturn, U_aload_n, U_invokevirtual0, U_invokevirtual1, U_istore_n, U_sipush, U_icmp_le, U_iconst, U_istore, U_iload, U_icmp_ge, U_invokevirtual2, U_icmp_eq, U_goto, U_iinc, UN_cc, UN_cn, UN_nc, UN_nn, UJ, lget, lset, lset2, entL, wsm, wcat, Option.toList_some, Option.toList_none, List.cons_append, List.nil_append, List.mem_cons, List.not_mem_nil, Prod.mk.injEq, or_false, false_or, or_true, true_or, and_true, true_and, and_false, false_and, and_self, ne_eq, not_false_eq_true, not_true_eq_false, forall_const, true_implies, false_implies, Nat.add_zero, Nat.zero_add, Nat.le_refl, Nat.zero_le, List.set_cons_zero, List.set_cons_succ, List.set_nil, ↓reduceIte, Nat.reduceAdd, Nat.reduceSub, Nat.reduceEqDiff, Nat.reduceLeDiff, Int.reduceEq, Int.reduceNe, Int.reduceNeg, reduceCtorEq]
            exact ⟨rr (by omega), fun e => absurd e (by omega), fun _ => hq⟩
          | succ x ih =>
            intro n l e hn h2 hF hl
            have hDn := hD n
            have nx := ih (n + 1) (if D n < l then D n else l) (0, (D n : Int)) (by omega) (by omega) (mn_s h2 hF) (by split <;> omega)
            refine WP.run [(235, 45)] [] 60 ?_
            simp only [bk235_0, bk235_7, bk235_10, bk235_17, bk235_20, bk235_37, bk235_40, bk235_45, bk235_51, bk235_65, bk235_71, bk235_76, bk235_77, bk235_84, U_iload_n, U_invokestatic1, U_if_ne, U_bipush, U_ireturn, U_aload_n, U_invokevirtual0, U_invokevirtual1, U_istore_n, U_sipush, U_icmp_le, U_iconst, U_istore, U_iload, U_icmp_ge, U_invokevirtual2, U_icmp_eq, U_goto, U_iinc, UN_cc, UN_cn, UN_nc, UN_nn, UJ, lget, lset, lset2, entL, wsm, wcat, Option.toList_some, Option.toList_none, List.cons_append, List.nil_append, List.mem_cons, List.not_mem_nil, Prod.mk.injEq, or_false, false_or, or_true, true_or, and_true, true_and, and_false, false_and, and_self, ne_eq, not_false_eq_true, not_true_eq_false, forall_const, true_implies, false_implies, Nat.add_zero, Nat.zero_add, Nat.le_refl, Nat.zero_le, List.set_cons_zero, List.set_cons_succ, List.set_nil, ↓reduceIte, Nat.reduceAdd, Nat.reduceSub, Nat.reduceEqDiff, Nat.reduceLeDiff, Int.reduceEq, Int.reduceNe, Int.reduceNeg, reduceCtorEq, kd190]
            refine ⟨rr (by omega), fun _ => dif n _ (by omega) ?_, fun e => absurd (by omega) e⟩
            simp only [bk235_0, bk235_7, bk235_10, bk235_17, bk235_20, bk235_37, bk235_40, bk235_45, bk235_51, bk235_65, bk235_71, bk235_76, bk235_77, bk235_84, U_iload_n, U_invokestatic1, U_if_ne, U_bipush, U_ireturn, U_aload_n, U_invokevirtual0, U_invokevirtual1, U_istore_n, U_sipush, U_icmp_le, U_iconst, U_istore, U_iload, U_icmp_ge, U_invokevirtual2, U_icmp_eq, U_goto, U_iinc, UN_cc, UN_cn, UN_nc, UN_nn, UJ, lget, lset, lset2, entL, wsm, wcat, Option.toList_some, Option.toList_none, List.cons_append, List.nil_append, List.mem_cons, List.not_mem_nil, Prod.mk.injEq, or_false, false_or, or_true, true_or, and_true, true_and, and_false, false_and, and_self, ne_eq, not_false_eq_true, not_true_eq_false, forall_const, true_implies, false_implies, Nat.add_zero, Nat.zero_add, Nat.le_refl, Nat.zero_le, List.set_cons_zero, List.set_cons_succ, List.set_nil, ↓reduceIte, Nat.reduceAdd, Nat.reduceSub, Nat.reduceEqDiff, Nat.reduceLeDiff, Int.reduceEq, Int.reduceNe, Int.reduceNeg, reduceCtorEq]
            by_cases c : D n < l
            · rw [if_pos c] at nx
              exact ⟨rr (by omega), rr (by omega), fun _ => nx, fun e => absurd (by omega) e⟩
            · rw [if_neg c] at nx
              exact ⟨rr (by omega), rr (by omega), fun e => absurd e (by omega), fun _ => nx⟩
        simp only [bk235_0, bk235_7, bk235_10, bk235_17, bk235_20, bk235_37, bk235_40, bk235_45, bk235_51, bk235_65, bk235_71, bk235_76, bk235_77, bk235_84, U_iload_n, U_invokestatic1, U_if_ne, U_bipush, U_ireturn, U_aload_n, U_invokevirtual0, U_invokevirtual1, U_istore_n, U_sipush, U_icmp_le, U_iconst, U_istore, U_iload, U_icmp_ge, U_invokevirtual2, U_icmp_eq, U_goto, U_iinc, UN_cc, UN_cn, UN_nc, UN_nn, UJ, lget, lset, lset2, entL, wsm, wcat, Option.toList_some, Option.toList_none, List.cons_append, List.nil_append, List.mem_cons, List.not_mem_nil, Prod.mk.injEq, or_false, false_or, or_true, true_or, and_true, true_and, and_false, false_and, and_self, ne_eq, not_false_eq_true, not_true_eq_false, forall_const, true_implies, false_implies, Nat.add_zero, Nat.zero_add, Nat.le_refl, Nat.zero_le, List.set_cons_zero, List.set_cons_succ, List.set_nil, ↓reduceIte, Nat.reduceAdd, Nat.reduceSub, Nat.reduceEqDiff, Nat.reduceLeDiff, Int.reduceEq, Int.reduceNe, Int.reduceNeg, reduceCtorEq]
        refine ⟨rr (by omega), fun e => absurd e (by omega), fun _ => ?_⟩
        by_cases one : al = 1
        · rw [if_pos (h0e.mpr one)] at hq
          refine WP.run [] [] 60 ?_
          simp only [bk235_0, bk235_7, bk235_10, bk235_17, bk235_20, bk235_37, bk235_40, bk235_45, bk235_51, bk235_65, bk235_71, bk235_76, bk235_77, bk235_84, U_iload_n, U_invokestatic1, U_if_ne, U_bipush, U_ireturn, U_aload_n, U_invokevirtual0, U_invokevirtual1, U_istore_n, U_sipush, U_icmp_le, U_iconst, U_istore, U_iload, U_icmp_ge, U_invokevirtual2, U_icmp_eq, U_goto, U_iinc, UN_cc, UN_cn, UN_nc, UN_nn, UJ, lget, lset, lset2, entL, wsm, wcat, Option.toList_some, Option.toList_none, List.cons_append, List.nil_append, List.mem_cons, List.not_mem_nil, Prod.mk.injEq, or_false, false_or, or_true, true_or, and_true, true_and, and_false, false_and, and_self, ne_eq, not_false_eq_true, not_true_eq_false, forall_const, true_implies, false_implies, Nat.add_zero, Nat.zero_add, Nat.le_refl, Nat.zero_le, List.set_cons_zero, List.set_cons_succ, List.set_nil, ↓reduceIte, Nat.reduceAdd, Nat.reduceSub, Nat.reduceEqDiff, Nat.reduceLeDiff, Int.reduceEq, Int.reduceNe, Int.reduceNeg, reduceCtorEq]
          exact ⟨rr (by omega), fun e => absurd e (by omega), fun _ => hq⟩
        · have hDn := hD 1
          refine WP.run [(235, 45)] [] 60 ?_
          simp only [bk235_0, bk235_7, bk235_10, bk235_17, bk235_20, bk235_37, bk235_40, bk235_45, bk235_51, bk235_65, bk235_71, bk235_76, bk235_77, bk235_84, U_iload_n, U_invokestatic1, U_if_ne, U_bipush, U_ireturn, U_aload_n, U_invokevirtual0, U_invokevirtual1, U_istore_n, U_sipush, U_icmp_le, U_iconst, U_istore, U_iload, U_icmp_ge, U_invokevirtual2, U_icmp_eq, U_goto, U_iinc, UN_cc, UN_cn, UN_nc, UN_nn, UJ, lget, lset, lset2, entL, wsm, wcat, Option.toList_some, Option.toList_none, List.cons_append, List.nil_append, List.mem_cons, List.not_mem_nil, Prod.mk.injEq, or_false, false_or, or_true, true_or, and_true, true_and, and_false, false_and, and_self, ne_eq, not_false_eq_true, not_true_eq_false, forall_const, true_implies, false_implies, Nat.add_zero, Nat.zero_add, Nat.le_refl, Nat.zero_le, List.set_cons_zero, List.set_cons_succ, List.set_nil, ↓reduceIte, Nat.reduceAdd, Nat.reduceSub, Nat.reduceEqDiff, Nat.reduceLeDiff, Int.reduceEq, Int.reduceNe, Int.reduceNeg, reduceCtorEq, kd190]
          refine ⟨rr (by omega), fun _ => dif 1 _ (by omega) ?_, fun e => absurd (by omega) e⟩
          simp only [bk235_0, bk235_7, bk235_10, bk235_17, bk235_20, bk235_37, bk235_40, bk235_45, bk235_51, bk235_65, bk235_71, bk235_76, bk235_77, bk235_84, U_iload_n, U_invokestatic1, U_if_ne, U_bipush, U_ireturn, U_aload_n, U_invokevirtual0, U_invokevirtual1, U_istore_n, U_sipush, U_icmp_le, U_iconst, U_istore, U_iload, U_icmp_ge, U_invokevirtual2, U_icmp_eq, U_goto, U_iinc, UN_cc, UN_cn, UN_nc, UN_nn, UJ, lget, lset, lset2, entL, wsm, wcat, Option.toList_some, Option.toList_none, List.cons_append, List.nil_append, List.mem_cons, List.not_mem_nil, Prod.mk.injEq, or_false, false_or, or_true, true_or, and_true, true_and, and_false, false_and, and_self, ne_eq, not_false_eq_true, not_true_eq_false, forall_const, true_implies, false_implies, Nat.add_zero, Nat.zero_add, Nat.le_refl, Nat.zero_le, List.set_cons_zero, List.set_cons_succ, List.set_nil, ↓reduceIte, Nat.reduceAdd, Nat.reduceSub, Nat.reduceEqDiff, Nat.reduceLeDiff, Int.reduceEq, Int.reduceNe, Int.reduceNeg, reduceCtorEq]
          have K := key (al - 2) 2 (D 1) (0, (D 1 : Int)) (by omega) (by omega) mn_2 hDn
          repeat (first | refine And.intro (by first | omega | exact not_false) ?_ | refine And.intro (rr (by omega)) ?_ | refine And.intro (r3 (by omega)) ?_ | refine And.intro (r6 (by omega)) ?_)
          exact K
      · rw [if_neg big]
        rw [if_pos (by omega)] at hq
        simp only [bk235_0, bk235_7, bk235_10, bk235_17, bk235_20, bk235_37, bk235_40, bk235_45, bk235_51, bk235_65, bk235_71, bk235_76, bk235_77, bk235_84, U_iload_n, U_invokestatic1, U_if_ne, U_bipush, U_ireturn, U_aload_n, U_invokevirtual0, U_invokevirtual1, U_istore_n, U_sipush, U_icmp_le, U_iconst, U_istore, U_iload, U_icmp_ge, U_invokevirtual2, U_icmp_eq, U_goto, U_iinc, UN_cc, UN_cn, UN_nc, UN_nn, UJ, lget, lset, lset2, entL, wsm, wcat, Option.toList_some, Option.toList_none, List.cons_append, List.nil_append, List.mem_cons, List.not_mem_nil, Prod.mk.injEq, or_false, false_or, or_true, true_or, and_true, true_and, and_false, false_and, and_self, ne_eq, not_false_eq_true, not_true_eq_false, forall_const, true_implies, false_implies, Nat.add_zero, Nat.zero_add, Nat.le_refl, Nat.zero_le, List.set_cons_zero, List.set_cons_succ, List.set_nil, ↓reduceIte, Nat.reduceAdd, Nat.reduceSub, Nat.reduceEqDiff, Nat.reduceLeDiff, Int.reduceEq, Int.reduceNe, Int.reduceNeg, reduceCtorEq]
        exact ⟨rr (by omega), fun _ => hq, fun e => absurd (by omega) e⟩
  · rw [if_neg q]
    simp only [bk235_0, bk235_7, bk235_10, bk235_17, bk235_20, bk235_37, bk235_40, bk235_45, bk235_51, bk235_65, bk235_71, bk235_76, bk235_77, bk235_84, U_iload_n, U_invokestatic1, U_if_ne, U_bipush, U_ireturn, U_aload_n, U_invokevirtual0, U_invokevirtual1, U_istore_n, U_sipush, U_icmp_le, U_iconst, U_istore, U_iload, U_icmp_ge, U_invokevirtual2, U_icmp_eq, U_goto, U_iinc, UN_cc, UN_cn, UN_nc, UN_nn, UJ, lget, lset, lset2, entL, wsm, wcat, Option.toList_some, Option.toList_none, List.cons_append, List.nil_append, List.mem_cons, List.not_mem_nil, Prod.mk.injEq, or_false, false_or, or_true, true_or, and_true, true_and, and_false, false_and, and_self, ne_eq, not_false_eq_true, not_true_eq_false, forall_const, true_implies, false_implies, Nat.add_zero, Nat.zero_add, Nat.le_refl, Nat.zero_le, List.set_cons_zero, List.set_cons_succ, List.set_nil, ↓reduceIte, Nat.reduceAdd, Nat.reduceSub, Nat.reduceEqDiff, Nat.reduceLeDiff, Int.reduceEq, Int.reduceNe, Int.reduceNeg, reduceCtorEq]
    exact ⟨r3 (by omega), bad q⟩
