/-! THE MODEL'S CALLS: room, gaps -/
theorem isum_neg (F : Nat → Int) : ∀ n, isum (fun i => -F i) n = -isum F n
  | 0 => rfl
  | n + 1 => by
    show isum (fun i => -F i) n + -F n = -(isum F n + F n)
    rw [isum_neg F n]; omega
theorem isum_end {A : Nat → Int} {m n : Nat} (h : ∀ i, m ≤ i → A i = 0) : isum A (m + n) = isum A m := by
  rw [isum_cat, isum_cg2 n (G := fun _ => 0) (fun i _ => h (m + i) (by omega)), isum_z]; omega
set_option maxHeartbeats 16000000 in
theorem q_room {p : Int} {g : Nat} {f : Pz p} {pu : List Int} {rg : Nat → Pz p × Pz p} {A tl : Nat → Int} {E : Nat → Nat} {N : Mem} {Q : Post} {ad : Gq f g → Gq f g → Gq f g} {z : Gq f g} {ng : Gq f g → Gq f g} {w : Int} (h : MS g f pu rg A tl E N) (V : VS g f pu rg A tl E) (hG : g ≠ 0 → GG f g ad z ng) (hw : R32 w) (hQ : ∀ N', MS g f pu rg A tl E N' → clF N N' → Q (some (0, oRoom ad z ng A w)) NN N') : CL 224 [(2, 190), (0, w), (9, 0), (9, 0)] NN N Q := by
  have hp := V.1
  have hpp := hp.pos
  have h26 := ptl_26 hp f
  have bad : ¬ (0 ≤ w ∧ w ≤ 2) → Q (some (0, -2)) NN N := fun e => by
    have := hQ N h (clF.rf N)
    unfold oRoom at this
    rw [if_pos e] at this; exact this
  refine WP.run [(224, 29)] [] 60 ?_
  simp only [bk224_0, bk224_12, bk224_15, bk224_22, bk224_25, bk224_29, bk224_37, bk224_47, bk224_57, bk224_63, bk224_79, bk224_84, bk224_86, bk224_98, bk224_109, bk224_110, U_iload_n, U_i2l, U_lconst, U_ldc2_w, U_invokestatic3, U_if_ne, U_bipush, U_ireturn, U_aload_n, U_invokevirtual0, U_iconst, U_istore_n, U_getfield, U_icmp_ge, U_icmp_ne, U_iald, U_ineg, U_goto, U_iast, U_iadd, U_iinc, U_dup2, U_imul, U_isub, UN_cc, UN_cn, UN_nc, UN_nn, UJ, lget, lset, lset2, entL, wsm, wcat, Option.toList_some, Option.toList_none, List.cons_append, List.nil_append, List.mem_cons, List.not_mem_nil, Prod.mk.injEq, or_false, false_or, or_true, true_or, and_true, true_and, and_false, false_and, and_self, ne_eq, not_false_eq_true, not_true_eq_false, forall_const, true_implies, false_implies, Nat.add_zero, Nat.zero_add, Nat.le_refl, Nat.zero_le, List.set_cons_zero, List.set_cons_succ, List.set_nil, ↓reduceIte, Nat.reduceAdd, Nat.reduceSub, Nat.reduceEqDiff, Nat.reduceLeDiff, Int.reduceEq, Int.reduceNe, Int.reduceNeg, reduceCtorEq]
  refine ⟨hw, m_in hw.l (r64 (by omega)) (r64 (by omega)) ?_⟩
  by_cases q1 : 0 ≤ w ∧ w ≤ 2
  · rw [if_pos q1]
    simp only [bk224_0, bk224_12, bk224_15, bk224_22, bk224_25, bk224_29, bk224_37, bk224_47, bk224_57, bk224_63, bk224_79, bk224_84, bk224_86, bk224_98, bk224_109, bk224_110, U_iload_n, U_i2l, U_lconst, U_ldc2_w, U_invokestatic3, U_if_ne, U_bipush, U_ireturn, U_aload_n, U_invokevirtual0, U_iconst, U_istore_n, U_getfield, U_icmp_ge, U_icmp_ne, U_iald, U_ineg, U_goto, U_iast, U_iadd, U_iinc, U_dup2, U_imul, U_isub, UN_cc, UN_cn, UN_nc, UN_nn, UJ, lget, lset, lset2, entL, wsm, wcat, Option.toList_some, Option.toList_none, List.cons_append, List.nil_append, List.mem_cons, List.not_mem_nil, Prod.mk.injEq, or_false, false_or, or_true, true_or, and_true, true_and, and_false, false_and, and_self, ne_eq, not_false_eq_true, not_true_eq_false, forall_const, true_implies, false_implies, Nat.add_zero, Nat.zero_add, Nat.le_refl, Nat.zero_le, List.set_cons_zero, List.set_cons_succ, List.set_nil, ↓reduceIte, Nat.reduceAdd, Nat.reduceSub, Nat.reduceEqDiff, Nat.reduceLeDiff, Int.reduceEq, Int.reduceNe, Int.reduceNeg, reduceCtorEq, kd190]
    refine ⟨r3 (by omega), m_std h V ?_⟩
    unfold oRoom at hQ
    rw [if_neg (by omega)] at hQ
    by_cases q0 : g = 0
    · rw [if_pos q0]
      rw [if_pos q0] at hQ
      simp only [bk224_0, bk224_12, bk224_15, bk224_22, bk224_25, bk224_29, bk224_37, bk224_47, bk224_57, bk224_63, bk224_79, bk224_84, bk224_86, bk224_98, bk224_109, bk224_110, U_iload_n, U_i2l, U_lconst, U_ldc2_w, U_invokestatic3, U_if_ne, U_bipush, U_ireturn, U_aload_n, U_invokevirtual0, U_iconst, U_istore_n, U_getfield, U_icmp_ge, U_icmp_ne, U_iald, U_ineg, U_goto, U_iast, U_iadd, U_iinc, U_dup2, U_imul, U_isub, UN_cc, UN_cn, UN_nc, UN_nn, UJ, lget, lset, lset2, entL, wsm, wcat, Option.toList_some, Option.toList_none, List.cons_append, List.nil_append, List.mem_cons, List.not_mem_nil, Prod.mk.injEq, or_false, false_or, or_true, true_or, and_true, true_and, and_false, false_and, and_self, ne_eq, not_false_eq_true, not_true_eq_false, forall_const, true_implies, false_implies, Nat.add_zero, Nat.zero_add, Nat.le_refl, Nat.zero_le, List.set_cons_zero, List.set_cons_succ, List.set_nil, ↓reduceIte, Nat.reduceAdd, Nat.reduceSub, Nat.reduceEqDiff, Nat.reduceLeDiff, Int.reduceEq, Int.reduceNe, Int.reduceNeg, reduceCtorEq]
      exact ⟨r3 (by omega), hQ N h (clF.rf N)⟩
    · rw [if_neg q0]
      rw [if_neg q0] at hQ
      obtain ⟨G, hPt⟩ := h.mg q0
      obtain ⟨hfit, hgd, hcv, hrg, hA0⟩ := V.cv q0
      have hAr := V.2.2.2.1
      have hAm := h.2.2.2.2.1
      have hg := hcv.1
      generalize hlen : (ptl f p.toNat).length = len at *
      have e27 : isum A 27 = isum A (len + 1) := by
        rw [show 27 = (len + 1) + (26 - len) by omega]
        exact isum_end (fun i hi => hA0 i (by omega))
      rw [e27] at hQ
      have sA : ∀ k : Nat, k ≤ 27 → -4000 ≤ isum A k ∧ isum A k ≤ 4000 := fun k hk => by
        have := isum_ab (F := A) (B := 30) (fun i => by
          by_cases e : i = 0
          · rw [e]; exact hAr.1
          · have := hAr.2 i e; omega) k
        have hk2 : (k : Int) * 30 ≤ 810 := by omega
        omega
      -- behind the loop
      have fin : ∀ N1, FM [207] [] N N1 → (∀ i : Nat, i < len + 1 → N1 207 (i : Int) = if w = 2 then -A i else A i) → ∀ k : Nat × Int, WP 224 (0, 0) 79 [(2, 190), (0, w), (0, isum A (len + 1)), k] [] NN N1 Q := fun N1 F1 hB k => by
        have G1 := G.fm F1 (fzk rfl rfl) (by decide) (by decide) (by simp) (by simp) (by simp) (by simp)
        have hz1 := G1.mt.1
        have P1 : PtA N1 192 193 (ptl f p.toNat) := by unfold PtA; rw [F1.1 192 (by decide) (by decide), F1.1 193 (by decide) (by decide)]; exact hPt
        have M1 : MS g f pu rg A tl E N1 := h.sc (F1.mo rfl rfl) G1.rw
        have c1 : clF N N1 := F1.cl rfl
        by_cases w1 : w = 1
        · have nx := hQ N1 M1 c1
          rw [if_pos w1] at nx
          refine WP.run [] [] 60 ?_
          simp only [bk224_0, bk224_12, bk224_15, bk224_22, bk224_25, bk224_29, bk224_37, bk224_47, bk224_57, bk224_63, bk224_79, bk224_84, bk224_86, bk224_98, bk224_109, bk224_110, U_iload_n, U_i2l, U_lconst, U_ldc2_w, U_invokestatic3, U_if_ne, U_bipush, U_ireturn, U_aload_n, U_invokevirtual0, U_iconst, U_istore_n, U_getfield, U_icmp_ge, U_icmp_ne, U_iald, U_ineg, U_goto, U_iast, U_iadd, U_iinc, U_dup2, U_imul, U_isub, UN_cc, UN_cn, UN_nc, UN_nn, UJ, lget, lset, lset2, entL, wsm, wcat, Option.toList_some, Option.toList_none, List.cons_append, List.nil_append, List.mem_cons, List.not_mem_nil, Prod.mk.injEq, or_false, false_or, or_true, true_or, and_true, true_and, and_false, false_and, and_self, ne_eq, not_false_eq_true, not_true_eq_false, forall_const, true_implies, false_implies, Nat.add_zero, Nat.zero_add, Nat.le_refl, Nat.zero_le, List.set_cons_zero, List.set_cons_succ, List.set_nil, ↓reduceIte, Nat.reduceAdd, Nat.reduceSub, Nat.reduceEqDiff, Nat.reduceLeDiff, Int.reduceEq, Int.reduceNe, Int.reduceNeg, reduceCtorEq]
          repeat' (first | refine And.intro (by omega) ?_ | refine And.intro (rr (by omega)) ?_ | refine And.intro (r3 (by omega)) ?_ | refine And.intro (r6 (by omega)) ?_ | ((fail_if_success (show WP _ _ _ _ _ _ _ _)); (first | refine And.intro ?_ ?_ | intro _)))
          all_goals first | (exfalso; omega) | exact nx
        · rw [if_neg w1] at hQ
          have b0 := hB 0 (by omega)
          replace b0 : N1 207 0 = if w = 2 then -A 0 else A 0 := b0
          by_cases w2 : w = 2
          · rw [if_neg (by omega)] at hQ
            rw [if_pos w2] at b0
            let B : Nat → Int := fun i => if i = 0 then -A 0 + (2 * (g : Int) - 2) else -A i
            let N2 := ust N1 207 0 (-A 0 + (2 * (g : Int) - 2))
            have F2 : FM [207] [] N N2 := F1.us _ _ (by simp) (by decide)
            have G2 := G.fm F2 (fzk rfl rfl) (by decide) (by decide) (by simp) (by simp) (by simp) (by simp)
            have P2 : PtA N2 192 193 (ptl f p.toNat) := by unfold PtA; rw [F2.1 192 (by decide) (by decide), F2.1 193 (by decide) (by decide)]; exact hPt
            have hB2 : ∀ i : Nat, i ≤ (ptl f p.toNat).length → N2 207 (i : Int) = B i := fun i hi => by
              show ust N1 207 0 (-A 0 + (2 * (g : Int) - 2)) 207 (i : Int) = (if i = 0 then -A 0 + (2 * (g : Int) - 2) else -A i)
              rw [ust_at]
              by_cases e : i = 0
              · rw [if_pos (by omega), if_pos e]
              · rw [if_neg (by omega), if_neg e, hB i (by omega), if_pos w2]
            have key : ∀ Q' : Post, (∀ N3, FM [208, 209, 210, 211, 212, 213, 214, 215, 216] [32] N2 N3 → Q' (some (0, wid g (2 * g - 2 - isum A (len + 1)) ((dg (amS ad z ng A len).1.1 : Int) - 1))) NN N3) → CL 222 [(2, 190), (9, 0), (9, 0), (9, 0), (9, 0), (9, 0), (9, 0), (9, 0), (9, 0)] NN N2 Q' := fun Q' hQ' => by
              refine m_widthOf (B := B) hp G2 hcv (hG q0) P2 hB2 (by show -40 ≤ (if 0 = 0 then -A 0 + (2 * (g : Int) - 2) else -A 0) ∧ (if 0 = 0 then -A 0 + (2 * (g : Int) - 2) else -A 0) ≤ 40; rw [if_pos rfl]; have := hAr.1; omega) (fun i hi => by show -4 ≤ (if i = 0 then -A 0 + (2 * (g : Int) - 2) else -A i) ∧ (if i = 0 then -A 0 + (2 * (g : Int) - 2) else -A i) ≤ 4; rw [if_neg hi]; have := hAr.2 i hi; omega) (fun N3 F3 => ?_)
              have e1 : isum B ((ptl f p.toNat).length + 1) = 2 * g - 2 - isum A (len + 1) := by
                rw [hlen, isum_hd, isum_hd A]
                have : isum (fun k => B (k + 1)) len = isum (fun k => -A (k + 1)) len := isum_cg2 _ (fun i _ => by show (if i + 1 = 0 then _ else -A (i + 1)) = _; rw [if_neg (by omega)])
                rw [this, isum_neg (fun k => A (k + 1))]
                show (if 0 = 0 then -A 0 + (2 * (g : Int) - 2) else -A 0) + _ = _
                rw [if_pos rfl]; omega
              have e2 : amS ad z ng B (ptl f p.toNat).length = ng (amS ad z ng A (ptl f p.toNat).length) := amS_neg (hG q0).1 A B (fun i hi => by show (if i = 0 then _ else -A i) = _; rw [if_neg hi]) _ (Nat.le_refl _)
              have := hQ' N3 F3
              rw [e1, e2, (hG q0).2.2.2, hlen]; exact this
            have v2 := G1.2.2.1
            refine WP.run [] [] 60 ?_
            simp only [bk224_0, bk224_12, bk224_15, bk224_22, bk224_25, bk224_29, bk224_37, bk224_47, bk224_57, bk224_63, bk224_79, bk224_84, bk224_86, bk224_98, bk224_109, bk224_110, U_iload_n, U_i2l, U_lconst, U_ldc2_w, U_invokestatic3, U_if_ne, U_bipush, U_ireturn, U_aload_n, U_invokevirtual0, U_iconst, U_istore_n, U_getfield, U_icmp_ge, U_icmp_ne, U_iald, U_ineg, U_goto, U_iast, U_iadd, U_iinc, U_dup2, U_imul, U_isub, UN_cc, UN_cn, UN_nc, UN_nn, UJ, lget, lset, lset2, entL, wsm, wcat, Option.toList_some, Option.toList_none, List.cons_append, List.nil_append, List.mem_cons, List.not_mem_nil, Prod.mk.injEq, or_false, false_or, or_true, true_or, and_true, true_and, and_false, false_and, and_self, ne_eq, not_false_eq_true, not_true_eq_false, forall_const, true_implies, false_implies, Nat.add_zero, Nat.zero_add, Nat.le_refl, Nat.zero_le, List.set_cons_zero, List.set_cons_succ, List.set_nil, ↓reduceIte, Nat.reduceAdd, Nat.reduceSub, Nat.reduceEqDiff, Nat.reduceLeDiff, Int.reduceEq, Int.reduceNe, Int.reduceNeg, reduceCtorEq, kd190, kd207, ln207, z190_24 hz1, b0, v2]
            repeat' (first | refine And.intro (by omega) ?_ | refine And.intro (rr (by omega)) ?_ | refine And.intro (r3 (by omega)) ?_ | refine And.intro (r6 (by omega)) ?_ | ((fail_if_success (show WP _ _ _ _ _ _ _ _)); (first | refine And.intro ?_ ?_ | intro _)))
            all_goals first | (exfalso; omega) | skip
            refine key _ (fun N3 F3 => ?_)
            simp only [bk224_0, bk224_12, bk224_15, bk224_22, bk224_25, bk224_29, bk224_37, bk224_47, bk224_57, bk224_63, bk224_79, bk224_84, bk224_86, bk224_98, bk224_109, bk224_110, U_iload_n, U_i2l, U_lconst, U_ldc2_w, U_invokestatic3, U_if_ne, U_bipush, U_ireturn, U_aload_n, U_invokevirtual0, U_iconst, U_istore_n, U_getfield, U_icmp_ge, U_icmp_ne, U_iald, U_ineg, U_goto, U_iast, U_iadd, U_iinc, U_dup2, U_imul, U_isub, UN_cc, UN_cn, UN_nc, UN_nn, UJ, lget, lset, lset2, entL, wsm, wcat, Option.toList_some, Option.toList_none, List.cons_append, List.nil_append, List.mem_cons, List.not_mem_nil, Prod.mk.injEq, or_false, false_or, or_true, true_or, and_true, true_and, and_false, false_and, and_self, ne_eq, not_false_eq_true, not_true_eq_false, forall_const, true_implies, false_implies, Nat.add_zero, Nat.zero_add, Nat.le_refl, Nat.zero_le, List.set_cons_zero, List.set_cons_succ, List.set_nil, ↓reduceIte, Nat.reduceAdd, Nat.reduceSub, Nat.reduceEqDiff, Nat.reduceLeDiff, Int.reduceEq, Int.reduceNe, Int.reduceNeg, reduceCtorEq]
            have FF : FM [207, 208, 209, 210, 211, 212, 213, 214, 215, 216] [32] N N3 := (F2.mo rfl rfl).tr (F3.mo rfl rfl)
            have G3 := G.fm FF (fzk rfl rfl) (by decide) (by decide) (by simp) (by simp) (by simp) (by simp)
            exact hQ N3 (h.sc (FF.mo rfl rfl) G3.rw) (FF.cl rfl)
          · rw [if_pos (by omega)] at hQ
            rw [if_neg w2] at b0
            let N2 := ust N1 207 0 (A 0)
            have F2 : FM [207] [] N N2 := F1.us _ _ (by simp) (by decide)
            have G2 := G.fm F2 (fzk rfl rfl) (by decide) (by decide) (by simp) (by simp) (by simp) (by simp)
            have P2 : PtA N2 192 193 (ptl f p.toNat) := by unfold PtA; rw [F2.1 192 (by decide) (by decide), F2.1 193 (by decide) (by decide)]; exact hPt
            have hB2 : ∀ i : Nat, i ≤ (ptl f p.toNat).length → N2 207 (i : Int) = A i := fun i hi => by
              show ust N1 207 0 (A 0) 207 (i : Int) = A i
              rw [ust_at]
              by_cases e : i = 0
              · rw [if_pos (by omega), e]
              · rw [if_neg (by omega), hB i (by omega), if_neg w2]
            have key : ∀ Q' : Post, (∀ N3, FM [208, 209, 210, 211, 212, 213, 214, 215, 216] [32] N2 N3 → Q' (some (0, wid g (isum A (len + 1)) ((dg (amS ad z ng A len).1.1 : Int) - 1))) NN N3) → CL 222 [(2, 190), (9, 0), (9, 0), (9, 0), (9, 0), (9, 0), (9, 0), (9, 0), (9, 0)] NN N2 Q' := fun Q' hQ' => by
              refine m_widthOf (B := A) hp G2 hcv (hG q0) P2 hB2 (by have := hAr.1; omega) hAr.2 (fun N3 F3 => ?_)
              have := hQ' N3 F3
              rw [hlen]; exact this
            have v2 := G1.2.2.1
            refine WP.run [] [] 60 ?_
            simp only [bk224_0, bk224_12, bk224_15, bk224_22, bk224_25, bk224_29, bk224_37, bk224_47, bk224_57, bk224_63, bk224_79, bk224_84, bk224_86, bk224_98, bk224_109, bk224_110, U_iload_n, U_i2l, U_lconst, U_ldc2_w, U_invokestatic3, U_if_ne, U_bipush, U_ireturn, U_aload_n, U_invokevirtual0, U_iconst, U_istore_n, U_getfield, U_icmp_ge, U_icmp_ne, U_iald, U_ineg, U_goto, U_iast, U_iadd, U_iinc, U_dup2, U_imul, U_isub, UN_cc, UN_cn, UN_nc, UN_nn, UJ, lget, lset, lset2, entL, wsm, wcat, Option.toList_some, Option.toList_none, List.cons_append, List.nil_append, List.mem_cons, List.not_mem_nil, Prod.mk.injEq, or_false, false_or, or_true, true_or, and_true, true_and, and_false, false_and, and_self, ne_eq, not_false_eq_true, not_true_eq_false, forall_const, true_implies, false_implies, Nat.add_zero, Nat.zero_add, Nat.le_refl, Nat.zero_le, List.set_cons_zero, List.set_cons_succ, List.set_nil, ↓reduceIte, Nat.reduceAdd, Nat.reduceSub, Nat.reduceEqDiff, Nat.reduceLeDiff, Int.reduceEq, Int.reduceNe, Int.reduceNeg, reduceCtorEq, kd190, kd207, ln207, z190_24 hz1, b0, v2]
            rw [Int.add_zero]
            repeat' (first | refine And.intro (by omega) ?_ | refine And.intro (rr (by omega)) ?_ | refine And.intro (r3 (by omega)) ?_ | refine And.intro (r6 (by omega)) ?_ | ((fail_if_success (show WP _ _ _ _ _ _ _ _)); (first | refine And.intro ?_ ?_ | intro _)))
            all_goals first | (exfalso; omega) | skip
            refine key _ (fun N3 F3 => ?_)
            simp only [bk224_0, bk224_12, bk224_15, bk224_22, bk224_25, bk224_29, bk224_37, bk224_47, bk224_57, bk224_63, bk224_79, bk224_84, bk224_86, bk224_98, bk224_109, bk224_110, U_iload_n, U_i2l, U_lconst, U_ldc2_w, U_invokestatic3, U_if_ne, U_bipush, U_ireturn, U_aload_n, U_invokevirtual0, U_iconst, U_istore_n, U_getfield, U_icmp_ge, U_icmp_ne, U_iald, U_ineg, U_goto, U_iast, U_iadd, U_iinc, U_dup2, U_imul, U_isub, UN_cc, UN_cn, UN_nc, UN_nn, UJ, lget, lset, lset2, entL, wsm, wcat, Option.toList_some, Option.toList_none, List.cons_append, List.nil_append, List.mem_cons, List.not_mem_nil, Prod.mk.injEq, or_false, false_or, or_true, true_or, and_true, true_and, and_false, false_and, and_self, ne_eq, not_false_eq_true, not_true_eq_false, forall_const, true_implies, false_implies, Nat.add_zero, Nat.zero_add, Nat.le_refl, Nat.zero_le, List.set_cons_zero, List.set_cons_succ, List.set_nil, ↓reduceIte, Nat.reduceAdd, Nat.reduceSub, Nat.reduceEqDiff, Nat.reduceLeDiff, Int.reduceEq, Int.reduceNe, Int.reduceNeg, reduceCtorEq]
            have FF : FM [207, 208, 209, 210, 211, 212, 213, 214, 215, 216] [32] N N3 := (F2.mo rfl rfl).tr (F3.mo rfl rfl)
            have G3 := G.fm FF (fzk rfl rfl) (by decide) (by decide) (by simp) (by simp) (by simp) (by simp)
            exact hQ N3 (h.sc (FF.mo rfl rfl) G3.rw) (FF.cl rfl)
      have key : ∀ (n k : Nat) (N1 : Mem), k + n = len + 1 → FM [207] [] N N1 → (∀ i : Nat, i < k → N1 207 (i : Int) = if w = 2 then -A i else A i) → WP 224 (0, 0) 29 [(2, 190), (0, w), (0, isum A k), (0, (k : Int))] [] NN N1 Q := by
        intro n
        induction n with
        | zero =>
          intro k N1 hk F1 hB
          obtain rfl : k = len + 1 := by omega
          have G1 := G.fm F1 (fzk rfl rfl) (by decide) (by decide) (by simp) (by simp) (by simp) (by simp)
          have c5 := G1.2.2.2
          rw [hlen] at c5
          have nx := fin N1 F1 hB (0, ((len + 1 : Nat) : Int))
          refine WP.run [(224, 29), (224, 79)] [] 60 ?_
          simp only [bk224_0, bk224_12, bk224_15, bk224_22, bk224_25, bk224_29, bk224_37, bk224_47, bk224_57, bk224_63, bk224_79, bk224_84, bk224_86, bk224_98, bk224_109, bk224_110, U_iload_n, U_i2l, U_lconst, U_ldc2_w, U_invokestatic3, U_if_ne, U_bipush, U_ireturn, U_aload_n, U_invokevirtual0, U_iconst, U_istore_n, U_getfield, U_icmp_ge, U_icmp_ne, U_iald, U_ineg, U_goto, U_iast, U_iadd, U_iinc, U_dup2, U_imul, U_isub, UN_cc, UN_cn, UN_nc, UN_nn, UJ, lget, lset, lset2, entL, wsm, wcat, Option.toList_some, Option.toList_none, List.cons_append, List.nil_append, List.mem_cons, List.not_mem_nil, Prod.mk.injEq, or_false, false_or, or_true, true_or, and_true, true_and, and_false, false_and, and_self, ne_eq, not_false_eq_true, not_true_eq_false, forall_const, true_implies, false_implies, Nat.add_zero, Nat.zero_add, Nat.le_refl, Nat.zero_le, List.set_cons_zero, List.set_cons_succ, List.set_nil, ↓reduceIte, Nat.reduceAdd, Nat.reduceSub, Nat.reduceEqDiff, Nat.reduceLeDiff, Int.reduceEq, Int.reduceNe, Int.reduceNeg, reduceCtorEq, kd190, c5]
          repeat' (first | refine And.intro (by omega) ?_ | refine And.intro (rr (by omega)) ?_ | refine And.intro (r3 (by omega)) ?_ | refine And.intro (r6 (by omega)) ?_ | ((fail_if_success (show WP _ _ _ _ _ _ _ _)); (first | refine And.intro ?_ ?_ | intro _)))
          all_goals first | (exfalso; omega) | exact nx
        | succ n ih =>
          intro k N1 hk F1 hB
          have G1 := G.fm F1 (fzk rfl rfl) (by decide) (by decide) (by simp) (by simp) (by simp) (by simp)
          have hz1 := G1.mt.1
          have c5 := G1.2.2.2
          rw [hlen] at c5
          have v := hAm k (by omega)
          rw [← F1.1 194 (by decide) (by decide)] at v
          have rk : -30 ≤ A k ∧ A k ≤ 30 := by
            by_cases e : k = 0
            · rw [e]; exact hAr.1
            · have := hAr.2 k e; omega
          have sk := sA k (by omega)
          have nx : ∀ x : Int, x = (if w = 2 then -A k else A k) → WP 224 (0, 0) 29 [(2, 190), (0, w), (0, isum A k + A k), (0, ((k + 1 : Nat) : Int))] [] NN (ust N1 207 (k : Int) x) Q := fun x hx => by
            refine ih (k + 1) _ (by omega) (F1.us _ _ (by simp) (by decide)) (fun i hi => ?_)
            rw [ust_at]
            by_cases e : i = k
            · rw [if_pos (by omega), hx, e]
            · rw [if_neg (by omega)]; exact hB i (by omega)
          by_cases w2 : w = 2
          · rw [if_pos w2] at nx
            refine WP.run [(224, 29), (224, 79)] [] 60 ?_
            simp only [bk224_0, bk224_12, bk224_15, bk224_22, bk224_25, bk224_29, bk224_37, bk224_47, bk224_57, bk224_63, bk224_79, bk224_84, bk224_86, bk224_98, bk224_109, bk224_110, U_iload_n, U_i2l, U_lconst, U_ldc2_w, U_invokestatic3, U_if_ne, U_bipush, U_ireturn, U_aload_n, U_invokevirtual0, U_iconst, U_istore_n, U_getfield, U_icmp_ge, U_icmp_ne, U_iald, U_ineg, U_goto, U_iast, U_iadd, U_iinc, U_dup2, U_imul, U_isub, UN_cc, UN_cn, UN_nc, UN_nn, UJ, lget, lset, lset2, entL, wsm, wcat, Option.toList_some, Option.toList_none, List.cons_append, List.nil_append, List.mem_cons, List.not_mem_nil, Prod.mk.injEq, or_false, false_or, or_true, true_or, and_true, true_and, and_false, false_and, and_self, ne_eq, not_false_eq_true, not_true_eq_false, forall_const, true_implies, false_implies, Nat.add_zero, Nat.zero_add, Nat.le_refl, Nat.zero_le, List.set_cons_zero, List.set_cons_succ, List.set_nil, ↓reduceIte, Nat.reduceAdd, Nat.reduceSub, Nat.reduceEqDiff, Nat.reduceLeDiff, Int.reduceEq, Int.reduceNe, Int.reduceNeg, reduceCtorEq, kd190, kd194, kd207, ln194, ln207, ust_r, z190_8 hz1, z190_24 hz1, c5, v]
            repeat' (first | refine And.intro (by omega) ?_ | refine And.intro (rr (by omega)) ?_ | refine And.intro (r3 (by omega)) ?_ | refine And.intro (r6 (by omega)) ?_ | ((fail_if_success (show WP _ _ _ _ _ _ _ _)); (first | refine And.intro ?_ ?_ | intro _)))
            all_goals first | (exfalso; omega) | exact nx _ rfl
          · rw [if_neg w2] at nx
            refine WP.run [(224, 29), (224, 79)] [] 60 ?_
            simp only [bk224_0, bk224_12, bk224_15, bk224_22, bk224_25, bk224_29, bk224_37, bk224_47, bk224_57, bk224_63, bk224_79, bk224_84, bk224_86, bk224_98, bk224_109, bk224_110, U_iload_n, U_i2l, U_lconst, U_ldc2_w, U_invokestatic3, U_if_ne, U_bipush, U_ireturn, U_aload_n, U_invokevirtual0, U_iconst, U_istore_n, U_getfield, U_icmp_ge, U_icmp_ne, U_iald, U_ineg, U_goto, U_iast, U_iadd, U_iinc, U_dup2, U_imul, U_isub, UN_cc, UN_cn, UN_nc, UN_nn, UJ, lget, lset, lset2, entL, wsm, wcat, Option.toList_some, Option.toList_none, List.cons_append, List.nil_append, List.mem_cons, List.not_mem_nil, Prod.mk.injEq, or_false, false_or, or_true, true_or, and_true, true_and, and_false, false_and, and_self, ne_eq, not_false_eq_true, not_true_eq_false, forall_const, true_implies, false_implies, Nat.add_zero, Nat.zero_add, Nat.le_refl, Nat.zero_le, List.set_cons_zero, List.set_cons_succ, List.set_nil, ↓reduceIte, Nat.reduceAdd, Nat.reduceSub, Nat.reduceEqDiff, Nat.reduceLeDiff, Int.reduceEq, Int.reduceNe, Int.reduceNeg, reduceCtorEq, kd190, kd194, kd207, ln194, ln207, ust_r, z190_8 hz1, z190_24 hz1, c5, v]
            repeat' (first | refine And.intro (by omega) ?_ | refine And.intro (rr (by omega)) ?_ | refine And.intro (r3 (by omega)) ?_ | refine And.intro (r6 (by omega)) ?_ | ((fail_if_success (show WP _ _ _ _ _ _ _ _)); (first | refine And.intro ?_ ?_ | intro _)))
            all_goals first | (exfalso; omega) | exact nx _ rfl
      have nx := key (len + 1) 0 N (by omega) (FM.rf _ _ _) (fun i hi => absurd hi (Nat.not_lt_zero i))
      simp only [bk224_0, bk224_12, bk224_15, bk224_22, bk224_25, bk224_29, bk224_37, bk224_47, bk224_57, bk224_63, bk224_79, bk224_84, bk224_86, bk224_98, bk224_109, bk224_110, U_iload_n, U_i2l, U_lconst, U_ldc2_w, U_invokestatic3, U_if_ne, U_bipush, U_ireturn, U_aload_n, U_invokevirtual0, U_iconst, U_istore_n, U_getfield, U_icmp_ge, U_icmp_ne, U_iald, U_ineg, U_goto, U_iast, U_iadd, U_iinc, U_dup2, U_imul, U_isub, UN_cc, UN_cn, UN_nc, UN_nn, UJ, lget, lset, lset2, entL, wsm, wcat, Option.toList_some, Option.toList_none, List.cons_append, List.nil_append, List.mem_cons, List.not_mem_nil, Prod.mk.injEq, or_false, false_or, or_true, true_or, and_true, true_and, and_false, false_and, and_self, ne_eq, not_false_eq_true, not_true_eq_false, forall_const, true_implies, false_implies, Nat.add_zero, Nat.zero_add, Nat.le_refl, Nat.zero_le, List.set_cons_zero, List.set_cons_succ, List.set_nil, ↓reduceIte, Nat.reduceAdd, Nat.reduceSub, Nat.reduceEqDiff, Nat.reduceLeDiff, Int.reduceEq, Int.reduceNe, Int.reduceNeg, reduceCtorEq]
      repeat' (first | refine And.intro (by omega) ?_ | refine And.intro (rr (by omega)) ?_ | refine And.intro (r3 (by omega)) ?_ | refine And.intro (r6 (by omega)) ?_ | ((fail_if_success (show WP _ _ _ _ _ _ _ _)); (first | refine And.intro ?_ ?_ | intro _)))
      all_goals first | (exfalso; omega) | exact nx
  · rw [if_neg q1]
    simp only [bk224_0, bk224_12, bk224_15, bk224_22, bk224_25, bk224_29, bk224_37, bk224_47, bk224_57, bk224_63, bk224_79, bk224_84, bk224_86, bk224_98, bk224_109, bk224_110, U_iload_n, U_i2l, U_lconst, U_ldc2_w, U_invokestatic3, U_if_ne, U_bipush, U_ireturn, U_aload_n, U_invokevirtual0, U_iconst, U_istore_n, U_getfield, U_icmp_ge, U_icmp_ne, U_iald, U_ineg, U_goto, U_iast, U_iadd, U_iinc, U_dup2, U_imul, U_isub, UN_cc, UN_cn, UN_nc, UN_nn, UJ, lget, lset, lset2, entL, wsm, wcat, Option.toList_some, Option.toList_none, List.cons_append, List.nil_append, List.mem_cons, List.not_mem_nil, Prod.mk.injEq, or_false, false_or, or_true, true_or, and_true, true_and, and_false, false_and, and_self, ne_eq, not_false_eq_true, not_true_eq_false, forall_const, true_implies, false_implies, Nat.add_zero, Nat.zero_add, Nat.le_refl, Nat.zero_le, List.set_cons_zero, List.set_cons_succ, List.set_nil, ↓reduceIte, Nat.reduceAdd, Nat.reduceSub, Nat.reduceEqDiff, Nat.reduceLeDiff, Int.reduceEq, Int.reduceNe, Int.reduceNeg, reduceCtorEq]
    exact ⟨r3 (by omega), bad q1⟩
