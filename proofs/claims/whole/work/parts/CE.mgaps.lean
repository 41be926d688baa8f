/-! THE MODEL'S CALLS: gaps -/
theorem bor_tab : ((List.range 4).all (fun n => (List.range 16).all (fun x => decide (bor (x : Int) 0 = (x : Int)) && (decide (2 ^ n ≤ x) || (decide (0 ≤ bor (x : Int) (2 ^ n)) && decide (bor (x : Int) (2 ^ n) < 2 ^ (n + 1))))))) = true := by decide +kernel
theorem bor_0 {x : Int} (h : 0 ≤ x ∧ x < 16) : bor x 0 = x := by
  have := List.all_eq_true.mp (List.all_eq_true.mp bor_tab 0 (by simp)) x.toNat (List.mem_range.mpr (by omega))
  rw [Bool.and_eq_true, decide_eq_true_eq, Int.toNat_of_nonneg h.1] at this
  exact this.1
theorem gapB_rg (w : Nat → Int) : ∀ n, n ≤ 4 → 0 ≤ gapB w n ∧ gapB w n < 2 ^ n
  | 0, _ => by show (0 : Int) ≤ 0 ∧ (0 : Int) < 2 ^ 0; exact ⟨Int.le_refl _, by decide⟩
  | n + 1, h => by
    have ih := gapB_rg w n (by omega)
    have h16 : (2 : Int) ^ n ≤ 8 := by
      have : n = 0 ∨ n = 1 ∨ n = 2 ∨ n = 3 := by omega
      rcases this with rfl | rfl | rfl | rfl <;> decide
    have e2 : (2 : Int) ^ (n + 1) = 2 ^ n * 2 := rfl
    show 0 ≤ (if w (n + 1) = w n then bor (gapB w n) (2 ^ n) else gapB w n) ∧ (if w (n + 1) = w n then bor (gapB w n) (2 ^ n) else gapB w n) < 2 ^ (n + 1)
    split
    · have t := List.all_eq_true.mp (List.all_eq_true.mp bor_tab n (List.mem_range.mpr (by omega))) (gapB w n).toNat (List.mem_range.mpr (by omega))
      rw [Bool.and_eq_true, Bool.or_eq_true, Bool.and_eq_true, decide_eq_true_eq, decide_eq_true_eq, decide_eq_true_eq, decide_eq_true_eq, Int.toNat_of_nonneg ih.1] at t
      refine t.2.resolve_left (fun q => ?_)
      have : ((2 ^ n : Nat) : Int) = (2 : Int) ^ n := by rw [Int.natCast_pow]; rfl
      omega
    · omega
theorem amS_one {p : Int} {f : Pz p} {g : Nat} {ad : Gq f g → Gq f g → Gq f g} {z : Gq f g} {ng : Gq f g → Gq f g} (A : Grp _ ad z ng) (pt n : Nat) : ∀ m, m ≤ (ptl f p.toNat).length → amS ad z ng (fun i => if i = pt then (n : Int) else 0) m = if pt ≤ m then nsm ad z n (ptI z pt) else z
  | 0, _ => by
    show z = _
    by_cases e : pt ≤ 0
    · obtain rfl : pt = 0 := by omega
      rw [if_pos e]
      exact (nsm_z A n).symm
    · rw [if_neg e]
  | m + 1, h => by
    have ih := amS_one A pt n m (by omega)
    have hq : (ptl f p.toNat)[m]? = some ((ptl f p.toNat)[m]'(by omega)) := List.getElem?_eq_getElem (by omega)
    rw [amS_s A _ m hq, ih]
    by_cases e : m + 1 = pt
    · rw [if_neg (by omega), if_pos e, if_pos (by omega), A.2.2.1]
      unfold zsm
      rw [if_neg (by omega), Int.natAbs_natCast]
      congr 1
      rw [← e]
      show _ = (match (ptl f p.toNat)[m]? with
        | none => z
        | some q => ptG z q)
      rw [hq]
    · rw [if_neg e]
      have : zsm ad z ng 0 (ptG z ((ptl f p.toNat)[m]'(by omega))) = z := rfl
      rw [this, A.az]
      by_cases e2 : pt ≤ m
      · rw [if_pos e2, if_pos (by omega)]
      · rw [if_neg e2, if_neg (by omega)]
theorem isum_at (pt : Nat) (n : Int) : ∀ m, isum (fun i => if i = pt then n else 0) m = if pt < m then n else 0
  | 0 => by rw [if_neg (by omega)]; rfl
  | m + 1 => by
    show isum (fun i => if i = pt then n else 0) m + (if m = pt then n else 0) = _
    rw [isum_at pt n m]
    by_cases e : m = pt
    · rw [if_neg (by omega), if_pos e, if_pos (by omega)]; omega
    · by_cases e2 : pt < m
      · rw [if_pos e2, if_neg e, if_pos (by omega)]; omega
      · rw [if_neg e2, if_neg e, if_neg (by omega)]; rfl
set_option maxHeartbeats 32000000 in
theorem q_gaps {p : Int} {g : Nat} {f : Pz p} {pu : List Int} {rg : Nat → Pz p × Pz p} {A tl : Nat → Int} {E : Nat → Nat} {N : Mem} {Q : Post} {ad : Gq f g → Gq f g → Gq f g} {z : Gq f g} {ng : Gq f g → Gq f g} {pt : Int} (h : MS g f pu rg A tl E N) (V : VS g f pu rg A tl E) (hG : g ≠ 0 → GG f g ad z ng) (hpt : R32 pt) (hQ : ∀ N', MS g f pu rg A tl E N' → clF N N' → Q (some (0, oGaps ad z pt)) NN N') : CL 225 [(2, 190), (0, pt), (9, 0), (9, 0), (9, 0), (9, 0)] NN N Q := by
  have hp := V.1
  have hpp := hp.pos
  have h26 := ptl_26 hp f
  have hn := nPt_le V.1 g f
  have bad : ¬ (0 ≤ pt ∧ pt < nPt g f) → Q (some (0, -2)) NN N := fun e => by
    have := hQ N h (clF.rf N)
    unfold oGaps at this
    rw [if_pos e] at this; exact this
  refine WP.run [(225, 38)] [] 60 ?_
  simp only [bk225_0, bk225_12, bk225_15, bk225_22, bk225_25, bk225_33, bk225_36, bk225_38, bk225_46, bk225_59, bk225_69, bk225_80, bk225_101, bk225_110, bk225_111, bk225_122, U_iload_n, U_i2l, U_lconst, U_ldc2_w, U_invokestatic3, U_if_ne, U_bipush, U_ireturn, U_aload_n, U_invokevirtual0, U_invokevirtual1, U_iconst, U_istore_n, U_getfield, U_icmp_ge, U_iast, U_iinc, U_goto, U_istore, U_iload, U_imul, U_icmp_gt, U_icmp_ne, U_isub, U_ishl, U_ior, UN_cc, UN_cn, UN_nc, UN_nn, UJ, lget, lset, lset2, entL, wsm, wcat, Option.toList_some, Option.toList_none, List.cons_append, List.nil_append, List.mem_cons, List.not_mem_nil, Prod.mk.injEq, or_false, false_or, or_true, true_or, and_true, true_and, and_false, false_and, and_self, ne_eq, not_false_eq_true, not_true_eq_false, forall_const, true_implies, false_implies, Nat.add_zero, Nat.zero_add, Nat.le_refl, Nat.zero_le, List.set_cons_zero, List.set_cons_succ, List.set_nil, ↓reduceIte, Nat.reduceAdd, Nat.reduceSub, Nat.reduceEqDiff, Nat.reduceLeDiff, Int.reduceEq, Int.reduceNe, Int.reduceNeg, reduceCtorEq]
  refine ⟨hpt, m_in hpt.l (r64 (by omega)) (r64 (by omega)) ?_⟩
  by_cases q1 : 0 ≤ pt ∧ pt ≤ 26
  · rw [if_pos q1]
    simp only [bk225_0, bk225_12, bk225_15, bk225_22, bk225_25, bk225_33, bk225_36, bk225_38, bk225_46, bk225_59, bk225_69, bk225_80, bk225_101, bk225_110, bk225_111, bk225_122, U_iload_n, U_i2l, U_lconst, U_ldc2_w, U_invokestatic3, U_if_ne, U_bipush, U_ireturn, U_aload_n, U_invokevirtual0, U_invokevirtual1, U_iconst, U_istore_n, U_getfield, U_icmp_ge, U_iast, U_iinc, U_goto, U_istore, U_iload, U_imul, U_icmp_gt, U_icmp_ne, U_isub, U_ishl, U_ior, UN_cc, UN_cn, UN_nc, UN_nn, UJ, lget, lset, lset2, entL, wsm, wcat, Option.toList_some, Option.toList_none, List.cons_append, List.nil_append, List.mem_cons, List.not_mem_nil, Prod.mk.injEq, or_false, false_or, or_true, true_or, and_true, true_and, and_false, false_and, and_self, ne_eq, not_false_eq_true, not_true_eq_false, forall_const, true_implies, false_implies, Nat.add_zero, Nat.zero_add, Nat.le_refl, Nat.zero_le, List.set_cons_zero, List.set_cons_succ, List.set_nil, ↓reduceIte, Nat.reduceAdd, Nat.reduceSub, Nat.reduceEqDiff, Nat.reduceLeDiff, Int.reduceEq, Int.reduceNe, Int.reduceNeg, reduceCtorEq, kd190]
    refine ⟨r3 (by omega), m_std h V ?_⟩
    by_cases q0 : g = 0
    · rw [if_pos q0]
      have e27 : nPt g f = 27 := by unfold nPt; rw [if_pos q0]
      have := hQ N h (clF.rf N)
      unfold oGaps at this
      rw [if_neg (by omega), if_pos q0] at this
      simp only [bk225_0, bk225_12, bk225_15, bk225_22, bk225_25, bk225_33, bk225_36, bk225_38, bk225_46, bk225_59, bk225_69, bk225_80, bk225_101, bk225_110, bk225_111, bk225_122, U_iload_n, U_i2l, U_lconst, U_ldc2_w, U_invokestatic3, U_if_ne, U_bipush, U_ireturn, U_aload_n, U_invokevirtual0, U_invokevirtual1, U_iconst, U_istore_n, U_getfield, U_icmp_ge, U_iast, U_iinc, U_goto, U_istore, U_iload, U_imul, U_icmp_gt, U_icmp_ne, U_isub, U_ishl, U_ior, UN_cc, UN_cn, UN_nc, UN_nn, UJ, lget, lset, lset2, entL, wsm, wcat, Option.toList_some, Option.toList_none, List.cons_append, List.nil_append, List.mem_cons, List.not_mem_nil, Prod.mk.injEq, or_false, false_or, or_true, true_or, and_true, true_and, and_false, false_and, and_self, ne_eq, not_false_eq_true, not_true_eq_false, forall_const, true_implies, false_implies, Nat.add_zero, Nat.zero_add, Nat.le_refl, Nat.zero_le, List.set_cons_zero, List.set_cons_succ, List.set_nil, ↓reduceIte, Nat.reduceAdd, Nat.reduceSub, Nat.reduceEqDiff, Nat.reduceLeDiff, Int.reduceEq, Int.reduceNe, Int.reduceNeg, reduceCtorEq]
      exact ⟨r3 (by omega), this⟩
    · rw [if_neg q0]
      obtain ⟨G, hPt⟩ := h.mg q0
      have en : nPt g f = (ptl f p.toNat).length + 1 := by unfold nPt; rw [if_neg q0]
      simp only [bk225_0, bk225_12, bk225_15, bk225_22, bk225_25, bk225_33, bk225_36, bk225_38, bk225_46, bk225_59, bk225_69, bk225_80, bk225_101, bk225_110, bk225_111, bk225_122, U_iload_n, U_i2l, U_lconst, U_ldc2_w, U_invokestatic3, U_if_ne, U_bipush, U_ireturn, U_aload_n, U_invokevirtual0, U_invokevirtual1, U_iconst, U_istore_n, U_getfield, U_icmp_ge, U_iast, U_iinc, U_goto, U_istore, U_iload, U_imul, U_icmp_gt, U_icmp_ne, U_isub, U_ishl, U_ior, UN_cc, UN_cn, UN_nc, UN_nn, UJ, lget, lset, lset2, entL, wsm, wcat, Option.toList_some, Option.toList_none, List.cons_append, List.nil_append, List.mem_cons, List.not_mem_nil, Prod.mk.injEq, or_false, false_or, or_true, true_or, and_true, true_and, and_false, false_and, and_self, ne_eq, not_false_eq_true, not_true_eq_false, forall_const, true_implies, false_implies, Nat.add_zero, Nat.zero_add, Nat.le_refl, Nat.zero_le, List.set_cons_zero, List.set_cons_succ, List.set_nil, ↓reduceIte, Nat.reduceAdd, Nat.reduceSub, Nat.reduceEqDiff, Nat.reduceLeDiff, Int.reduceEq, Int.reduceNe, Int.reduceNeg, reduceCtorEq, kd190]
      refine ⟨r3 (by omega), m_isPt (m := nPt g f) hpt (by rw [G.2.2.2, en]; rfl) (by omega) ?_⟩
      by_cases q3 : 0 ≤ pt ∧ pt < nPt g f
      · rw [if_pos q3]
        unfold oGaps at hQ
        rw [if_neg (by omega), if_neg q0] at hQ
        obtain ⟨hfit, hgd, hcv, hrg, hA0⟩ := V.cv q0
        have hg := hcv.1
        obtain ⟨t, rfl⟩ : ∃ t : Nat, pt = t := ⟨pt.toNat, by omega⟩
        rw [Int.toNat_natCast] at hQ
        generalize hlen : (ptl f p.toNat).length = len at *
        let Wf : Nat → Int := fun n => wid g n ((dg (nsm ad z n (ptI z t)).1.1 : Int) - 1)
        have hQ2 : ∀ N', MS g f pu rg A tl E N' → clF N N' → Q (some (0, gapB Wf (2 * g))) NN N' := hQ
        have wrg : ∀ n : Nat, n ≤ 4 → -100 ≤ Wf n ∧ Wf n ≤ 100 := fun n hn => by
          have : dg (nsm ad z n (ptI z t)).1.1 ≤ g + 1 := (nsm ad z n (ptI z t)).2.2.1
          show -100 ≤ wid g n ((dg (nsm ad z n (ptI z t)).1.1 : Int) - 1) ∧ wid g n ((dg (nsm ad z n (ptI z t)).1.1 : Int) - 1) ≤ 100
          unfold wid evn
          split <;> split <;> omega
        have key : ∀ (m : Nat) (N1 : Mem) (Q' : Post), m ≤ 4 → FM [207, 208, 209, 210, 211, 212, 213, 214, 215, 216] [32] N N1 → (∀ i : Nat, i ≤ len → N1 207 (i : Int) = if i = t then (m : Int) else 0) → (∀ N2, FM [207, 208, 209, 210, 211, 212, 213, 214, 215, 216] [32] N N2 → (∀ i : Nat, i ≤ len → N2 207 (i : Int) = if i = t then (m : Int) else 0) → Q' (some (0, Wf m)) NN N2) → CL 222 [(2, 190), (9, 0), (9, 0), (9, 0), (9, 0), (9, 0), (9, 0), (9, 0), (9, 0)] NN N1 Q' := fun m N1 Q' hm F1 hB hQ' => by
          have G1 := G.fm F1 (fzk rfl rfl) (by decide) (by decide) (by simp) (by simp) (by simp) (by simp)
          have P1 : PtA N1 192 193 (ptl f p.toNat) := by unfold PtA; rw [F1.1 192 (by decide) (by decide), F1.1 193 (by decide) (by decide)]; exact hPt
          refine m_widthOf (B := fun i => if i = t then (m : Int) else 0) hp G1 hcv (hG q0) P1 (fun i hi => hB i (by omega)) (by show -40 ≤ (if 0 = t then (m : Int) else 0) ∧ (if 0 = t then (m : Int) else 0) ≤ 40; split <;> omega) (fun i _ => by show -4 ≤ (if i = t then (m : Int) else 0) ∧ (if i = t then (m : Int) else 0) ≤ 4; split <;> omega) (fun N2 F2 => ?_)
          rw [amS_one (hG q0).1 t m _ (Nat.le_refl _), if_pos (by omega), isum_at, if_pos (by omega)]
          exact hQ' N2 (F1.tr (F2.mo rfl rfl)) (fun i hi => by rw [F2.1 207 (by decide) (by decide)]; exact hB i hi)
        have k69 : ∀ (n m : Nat) (a : Nat × Int) (N1 : Mem), m + n = 2 * g → FM [207, 208, 209, 210, 211, 212, 213, 214, 215, 216] [32] N N1 → (∀ i : Nat, i ≤ len → N1 207 (i : Int) = if i = t then (m : Int) else 0) → WP 225 (0, 0) 69 [(2, 190), (0, (t : Int)), (0, Wf m), (0, gapB Wf m), (0, (m : Int) + 1), a] [] NN N1 Q := by
          intro n
          induction n with
          | zero =>
            intro m a N1 hm F1 hB
            obtain rfl : m = 2 * g := by omega
            have G1 := G.fm F1 (fzk rfl rfl) (by decide) (by decide) (by simp) (by simp) (by simp) (by simp)
            have nx := hQ2 N1 (h.sc (F1.mo rfl rfl) G1.rw) (F1.cl rfl)
            refine WP.run [(225, 69)] [] 60 ?_
            simp only [bk225_0, bk225_12, bk225_15, bk225_22, bk225_25, bk225_33, bk225_36, bk225_38, bk225_46, bk225_59, bk225_69, bk225_80, bk225_101, bk225_110, bk225_111, bk225_122, U_iload_n, U_i2l, U_lconst, U_ldc2_w, U_invokestatic3, U_if_ne, U_bipush, U_ireturn, U_aload_n, U_invokevirtual0, U_invokevirtual1, U_iconst, U_istore_n, U_getfield, U_icmp_ge, U_iast, U_iinc, U_goto, U_istore, U_iload, U_imul, U_icmp_gt, U_icmp_ne, U_isub, U_ishl, U_ior, UN_cc, UN_cn, UN_nc, UN_nn, UJ, lget, lset, lset2, entL, wsm, wcat, Option.toList_some, Option.toList_none, List.cons_append, List.nil_append, List.mem_cons, List.not_mem_nil, Prod.mk.injEq, or_false, false_or, or_true, true_or, and_true, true_and, and_false, false_and, and_self, ne_eq, not_false_eq_true, not_true_eq_false, forall_const, true_implies, false_implies, Nat.add_zero, Nat.zero_add, Nat.le_refl, Nat.zero_le, List.set_cons_zero, List.set_cons_succ, List.set_nil, ↓reduceIte, Nat.reduceAdd, Nat.reduceSub, Nat.reduceEqDiff, Nat.reduceLeDiff, Int.reduceEq, Int.reduceNe, Int.reduceNeg, reduceCtorEq, kd190, G1.2.2.1]
            repeat' (first | refine And.intro (by omega) ?_ | refine And.intro (rr (by omega)) ?_ | refine And.intro (r3 (by omega)) ?_ | refine And.intro (r6 (by omega)) ?_ | ((fail_if_success (show WP _ _ _ _ _ _ _ _)); (first | refine And.intro ?_ ?_ | intro _)))
            all_goals first | (exfalso; omega) | exact nx
          | succ n ih =>
            intro m a N1 hm F1 hB
            have G1 := G.fm F1 (fzk rfl rfl) (by decide) (by decide) (by simp) (by simp) (by simp) (by simp)
            have hz1 := G1.mt.1
            have e1 : (m : Int) + 1 = ((m + 1 : Nat) : Int) := by omega
            refine WP.run [(225, 69)] [] 60 ?_
            simp only [bk225_0, bk225_12, bk225_15, bk225_22, bk225_25, bk225_33, bk225_36, bk225_38, bk225_46, bk225_59, bk225_69, bk225_80, bk225_101, bk225_110, bk225_111, bk225_122, U_iload_n, U_i2l, U_lconst, U_ldc2_w, U_invokestatic3, U_if_ne, U_bipush, U_ireturn, U_aload_n, U_invokevirtual0, U_invokevirtual1, U_iconst, U_istore_n, U_getfield, U_icmp_ge, U_iast, U_iinc, U_goto, U_istore, U_iload, U_imul, U_icmp_gt, U_icmp_ne, U_isub, U_ishl, U_ior, UN_cc, UN_cn, UN_nc, UN_nn, UJ, lget, lset, lset2, entL, wsm, wcat, Option.toList_some, Option.toList_none, List.cons_append, List.nil_append, List.mem_cons, List.not_mem_nil, Prod.mk.injEq, or_false, false_or, or_true, true_or, and_true, true_and, and_false, false_and, and_self, ne_eq, not_false_eq_true, not_true_eq_false, forall_const, true_implies, false_implies, Nat.add_zero, Nat.zero_add, Nat.le_refl, Nat.zero_le, List.set_cons_zero, List.set_cons_succ, List.set_nil, ↓reduceIte, Nat.reduceAdd, Nat.reduceSub, Nat.reduceEqDiff, Nat.reduceLeDiff, Int.reduceEq, Int.reduceNe, Int.reduceNeg, reduceCtorEq, kd190, kd207, ln207, z190_24 hz1, G1.2.2.1]
            repeat' (first | refine And.intro (by omega) ?_ | refine And.intro (rr (by omega)) ?_ | refine And.intro (r3 (by omega)) ?_ | refine And.intro (r6 (by omega)) ?_ | ((fail_if_success (show WP _ _ _ _ _ _ _ _)); (first | refine And.intro ?_ ?_ | intro _)))
            all_goals first | (exfalso; omega) | skip
            refine key (m + 1) _ _ (by omega) (F1.us _ _ (by simp) (by decide)) (fun i hi => ?_) (fun N2 F2 hB2 => ?_)
            · rw [ust_at]
              by_cases e : i = t
              · rw [if_pos (by omega), if_pos e]; omega
              · rw [if_neg (by omega), if_neg e, hB i hi, if_neg e]
            · have w1 := wrg m (by omega)
              have w2 := wrg (m + 1) (by omega)
              have gr := gapB_rg Wf m (by omega)
              have h16 : (2 : Int) ^ m ≤ 8 := by
                have : m = 0 ∨ m = 1 ∨ m = 2 ∨ m = 3 := by omega
                rcases this with rfl | rfl | rfl | rfl <;> decide
              have es : gapB Wf (m + 1) = if Wf (m + 1) = Wf m then bor (gapB Wf m) (2 ^ m) else gapB Wf m := rfl
              have hpow : ((m : Int) + 1 - 1).toNat = m := by omega
              have b0 := bor_0 (x := gapB Wf m) (by omega)
              have nx : ∀ v, v = gapB Wf (m + 1) → WP 225 (0, 0) 69 [(2, 190), (0, (t : Int)), (0, Wf (m + 1)), (0, v), (0, (m : Int) + 1 + 1), (0, Wf (m + 1))] [] NN N2 Q := fun v hv => by
                have := ih (m + 1) (0, Wf (m + 1)) N2 (by omega) F2 hB2
                rw [← e1] at this
                rw [hv]; exact this
              by_cases c : Wf (m + 1) = Wf m
              · rw [if_pos c] at es
                simp only [bk225_0, bk225_12, bk225_15, bk225_22, bk225_25, bk225_33, bk225_36, bk225_38, bk225_46, bk225_59, bk225_69, bk225_80, bk225_101, bk225_110, bk225_111, bk225_122, U_iload_n, U_i2l, U_lconst, U_ldc2_w, U_invokestatic3, U_if_ne, U_bipush, U_ireturn, U_aload_n, U_invokevirtual0, U_invokevirtual1, U_iconst, U_istore_n, U_getfield, U_icmp_ge, U_iast, U_iinc, U_goto, U_istore, U_iload, U_imul, U_icmp_gt, U_icmp_ne, U_isub, U_ishl, U_ior, UN_cc, UN_cn, UN_nc, UN_nn, UJ, lget, lset, lset2, entL, wsm, wcat, Option.toList_some, Option.toList_none, List.cons_append, List.nil_append, List.mem_cons, List.not_mem_nil, Prod.mk.injEq, or_false, false_or, or_true, true_or, and_true, true_and, and_false, false_and, and_self, ne_eq, not_false_eq_true, not_true_eq_false, forall_const, true_implies, false_implies, Nat.add_zero, Nat.zero_add, Nat.le_refl, Nat.zero_le, List.set_cons_zero, List.set_cons_succ, List.set_nil, ↓reduceIte, Nat.reduceAdd, Nat.reduceSub, Nat.reduceEqDiff, Nat.reduceLeDiff, Int.reduceEq, Int.reduceNe, Int.reduceNeg, reduceCtorEq, hpow]
                repeat' (first | refine And.intro (by omega) ?_ | refine And.intro (rr (by omega)) ?_ | refine And.intro (r3 (by omega)) ?_ | refine And.intro (r6 (by omega)) ?_ | ((fail_if_success (show WP _ _ _ _ _ _ _ _)); (first | refine And.intro ?_ ?_ | intro _)))
                all_goals first | (exfalso; omega) | exact nx _ es.symm
              · rw [if_neg c] at es
                simp only [bk225_0, bk225_12, bk225_15, bk225_22, bk225_25, bk225_33, bk225_36, bk225_38, bk225_46, bk225_59, bk225_69, bk225_80, bk225_101, bk225_110, bk225_111, bk225_122, U_iload_n, U_i2l, U_lconst, U_ldc2_w, U_invokestatic3, U_if_ne, U_bipush, U_ireturn, U_aload_n, U_invokevirtual0, U_invokevirtual1, U_iconst, U_istore_n, U_getfield, U_icmp_ge, U_iast, U_iinc, U_goto, U_istore, U_iload, U_imul, U_icmp_gt, U_icmp_ne, U_isub, U_ishl, U_ior, UN_cc, UN_cn, UN_nc, UN_nn, UJ, lget, lset, lset2, entL, wsm, wcat, Option.toList_some, Option.toList_none, List.cons_append, List.nil_append, List.mem_cons, List.not_mem_nil, Prod.mk.injEq, or_false, false_or, or_true, true_or, and_true, true_and, and_false, false_and, and_self, ne_eq, not_false_eq_true, not_true_eq_false, forall_const, true_implies, false_implies, Nat.add_zero, Nat.zero_add, Nat.le_refl, Nat.zero_le, List.set_cons_zero, List.set_cons_succ, List.set_nil, ↓reduceIte, Nat.reduceAdd, Nat.reduceSub, Nat.reduceEqDiff, Nat.reduceLeDiff, Int.reduceEq, Int.reduceNe, Int.reduceNeg, reduceCtorEq, hpow, b0]
                repeat' (first | refine And.intro (by omega) ?_ | refine And.intro (rr (by omega)) ?_ | refine And.intro (r3 (by omega)) ?_ | refine And.intro (r6 (by omega)) ?_ | ((fail_if_success (show WP _ _ _ _ _ _ _ _)); (first | refine And.intro ?_ ?_ | intro _)))
                all_goals first | (exfalso; omega) | exact nx _ es.symm
        have k38 : ∀ (n k : Nat) (a b c : Nat × Int) (N1 : Mem), k + n = len + 1 → FM [207] [] N N1 → (∀ i : Nat, i < k → N1 207 (i : Int) = 0) → WP 225 (0, 0) 38 [(2, 190), (0, (t : Int)), (0, (k : Int)), a, b, c] [] NN N1 Q := by
          intro n
          induction n with
          | zero =>
            intro k a b c N1 hk F1 hB
            obtain rfl : k = len + 1 := by omega
            have G1 := G.fm F1 (fzk rfl rfl) (by decide) (by decide) (by simp) (by simp) (by simp) (by simp)
            have c5 := G1.2.2.2
            rw [hlen] at c5
            refine WP.run [(225, 38), (225, 69)] [] 60 ?_
            simp only [bk225_0, bk225_12, bk225_15, bk225_22, bk225_25, bk225_33, bk225_36, bk225_38, bk225_46, bk225_59, bk225_69, bk225_80, bk225_101, bk225_110, bk225_111, bk225_122, U_iload_n, U_i2l, U_lconst, U_ldc2_w, U_invokestatic3, U_if_ne, U_bipush, U_ireturn, U_aload_n, U_invokevirtual0, U_invokevirtual1, U_iconst, U_istore_n, U_getfield, U_icmp_ge, U_iast, U_iinc, U_goto, U_istore, U_iload, U_imul, U_icmp_gt, U_icmp_ne, U_isub, U_ishl, U_ior, UN_cc, UN_cn, UN_nc, UN_nn, UJ, lget, lset, lset2, entL, wsm, wcat, Option.toList_some, Option.toList_none, List.cons_append, List.nil_append, List.mem_cons, List.not_mem_nil, Prod.mk.injEq, or_false, false_or, or_true, true_or, and_true, true_and, and_false, false_and, and_self, ne_eq, not_false_eq_true, not_true_eq_false, forall_const, true_implies, false_implies, Nat.add_zero, Nat.zero_add, Nat.le_refl, Nat.zero_le, List.set_cons_zero, List.set_cons_succ, List.set_nil, ↓reduceIte, Nat.reduceAdd, Nat.reduceSub, Nat.reduceEqDiff, Nat.reduceLeDiff, Int.reduceEq, Int.reduceNe, Int.reduceNeg, reduceCtorEq, kd190, c5]
            repeat' (first | refine And.intro (by omega) ?_ | refine And.intro (rr (by omega)) ?_ | refine And.intro (r3 (by omega)) ?_ | refine And.intro (r6 (by omega)) ?_ | ((fail_if_success (show WP _ _ _ _ _ _ _ _)); (first | refine And.intro ?_ ?_ | intro _)))
            all_goals first | (exfalso; omega) | skip
            refine key 0 N1 _ (by omega) (F1.mo rfl rfl) (fun i hi => by rw [hB i (by omega)]; split <;> rfl) (fun N2 F2 hB2 => ?_)
            have nx := k69 (2 * g) 0 c N2 (by omega) F2 hB2
            simp only [bk225_0, bk225_12, bk225_15, bk225_22, bk225_25, bk225_33, bk225_36, bk225_38, bk225_46, bk225_59, bk225_69, bk225_80, bk225_101, bk225_110, bk225_111, bk225_122, U_iload_n, U_i2l, U_lconst, U_ldc2_w, U_invokestatic3, U_if_ne, U_bipush, U_ireturn, U_aload_n, U_invokevirtual0, U_invokevirtual1, U_iconst, U_istore_n, U_getfield, U_icmp_ge, U_iast, U_iinc, U_goto, U_istore, U_iload, U_imul, U_icmp_gt, U_icmp_ne, U_isub, U_ishl, U_ior, UN_cc, UN_cn, UN_nc, UN_nn, UJ, lget, lset, lset2, entL, wsm, wcat, Option.toList_some, Option.toList_none, List.cons_append, List.nil_append, List.mem_cons, List.not_mem_nil, Prod.mk.injEq, or_false, false_or, or_true, true_or, and_true, true_and, and_false, false_and, and_self, ne_eq, not_false_eq_true, not_true_eq_false, forall_const, true_implies, false_implies, Nat.add_zero, Nat.zero_add, Nat.le_refl, Nat.zero_le, List.set_cons_zero, List.set_cons_succ, List.set_nil, ↓reduceIte, Nat.reduceAdd, Nat.reduceSub, Nat.reduceEqDiff, Nat.reduceLeDiff, Int.reduceEq, Int.reduceNe, Int.reduceNeg, reduceCtorEq]
            exact nx
          | succ n ih =>
            intro k a b c N1 hk F1 hB
            have G1 := G.fm F1 (fzk rfl rfl) (by decide) (by decide) (by simp) (by simp) (by simp) (by simp)
            have hz1 := G1.mt.1
            have c5 := G1.2.2.2
            rw [hlen] at c5
            have nx := ih (k + 1) a b c (ust N1 207 (k : Int) 0) (by omega) (F1.us _ _ (by simp) (by decide)) (fun i hi => by
              rw [ust_at]
              by_cases e : i = k
              · rw [if_pos (by omega)]
              · rw [if_neg (by omega)]; exact hB i (by omega))
            refine WP.run [(225, 38), (225, 69)] [] 60 ?_
            simp only [bk225_0, bk225_12, bk225_15, bk225_22, bk225_25, bk225_33, bk225_36, bk225_38, bk225_46, bk225_59, bk225_69, bk225_80, bk225_101, bk225_110, bk225_111, bk225_122, U_iload_n, U_i2l, U_lconst, U_ldc2_w, U_invokestatic3, U_if_ne, U_bipush, U_ireturn, U_aload_n, U_invokevirtual0, U_invokevirtual1, U_iconst, U_istore_n, U_getfield, U_icmp_ge, U_iast, U_iinc, U_goto, U_istore, U_iload, U_imul, U_icmp_gt, U_icmp_ne, U_isub, U_ishl, U_ior, UN_cc, UN_cn, UN_nc, UN_nn, UJ, lget, lset, lset2, entL, wsm, wcat, Option.toList_some, Option.toList_none, List.cons_append, List.nil_append, List.mem_cons, List.not_mem_nil, Prod.mk.injEq, or_false, false_or, or_true, true_or, and_true, true_and, and_false, false_and, and_self, ne_eq, not_false_eq_true, not_true_eq_false, forall_const, true_implies, false_implies, Nat.add_zero, Nat.zero_add, Nat.le_refl, Nat.zero_le, List.set_cons_zero, List.set_cons_succ, List.set_nil, ↓reduceIte, Nat.reduceAdd, Nat.reduceSub, Nat.reduceEqDiff, Nat.reduceLeDiff, Int.reduceEq, Int.reduceNe, Int.reduceNeg, reduceCtorEq, kd190, kd207, ln207, z190_24 hz1, c5]
            repeat' (first | refine And.intro (by omega) ?_ | refine And.intro (rr (by omega)) ?_ | refine And.intro (r3 (by omega)) ?_ | refine And.intro (r6 (by omega)) ?_ | ((fail_if_success (show WP _ _ _ _ _ _ _ _)); (first | refine And.intro ?_ ?_ | intro _)))
            all_goals first | (exfalso; omega) | exact nx
        have nx := k38 (len + 1) 0 (9, 0) (9, 0) (9, 0) N (by omega) (FM.rf _ _ _) (fun i hi => absurd hi (Nat.not_lt_zero i))
        simp only [bk225_0, bk225_12, bk225_15, bk225_22, bk225_25, bk225_33, bk225_36, bk225_38, bk225_46, bk225_59, bk225_69, bk225_80, bk225_101, bk225_110, bk225_111, bk225_122, U_iload_n, U_i2l, U_lconst, U_ldc2_w, U_invokestatic3, U_if_ne, U_bipush, U_ireturn, U_aload_n, U_invokevirtual0, U_invokevirtual1, U_iconst, U_istore_n, U_getfield, U_icmp_ge, U_iast, U_iinc, U_goto, U_istore, U_iload, U_imul, U_icmp_gt, U_icmp_ne, U_isub, U_ishl, U_ior, UN_cc, UN_cn, UN_nc, UN_nn, UJ, lget, lset, lset2, entL, wsm, wcat, Option.toList_some, Option.toList_none, List.cons_append, List.nil_append, List.mem_cons, List.not_mem_nil, Prod.mk.injEq, or_false, false_or, or_true, true_or, and_true, true_and, and_false, false_and, and_self, ne_eq, not_false_eq_true, not_true_eq_false, forall_const, true_implies, false_implies, Nat.add_zero, Nat.zero_add, Nat.le_refl, Nat.zero_le, List.set_cons_zero, List.set_cons_succ, List.set_nil, ↓reduceIte, Nat.reduceAdd, Nat.reduceSub, Nat.reduceEqDiff, Nat.reduceLeDiff, Int.reduceEq, Int.reduceNe, Int.reduceNeg, reduceCtorEq]
        repeat' (first | refine And.intro (by omega) ?_ | refine And.intro (rr (by omega)) ?_ | refine And.intro (r3 (by omega)) ?_ | refine And.intro (r6 (by omega)) ?_ | ((fail_if_success (show WP _ _ _ _ _ _ _ _)); (first | refine And.intro ?_ ?_ | intro _)))
        all_goals first | (exfalso; omega) | exact nx
      · rw [if_neg q3]
        simp only [bk225_0, bk225_12, bk225_15, bk225_22, bk225_25, bk225_33, bk225_36, bk225_38, bk225_46, bk225_59, bk225_69, bk225_80, bk225_101, bk225_110, bk225_111, bk225_122, U_iload_n, U_i2l, U_lconst, U_ldc2_w, U_invokestatic3, U_if_ne, U_bipush, U_ireturn, U_aload_n, U_invokevirtual0, U_invokevirtual1, U_iconst, U_istore_n, U_getfield, U_icmp_ge, U_iast, U_iinc, U_goto, U_istore, U_iload, U_imul, U_icmp_gt, U_icmp_ne, U_isub, U_ishl, U_ior, UN_cc, UN_cn, UN_nc, UN_nn, UJ, lget, lset, lset2, entL, wsm, wcat, Option.toList_some, Option.toList_none, List.cons_append, List.nil_append, List.mem_cons, List.not_mem_nil, Prod.mk.injEq, or_false, false_or, or_true, true_or, and_true, true_and, and_false, false_and, and_self, ne_eq, not_false_eq_true, not_true_eq_false, forall_const, true_implies, false_implies, Nat.add_zero, Nat.zero_add, Nat.le_refl, Nat.zero_le, List.set_cons_zero, List.set_cons_succ, List.set_nil, ↓reduceIte, Nat.reduceAdd, Nat.reduceSub, Nat.reduceEqDiff, Nat.reduceLeDiff, Int.reduceEq, Int.reduceNe, Int.reduceNeg, reduceCtorEq]
        exact ⟨r3 (by omega), bad q3⟩
  · rw [if_neg q1]
    simp only [bk225_0, bk225_12, bk225_15, bk225_22, bk225_25, bk225_33, bk225_36, bk225_38, bk225_46, bk225_59, bk225_69, bk225_80, bk225_101, bk225_110, bk225_111, bk225_122, U_iload_n, U_i2l, U_lconst, U_ldc2_w, U_invokestatic3, U_if_ne, U_bipush, U_ireturn, U_aload_n, U_invokevirtual0, U_invokevirtual1, U_iconst, U_istore_n, U_getfield, U_icmp_ge, U_iast, U_iinc, U_goto, U_istore, U_iload, U_imul, U_icmp_gt, U_icmp_ne, U_isub, U_ishl, U_ior, UN_cc, UN_cn, UN_nc, UN_nn, UJ, lget, lset, lset2, entL, wsm, wcat, Option.toList_some, Option.toList_none, List.cons_append, List.nil_append, List.mem_cons, List.not_mem_nil, Prod.mk.injEq, or_false, false_or, or_true, true_or, and_true, true_and, and_false, false_and, and_self, ne_eq, not_false_eq_true, not_true_eq_false, forall_const, true_implies, false_implies, Nat.add_zero, Nat.zero_add, Nat.le_refl, Nat.zero_le, List.set_cons_zero, List.set_cons_succ, List.set_nil, ↓reduceIte, Nat.reduceAdd, Nat.reduceSub, Nat.reduceEqDiff, Nat.reduceLeDiff, Int.reduceEq, Int.reduceNe, Int.reduceNeg, reduceCtorEq]
    exact ⟨r3 (by omega), bad (by omega)⟩
