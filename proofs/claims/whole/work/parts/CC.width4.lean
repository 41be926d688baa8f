/-! THE MODEL'S WIDTH: its contract -/
theorem vc_00 {p : Int} (w : Nat → Int) : (vcA 0 w : Pz p) = pC p 0 ∧ (vcB 0 0 w : Pz p) = pC p 0 := ⟨dg_zero.mp (by have := vcA_dg (p := p) 0 w; omega), dg_zero.mp (by have := vcB_dg (p := p) 0 0 w; omega)⟩
theorem evn_q {m : Int} (h : 0 ≤ m) : evn m = m / 2 + 1 := by unfold evn; rw [if_neg (by omega)]
theorem row_none {p : Int} (hp : Pr p) {f : Pz p} {x : Nat} (hx : (x : Int) < p) (h : rowP p (pev f x) x p.toNat = []) : ∀ q ∈ ptl f p.toNat, q.1 ≠ (x : Int) := fun q hq e => by
  have ho := ptl_on hp hq
  obtain ⟨q1, q2, q3, q4, q5⟩ := ho
  have : q ∈ rowP p (pev f x) x p.toNat := by
    unfold rowP
    refine List.mem_map.mpr ⟨q.2.toNat, ?_, Prod.ext e.symm (by show ((q.2.toNat : Nat) : Int) = q.2; omega)⟩
    unfold rowY
    rw [List.mem_filter, List.mem_range, decide_eq_true_eq]
    rw [e] at q5
    exact ⟨by omega, by rw [show ((q.2.toNat : Nat) : Int) = q.2 by omega]; exact q5⟩
  rw [h] at this
  cases this
set_option maxHeartbeats 32000000 in
theorem m_widthOf {p : Int} {N : Mem} {Q : Post} {f : Pz p} {g : Nat} {B : Nat → Int} {ad : Gq f g → Gq f g → Gq f g} {z : Gq f g} {ng : Gq f g → Gq f g} (hp : Pr p) (hG : MG f g N) (hcv : Cv f g) (hGG : GG f g ad z ng) (hPt : PtA N 192 193 (ptl f p.toNat)) (hB : ∀ i : Nat, i ≤ (ptl f p.toNat).length → N 207 (i : Int) = B i) (hr0 : -40 ≤ B 0 ∧ B 0 ≤ 40) (hr : ∀ i, i ≠ 0 → -4 ≤ B i ∧ B i ≤ 4)
    (hQ : ∀ N', FM [208, 209, 210, 211, 212, 213, 214, 215, 216] [32] N N' → Q (some (0, wid g (isum B ((ptl f p.toNat).length + 1)) ((dg (amS ad z ng B (ptl f p.toNat).length).1.1 : Int) - 1))) NN N') : CL 222 [(2, 190), (9, 0), (9, 0), (9, 0), (9, 0), (9, 0), (9, 0), (9, 0), (9, 0)] NN N Q := by
  have hpp := hp.pos
  obtain ⟨P, rfl, hPm⟩ := hp.nat
  have hd := hcv.2.1
  have hg := hcv.1
  let lf := lfF (ptl f (P : Int).toNat) B (ptl f (P : Int).toNat).length
  have hlf4 : ∀ x, lf x ≤ 4 := fun x => lfF_le (fun i hi => (hr i hi).2) x _
  have hnd : ∀ i q, (ptl f (P : Int).toNat)[i]? = some q → (ndI f lf B i : Int) = (lq lf q : Int) - B (i + 1) := fun i q hq => by
    rw [ndI_s hq]
    have h1 : B (i + 1) ≤ (lq lf q : Int) := (lq_rg hp hr hq).1
    exact Int.toNat_of_nonneg (by omega)
  have hl0 : ∀ x : Nat, (x : Int) < (P : Int) → rowP (P : Int) (pev f x) x (P : Int).toNat = [] → lf x = 0 := fun x hx he => lfF_0 (row_none hp hx he) _
  have sl : ∀ k : Nat, 0 ≤ isum (fun x => 2 * (lf x : Int)) k ∧ isum (fun x => 2 * (lf x : Int)) k ≤ k * 8 := isum_rg (fun i => by have := hlf4 i; omega)
  have a0 : ∀ N', FM [208, 209, 210, 211, 212, 213, 214, 215, 216] [32] N N' → N' 207 0 = B 0 := fun N' F => by
    rw [F.1 207 (by decide) (by decide)]
    exact hB 0 (by omega)
  -- with a width
  have k83 : ∀ (N1 : Mem) (mt : Int) (a b c d : V), mt = B 0 + isum (fun x => 2 * (lf x : Int)) (P : Int).toNat → 0 ≤ mt → FM [208, 209, 210, 211, 212, 213, 214, 215, 216] [32] N N1 → N1 190 32 = 0 → (∀ x : Nat, (x : Int) < (P : Int) → N1 208 (x : Int) = (lf x : Int)) → WP 222 (0, 0) 83 [(2, 190), (0, mt), (0, (((evn mt).toNat : Nat) : Int)), (0, (((evn mt).toNat + (evn (mt - (2 * g + 1))).toNat : Nat) : Int)), (0, ((0 : Nat) : Int) + 1), a, b, c, d] [] NN N1 Q := by
    intro N1 mt a b c d hmt h0 F1 hrk hL
    have sb := sl (P : Int).toNat
    have n1 := evn_nn mt
    have n2 := evn_nn (mt - (2 * g + 1))
    have u1 : evn mt ≤ 80 := by unfold evn; split <;> omega
    have u2 : evn (mt - (2 * g + 1)) ≤ 80 := by unfold evn; split <;> omega
    have u3 : 1 ≤ evn mt := by rw [evn_q h0]; omega
    have G1 := hG.fm F1 (fzk rfl rfl) (by decide) (by decide) (by simp) (by simp) (by simp) (by simp)
    have P1 : PtA N1 192 193 (ptl f (P : Int).toNat) := by unfold PtA; rw [F1.1 192 (by decide) (by decide), F1.1 193 (by decide) (by decide)]; exact hPt
    refine l_w0 (B := B) (n1 := (evn mt).toNat) (n2 := (evn (mt - (2 * g + 1))).toNat) hp G1 hcv P1 (fun i h1 h2 => by rw [F1.1 207 (by decide) (by decide)]; exact hB i h2) hr hL (by omega) (by omega) (fun N2 R F2 hE hS => ?_) (ptl f (P : Int).toNat).length 0 a b c d N1 (by omega) (FM.rf _ _ _) ⟨[], trivial, ⟨hrk, fun i r hir => by cases hir⟩, fun w hw => ⟨fun _ i q hi => absurd hi (Nat.not_lt_zero i), fun _ r hr => by cases hr⟩⟩
    have key := room_wid hp hcv hGG (B := B) (lf := lf) (nd := ndI f lf B) hnd hl0 hmt (n1 := (evn mt).toNat) (n2 := (evn (mt - (2 * g + 1))).toNat) (by omega) (by omega) hE hS
    rw [key]
    exact hQ N2 (F1.tr (F2.mo rfl rfl))
  -- all lifts together
  have k13 : ∀ (n k : Nat) (a b c d e h : V) (N1 : Mem), (k : Int) + n = P → FM [208] [] N N1 → (∀ x : Nat, (x : Int) < (P : Int) → N1 208 (x : Int) = (lf x : Int)) → WP 222 (0, 0) 13 [(2, 190), (0, B 0 + isum (fun x => 2 * (lf x : Int)) k), (0, (k : Int)), a, b, c, d, e, h] [] NN N1 Q := by
    intro n
    induction n with
    | zero =>
      intro k a b c d e h N1 hk F1 hL
      have F1' : FM [208, 209, 210, 211, 212, 213, 214, 215, 216] [32] N N1 := F1.mo rfl rfl
      have G1 := hG.fm F1 (fzk rfl rfl) (by decide) (by decide) (by simp) (by simp) (by simp) (by simp)
      have ek : k = (P : Int).toNat := by omega
      have sb := sl k
      generalize hmt : B 0 + isum (fun x => 2 * (lf x : Int)) k = mt at *
      by_cases h0 : mt < 0
      · have key := room_wid hp hcv hGG (B := B) (lf := lf) (nd := ndI f lf B) hnd hl0 (mt := mt) (by rw [← hmt, ek]) (n1 := 0) (n2 := 0) (by unfold evn; rw [if_pos h0]; rfl) (by unfold evn; rw [if_pos (by omega)]; rfl) (R := []) trivial (fun w hw => ⟨fun _ i q hq => by
          rw [(vc_00 w).1, (vc_00 w).2]
          exact (@ipw_is (BB (Pz (P : Int)) f) (@bring (Pz (P : Int)) (pring (P : Int)) f) (PI f q) _).1, fun _ r hr => by cases hr⟩)
        have nx := hQ N1 F1'
        rw [← key] at nx
        replace nx : Q (some (0, 0)) NN N1 := nx
        refine WP.run [(222, 13)] [] 60 ?_
        simp only [bk222_0, bk222_13, bk222_21, bk222_38, bk222_42, bk222_44, bk222_59, bk222_72, bk222_73, bk222_83, bk222_92, bk222_102, bk222_119, bk222_131, bk222_150, bk222_159, bk222_166, bk222_177, bk222_181, bk222_182, bk222_189, bk222_192, bk222_198, bk222_214, bk222_217, bk222_224, bk222_229, bk222_254, bk222_259, bk222_265, bk222_281, bk222_284, bk222_291, bk222_294, bk222_300, bk222_333, bk222_344, bk222_350, U_aload_n, U_invokevirtual0, U_getfield, U_iconst, U_iald, U_istore_n, U_iload_n, U_icmp_ge, U_imul, U_iadd, U_iinc, U_goto, U_if_ge, U_ireturn, U_idiv, U_icmp_lt, U_isub, U_putfield, U_istore, U_iload, U_if_ne, U_if_le, U_invokevirtual1, U_bipush, U_iast, U_invokevirtual2, U_icmp_le, UN_cc, UN_cn, UN_nc, UN_nn, UJ, lget, lset, lset2, entL, wsm, wcat, Option.toList_some, Option.toList_none, List.cons_append, List.nil_append, List.mem_cons, List.not_mem_nil, Prod.mk.injEq, or_false, false_or, or_true, true_or, and_true, true_and, and_false, false_and, and_self, ne_eq, not_false_eq_true, not_true_eq_false, forall_const, true_implies, false_implies, Nat.add_zero, Nat.zero_add, Nat.le_refl, Nat.zero_le, List.set_cons_zero, List.set_cons_succ, List.set_nil, ↓reduceIte, Nat.reduceAdd, Nat.reduceSub, Nat.reduceEqDiff, Nat.reduceLeDiff, Int.reduceEq, Int.reduceNe, Int.reduceNeg, reduceCtorEq, kd190, G1.mt.2]
        repeat' (first | refine And.intro (by omega) ?_ | refine And.intro (rr (by omega)) ?_ | refine And.intro (r3 (by omega)) ?_ | refine And.intro (r6 (by omega)) ?_ | ((fail_if_success (show WP _ _ _ _ _ _ _ _)); (first | refine And.intro ?_ ?_ | intro _)))
        all_goals first | (exfalso; omega) | exact nx
      · have g2 : (g : Int) = 1 ∨ (g : Int) = 2 := by omega
        have hz1 := G1.mt.1
        let N2 := ust N1 190 32 0
        have F2 : FM [208, 209, 210, 211, 212, 213, 214, 215, 216] [32] N N2 := F1'.uf _ (by simp)
        have e32 : N2 190 32 = 0 := by show ust N1 190 32 0 190 32 = 0; rw [ust_at, if_pos rfl]
        have nx := k83 N2 mt c d e h (by rw [← hmt, ek]) (by omega) F2 e32 (fun x hx => by show ust N1 190 32 0 208 (x : Int) = _; rw [ust_ne (by decide)]; exact hL x hx)
        have td1 : mt.tdiv 2 = mt / 2 := Int.tdiv_eq_ediv_of_nonneg (by omega)
        have e1 : (((evn mt).toNat : Nat) : Int) = mt / 2 + 1 := by rw [evn_q (by omega)]; omega
        have hdg : (dg f : Int) - 1 = 2 * (g : Int) + 1 := by omega
        have e2 : (((evn mt).toNat + (evn (mt - (2 * g + 1))).toNat : Nat) : Int) = mt / 2 + 1 + (if mt < 2 * (g : Int) + 1 then 0 else (mt - (2 * (g : Int) + 1)) / 2 + 1) := by
          rw [Int.natCast_add, e1]
          unfold evn
          split <;> split <;> omega
        rw [e2, e1] at nx
        by_cases w : mt < 2 * (g : Int) + 1
        · rw [if_pos w] at nx
          refine WP.run [(222, 13), (222, 83)] [] 90 ?_
          simp only [bk222_0, bk222_13, bk222_21, bk222_38, bk222_42, bk222_44, bk222_59, bk222_72, bk222_73, bk222_83, bk222_92, bk222_102, bk222_119, bk222_131, bk222_150, bk222_159, bk222_166, bk222_177, bk222_181, bk222_182, bk222_189, bk222_192, bk222_198, bk222_214, bk222_217, bk222_224, bk222_229, bk222_254, bk222_259, bk222_265, bk222_281, bk222_284, bk222_291, bk222_294, bk222_300, bk222_333, bk222_344, bk222_350, U_aload_n, U_invokevirtual0, U_getfield, U_iconst, U_iald, U_istore_n, U_iload_n, U_icmp_ge, U_imul, U_iadd, U_iinc, U_goto, U_if_ge, U_ireturn, U_idiv, U_icmp_lt, U_isub, U_putfield, U_istore, U_iload, U_if_ne, U_if_le, U_invokevirtual1, U_bipush, U_iast, U_invokevirtual2, U_icmp_le, UN_cc, UN_cn, UN_nc, UN_nn, UJ, lget, lset, lset2, entL, wsm, wcat, Option.toList_some, Option.toList_none, List.cons_append, List.nil_append, List.mem_cons, List.not_mem_nil, Prod.mk.injEq, or_false, false_or, or_true, true_or, and_true, true_and, and_false, false_and, and_self, ne_eq, not_false_eq_true, not_true_eq_false, forall_const, true_implies, false_implies, Nat.add_zero, Nat.zero_add, Nat.le_refl, Nat.zero_le, List.set_cons_zero, List.set_cons_succ, List.set_nil, ↓reduceIte, Nat.reduceAdd, Nat.reduceSub, Nat.reduceEqDiff, Nat.reduceLeDiff, Int.reduceEq, Int.reduceNe, Int.reduceNeg, reduceCtorEq, kd190, G1.mt.2, G1.2.1, hdg, td1]
          repeat' (first | refine And.intro (by omega) ?_ | refine And.intro (rr (by omega)) ?_ | refine And.intro (r3 (by omega)) ?_ | refine And.intro (r6 (by omega)) ?_ | ((fail_if_success (show WP _ _ _ _ _ _ _ _)); (first | refine And.intro ?_ ?_ | intro _)))
          all_goals first | (exfalso; omega) | exact nx
        · rw [if_neg w] at nx
          have td2 : (mt - (2 * (g : Int) + 1)).tdiv 2 = (mt - (2 * (g : Int) + 1)) / 2 := Int.tdiv_eq_ediv_of_nonneg (by omega)
          refine WP.run [(222, 13), (222, 83)] [] 90 ?_
          simp only [bk222_0, bk222_13, bk222_21, bk222_38, bk222_42, bk222_44, bk222_59, bk222_72, bk222_73, bk222_83, bk222_92, bk222_102, bk222_119, bk222_131, bk222_150, bk222_159, bk222_166, bk222_177, bk222_181, bk222_182, bk222_189, bk222_192, bk222_198, bk222_214, bk222_217, bk222_224, bk222_229, bk222_254, bk222_259, bk222_265, bk222_281, bk222_284, bk222_291, bk222_294, bk222_300, bk222_333, bk222_344, bk222_350, U_aload_n, U_invokevirtual0, U_getfield, U_iconst, U_iald, U_istore_n, U_iload_n, U_icmp_ge, U_imul, U_iadd, U_iinc, U_goto, U_if_ge, U_ireturn, U_idiv, U_icmp_lt, U_isub, U_putfield, U_istore, U_iload, U_if_ne, U_if_le, U_invokevirtual1, U_bipush, U_iast, U_invokevirtual2, U_icmp_le, UN_cc, UN_cn, UN_nc, UN_nn, UJ, lget, lset, lset2, entL, wsm, wcat, Option.toList_some, Option.toList_none, List.cons_append, List.nil_append, List.mem_cons, List.not_mem_nil, Prod.mk.injEq, or_false, false_or, or_true, true_or, and_true, true_and, and_false, false_and, and_self, ne_eq, not_false_eq_true, not_true_eq_false, forall_const, true_implies, false_implies, Nat.add_zero, Nat.zero_add, Nat.le_refl, Nat.zero_le, List.set_cons_zero, List.set_cons_succ, List.set_nil, ↓reduceIte, Nat.reduceAdd, Nat.reduceSub, Nat.reduceEqDiff, Nat.reduceLeDiff, Int.reduceEq, Int.reduceNe, Int.reduceNeg, reduceCtorEq, kd190, G1.mt.2, G1.2.1, hdg, td1, td2]
          repeat' (first | refine And.intro (by omega) ?_ | refine And.intro (rr (by omega)) ?_ | refine And.intro (r3 (by omega)) ?_ | refine And.intro (r6 (by omega)) ?_ | ((fail_if_success (show WP _ _ _ _ _ _ _ _)); (first | refine And.intro ?_ ?_ | intro _)))
          all_goals first | (exfalso; omega) | exact nx
    | succ n ih =>
      intro k a b c d e h N1 hk F1 hL
      have G1 := hG.fm F1 (fzk rfl rfl) (by decide) (by decide) (by simp) (by simp) (by simp) (by simp)
      have hz1 := G1.mt.1
      have v := hL k (by omega)
      have v4 := hlf4 k
      have sb := sl k
      have nx : WP 222 (0, 0) 13 [(2, 190), (0, B 0 + isum (fun x => 2 * (lf x : Int)) k + 2 * (lf k : Int)), (0, ((k + 1 : Nat) : Int)), a, b, c, d, e, h] [] NN N1 Q := by
        have := ih (k + 1) a b c d e h N1 (by omega) F1 hL
        rw [show B 0 + isum (fun x => 2 * (lf x : Int)) (k + 1) = B 0 + isum (fun x => 2 * (lf x : Int)) k + 2 * (lf k : Int) by show B 0 + (isum (fun x => 2 * (lf x : Int)) k + 2 * (lf k : Int)) = _; omega] at this
        exact this
      refine WP.run [(222, 13)] [] 60 ?_
      simp only [bk222_0, bk222_13, bk222_21, bk222_38, bk222_42, bk222_44, bk222_59, bk222_72, bk222_73, bk222_83, bk222_92, bk222_102, bk222_119, bk222_131, bk222_150, bk222_159, bk222_166, bk222_177, bk222_181, bk222_182, bk222_189, bk222_192, bk222_198, bk222_214, bk222_217, bk222_224, bk222_229, bk222_254, bk222_259, bk222_265, bk222_281, bk222_284, bk222_291, bk222_294, bk222_300, bk222_333, bk222_344, bk222_350, U_aload_n, U_invokevirtual0, U_getfield, U_iconst, U_iald, U_istore_n, U_iload_n, U_icmp_ge, U_imul, U_iadd, U_iinc, U_goto, U_if_ge, U_ireturn, U_idiv, U_icmp_lt, U_isub, U_putfield, U_istore, U_iload, U_if_ne, U_if_le, U_invokevirtual1, U_bipush, U_iast, U_invokevirtual2, U_icmp_le, UN_cc, UN_cn, UN_nc, UN_nn, UJ, lget, lset, lset2, entL, wsm, wcat, Option.toList_some, Option.toList_none, List.cons_append, List.nil_append, List.mem_cons, List.not_mem_nil, Prod.mk.injEq, or_false, false_or, or_true, true_or, and_true, true_and, and_false, false_and, and_self, ne_eq, not_false_eq_true, not_true_eq_false, forall_const, true_implies, false_implies, Nat.add_zero, Nat.zero_add, Nat.le_refl, Nat.zero_le, List.set_cons_zero, List.set_cons_succ, List.set_nil, ↓reduceIte, Nat.reduceAdd, Nat.reduceSub, Nat.reduceEqDiff, Nat.reduceLeDiff, Int.reduceEq, Int.reduceNe, Int.reduceNeg, reduceCtorEq, kd190, kd208, ln208, z190_25 hz1, G1.mt.2, v]
      repeat' (first | refine And.intro (by omega) ?_ | refine And.intro (rr (by omega)) ?_ | refine And.intro (r3 (by omega)) ?_ | refine And.intro (r6 (by omega)) ?_ | ((fail_if_success (show WP _ _ _ _ _ _ _ _)); (first | refine And.intro ?_ ?_ | intro _)))
      all_goals first | (exfalso; omega) | exact nx
  refine WP.run [(222, 13)] [] 60 ?_
  simp only [bk222_0, bk222_13, bk222_21, bk222_38, bk222_42, bk222_44, bk222_59, bk222_72, bk222_73, bk222_83, bk222_92, bk222_102, bk222_119, bk222_131, bk222_150, bk222_159, bk222_166, bk222_177, bk222_181, bk222_182, bk222_189, bk222_192, bk222_198, bk222_214, bk222_217, bk222_224, bk222_229, bk222_254, bk222_259, bk222_265, bk222_281, bk222_284, bk222_291, bk222_294, bk222_300, bk222_333, bk222_344, bk222_350, U_aload_n, U_invokevirtual0, U_getfield, U_iconst, U_iald, U_istore_n, U_iload_n, U_icmp_ge, U_imul, U_iadd, U_iinc, U_goto, U_if_ge, U_ireturn, U_idiv, U_icmp_lt, U_isub, U_putfield, U_istore, U_iload, U_if_ne, U_if_le, U_invokevirtual1, U_bipush, U_iast, U_invokevirtual2, U_icmp_le, UN_cc, UN_cn, UN_nc, UN_nn, UJ, lget, lset, lset2, entL, wsm, wcat, Option.toList_some, Option.toList_none, List.cons_append, List.nil_append, List.mem_cons, List.not_mem_nil, Prod.mk.injEq, or_false, false_or, or_true, true_or, and_true, true_and, and_false, false_and, and_self, ne_eq, not_false_eq_true, not_true_eq_false, forall_const, true_implies, false_implies, Nat.add_zero, Nat.zero_add, Nat.le_refl, Nat.zero_le, List.set_cons_zero, List.set_cons_succ, List.set_nil, ↓reduceIte, Nat.reduceAdd, Nat.reduceSub, Nat.reduceEqDiff, Nat.reduceLeDiff, Int.reduceEq, Int.reduceNe, Int.reduceNeg, reduceCtorEq, kd190]
  repeat (first | refine And.intro (by first | omega | exact not_false) ?_ | refine And.intro (rr (by omega)) ?_ | refine And.intro (r3 (by omega)) ?_ | refine And.intro (r6 (by omega)) ?_)
  refine m_findLifts hG hPt hp (fun i h1 h2 => hB i h2) hr (fun N1 F1 hL => ?_)
  have hz1 := F1.fz (fzk rfl rfl) hG.mt.1
  have v0 := a0 N1 (F1.mo rfl rfl)
  have nx := k13 P 0 (9, 0) (9, 0) (9, 0) (9, 0) (9, 0) (9, 0) N1 (by omega) F1 hL
  rw [show B 0 + isum (fun x => 2 * (lf x : Int)) 0 = B 0 by show B 0 + 0 = B 0; omega] at nx
  simp only [bk222_0, bk222_13, bk222_21, bk222_38, bk222_42, bk222_44, bk222_59, bk222_72, bk222_73, bk222_83, bk222_92, bk222_102, bk222_119, bk222_131, bk222_150, bk222_159, bk222_166, bk222_177, bk222_181, bk222_182, bk222_189, bk222_192, bk222_198, bk222_214, bk222_217, bk222_224, bk222_229, bk222_254, bk222_259, bk222_265, bk222_281, bk222_284, bk222_291, bk222_294, bk222_300, bk222_333, bk222_344, bk222_350, U_aload_n, U_invokevirtual0, U_getfield, U_iconst, U_iald, U_istore_n, U_iload_n, U_icmp_ge, U_imul, U_iadd, U_iinc, U_goto, U_if_ge, U_ireturn, U_idiv, U_icmp_lt, U_isub, U_putfield, U_istore, U_iload, U_if_ne, U_if_le, U_invokevirtual1, U_bipush, U_iast, U_invokevirtual2, U_icmp_le, UN_cc, UN_cn, UN_nc, UN_nn, UJ, lget, lset, lset2, entL, wsm, wcat, Option.toList_some, Option.toList_none, List.cons_append, List.nil_append, List.mem_cons, List.not_mem_nil, Prod.mk.injEq, or_false, false_or, or_true, true_or, and_true, true_and, and_false, false_and, and_self, ne_eq, not_false_eq_true, not_true_eq_false, forall_const, true_implies, false_implies, Nat.add_zero, Nat.zero_add, Nat.le_refl, Nat.zero_le, List.set_cons_zero, List.set_cons_succ, List.set_nil, ↓reduceIte, Nat.reduceAdd, Nat.reduceSub, Nat.reduceEqDiff, Nat.reduceLeDiff, Int.reduceEq, Int.reduceNe, Int.reduceNeg, reduceCtorEq, kd190, kd207, ln207, z190_24 hz1, v0]
  repeat' (first | refine And.intro (by omega) ?_ | refine And.intro (rr (by omega)) ?_ | refine And.intro (r3 (by omega)) ?_ | refine And.intro (r6 (by omega)) ?_ | ((fail_if_success (show WP _ _ _ _ _ _ _ _)); (first | refine And.intro ?_ ?_ | intro _)))
  all_goals first | (exfalso; omega) | exact nx
