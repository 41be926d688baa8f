/-! THE MODEL'S CALLS: coefficients, picked classes, which class -/
set_option maxHeartbeats 8000000 in
theorem q_of {p : Int} {g : Nat} {f : Pz p} {pu : List Int} {rg : Nat → Pz p × Pz p} {A tl : Nat → Int} {E : Nat → Nat} {N : Mem} {Q : Post} {r w i : Int} (h : MS g f pu rg A tl E N) (V : VS g f pu rg A tl E) (hr : R32 r) (hw : R32 w) (hi : R32 i) (hQ : ∀ N', MS g f pu rg A tl E N' → clF N N' → Q (some (0, oOf g rg r w i)) NN N') : CL 208 [(2, 190), (0, r), (0, w), (0, i)] NN N Q := by
  have hpp := V.1.pos
  have bad : (¬ (0 ≤ r ∧ r < 6) ∨ ¬ (0 ≤ w ∧ w ≤ 1) ∨ i < 0) → Q (some (0, -2)) NN N := fun e => by
    have := hQ N h (clF.rf N)
    unfold oOf at this
    rw [if_pos e] at this; exact this
  refine WP.run [] [] 90 ?_
  simp only [bk208_0, bk208_7, bk208_17, bk208_21, bk208_24, bk208_31, bk208_34, bk208_59, bk208_63, bk208_71, U_iload_n, U_invokestatic1, U_if_eq, U_i2l, U_lconst, U_invokestatic3, U_if_ge, U_bipush, U_ireturn, U_aload_n, U_invokevirtual0, U_if_ne, U_iconst, U_invokevirtual2, U_invokevirtual3, U_getfield, U_iadd, U_iald, U_icmp_le, U_goto, UN_cc, UN_cn, UN_nc, UN_nn, UJ, lget, lset, lset2, entL, wsm, wcat, Option.toList_some, Option.toList_none, List.cons_append, List.nil_append, List.mem_cons, List.not_mem_nil, Prod.mk.injEq, or_false, false_or, or_true, true_or, and_true, true_and, and_false, false_and, and_self, ne_eq, not_false_eq_true, not_true_eq_false, forall_const, true_implies, false_implies, Nat.add_zero, Nat.zero_add, Nat.le_refl, Nat.zero_le, List.set_cons_zero, List.set_cons_succ, List.set_nil, ↓reduceIte, Nat.reduceAdd, Nat.reduceSub, Nat.reduceEqDiff, Nat.reduceLeDiff, Int.reduceEq, Int.reduceNe, Int.reduceNeg, reduceCtorEq]
  refine m_isReg hr ?_
  by_cases q : 0 ≤ r ∧ r < 6
  · rw [if_pos q]
    simp only [bk208_0, bk208_7, bk208_17, bk208_21, bk208_24, bk208_31, bk208_34, bk208_59, bk208_63, bk208_71, U_iload_n, U_invokestatic1, U_if_eq, U_i2l, U_lconst, U_invokestatic3, U_if_ge, U_bipush, U_ireturn, U_aload_n, U_invokevirtual0, U_if_ne, U_iconst, U_invokevirtual2, U_invokevirtual3, U_getfield, U_iadd, U_iald, U_icmp_le, U_goto, UN_cc, UN_cn, UN_nc, UN_nn, UJ, lget, lset, lset2, entL, wsm, wcat, Option.toList_some, Option.toList_none, List.cons_append, List.nil_append, List.mem_cons, List.not_mem_nil, Prod.mk.injEq, or_false, false_or, or_true, true_or, and_true, true_and, and_false, false_and, and_self, ne_eq, not_false_eq_true, not_true_eq_false, forall_const, true_implies, false_implies, Nat.add_zero, Nat.zero_add, Nat.le_refl, Nat.zero_le, List.set_cons_zero, List.set_cons_succ, List.set_nil, ↓reduceIte, Nat.reduceAdd, Nat.reduceSub, Nat.reduceEqDiff, Nat.reduceLeDiff, Int.reduceEq, Int.reduceNe, Int.reduceNeg, reduceCtorEq]
    refine ⟨r3 (by omega), hw, m_in hw.l (r64 (by omega)) (r64 (by omega)) ?_⟩
    by_cases q1 : 0 ≤ w ∧ w ≤ 1
    · rw [if_pos q1]
      simp only [bk208_0, bk208_7, bk208_17, bk208_21, bk208_24, bk208_31, bk208_34, bk208_59, bk208_63, bk208_71, U_iload_n, U_invokestatic1, U_if_eq, U_i2l, U_lconst, U_invokestatic3, U_if_ge, U_bipush, U_ireturn, U_aload_n, U_invokevirtual0, U_if_ne, U_iconst, U_invokevirtual2, U_invokevirtual3, U_getfield, U_iadd, U_iald, U_icmp_le, U_goto, UN_cc, UN_cn, UN_nc, UN_nn, UJ, lget, lset, lset2, entL, wsm, wcat, Option.toList_some, Option.toList_none, List.cons_append, List.nil_append, List.mem_cons, List.not_mem_nil, Prod.mk.injEq, or_false, false_or, or_true, true_or, and_true, true_and, and_false, false_and, and_self, ne_eq, not_false_eq_true, not_true_eq_false, forall_const, true_implies, false_implies, Nat.add_zero, Nat.zero_add, Nat.le_refl, Nat.zero_le, List.set_cons_zero, List.set_cons_succ, List.set_nil, ↓reduceIte, Nat.reduceAdd, Nat.reduceSub, Nat.reduceEqDiff, Nat.reduceLeDiff, Int.reduceEq, Int.reduceNe, Int.reduceNeg, reduceCtorEq, kd190]
      by_cases q2 : i < 0
      · exact ⟨r3 (by omega), hi, fun _ => bad (Or.inr (Or.inr q2)), fun e => absurd q2 e⟩
      refine ⟨r3 (by omega), hi, fun e => absurd e q2, fun _ => m_std h V ?_⟩
      unfold oOf at hQ
      rw [if_neg (by omega)] at hQ
      by_cases q0 : g = 0
      · rw [if_pos q0]
        rw [if_pos q0] at hQ
        simp only [bk208_0, bk208_7, bk208_17, bk208_21, bk208_24, bk208_31, bk208_34, bk208_59, bk208_63, bk208_71, U_iload_n, U_invokestatic1, U_if_eq, U_i2l, U_lconst, U_invokestatic3, U_if_ge, U_bipush, U_ireturn, U_aload_n, U_invokevirtual0, U_if_ne, U_iconst, U_invokevirtual2, U_invokevirtual3, U_getfield, U_iadd, U_iald, U_icmp_le, U_goto, UN_cc, UN_cn, UN_nc, UN_nn, UJ, lget, lset, lset2, entL, wsm, wcat, Option.toList_some, Option.toList_none, List.cons_append, List.nil_append, List.mem_cons, List.not_mem_nil, Prod.mk.injEq, or_false, false_or, or_true, true_or, and_true, true_and, and_false, false_and, and_self, ne_eq, not_false_eq_true, not_true_eq_false, forall_const, true_implies, false_implies, Nat.add_zero, Nat.zero_add, Nat.le_refl, Nat.zero_le, List.set_cons_zero, List.set_cons_succ, List.set_nil, ↓reduceIte, Nat.reduceAdd, Nat.reduceSub, Nat.reduceEqDiff, Nat.reduceLeDiff, Int.reduceEq, Int.reduceNe, Int.reduceNeg, reduceCtorEq]
        exact ⟨r3 (by omega), hQ N h (clF.rf N)⟩
      · rw [if_neg q0]
        rw [if_neg q0] at hQ
        obtain ⟨k, rfl⟩ : ∃ k : Nat, r = k := ⟨r.toNat, by omega⟩
        simp only [Int.toNat_natCast] at hQ
        obtain ⟨c1, c2, c3, c4, -⟩ := V.cv q0
        have hx := c4 k
        obtain ⟨x1, x2, x3, -⟩ := hx
        have hg2 := V.g2
        simp only [bk208_0, bk208_7, bk208_17, bk208_21, bk208_24, bk208_31, bk208_34, bk208_59, bk208_63, bk208_71, U_iload_n, U_invokestatic1, U_if_eq, U_i2l, U_lconst, U_invokestatic3, U_if_ge, U_bipush, U_ireturn, U_aload_n, U_invokevirtual0, U_if_ne, U_iconst, U_invokevirtual2, U_invokevirtual3, U_getfield, U_iadd, U_iald, U_icmp_le, U_goto, UN_cc, UN_cn, UN_nc, UN_nn, UJ, lget, lset, lset2, entL, wsm, wcat, Option.toList_some, Option.toList_none, List.cons_append, List.nil_append, List.mem_cons, List.not_mem_nil, Prod.mk.injEq, or_false, false_or, or_true, true_or, and_true, true_and, and_false, false_and, and_self, ne_eq, not_false_eq_true, not_true_eq_false, forall_const, true_implies, false_implies, Nat.add_zero, Nat.zero_add, Nat.le_refl, Nat.zero_le, List.set_cons_zero, List.set_cons_succ, List.set_nil, ↓reduceIte, Nat.reduceAdd, Nat.reduceSub, Nat.reduceEqDiff, Nat.reduceLeDiff, Int.reduceEq, Int.reduceNe, Int.reduceNeg, reduceCtorEq, kd190]
        refine ⟨r3 (by omega), m_fromRegister (t := 1) (a := k) h.fz (by omega) (by omega) fun N1 s1 => ?_⟩
        have W1 := (h.2.2.2.1 k (by omega)).mv s1
        obtain ⟨μ, hM, h0⟩ := h.1.fm s1.f4 ok_4 (by decide) (by decide) (by decide)
        simp only [bk208_0, bk208_7, bk208_17, bk208_21, bk208_24, bk208_31, bk208_34, bk208_59, bk208_63, bk208_71, U_iload_n, U_invokestatic1, U_if_eq, U_i2l, U_lconst, U_invokestatic3, U_if_ge, U_bipush, U_ireturn, U_aload_n, U_invokevirtual0, U_if_ne, U_iconst, U_invokevirtual2, U_invokevirtual3, U_getfield, U_iadd, U_iald, U_icmp_le, U_goto, UN_cc, UN_cn, UN_nc, UN_nn, UJ, lget, lset, lset2, entL, wsm, wcat, Option.toList_some, Option.toList_none, List.cons_append, List.nil_append, List.mem_cons, List.not_mem_nil, Prod.mk.injEq, or_false, false_or, or_true, true_or, and_true, true_and, and_false, false_and, and_self, ne_eq, not_false_eq_true, not_true_eq_false, forall_const, true_implies, false_implies, Nat.add_zero, Nat.zero_add, Nat.le_refl, Nat.zero_le, List.set_cons_zero, List.set_cons_succ, List.set_nil, ↓reduceIte, Nat.reduceAdd, Nat.reduceSub, Nat.reduceEqDiff, Nat.reduceLeDiff, Int.reduceEq, Int.reduceNe, Int.reduceNeg, reduceCtorEq, kd190]
        refine m_layWork (k := 1) (x := rg k) hM (u := 1) (v := 2) (by omega) (by omega) (by omega) (by omega) W1 x1 (by omega) x3 fun N2 M2 t2 => ?_
        have F2 : FM scK scL N N2 := (s1.f4.mo rfl rfl).tr (t2.fm.mo rfl rfl)
        have S2 : MS g f pu rg A tl E N2 := h.sc F2 ⟨_, M2, fun g0 => by rw [upq_n (by omega), upq_n (by omega)]; exact h0 g0⟩
        have C2 : clF N N2 := F2.cl rfl
        have hq := hQ N2 S2 C2
        obtain ⟨p1, p2, p3, p4, p5⟩ := M2.2.2.2.2 1 (rg k).1 (by rw [upq_n (by omega), upq_e])
        obtain ⟨y1, y2, y3, y4, y5⟩ := M2.2.2.2.2 2 (rg k).2 (upq_e _ _ _)
        simp only [bk208_0, bk208_7, bk208_17, bk208_21, bk208_24, bk208_31, bk208_34, bk208_59, bk208_63, bk208_71, U_iload_n, U_invokestatic1, U_if_eq, U_i2l, U_lconst, U_invokestatic3, U_if_ge, U_bipush, U_ireturn, U_aload_n, U_invokevirtual0, U_if_ne, U_iconst, U_invokevirtual2, U_invokevirtual3, U_getfield, U_iadd, U_iald, U_icmp_le, U_goto, UN_cc, UN_cn, UN_nc, UN_nn, UJ, lget, lset, lset2, entL, wsm, wcat, Option.toList_some, Option.toList_none, List.cons_append, List.nil_append, List.mem_cons, List.not_mem_nil, Prod.mk.injEq, or_false, false_or, or_true, true_or, and_true, true_and, and_false, false_and, and_self, ne_eq, not_false_eq_true, not_true_eq_false, forall_const, true_implies, false_implies, Nat.add_zero, Nat.zero_add, Nat.le_refl, Nat.zero_le, List.set_cons_zero, List.set_cons_succ, List.set_nil, ↓reduceIte, Nat.reduceAdd, Nat.reduceSub, Nat.reduceEqDiff, Nat.reduceLeDiff, Int.reduceEq, Int.reduceNe, Int.reduceNeg, reduceCtorEq, kd190, kd199, ln199, z190_13 M2.1]
        have hw01 : w = 0 ∨ w = 1 := by omega
        rcases hw01 with rfl | rfl
        · simp only [↓reduceIte] at hq
          simp only [Int.reduceAdd, Int.add_zero, p4]
          by_cases c : (dg (rg k).1 : Int) ≤ i
          · rw [if_pos c] at hq
            exact ⟨by omega, by omega, Or.inr ⟨hi, r3 (by omega)⟩, fun _ => hq, fun e => absurd (by omega) e⟩
          · rw [if_neg c] at hq
            refine ⟨by omega, by omega, Or.inr ⟨hi, r3 (by omega)⟩, fun e => absurd e (by omega), fun _ => m_get M2 (a := 1) (A := (rg k).1) (by rw [upq_n (by omega), upq_e]) hi ?_⟩
            rw [if_pos (by omega)]
            simp only [bk208_0, bk208_7, bk208_17, bk208_21, bk208_24, bk208_31, bk208_34, bk208_59, bk208_63, bk208_71, U_iload_n, U_invokestatic1, U_if_eq, U_i2l, U_lconst, U_invokestatic3, U_if_ge, U_bipush, U_ireturn, U_aload_n, U_invokevirtual0, U_if_ne, U_iconst, U_invokevirtual2, U_invokevirtual3, U_getfield, U_iadd, U_iald, U_icmp_le, U_goto, UN_cc, UN_cn, UN_nc, UN_nn, UJ, lget, lset, lset2, entL, wsm, wcat, Option.toList_some, Option.toList_none, List.cons_append, List.nil_append, List.mem_cons, List.not_mem_nil, Prod.mk.injEq, or_false, false_or, or_true, true_or, and_true, true_and, and_false, false_and, and_self, ne_eq, not_false_eq_true, not_true_eq_false, forall_const, true_implies, false_implies, Nat.add_zero, Nat.zero_add, Nat.le_refl, Nat.zero_le, List.set_cons_zero, List.set_cons_succ, List.set_nil, ↓reduceIte, Nat.reduceAdd, Nat.reduceSub, Nat.reduceEqDiff, Nat.reduceLeDiff, Int.reduceEq, Int.reduceNe, Int.reduceNeg, reduceCtorEq]
            exact hq
        · simp only [Int.reduceEq, ↓reduceIte] at hq
          simp only [Int.reduceAdd, y4]
          by_cases c : (dg (rg k).2 : Int) ≤ i
          · rw [if_pos c] at hq
            exact ⟨by omega, by omega, Or.inr ⟨hi, r3 (by omega)⟩, fun _ => hq, fun e => absurd (by omega) e⟩
          · rw [if_neg c] at hq
            refine ⟨by omega, by omega, Or.inr ⟨hi, r3 (by omega)⟩, fun e => absurd e (by omega), fun _ => m_get M2 (a := 2) (A := (rg k).2) (upq_e _ _ _) hi ?_⟩
            rw [if_pos (by omega)]
            simp only [bk208_0, bk208_7, bk208_17, bk208_21, bk208_24, bk208_31, bk208_34, bk208_59, bk208_63, bk208_71, U_iload_n, U_invokestatic1, U_if_eq, U_i2l, U_lconst, U_invokestatic3, U_if_ge, U_bipush, U_ireturn, U_aload_n, U_invokevirtual0, U_if_ne, U_iconst, U_invokevirtual2, U_invokevirtual3, U_getfield, U_iadd, U_iald, U_icmp_le, U_goto, UN_cc, UN_cn, UN_nc, UN_nn, UJ, lget, lset, lset2, entL, wsm, wcat, Option.toList_some, Option.toList_none, List.cons_append, List.nil_append, List.mem_cons, List.not_mem_nil, Prod.mk.injEq, or_false, false_or, or_true, true_or, and_true, true_and, and_false, false_and, and_self, ne_eq, not_false_eq_true, not_true_eq_false, forall_const, true_implies, false_implies, Nat.add_zero, Nat.zero_add, Nat.le_refl, Nat.zero_le, List.set_cons_zero, List.set_cons_succ, List.set_nil, ↓reduceIte, Nat.reduceAdd, Nat.reduceSub, Nat.reduceEqDiff, Nat.reduceLeDiff, Int.reduceEq, Int.reduceNe, Int.reduceNeg, reduceCtorEq]
            exact hq
    · rw [if_neg q1]
      simp only [bk208_0, bk208_7, bk208_17, bk208_21, bk208_24, bk208_31, bk208_34, bk208_59, bk208_63, bk208_71, U_iload_n, U_invokestatic1, U_if_eq, U_i2l, U_lconst, U_invokestatic3, U_if_ge, U_bipush, U_ireturn, U_aload_n, U_invokevirtual0, U_if_ne, U_iconst, U_invokevirtual2, U_invokevirtual3, U_getfield, U_iadd, U_iald, U_icmp_le, U_goto, UN_cc, UN_cn, UN_nc, UN_nn, UJ, lget, lset, lset2, entL, wsm, wcat, Option.toList_some, Option.toList_none, List.cons_append, List.nil_append, List.mem_cons, List.not_mem_nil, Prod.mk.injEq, or_false, false_or, or_true, true_or, and_true, true_and, and_false, false_and, and_self, ne_eq, not_false_eq_true, not_true_eq_false, forall_const, true_implies, false_implies, Nat.add_zero, Nat.zero_add, Nat.le_refl, Nat.zero_le, List.set_cons_zero, List.set_cons_succ, List.set_nil, ↓reduceIte, Nat.reduceAdd, Nat.reduceSub, Nat.reduceEqDiff, Nat.reduceLeDiff, Int.reduceEq, Int.reduceNe, Int.reduceNeg, reduceCtorEq]
      exact ⟨r3 (by omega), bad (Or.inr (Or.inl q1))⟩
  · rw [if_neg q]
    simp only [bk208_0, bk208_7, bk208_17, bk208_21, bk208_24, bk208_31, bk208_34, bk208_59, bk208_63, bk208_71, U_iload_n, U_invokestatic1, U_if_eq, U_i2l, U_lconst, U_invokestatic3, U_if_ge, U_bipush, U_ireturn, U_aload_n, U_invokevirtual0, U_if_ne, U_iconst, U_invokevirtual2, U_invokevirtual3, U_getfield, U_iadd, U_iald, U_icmp_le, U_goto, UN_cc, UN_cn, UN_nc, UN_nn, UJ, lget, lset, lset2, entL, wsm, wcat, Option.toList_some, Option.toList_none, List.cons_append, List.nil_append, List.mem_cons, List.not_mem_nil, Prod.mk.injEq, or_false, false_or, or_true, true_or, and_true, true_and, and_false, false_and, and_self, ne_eq, not_false_eq_true, not_true_eq_false, forall_const, true_implies, false_implies, Nat.add_zero, Nat.zero_add, Nat.le_refl, Nat.zero_le, List.set_cons_zero, List.set_cons_succ, List.set_nil, ↓reduceIte, Nat.reduceAdd, Nat.reduceSub, Nat.reduceEqDiff, Nat.reduceLeDiff, Int.reduceEq, Int.reduceNe, Int.reduceNeg, reduceCtorEq]
    exact ⟨r3 (by omega), bad (Or.inl q)⟩
/-- the list is there -/
theorem MS.ls {p : Int} {g : Nat} {f : Pz p} {pu : List Int} {rg : Nat → Pz p × Pz p} {A tl : Nat → Int} {E : Nat → Nat} {N N' : Mem} (h : MS g f pu rg A tl E N) (hg : g ≠ 0) (m : MG f g N') (e : FM [198, 199, 203] [19] N N') (l : MlA p N' (tkl f g)) : MS g f pu rg A tl E N' :=
  h.up (e.mo rfl rfl) m.rw (fun r hr => (h.2.2.2.1 r hr).fx (e.1 195 (by decide) (by decide))) (Or.inr ⟨by omega, l⟩) (h.2.2.2.2.2.2.2.2.fx (e.2 22 (by decide)) (e.1 205 (by decide) (by decide)))
theorem MS.l0 {p : Int} {g : Nat} {f : Pz p} {pu : List Int} {rg : Nat → Pz p × Pz p} {A tl : Nat → Int} {E : Nat → Nat} {N : Mem} (h : MS g f pu rg A tl E N) : N 190 19 = 0 ∨ MlA p N (tkl f g) := by
  rcases h.2.2.2.2.2.2.2.1 with q | ⟨-, q⟩
  · exact Or.inl q
  · exact Or.inr q
set_option maxHeartbeats 4000000 in
theorem q_list {p : Int} {g : Nat} {f : Pz p} {pu : List Int} {rg : Nat → Pz p × Pz p} {A tl : Nat → Int} {E : Nat → Nat} {N : Mem} {Q : Post} (h : MS g f pu rg A tl E N) (V : VS g f pu rg A tl E) (q0 : g ≠ 0) (hL : (tkl f g).length ≤ 450) (hQ : ∀ N', MS g f pu rg A tl E N' → MG f g N' → MlA p N' (tkl f g) → FM [198, 199, 203] [19] N N' → Q none NN N') : CL 192 [(2, 190), (9, 0), (9, 0), (9, 0), (9, 0), (9, 0), (9, 0), (9, 0), (9, 0), (9, 0)] NN N Q :=
  m_findList (h.mg q0).1 V.1 (V.cv q0).2.2.1.1 hL h.l0 fun N1 s1 s2 s3 => hQ N1 (h.ls q0 s1 s2 s3) s1 s3 s2
/-- the class at place i of the list -/
theorem MlA.wk {p : Int} {N : Mem} {f : Pz p} {g i : Nat} {z x : Gq f g} (hp : Pr p) (hg : g = 1 ∨ g = 2) (h : MlA p N (tkl f g)) (hx : (cll f g z)[i]? = some x) : WK N 203 i x.1 :=
  LsE.wk hp (by omega) x.2 (h.2 i _ (cll_at hp hg z hx))
set_option maxHeartbeats 8000000 in
theorem l_pick {N : Mem} {Q : Post} {r i : Nat} (hr : r < 6) (hi : i < 520) (hQ : ∀ N', Mvd 195 203 r i N N' → Q (some (0, 1)) NN N') : ∀ (n k : Nat) (Ni : Mem), k + n = 5 → Fz Ni → (∀ b, b ≠ 195 → Ni b = N b) → (∀ j : Nat, j < k → Ni 195 (5 * (r : Int) + (j : Int)) = N 203 (5 * (i : Int) + (j : Int))) → (∀ j, ¬ (5 * (r : Int) ≤ j ∧ j < 5 * (r : Int) + k) → Ni 195 j = N 195 j) → WP 204 (0, 0) 41 [(2, 190), (0, (r : Int)), (0, (i : Int)), (0, (k : Int))] [] NN Ni Q := by
  intro n
  induction n with
  | zero =>
    intro k Ni hk hz h1 h2 h3
    obtain rfl : k = 5 := by omega
    refine WP.run [(204, 41)] [] 40 ?_
    simp only [bk204_0, bk204_7, bk204_11, bk204_14, bk204_21, bk204_24, bk204_36, bk204_39, bk204_41, bk204_46, bk204_72, U_iload_n, U_invokestatic1, U_if_eq, U_if_ge, U_bipush, U_ireturn, U_aload_n, U_invokevirtual0, U_if_ne, U_getfield, U_icmp_lt, U_iconst, U_istore_n, U_icmp_ge, U_imul, U_iadd, U_iald, U_iast, U_iinc, U_goto, UN_cc, UN_cn, UN_nc, UN_nn, UJ, lget, lset, lset2, entL, wsm, wcat, Option.toList_some, Option.toList_none, List.cons_append, List.nil_append, List.mem_cons, List.not_mem_nil, Prod.mk.injEq, or_false, false_or, or_true, true_or, and_true, true_and, and_false, false_and, and_self, ne_eq, not_false_eq_true, not_true_eq_false, forall_const, true_implies, false_implies, Nat.add_zero, Nat.zero_add, Nat.le_refl, Nat.zero_le, List.set_cons_zero, List.set_cons_succ, List.set_nil, ↓reduceIte, Nat.reduceAdd, Nat.reduceSub, Nat.reduceEqDiff, Nat.reduceLeDiff, Int.reduceEq, Int.reduceNe, Int.reduceNeg, reduceCtorEq]
    exact ⟨rr (by omega), fun e => absurd e (by omega), fun _ => hQ Ni ⟨h1, h2, h3⟩⟩
  | succ n ih =>
    intro k Ni hk hz h1 h2 h3
    have e : Ni 203 (5 * (i : Int) + (k : Int)) = N 203 (5 * (i : Int) + (k : Int)) := by rw [h1 203 (by decide)]
    refine WP.run [(204, 41)] [] 40 ?_
    simp only [bk204_0, bk204_7, bk204_11, bk204_14, bk204_21, bk204_24, bk204_36, bk204_39, bk204_41, bk204_46, bk204_72, U_iload_n, U_invokestatic1, U_if_eq, U_if_ge, U_bipush, U_ireturn, U_aload_n, U_invokevirtual0, U_if_ne, U_getfield, U_icmp_lt, U_iconst, U_istore_n, U_icmp_ge, U_imul, U_iadd, U_iald, U_iast, U_iinc, U_goto, UN_cc, UN_cn, UN_nc, UN_nn, UJ, lget, lset, lset2, entL, wsm, wcat, Option.toList_some, Option.toList_none, List.cons_append, List.nil_append, List.mem_cons, List.not_mem_nil, Prod.mk.injEq, or_false, false_or, or_true, true_or, and_true, true_and, and_false, false_and, and_self, ne_eq, not_false_eq_true, not_true_eq_false, forall_const, true_implies, false_implies, Nat.add_zero, Nat.zero_add, Nat.le_refl, Nat.zero_le, List.set_cons_zero, List.set_cons_succ, List.set_nil, ↓reduceIte, Nat.reduceAdd, Nat.reduceSub, Nat.reduceEqDiff, Nat.reduceLeDiff, Int.reduceEq, Int.reduceNe, Int.reduceNeg, reduceCtorEq, kd190, kd203, ln203, kd195, ln195, z190_18 hz, z190_9 hz, e]
    refine ⟨rr (by omega), fun _ => ⟨by omega, by omega, by omega, by omega, ?_⟩, fun e => absurd (by omega) e⟩
    refine ih (k + 1) _ (by omega) (hz.ust (fz_arr (Or.inl rfl) _)) (fun b hb => by rw [ust_ne hb]; exact h1 b hb) (fun j hj => ?_) (fun j hj => ?_)
    · rw [ust_at]
      by_cases q : j = k
      · rw [if_pos (by omega), q]
      · rw [if_neg (by omega)]; exact h2 j (by omega)
    · rw [ust_at, if_neg (by omega)]; exact h3 j (by omega)
set_option maxHeartbeats 8000000 in
theorem q_pick {p : Int} {g : Nat} {f : Pz p} {pu : List Int} {rg : Nat → Pz p × Pz p} {A tl : Nat → Int} {E : Nat → Nat} {N : Mem} {Q : Post} {z : Gq f g} {r i : Int} (h : MS g f pu rg A tl E N) (V : VS g f pu rg A tl E) (M : g ≠ 0 → mhP f g) (hr : R32 r) (hi : R32 i)
    (hQ : ∀ N' rg', MS g f pu rg' A tl E N' → clF N N' → rg' = (if oPick g f r i = 1 then upr rg r.toNat (((cll f g z)[i.toNat]?).getD z).1 else rg) → Q (some (0, oPick g f r i)) NN N') : CL 204 [(2, 190), (0, r), (0, i), (9, 0)] NN N Q := by
  have hi' := hi
  obtain ⟨i1, i2⟩ := hi'
  have bad : ∀ N', MS g f pu rg A tl E N' → clF N N' → oPick g f r i = -2 → Q (some (0, -2)) NN N' := fun N' a b e1 => by
    have := hQ N' rg a b (by rw [e1, if_neg (by decide)])
    rw [e1] at this; exact this
  refine WP.run [(204, 41)] [] 90 ?_
  simp only [bk204_0, bk204_7, bk204_11, bk204_14, bk204_21, bk204_24, bk204_36, bk204_39, bk204_41, bk204_46, bk204_72, U_iload_n, U_invokestatic1, U_if_eq, U_if_ge, U_bipush, U_ireturn, U_aload_n, U_invokevirtual0, U_if_ne, U_getfield, U_icmp_lt, U_iconst, U_istore_n, U_icmp_ge, U_imul, U_iadd, U_iald, U_iast, U_iinc, U_goto, UN_cc, UN_cn, UN_nc, UN_nn, UJ, lget, lset, lset2, entL, wsm, wcat, Option.toList_some, Option.toList_none, List.cons_append, List.nil_append, List.mem_cons, List.not_mem_nil, Prod.mk.injEq, or_false, false_or, or_true, true_or, and_true, true_and, and_false, false_and, and_self, ne_eq, not_false_eq_true, not_true_eq_false, forall_const, true_implies, false_implies, Nat.add_zero, Nat.zero_add, Nat.le_refl, Nat.zero_le, List.set_cons_zero, List.set_cons_succ, List.set_nil, ↓reduceIte, Nat.reduceAdd, Nat.reduceSub, Nat.reduceEqDiff, Nat.reduceLeDiff, Int.reduceEq, Int.reduceNe, Int.reduceNeg, reduceCtorEq]
  refine m_isReg hr ?_
  by_cases q : 0 ≤ r ∧ r < 6
  · rw [if_pos q]
    simp only [bk204_0, bk204_7, bk204_11, bk204_14, bk204_21, bk204_24, bk204_36, bk204_39, bk204_41, bk204_46, bk204_72, U_iload_n, U_invokestatic1, U_if_eq, U_if_ge, U_bipush, U_ireturn, U_aload_n, U_invokevirtual0, U_if_ne, U_getfield, U_icmp_lt, U_iconst, U_istore_n, U_icmp_ge, U_imul, U_iadd, U_iald, U_iast, U_iinc, U_goto, UN_cc, UN_cn, UN_nc, UN_nn, UJ, lget, lset, lset2, entL, wsm, wcat, Option.toList_some, Option.toList_none, List.cons_append, List.nil_append, List.mem_cons, List.not_mem_nil, Prod.mk.injEq, or_false, false_or, or_true, true_or, and_true, true_and, and_false, false_and, and_self, ne_eq, not_false_eq_true, not_true_eq_false, forall_const, true_implies, false_implies, Nat.add_zero, Nat.zero_add, Nat.le_refl, Nat.zero_le, List.set_cons_zero, List.set_cons_succ, List.set_nil, ↓reduceIte, Nat.reduceAdd, Nat.reduceSub, Nat.reduceEqDiff, Nat.reduceLeDiff, Int.reduceEq, Int.reduceNe, Int.reduceNeg, reduceCtorEq, kd190]
    by_cases q2 : i < 0
    · exact ⟨r3 (by omega), hi, fun _ => bad N h (clF.rf N) (by unfold oPick; rw [if_pos (Or.inr q2)]), fun e => absurd q2 e⟩
    refine ⟨r3 (by omega), hi, fun e => absurd e q2, fun _ => m_std h V ?_⟩
    have eo : oPick g f r i = if g = 0 then -3 else if ((tkl f g).length : Int) ≤ i then -2 else 1 := by unfold oPick; rw [if_neg (by omega)]
    by_cases q0 : g = 0
    · rw [if_pos q0]
      rw [if_pos q0] at eo
      simp only [bk204_0, bk204_7, bk204_11, bk204_14, bk204_21, bk204_24, bk204_36, bk204_39, bk204_41, bk204_46, bk204_72, U_iload_n, U_invokestatic1, U_if_eq, U_if_ge, U_bipush, U_ireturn, U_aload_n, U_invokevirtual0, U_if_ne, U_getfield, U_icmp_lt, U_iconst, U_istore_n, U_icmp_ge, U_imul, U_iadd, U_iald, U_iast, U_iinc, U_goto, UN_cc, UN_cn, UN_nc, UN_nn, UJ, lget, lset, lset2, entL, wsm, wcat, Option.toList_some, Option.toList_none, List.cons_append, List.nil_append, List.mem_cons, List.not_mem_nil, Prod.mk.injEq, or_false, false_or, or_true, true_or, and_true, true_and, and_false, false_and, and_self, ne_eq, not_false_eq_true, not_true_eq_false, forall_const, true_implies, false_implies, Nat.add_zero, Nat.zero_add, Nat.le_refl, Nat.zero_le, List.set_cons_zero, List.set_cons_succ, List.set_nil, ↓reduceIte, Nat.reduceAdd, Nat.reduceSub, Nat.reduceEqDiff, Nat.reduceLeDiff, Int.reduceEq, Int.reduceNe, Int.reduceNeg, reduceCtorEq]
      have := hQ N rg h (clF.rf N) (by rw [eo, if_neg (by decide)])
      rw [eo] at this
      exact ⟨r3 (by omega), this⟩
    · rw [if_neg q0]
      rw [if_neg q0] at eo
      have m2 := (M q0).2.1
      have hg := (V.cv q0).2.2.1.1
      simp only [bk204_0, bk204_7, bk204_11, bk204_14, bk204_21, bk204_24, bk204_36, bk204_39, bk204_41, bk204_46, bk204_72, U_iload_n, U_invokestatic1, U_if_eq, U_if_ge, U_bipush, U_ireturn, U_aload_n, U_invokevirtual0, U_if_ne, U_getfield, U_icmp_lt, U_iconst, U_istore_n, U_icmp_ge, U_imul, U_iadd, U_iald, U_iast, U_iinc, U_goto, UN_cc, UN_cn, UN_nc, UN_nn, UJ, lget, lset, lset2, entL, wsm, wcat, Option.toList_some, Option.toList_none, List.cons_append, List.nil_append, List.mem_cons, List.not_mem_nil, Prod.mk.injEq, or_false, false_or, or_true, true_or, and_true, true_and, and_false, false_and, and_self, ne_eq, not_false_eq_true, not_true_eq_false, forall_const, true_implies, false_implies, Nat.add_zero, Nat.zero_add, Nat.le_refl, Nat.zero_le, List.set_cons_zero, List.set_cons_succ, List.set_nil, ↓reduceIte, Nat.reduceAdd, Nat.reduceSub, Nat.reduceEqDiff, Nat.reduceLeDiff, Int.reduceEq, Int.reduceNe, Int.reduceNeg, reduceCtorEq, kd190]
      refine ⟨r3 (by omega), q_list h V q0 m2 fun N1 S1 G1 L1 F1 => ?_⟩
      have C1 : clF N N1 := F1.cl rfl
      simp only [bk204_0, bk204_7, bk204_11, bk204_14, bk204_21, bk204_24, bk204_36, bk204_39, bk204_41, bk204_46, bk204_72, U_iload_n, U_invokestatic1, U_if_eq, U_if_ge, U_bipush, U_ireturn, U_aload_n, U_invokevirtual0, U_if_ne, U_getfield, U_icmp_lt, U_iconst, U_istore_n, U_icmp_ge, U_imul, U_iadd, U_iald, U_iast, U_iinc, U_goto, UN_cc, UN_cn, UN_nc, UN_nn, UJ, lget, lset, lset2, entL, wsm, wcat, Option.toList_some, Option.toList_none, List.cons_append, List.nil_append, List.mem_cons, List.not_mem_nil, Prod.mk.injEq, or_false, false_or, or_true, true_or, and_true, true_and, and_false, false_and, and_self, ne_eq, not_false_eq_true, not_true_eq_false, forall_const, true_implies, false_implies, Nat.add_zero, Nat.zero_add, Nat.le_refl, Nat.zero_le, List.set_cons_zero, List.set_cons_succ, List.set_nil, ↓reduceIte, Nat.reduceAdd, Nat.reduceSub, Nat.reduceEqDiff, Nat.reduceLeDiff, Int.reduceEq, Int.reduceNe, Int.reduceNeg, reduceCtorEq, kd190, L1.1]
      by_cases c : ((tkl f g).length : Int) ≤ i
      · rw [if_pos c] at eo
        exact ⟨rr (by omega), fun e => absurd e (by omega), fun _ => bad N1 S1 C1 eo⟩
      · rw [if_neg c] at eo
        rw [eo] at hQ
        simp only [↓reduceIte] at hQ
        obtain ⟨k, rfl⟩ : ∃ k : Nat, r = k := ⟨r.toNat, by omega⟩
        obtain ⟨m, rfl⟩ : ∃ m : Nat, i = m := ⟨i.toNat, by omega⟩
        simp only [Int.toNat_natCast] at hQ
        obtain ⟨x, hx⟩ : ∃ x, (cll f g z)[m]? = some x := ⟨_, List.getElem?_eq_getElem (by rw [cll_len]; omega)⟩
        rw [hx] at hQ
        have W := L1.wk V.1 hg hx
        refine ⟨rr (by omega), fun _ => ?_, fun e => absurd (by omega) e⟩
        refine l_pick (N := N1) (r := k) (i := m) (by omega) (by omega) (fun N2 s2 => ?_) 5 0 N1 rfl S1.fz (fun _ _ => rfl) (fun j hj => by omega) (fun _ _ => rfl)
        refine hQ N2 _ (S1.rg (s2.f5.mo rfl rfl) (S1.1.fm s2.f5 ok_5 (by decide) (by decide) (by decide)) (fun l hl => ?_)) (C1.tr (s2.f5.cl rfl)) rfl
        unfold upr
        by_cases w : l = k
        · rw [if_pos w, w]; exact W.mv s2
        · rw [if_neg w]; exact WK.kp (S1.2.2.2.1 l hl) s2 w
  · rw [if_neg q]
    simp only [bk204_0, bk204_7, bk204_11, bk204_14, bk204_21, bk204_24, bk204_36, bk204_39, bk204_41, bk204_46, bk204_72, U_iload_n, U_invokestatic1, U_if_eq, U_if_ge, U_bipush, U_ireturn, U_aload_n, U_invokevirtual0, U_if_ne, U_getfield, U_icmp_lt, U_iconst, U_istore_n, U_icmp_ge, U_imul, U_iadd, U_iald, U_iast, U_iinc, U_goto, UN_cc, UN_cn, UN_nc, UN_nn, UJ, lget, lset, lset2, entL, wsm, wcat, Option.toList_some, Option.toList_none, List.cons_append, List.nil_append, List.mem_cons, List.not_mem_nil, Prod.mk.injEq, or_false, false_or, or_true, true_or, and_true, true_and, and_false, false_and, and_self, ne_eq, not_false_eq_true, not_true_eq_false, forall_const, true_implies, false_implies, Nat.add_zero, Nat.zero_add, Nat.le_refl, Nat.zero_le, List.set_cons_zero, List.set_cons_succ, List.set_nil, ↓reduceIte, Nat.reduceAdd, Nat.reduceSub, Nat.reduceEqDiff, Nat.reduceLeDiff, Int.reduceEq, Int.reduceNe, Int.reduceNeg, reduceCtorEq]
    exact ⟨r3 (by omega), bad N h (clF.rf N) (by unfold oPick; rw [if_pos (Or.inl q)])⟩
/-- likeness of two places of two cells, k numbers of it -/
def lkC (N : Mem) (c d : Int) (t a k : Nat) : Int := if ∀ j : Nat, j < k → N c (5 * (t : Int) + (j : Int)) = N d (5 * (a : Int) + (j : Int)) then 1 else 0
theorem lkC_01 (N : Mem) (c d : Int) (t a k : Nat) : lkC N c d t a k = 1 ∨ lkC N c d t a k = 0 := by unfold lkC; split <;> simp
theorem lkC_s {N : Mem} {c d : Int} {t a k : Nat} : lkC N c d t a (k + 1) = if lkC N c d t a k = 1 ∧ N c (5 * (t : Int) + (k : Int)) = N d (5 * (a : Int) + (k : Int)) then 1 else 0 := by
  unfold lkC
  by_cases h : ∀ j : Nat, j < k → N c (5 * (t : Int) + (j : Int)) = N d (5 * (a : Int) + (j : Int))
  · rw [if_pos h]
    by_cases e : N c (5 * (t : Int) + (k : Int)) = N d (5 * (a : Int) + (k : Int))
    · rw [if_pos (c := 1 = 1 ∧ N c (5 * (t : Int) + (k : Int)) = N d (5 * (a : Int) + (k : Int))) ⟨rfl, e⟩]
      exact if_pos (fun j hj => by
        by_cases q : j = k
        · rw [q]; exact e
        · exact h j (by omega))
    · rw [if_neg (c := 1 = 1 ∧ N c (5 * (t : Int) + (k : Int)) = N d (5 * (a : Int) + (k : Int))) (fun q => e q.2)]
      exact if_neg (fun q => e (q k (by omega)))
  · rw [if_neg h, if_neg (c := 0 = 1 ∧ N c (5 * (t : Int) + (k : Int)) = N d (5 * (a : Int) + (k : Int))) (fun q => absurd q.1 (by decide))]
    exact if_neg (fun q => h (fun j hj => q j (by omega)))
theorem wkD_rg {p : Int} (hp : Pr p) {x : Pz p × Pz p} (h1 : 1 ≤ dg x.1) (h3 : dg x.1 ≤ 3) (j : Nat) : 0 ≤ wkD x j ∧ wkD x j ≤ 13 := by
  have hpp := hp.pos
  have a0 := pz_rg hp x.1 0
  have a1 := pz_rg hp x.1 1
  have b0 := pz_rg hp x.2 0
  have b1 := pz_rg hp x.2 1
  unfold wkD
  split
  · omega
  · split
    · split <;> omega
    · split
      · split <;> omega
      · split <;> omega
theorem gq_rg {p : Int} {f : Pz p} {g : Nat} (hp : Pr p) (hg : g ≤ 2) (x : Gq f g) (j : Nat) : 0 ≤ wkD x.1 j ∧ wkD x.1 j ≤ 13 := by
  obtain ⟨x1, x2, x3, -⟩ := x.2
  exact wkD_rg hp (by have := x1.1; omega) (by omega) j
theorem gq_inj {p : Int} {f : Pz p} {g : Nat} (hp : Pr p) (hg : g ≤ 2) {x y : Gq f g} (h : ∀ j : Nat, j < 5 → wkD x.1 j = wkD y.1 j) : x = y := by
  obtain ⟨x1, x2, x3, -⟩ := x.2
  obtain ⟨y1, y2, y3, -⟩ := y.2
  exact Subtype.ext (wk_inj hp x1 y1 (by omega) x3 y3 h)
theorem lkC_is {p : Int} {f : Pz p} {g : Nat} {N : Mem} {c d : Int} {t a : Nat} {x y : Gq f g} (hp : Pr p) (hg : g ≤ 2) (wx : WK N c t x.1) (wy : WK N d a y.1) : lkC N c d t a 5 = 1 ↔ x = y := by
  unfold lkC
  constructor
  · intro h
    refine gq_inj hp hg fun j hj => ?_
    by_cases e : ∀ j : Nat, j < 5 → N c (5 * (t : Int) + (j : Int)) = N d (5 * (a : Int) + (j : Int))
    · rw [← wx j hj, ← wy j hj]; exact e j hj
    · rw [if_neg e] at h; cases h
  · intro h
    subst h
    exact if_pos (fun j hj => by rw [wx j hj, wy j hj])
set_option maxHeartbeats 8000000 in
theorem l_whI {p : Int} {N : Mem} {Q : Post} {f : Pz p} {g i r : Nat} {T : Int} {x y : Gq f g} (hp : Pr p) (hg : g ≤ 2) (hz : Fz N) (hr : r < 6) (hi : i < 520) (wx : WK N 203 i x.1) (wy : WK N 195 r y.1) (hT : R32 T) (hQ : ∀ a : Int, WP 209 (0, 0) 28 [(2, 190), (0, (r : Int)), (0, if lkC N 203 195 i r 5 = 1 then (i : Int) else T), (0, (i : Int) + 1), (0, a), (0, 5)] [] NN N Q) : ∀ (n k : Nat), k + n = 5 → WP 209 (0, 0) 42 [(2, 190), (0, (r : Int)), (0, T), (0, (i : Int)), (0, lkC N 203 195 i r k), (0, (k : Int))] [] NN N Q := by
  intro n
  induction n with
  | zero =>
    intro k hk
    obtain rfl : k = 5 := by omega
    have h01 := lkC_01 N 203 195 i r 5
    have hq := hQ (lkC N 203 195 i r 5)
    refine WP.run [(209, 28), (209, 42)] [] 60 ?_
    simp only [bk209_0, bk209_7, bk209_10, bk209_17, bk209_20, bk209_28, bk209_36, bk209_42, bk209_48, bk209_53, bk209_78, bk209_82, bk209_83, bk209_91, bk209_96, bk209_100, bk209_101, bk209_108, U_iload_n, U_invokestatic1, U_if_ne, U_bipush, U_ireturn, U_aload_n, U_invokevirtual0, U_iconst, U_istore_n, U_getfield, U_icmp_ge, U_istore, U_iload, U_if_eq, U_imul, U_iadd, U_iald, U_icmp_ne, U_goto, U_iinc, UN_cc, UN_cn, UN_nc, UN_nn, UJ, lget, lset, lset2, entL, wsm, wcat, Option.toList_some, Option.toList_none, List.cons_append, List.nil_append, List.mem_cons, List.not_mem_nil, Prod.mk.injEq, or_false, false_or, or_true, true_or, and_true, true_and, and_false, false_and, and_self, ne_eq, not_false_eq_true, not_true_eq_false, forall_const, true_implies, false_implies, Nat.add_zero, Nat.zero_add, Nat.le_refl, Nat.zero_le, List.set_cons_zero, List.set_cons_succ, List.set_nil, ↓reduceIte, Nat.reduceAdd, Nat.reduceSub, Nat.reduceEqDiff, Nat.reduceLeDiff, Int.reduceEq, Int.reduceNe, Int.reduceNeg, reduceCtorEq]
    refine ⟨rr (by omega), fun e => absurd e (by omega), fun _ => ⟨r3 (by omega), fun e => ?_, fun e => ?_⟩⟩
    · rw [if_neg (by omega)] at hq; exact hq
    · rw [if_pos (by omega)] at hq; exact hq
  | succ n ih =>
    intro k hk
    have h01 := lkC_01 N 203 195 i r k
    have nx := ih (k + 1) (by omega)
    rw [lkC_s] at nx
    have e1 := wx k (by omega)
    have e2 := wy k (by omega)
    have g1 := gq_rg hp hg x k
    have g2 := gq_rg hp hg y k
    rw [e1, e2] at nx
    have nx0 : ¬ (lkC N 203 195 i r k = 1 ∧ wkD x.1 k = wkD y.1 k) → WP 209 (0, 0) 42 [(2, 190), (0, (r : Int)), (0, T), (0, (i : Int)), (0, 0), (0, (k : Int) + 1)] [] NN N Q := fun e => by rw [if_neg e] at nx; exact nx
    have nx1 : (lkC N 203 195 i r k = 1 ∧ wkD x.1 k = wkD y.1 k) → WP 209 (0, 0) 42 [(2, 190), (0, (r : Int)), (0, T), (0, (i : Int)), (0, 1), (0, (k : Int) + 1)] [] NN N Q := fun e => by rw [if_pos e] at nx; exact nx
    refine WP.run [(209, 28), (209, 42)] [] 60 ?_
    simp only [bk209_0, bk209_7, bk209_10, bk209_17, bk209_20, bk209_28, bk209_36, bk209_42, bk209_48, bk209_53, bk209_78, bk209_82, bk209_83, bk209_91, bk209_96, bk209_100, bk209_101, bk209_108, U_iload_n, U_invokestatic1, U_if_ne, U_bipush, U_ireturn, U_aload_n, U_invokevirtual0, U_iconst, U_istore_n, U_getfield, U_icmp_ge, U_istore, U_iload, U_if_eq, U_imul, U_iadd, U_iald, U_icmp_ne, U_goto, U_iinc, UN_cc, UN_cn, UN_nc, UN_nn, UJ, lget, lset, lset2, entL, wsm, wcat, Option.toList_some, Option.toList_none, List.cons_append, List.nil_append, List.mem_cons, List.not_mem_nil, Prod.mk.injEq, or_false, false_or, or_true, true_or, and_true, true_and, and_false, false_and, and_self, ne_eq, not_false_eq_true, not_true_eq_false, forall_const, true_implies, false_implies, Nat.add_zero, Nat.zero_add, Nat.le_refl, Nat.zero_le, List.set_cons_zero, List.set_cons_succ, List.set_nil, ↓reduceIte, Nat.reduceAdd, Nat.reduceSub, Nat.reduceEqDiff, Nat.reduceLeDiff, Int.reduceEq, Int.reduceNe, Int.reduceNeg, reduceCtorEq, kd190, kd203, kd195, ln203, ln195, z190_18 hz, z190_9 hz, e1, e2]
    refine ⟨rr (by omega), fun _ => ⟨r3 (by omega), fun e => nx0 (fun q => by omega), fun e => ⟨by omega, by omega, by omega, by omega, rr (by omega), fun e3 => nx1 ⟨by omega, e3⟩, fun e3 => nx0 (fun q => e3 q.2)⟩⟩, fun e => absurd (by omega) e⟩
set_option maxHeartbeats 8000000 in
theorem q_which {p : Int} {g : Nat} {f : Pz p} {pu : List Int} {rg : Nat → Pz p × Pz p} {A tl : Nat → Int} {E : Nat → Nat} {N : Mem} {Q : Post} {z : Gq f g} {r : Int} (h : MS g f pu rg A tl E N) (V : VS g f pu rg A tl E) (M : g ≠ 0 → mhP f g) (hr : R32 r)
    (hQ : ∀ N', MS g f pu rg A tl E N' → clF N N' → Q (some (0, oReg g r (clI z (rx z rg r.toNat)))) NN N') : CL 209 [(2, 190), (0, r), (9, 0), (9, 0), (9, 0), (9, 0)] NN N Q := by
  unfold oReg at hQ
  refine WP.run [(209, 28)] [] 90 ?_
  simp only [bk209_0, bk209_7, bk209_10, bk209_17, bk209_20, bk209_28, bk209_36, bk209_42, bk209_48, bk209_53, bk209_78, bk209_82, bk209_83, bk209_91, bk209_96, bk209_100, bk209_101, bk209_108, U_iload_n, U_invokestatic1, U_if_ne, U_bipush, U_ireturn, U_aload_n, U_invokevirtual0, U_iconst, U_istore_n, U_getfield, U_icmp_ge, U_istore, U_iload, U_if_eq, U_imul, U_iadd, U_iald, U_icmp_ne, U_goto, U_iinc, UN_cc, UN_cn, UN_nc, UN_nn, UJ, lget, lset, lset2, entL, wsm, wcat, Option.toList_some, Option.toList_none, List.cons_append, List.nil_append, List.mem_cons, List.not_mem_nil, Prod.mk.injEq, or_false, false_or, or_true, true_or, and_true, true_and, and_false, false_and, and_self, ne_eq, not_false_eq_true, not_true_eq_false, forall_const, true_implies, false_implies, Nat.add_zero, Nat.zero_add, Nat.le_refl, Nat.zero_le, List.set_cons_zero, List.set_cons_succ, List.set_nil, ↓reduceIte, Nat.reduceAdd, Nat.reduceSub, Nat.reduceEqDiff, Nat.reduceLeDiff, Int.reduceEq, Int.reduceNe, Int.reduceNeg, reduceCtorEq]
  refine m_isReg hr ?_
  by_cases q : 0 ≤ r ∧ r < 6
  · rw [if_pos q]
    rw [if_neg (by omega)] at hQ
    simp only [bk209_0, bk209_7, bk209_10, bk209_17, bk209_20, bk209_28, bk209_36, bk209_42, bk209_48, bk209_53, bk209_78, bk209_82, bk209_83, bk209_91, bk209_96, bk209_100, bk209_101, bk209_108, U_iload_n, U_invokestatic1, U_if_ne, U_bipush, U_ireturn, U_aload_n, U_invokevirtual0, U_iconst, U_istore_n, U_getfield, U_icmp_ge, U_istore, U_iload, U_if_eq, U_imul, U_iadd, U_iald, U_icmp_ne, U_goto, U_iinc, UN_cc, UN_cn, UN_nc, UN_nn, UJ, lget, lset, lset2, entL, wsm, wcat, Option.toList_some, Option.toList_none, List.cons_append, List.nil_append, List.mem_cons, List.not_mem_nil, Prod.mk.injEq, or_false, false_or, or_true, true_or, and_true, true_and, and_false, false_and, and_self, ne_eq, not_false_eq_true, not_true_eq_false, forall_const, true_implies, false_implies, Nat.add_zero, Nat.zero_add, Nat.le_refl, Nat.zero_le, List.set_cons_zero, List.set_cons_succ, List.set_nil, ↓reduceIte, Nat.reduceAdd, Nat.reduceSub, Nat.reduceEqDiff, Nat.reduceLeDiff, Int.reduceEq, Int.reduceNe, Int.reduceNeg, reduceCtorEq, kd190]
    refine ⟨r3 (by omega), m_std h V ?_⟩
    by_cases q0 : g = 0
    · rw [if_pos q0]
      rw [if_pos q0] at hQ
      simp only [bk209_0, bk209_7, bk209_10, bk209_17, bk209_20, bk209_28, bk209_36, bk209_42, bk209_48, bk209_53, bk209_78, bk209_82, bk209_83, bk209_91, bk209_96, bk209_100, bk209_101, bk209_108, U_iload_n, U_invokestatic1, U_if_ne, U_bipush, U_ireturn, U_aload_n, U_invokevirtual0, U_iconst, U_istore_n, U_getfield, U_icmp_ge, U_istore, U_iload, U_if_eq, U_imul, U_iadd, U_iald, U_icmp_ne, U_goto, U_iinc, UN_cc, UN_cn, UN_nc, UN_nn, UJ, lget, lset, lset2, entL, wsm, wcat, Option.toList_some, Option.toList_none, List.cons_append, List.nil_append, List.mem_cons, List.not_mem_nil, Prod.mk.injEq, or_false, false_or, or_true, true_or, and_true, true_and, and_false, false_and, and_self, ne_eq, not_false_eq_true, not_true_eq_false, forall_const, true_implies, false_implies, Nat.add_zero, Nat.zero_add, Nat.le_refl, Nat.zero_le, List.set_cons_zero, List.set_cons_succ, List.set_nil, ↓reduceIte, Nat.reduceAdd, Nat.reduceSub, Nat.reduceEqDiff, Nat.reduceLeDiff, Int.reduceEq, Int.reduceNe, Int.reduceNeg, reduceCtorEq]
      exact ⟨r3 (by omega), hQ N h (clF.rf N)⟩
    · rw [if_neg q0]
      rw [if_neg q0] at hQ
      obtain ⟨k, rfl⟩ : ∃ k : Nat, r = k := ⟨r.toNat, by omega⟩
      simp only [Int.toNat_natCast] at hQ
      have m2 := (M q0).2.1
      have hg := (V.cv q0).2.2.1.1
      have hg2 := V.g2
      simp only [bk209_0, bk209_7, bk209_10, bk209_17, bk209_20, bk209_28, bk209_36, bk209_42, bk209_48, bk209_53, bk209_78, bk209_82, bk209_83, bk209_91, bk209_96, bk209_100, bk209_101, bk209_108, U_iload_n, U_invokestatic1, U_if_ne, U_bipush, U_ireturn, U_aload_n, U_invokevirtual0, U_iconst, U_istore_n, U_getfield, U_icmp_ge, U_istore, U_iload, U_if_eq, U_imul, U_iadd, U_iald, U_icmp_ne, U_goto, U_iinc, UN_cc, UN_cn, UN_nc, UN_nn, UJ, lget, lset, lset2, entL, wsm, wcat, Option.toList_some, Option.toList_none, List.cons_append, List.nil_append, List.mem_cons, List.not_mem_nil, Prod.mk.injEq, or_false, false_or, or_true, true_or, and_true, true_and, and_false, false_and, and_self, ne_eq, not_false_eq_true, not_true_eq_false, forall_const, true_implies, false_implies, Nat.add_zero, Nat.zero_add, Nat.le_refl, Nat.zero_le, List.set_cons_zero, List.set_cons_succ, List.set_nil, ↓reduceIte, Nat.reduceAdd, Nat.reduceSub, Nat.reduceEqDiff, Nat.reduceLeDiff, Int.reduceEq, Int.reduceNe, Int.reduceNeg, reduceCtorEq, kd190]
      refine ⟨r3 (by omega), q_list h V q0 m2 fun N1 S1 G1 L1 F1 => ?_⟩
      have C1 : clF N N1 := F1.cl rfl
      have hq := hQ N1 S1 C1
      have wy := S1.2.2.2.1 k (by omega)
      rw [← rxw (z := z) V q0] at wy
      have at0 := clI_is V.1 hg z (rx z rg k)
      have hcl : clI z (rx z rg k) < (tkl f g).length := by
        have := (List.getElem?_eq_some_iff.mp at0).1
        rw [cll_len] at this; exact this
      have key : ∀ (n i : Nat) (a b : Nat × Int), i + n = (tkl f g).length → WP 209 (0, 0) 28 [(2, 190), (0, (k : Int)), (0, if clI z (rx z rg k) < i then (clI z (rx z rg k) : Int) else -1), (0, (i : Int)), a, b] [] NN N1 Q := by
        intro n
        induction n with
        | zero =>
          intro i a b hi
          obtain rfl : i = (tkl f g).length := by omega
          rw [if_pos hcl]
          refine WP.run [(209, 28)] [] 60 ?_
          simp only [bk209_0, bk209_7, bk209_10, bk209_17, bk209_20, bk209_28, bk209_36, bk209_42, bk209_48, bk209_53, bk209_78, bk209_82, bk209_83, bk209_91, bk209_96, bk209_100, bk209_101, bk209_108, U_iload_n, U_invokestatic1, U_if_ne, U_bipush, U_ireturn, U_aload_n, U_invokevirtual0, U_iconst, U_istore_n, U_getfield, U_icmp_ge, U_istore, U_iload, U_if_eq, U_imul, U_iadd, U_iald, U_icmp_ne, U_goto, U_iinc, UN_cc, UN_cn, UN_nc, UN_nn, UJ, lget, lset, lset2, entL, wsm, wcat, Option.toList_some, Option.toList_none, List.cons_append, List.nil_append, List.mem_cons, List.not_mem_nil, Prod.mk.injEq, or_false, false_or, or_true, true_or, and_true, true_and, and_false, false_and, and_self, ne_eq, not_false_eq_true, not_true_eq_false, forall_const, true_implies, false_implies, Nat.add_zero, Nat.zero_add, Nat.le_refl, Nat.zero_le, List.set_cons_zero, List.set_cons_succ, List.set_nil, ↓reduceIte, Nat.reduceAdd, Nat.reduceSub, Nat.reduceEqDiff, Nat.reduceLeDiff, Int.reduceEq, Int.reduceNe, Int.reduceNeg, reduceCtorEq, kd190, L1.1]
          exact ⟨rr (by omega), fun e => absurd e (by omega), fun _ => hq⟩
        | succ n ih =>
          intro i a b hi
          obtain ⟨x, hx⟩ : ∃ x, (cll f g z)[i]? = some x := ⟨_, List.getElem?_eq_getElem (by rw [cll_len]; omega)⟩
          have wx := L1.wk V.1 hg hx
          have hlk := lkC_is V.1 hg2 wx wy
          refine WP.run [(209, 28), (209, 42)] [] 60 ?_
          simp only [bk209_0, bk209_7, bk209_10, bk209_17, bk209_20, bk209_28, bk209_36, bk209_42, bk209_48, bk209_53, bk209_78, bk209_82, bk209_83, bk209_91, bk209_96, bk209_100, bk209_101, bk209_108, U_iload_n, U_invokestatic1, U_if_ne, U_bipush, U_ireturn, U_aload_n, U_invokevirtual0, U_iconst, U_istore_n, U_getfield, U_icmp_ge, U_istore, U_iload, U_if_eq, U_imul, U_iadd, U_iald, U_icmp_ne, U_goto, U_iinc, UN_cc, UN_cn, UN_nc, UN_nn, UJ, lget, lset, lset2, entL, wsm, wcat, Option.toList_some, Option.toList_none, List.cons_append, List.nil_append, List.mem_cons, List.not_mem_nil, Prod.mk.injEq, or_false, false_or, or_true, true_or, and_true, true_and, and_false, false_and, and_self, ne_eq, not_false_eq_true, not_true_eq_false, forall_const, true_implies, false_implies, Nat.add_zero, Nat.zero_add, Nat.le_refl, Nat.zero_le, List.set_cons_zero, List.set_cons_succ, List.set_nil, ↓reduceIte, Nat.reduceAdd, Nat.reduceSub, Nat.reduceEqDiff, Nat.reduceLeDiff, Int.reduceEq, Int.reduceNe, Int.reduceNeg, reduceCtorEq, kd190, L1.1]
          refine ⟨rr (by omega), fun _ => ?_, fun e => absurd (by omega) e⟩
          have I := l_whI (p := p) (N := N1) (Q := Q) (f := f) (g := g) (i := i) (r := k) (T := if clI z (rx z rg k) < i then (clI z (rx z rg k) : Int) else -1) (x := x) (y := rx z rg k) V.1 hg2 S1.fz (by omega) (by omega) wx wy (by split <;> exact r3 (by omega)) (fun a => ?_) 5 0 rfl
          · exact I
          · have nx := ih (i + 1) (0, a) (0, 5) (by omega)
            by_cases e : x = rx z rg k
            · have ei : clI z (rx z rg k) = i := clI_un V.1 hg (by rw [hx, e])
              rw [if_pos (hlk.mpr e)]
              rw [if_pos (by omega), ei] at nx; exact nx
            · have ei : clI z (rx z rg k) ≠ i := fun w => e (by
                rw [w, hx] at at0; exact Option.some.inj at0)
              rw [if_neg (fun w => e (hlk.mp w))]
              by_cases c : clI z (rx z rg k) < i
              · rw [if_pos c]
                rw [if_pos (by omega)] at nx; exact nx
              · rw [if_neg c]
                rw [if_neg (by omega)] at nx; exact nx
      have K := key (tkl f g).length 0 (9, 0) (9, 0) (by omega)
      rw [if_neg (by omega)] at K
      simp only [bk209_0, bk209_7, bk209_10, bk209_17, bk209_20, bk209_28, bk209_36, bk209_42, bk209_48, bk209_53, bk209_78, bk209_82, bk209_83, bk209_91, bk209_96, bk209_100, bk209_101, bk209_108, U_iload_n, U_invokestatic1, U_if_ne, U_bipush, U_ireturn, U_aload_n, U_invokevirtual0, U_iconst, U_istore_n, U_getfield, U_icmp_ge, U_istore, U_iload, U_if_eq, U_imul, U_iadd, U_iald, U_icmp_ne, U_goto, U_iinc, UN_cc, UN_cn, UN_nc, UN_nn, UJ, lget, lset, lset2, entL, wsm, wcat, Option.toList_some, Option.toList_none, List.cons_append, List.nil_append, List.mem_cons, List.not_mem_nil, Prod.mk.injEq, or_false, false_or, or_true, true_or, and_true, true_and, and_false, false_and, and_self, ne_eq, not_false_eq_true, not_true_eq_false, forall_const, true_implies, false_implies, Nat.add_zero, Nat.zero_add, Nat.le_refl, Nat.zero_le, List.set_cons_zero, List.set_cons_succ, List.set_nil, ↓reduceIte, Nat.reduceAdd, Nat.reduceSub, Nat.reduceEqDiff, Nat.reduceLeDiff, Int.reduceEq, Int.reduceNe, Int.reduceNeg, reduceCtorEq]
      exact K
  · rw [if_neg q]
    rw [if_pos q] at hQ
    simp only [bk209_0, bk209_7, bk209_10, bk209_17, bk209_20, bk209_28, bk209_36, bk209_42, bk209_48, bk209_53, bk209_78, bk209_82, bk209_83, bk209_91, bk209_96, bk209_100, bk209_101, bk209_108, U_iload_n, U_invokestatic1, U_if_ne, U_bipush, U_ireturn, U_aload_n, U_invokevirtual0, U_iconst, U_istore_n, U_getfield, U_icmp_ge, U_istore, U_iload, U_if_eq, U_imul, U_iadd, U_iald, U_icmp_ne, U_goto, U_iinc, UN_cc, UN_cn, UN_nc, UN_nn, UJ, lget, lset, lset2, entL, wsm, wcat, Option.toList_some, Option.toList_none, List.cons_append, List.nil_append, List.mem_cons, List.not_mem_nil, Prod.mk.injEq, or_false, false_or, or_true, true_or, and_true, true_and, and_false, false_and, and_self, ne_eq, not_false_eq_true, not_true_eq_false, forall_const, true_implies, false_implies, Nat.add_zero, Nat.zero_add, Nat.le_refl, Nat.zero_le, List.set_cons_zero, List.set_cons_succ, List.set_nil, ↓reduceIte, Nat.reduceAdd, Nat.reduceSub, Nat.reduceEqDiff, Nat.reduceLeDiff, Int.reduceEq, Int.reduceNe, Int.reduceNeg, reduceCtorEq]
    exact ⟨r3 (by omega), hQ N h (clF.rf N)⟩
