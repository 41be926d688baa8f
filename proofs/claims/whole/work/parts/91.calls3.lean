/-! CALLS OF THE CLASS: the list, orders, the group -/
theorem CS.ls {p : Int} {g : Nat} {f : Pz p} {pu : List Int} {rg : Nat → Pz p × Pz p} {A tl : Nat → Int} {E : Nat → Nat} {N : Mem} {N' : Mem} {ρ' : Int → Option (Pz p)} (h : CS g f pu rg A tl E N) (S : ST p N' ρ') (R : RgA ρ' g f rg) (F : FX [88, 89] N N') (g0 : 0 < g) (T : TkA N' (tkl f g)) : CS g f pu rg A tl E N' := by
  obtain ⟨-, a1, a2, a3, a4, a5, a6, a7, a8, a9⟩ := h
  have c : ∀ b, csC b = true → b ≠ 88 → b ≠ 89 → N' b = N b := fun b hb h1 h2 => F b (csC_inR hb) (by simp [h1, h2])
  exact ⟨⟨ρ', S, R⟩, a1.fx (c _ rfl (by decide) (by decide)) (c _ rfl (by decide) (by decide)), a2.fx (c _ rfl (by decide) (by decide)) (c _ rfl (by decide) (by decide)) (c _ rfl (by decide) (by decide)) (c _ rfl (by decide) (by decide)) (c _ rfl (by decide) (by decide)), fun i hi => by rw [c 109 rfl (by decide) (by decide)]; exact a3 i hi, fun i hi => by rw [c 121 rfl (by decide) (by decide)]; exact a4 i hi, fun i hi => by rw [c 189 rfl (by decide) (by decide)]; exact a5 i hi, Or.inr ⟨g0, T⟩, a7.fx (c _ rfl (by decide) (by decide)) (c _ rfl (by decide) (by decide)), a8.fx (c _ rfl (by decide) (by decide)) (c _ rfl (by decide) (by decide)), a9.fx S.1.2.1 (c _ rfl (by decide) (by decide)) (c _ rfl (by decide) (by decide)) (c _ rfl (by decide) (by decide)) (c _ rfl (by decide) (by decide)) (fun b h1 h2 => c b (csC_cd (Or.inl ⟨h1, h2⟩)) (by omega) (by omega)) (fun b h1 h2 => c b (csC_cd (Or.inr ⟨h1, by omega⟩)) (by omega) (by omega))⟩
theorem CS.gp {p : Int} {g : Nat} {f : Pz p} {pu : List Int} {rg : Nat → Pz p × Pz p} {A tl : Nat → Int} {E : Nat → Nat} {N : Mem} {N' : Mem} {ρ' : Int → Option (Pz p)} (h : CS g f pu rg A tl E N) (S : ST p N' ρ') (R : RgA ρ' g f rg) (F : FX [94, 95, 96, 97] N N') (T : GpA N' f g) : CS g f pu rg A tl E N' := by
  obtain ⟨-, a1, a2, a3, a4, a5, a6, a7, a8, a9⟩ := h
  have c : ∀ b, csC b = true → b ≠ 94 → b ≠ 97 → b ≠ 95 → b ≠ 96 → N' b = N b := fun b hb h1 h2 h3 h4 => F b (csC_inR hb) (by simp [h1, h2, h3, h4])
  exact ⟨⟨ρ', S, R⟩, a1.fx (c _ rfl (by decide) (by decide) (by decide) (by decide)) (c _ rfl (by decide) (by decide) (by decide) (by decide)), a2.fx (c _ rfl (by decide) (by decide) (by decide) (by decide)) (c _ rfl (by decide) (by decide) (by decide) (by decide)) (c _ rfl (by decide) (by decide) (by decide) (by decide)) (c _ rfl (by decide) (by decide) (by decide) (by decide)) (c _ rfl (by decide) (by decide) (by decide) (by decide)), fun i hi => by rw [c 109 rfl (by decide) (by decide) (by decide) (by decide)]; exact a3 i hi, fun i hi => by rw [c 121 rfl (by decide) (by decide) (by decide) (by decide)]; exact a4 i hi, fun i hi => by rw [c 189 rfl (by decide) (by decide) (by decide) (by decide)]; exact a5 i hi, a6.fx (c _ rfl (by decide) (by decide) (by decide) (by decide)) (c _ rfl (by decide) (by decide) (by decide) (by decide)), T, a8.fx (c _ rfl (by decide) (by decide) (by decide) (by decide)) (c _ rfl (by decide) (by decide) (by decide) (by decide)), a9.fx S.1.2.1 (c _ rfl (by decide) (by decide) (by decide) (by decide)) (c _ rfl (by decide) (by decide) (by decide) (by decide)) (c _ rfl (by decide) (by decide) (by decide) (by decide)) (c _ rfl (by decide) (by decide) (by decide) (by decide)) (fun b h1 h2 => c b (csC_cd (Or.inl ⟨h1, h2⟩)) (by omega) (by omega) (by omega) (by omega)) (fun b h1 h2 => c b (csC_cd (Or.inr ⟨h1, by omega⟩)) (by omega) (by omega) (by omega) (by omega))⟩
theorem GG_un {p : Int} {f : Pz p} {g : Nat} {ad ad' : Gq f g → Gq f g → Gq f g} {z z' : Gq f g} {ng ng' : Gq f g → Gq f g} (h : GG f g ad z ng) (h' : GG f g ad' z' ng') : ad = ad' ∧ z = z' ∧ ng = ng' := by
  refine ⟨funext fun a => funext fun b => ?_, Subtype.ext (by rw [h.2.2.1, h'.2.2.1]), funext fun a => Subtype.ext (by rw [h.2.2.2, h'.2.2.2])⟩
  exact (h'.2.1 a b (ad a b)).mp ((h.2.1 a b (ad a b)).mpr rfl)
set_option maxHeartbeats 8000000 in
theorem k_list {p : Int} {g : Nat} {f : Pz p} {pu : List Int} {rg : Nat → Pz p × Pz p} {A tl : Nat → Int} {E : Nat → Nat} {N : Mem} {Q : Post} (h : CS g f pu rg A tl E N) (V : VS g f pu rg A tl E) (q0 : g ≠ 0) (hQ : ∀ N' ρ', CS g f pu rg A tl E N' → ST p N' ρ' → RgA ρ' g f rg → TkA N' (tkl f g) → CvN N' f g → mdF N N' → Q none NN N') : CL 96 [(2, 88)] NN N Q := by
  have h0 := h
  obtain ⟨⟨ρ, S, R⟩, hPu, hCr, -, -, -, hLs, -⟩ := h
  have hc := (hCr.resolve_left (fun e => q0 e.1)).2
  refine s_lensure S (R.1 (by omega)) hc.1 V.g2 (hLs.imp_right (fun e => e.2)) fun N1 ρ1 S1 R1 F1 T1 => ?_
  have R' : RgA ρ1 g f rg := R.kp (fun y hy => R1 y (by unfold lro; omega))
  refine hQ N1 ρ1 (h0.ls S1 R' F1 (by omega) T1) S1 R' T1 ?_ (F1.md (by decide))
  exact hc.fx (F1 21 (by decide) (by decide)) (F1 26 (by decide) (by decide)) (F1 27 (by decide) (by decide)) (F1 29 (by decide) (by decide)) (F1 30 (by decide) (by decide))
noncomputable def oPick {p : Int} (g : Nat) (f : Pz p) (r i : Int) : Int := if ¬ (0 ≤ r ∧ r < 6) ∨ i < 0 then -2 else if g = 0 then -3 else if ((tkl f g).length : Int) ≤ i then -2 else 1
set_option maxHeartbeats 8000000 in
theorem k_pick {p : Int} {g : Nat} {f : Pz p} {pu : List Int} {rg : Nat → Pz p × Pz p} {A tl : Nat → Int} {E : Nat → Nat} {N : Mem} {Q : Post} {z : Gq f g} {r i : Int} (h : CS g f pu rg A tl E N) (V : VS g f pu rg A tl E) (M : g ≠ 0 → mhP f g) (hr : R32 r) (hi : R32 i)
    (hQ : ∀ N' rg', CS g f pu rg' A tl E N' → mdF N N' → rg' = (if oPick g f r i = 1 then upr rg r.toNat (((cll f g z)[i.toNat]?).getD z).1 else rg) → Q (some (0, oPick g f r i)) NN N') : CL 131 [(2, 1), (0, r), (0, i)] NN N Q := by
  have h0 := h
  obtain ⟨⟨ρ, S, R⟩, hPu, hCr, -⟩ := h
  unfold oPick at hQ
  have hi' := hi
  obtain ⟨i1, i2⟩ := hi'
  have bad : (¬ (0 ≤ r ∧ r < 6) ∨ i < 0) → Q (some (0, -2)) NN N := fun e => by
    rw [if_pos e] at hQ
    exact hQ N rg h0 (mdF.rf N) (by rw [if_neg (by decide)])
  refine WP.run [] [] 90 ?_
  simp only [bk131_0, bk131_7, bk131_11, bk131_14, bk131_24, bk131_27, bk131_38, bk131_41, U_iload_n, U_invokestatic1, U_if_eq, U_if_ge, U_bipush, U_ireturn, U_aload_n, U_getfield, U_invokevirtual0, U_if_ne, U_icmp_lt, U_aald, U_invokevirtual2, U_iconst, UN_cc, UN_cn, UN_nc, UN_nn, UJ, lget, lset, lset2, entL, wsm, wcat, Option.toList_some, Option.toList_none, List.cons_append, List.nil_append, List.mem_cons, List.not_mem_nil, Prod.mk.injEq, or_false, false_or, or_true, true_or, and_true, true_and, and_false, false_and, and_self, ne_eq, not_false_eq_true, not_true_eq_false, forall_const, true_implies, false_implies, Nat.add_zero, Nat.zero_add, Nat.le_refl, Nat.zero_le, List.set_cons_zero, List.set_cons_succ, List.set_nil, ↓reduceIte, Nat.reduceAdd, Nat.reduceSub, Nat.reduceEqDiff, Nat.reduceLeDiff, Int.reduceEq, Int.reduceNe, Int.reduceNeg, reduceCtorEq, kd1]
  refine c_isReg hr ?_
  by_cases q : 0 ≤ r ∧ r < 6
  · rw [if_pos q]
    simp only [bk131_0, bk131_7, bk131_11, bk131_14, bk131_24, bk131_27, bk131_38, bk131_41, U_iload_n, U_invokestatic1, U_if_eq, U_if_ge, U_bipush, U_ireturn, U_aload_n, U_getfield, U_invokevirtual0, U_if_ne, U_icmp_lt, U_aald, U_invokevirtual2, U_iconst, UN_cc, UN_cn, UN_nc, UN_nn, UJ, lget, lset, lset2, entL, wsm, wcat, Option.toList_some, Option.toList_none, List.cons_append, List.nil_append, List.mem_cons, List.not_mem_nil, Prod.mk.injEq, or_false, false_or, or_true, true_or, and_true, true_and, and_false, false_and, and_self, ne_eq, not_false_eq_true, not_true_eq_false, forall_const, true_implies, false_implies, Nat.add_zero, Nat.zero_add, Nat.le_refl, Nat.zero_le, List.set_cons_zero, List.set_cons_succ, List.set_nil, ↓reduceIte, Nat.reduceAdd, Nat.reduceSub, Nat.reduceEqDiff, Nat.reduceLeDiff, Int.reduceEq, Int.reduceNe, Int.reduceNeg, reduceCtorEq, kd1, kd21, z1_4 S.1.1]
    refine ⟨r3 (by omega), hi, fun e => bad (Or.inr e), fun e => c_std hCr V.g2 ?_⟩
    rw [if_neg (show ¬ (¬ (0 ≤ r ∧ r < 6) ∨ i < 0) by omega)] at hQ
    by_cases q0 : g = 0
    · rw [if_pos q0] at hQ ⊢
      simp only [bk131_0, bk131_7, bk131_11, bk131_14, bk131_24, bk131_27, bk131_38, bk131_41, U_iload_n, U_invokestatic1, U_if_eq, U_if_ge, U_bipush, U_ireturn, U_aload_n, U_getfield, U_invokevirtual0, U_if_ne, U_icmp_lt, U_aald, U_invokevirtual2, U_iconst, UN_cc, UN_cn, UN_nc, UN_nn, UJ, lget, lset, lset2, entL, wsm, wcat, Option.toList_some, Option.toList_none, List.cons_append, List.nil_append, List.mem_cons, List.not_mem_nil, Prod.mk.injEq, or_false, false_or, or_true, true_or, and_true, true_and, and_false, false_and, and_self, ne_eq, not_false_eq_true, not_true_eq_false, forall_const, true_implies, false_implies, Nat.add_zero, Nat.zero_add, Nat.le_refl, Nat.zero_le, List.set_cons_zero, List.set_cons_succ, List.set_nil, ↓reduceIte, Nat.reduceAdd, Nat.reduceSub, Nat.reduceEqDiff, Nat.reduceLeDiff, Int.reduceEq, Int.reduceNe, Int.reduceNeg, reduceCtorEq]
      exact ⟨r3 (by omega), hQ N rg h0 (mdF.rf N) (by rw [if_neg (by decide)])⟩
    · rw [if_neg q0] at hQ ⊢
      have hc := (hCr.resolve_left (fun e => q0 e.1)).2
      have m := M q0
      have m2 := m.2.1
      have h13 := hc.2.2.2.2.2
      rw [m.1] at h13
      obtain ⟨n, rfl⟩ : ∃ n : Nat, r = n := ⟨r.toNat, by omega⟩
      obtain ⟨k, rfl⟩ : ∃ k : Nat, i = k := ⟨i.toNat, by omega⟩
      simp only [bk131_0, bk131_7, bk131_11, bk131_14, bk131_24, bk131_27, bk131_38, bk131_41, U_iload_n, U_invokestatic1, U_if_eq, U_if_ge, U_bipush, U_ireturn, U_aload_n, U_getfield, U_invokevirtual0, U_if_ne, U_icmp_lt, U_aald, U_invokevirtual2, U_iconst, UN_cc, UN_cn, UN_nc, UN_nn, UJ, lget, lset, lset2, entL, wsm, wcat, Option.toList_some, Option.toList_none, List.cons_append, List.nil_append, List.mem_cons, List.not_mem_nil, Prod.mk.injEq, or_false, false_or, or_true, true_or, and_true, true_and, and_false, false_and, and_self, ne_eq, not_false_eq_true, not_true_eq_false, forall_const, true_implies, false_implies, Nat.add_zero, Nat.zero_add, Nat.le_refl, Nat.zero_le, List.set_cons_zero, List.set_cons_succ, List.set_nil, ↓reduceIte, Nat.reduceAdd, Nat.reduceSub, Nat.reduceEqDiff, Nat.reduceLeDiff, Int.reduceEq, Int.reduceNe, Int.reduceNeg, reduceCtorEq, kd1, kd21, kd88, z1_4 S.1.1, z1_7 S.1.1, h13]
      refine ⟨r3 (by omega), rr (by omega), fun e2 => ?_, fun e2 => ?_⟩
      · rw [if_neg (show ¬ ((tkl f g).length : Int) ≤ (k : Int) by omega)] at hQ
        refine k_list h0 V q0 fun N1 ρ1 C1 S1 R1 T1 _ M1 => ?_
        have z1 := z57 S1.1.1 (n : Int) q.1 q.2
        have n1 : ¬ (58 + 5 * (n : Int) = 0) := by omega
        obtain ⟨x, hx⟩ : ∃ x, (cll f g z)[k]? = some x := ⟨_, List.getElem?_eq_getElem (by rw [cll_len]; omega)⟩
        rw [Int.toNat_natCast, Int.toNat_natCast, hx] at hQ
        simp only [bk131_0, bk131_7, bk131_11, bk131_14, bk131_24, bk131_27, bk131_38, bk131_41, U_iload_n, U_invokestatic1, U_if_eq, U_if_ge, U_bipush, U_ireturn, U_aload_n, U_getfield, U_invokevirtual0, U_if_ne, U_icmp_lt, U_aald, U_invokevirtual2, U_iconst, UN_cc, UN_cn, UN_nc, UN_nn, UJ, lget, lset, lset2, entL, wsm, wcat, Option.toList_some, Option.toList_none, List.cons_append, List.nil_append, List.mem_cons, List.not_mem_nil, Prod.mk.injEq, or_false, false_or, or_true, true_or, and_true, true_and, and_false, false_and, and_self, ne_eq, not_false_eq_true, not_true_eq_false, forall_const, true_implies, false_implies, Nat.add_zero, Nat.zero_add, Nat.le_refl, Nat.zero_le, List.set_cons_zero, List.set_cons_succ, List.set_nil, ↓reduceIte, Nat.reduceAdd, Nat.reduceSub, Nat.reduceEqDiff, Nat.reduceLeDiff, Int.reduceEq, Int.reduceNe, Int.reduceNeg, reduceCtorEq, kd1, kd57, kd88, ln57, z1_6 S1.1.1, z1_7 S1.1.1, z1, n1]
        refine ⟨q.1, q.2, s_fetchG S1 (kdR q.1 q.2) (V.cv q0).2.2.1.1 T1 m2 hx fun N2 ρ2 S2 F2 P2 R2 => ?_⟩
        simp only [bk131_0, bk131_7, bk131_11, bk131_14, bk131_24, bk131_27, bk131_38, bk131_41, U_iload_n, U_invokestatic1, U_if_eq, U_if_ge, U_bipush, U_ireturn, U_aload_n, U_getfield, U_invokevirtual0, U_if_ne, U_icmp_lt, U_aald, U_invokevirtual2, U_iconst, UN_cc, UN_cn, UN_nc, UN_nn, UJ, lget, lset, lset2, entL, wsm, wcat, Option.toList_some, Option.toList_none, List.cons_append, List.nil_append, List.mem_cons, List.not_mem_nil, Prod.mk.injEq, or_false, false_or, or_true, true_or, and_true, true_and, and_false, false_and, and_self, ne_eq, not_false_eq_true, not_true_eq_false, forall_const, true_implies, false_implies, Nat.add_zero, Nat.zero_add, Nat.le_refl, Nat.zero_le, List.set_cons_zero, List.set_cons_succ, List.set_nil, ↓reduceIte, Nat.reduceAdd, Nat.reduceSub, Nat.reduceEqDiff, Nat.reduceLeDiff, Int.reduceEq, Int.reduceNe, Int.reduceNeg, reduceCtorEq]
        refine hQ N2 _ (C1.st S2 (R1.up S1.1.1 (by omega) P2 (fun y y0 y1 y2 => R2 y y1 y2)) F2.cs) (M1.tr F2.md) ?_
        rw [if_pos rfl]; rfl
      · rw [if_pos (show ((tkl f g).length : Int) ≤ (k : Int) by omega)] at hQ
        exact hQ N rg h0 (mdF.rf N) (by rw [if_neg (by decide)])
  · rw [if_neg q]
    simp only [bk131_0, bk131_7, bk131_11, bk131_14, bk131_24, bk131_27, bk131_38, bk131_41, U_iload_n, U_invokestatic1, U_if_eq, U_if_ge, U_bipush, U_ireturn, U_aload_n, U_getfield, U_invokevirtual0, U_if_ne, U_icmp_lt, U_aald, U_invokevirtual2, U_iconst, UN_cc, UN_cn, UN_nc, UN_nn, UJ, lget, lset, lset2, entL, wsm, wcat, Option.toList_some, Option.toList_none, List.cons_append, List.nil_append, List.mem_cons, List.not_mem_nil, Prod.mk.injEq, or_false, false_or, or_true, true_or, and_true, true_and, and_false, false_and, and_self, ne_eq, not_false_eq_true, not_true_eq_false, forall_const, true_implies, false_implies, Nat.add_zero, Nat.zero_add, Nat.le_refl, Nat.zero_le, List.set_cons_zero, List.set_cons_succ, List.set_nil, ↓reduceIte, Nat.reduceAdd, Nat.reduceSub, Nat.reduceEqDiff, Nat.reduceLeDiff, Int.reduceEq, Int.reduceNe, Int.reduceNeg, reduceCtorEq]
    exact ⟨r3 (by omega), bad (Or.inl q)⟩
set_option maxHeartbeats 8000000 in
theorem k_which {p : Int} {g : Nat} {f : Pz p} {pu : List Int} {rg : Nat → Pz p × Pz p} {A tl : Nat → Int} {E : Nat → Nat} {N : Mem} {Q : Post} {z : Gq f g} {r : Int} (h : CS g f pu rg A tl E N) (V : VS g f pu rg A tl E) (M : g ≠ 0 → mhP f g) (hr : R32 r)
    (hQ : ∀ N', CS g f pu rg A tl E N' → mdF N N' → Q (some (0, oReg g r (clI z (rx z rg r.toNat)))) NN N') : CL 135 [(2, 1), (0, r)] NN N Q := by
  have h0 := h
  obtain ⟨⟨ρ, S, R⟩, hPu, hCr, -⟩ := h
  unfold oReg at hQ
  refine WP.run [] [] 90 ?_
  simp only [bk135_0, bk135_7, bk135_10, bk135_20, bk135_23, U_iload_n, U_invokestatic1, U_if_ne, U_bipush, U_ireturn, U_aload_n, U_getfield, U_invokevirtual0, U_aald, U_invokevirtual1, UN_cc, UN_cn, UN_nc, UN_nn, UJ, lget, lset, lset2, entL, wsm, wcat, Option.toList_some, Option.toList_none, List.cons_append, List.nil_append, List.mem_cons, List.not_mem_nil, Prod.mk.injEq, or_false, false_or, or_true, true_or, and_true, true_and, and_false, false_and, and_self, ne_eq, not_false_eq_true, not_true_eq_false, forall_const, true_implies, false_implies, Nat.add_zero, Nat.zero_add, Nat.le_refl, Nat.zero_le, List.set_cons_zero, List.set_cons_succ, List.set_nil, ↓reduceIte, Nat.reduceAdd, Nat.reduceSub, Nat.reduceEqDiff, Nat.reduceLeDiff, Int.reduceEq, Int.reduceNe, Int.reduceNeg, reduceCtorEq, kd1]
  refine c_isReg hr ?_
  by_cases q : 0 ≤ r ∧ r < 6
  · rw [if_pos q]
    rw [if_neg (by omega)] at hQ
    simp only [bk135_0, bk135_7, bk135_10, bk135_20, bk135_23, U_iload_n, U_invokestatic1, U_if_ne, U_bipush, U_ireturn, U_aload_n, U_getfield, U_invokevirtual0, U_aald, U_invokevirtual1, UN_cc, UN_cn, UN_nc, UN_nn, UJ, lget, lset, lset2, entL, wsm, wcat, Option.toList_some, Option.toList_none, List.cons_append, List.nil_append, List.mem_cons, List.not_mem_nil, Prod.mk.injEq, or_false, false_or, or_true, true_or, and_true, true_and, and_false, false_and, and_self, ne_eq, not_false_eq_true, not_true_eq_false, forall_const, true_implies, false_implies, Nat.add_zero, Nat.zero_add, Nat.le_refl, Nat.zero_le, List.set_cons_zero, List.set_cons_succ, List.set_nil, ↓reduceIte, Nat.reduceAdd, Nat.reduceSub, Nat.reduceEqDiff, Nat.reduceLeDiff, Int.reduceEq, Int.reduceNe, Int.reduceNeg, reduceCtorEq, kd1, kd21, z1_4 S.1.1]
    refine ⟨r3 (by omega), c_std hCr V.g2 ?_⟩
    by_cases q0 : g = 0
    · rw [if_pos q0] at hQ ⊢
      simp only [bk135_0, bk135_7, bk135_10, bk135_20, bk135_23, U_iload_n, U_invokestatic1, U_if_ne, U_bipush, U_ireturn, U_aload_n, U_getfield, U_invokevirtual0, U_aald, U_invokevirtual1, UN_cc, UN_cn, UN_nc, UN_nn, UJ, lget, lset, lset2, entL, wsm, wcat, Option.toList_some, Option.toList_none, List.cons_append, List.nil_append, List.mem_cons, List.not_mem_nil, Prod.mk.injEq, or_false, false_or, or_true, true_or, and_true, true_and, and_false, false_and, and_self, ne_eq, not_false_eq_true, not_true_eq_false, forall_const, true_implies, false_implies, Nat.add_zero, Nat.zero_add, Nat.le_refl, Nat.zero_le, List.set_cons_zero, List.set_cons_succ, List.set_nil, ↓reduceIte, Nat.reduceAdd, Nat.reduceSub, Nat.reduceEqDiff, Nat.reduceLeDiff, Int.reduceEq, Int.reduceNe, Int.reduceNeg, reduceCtorEq]
      exact ⟨r3 (by omega), hQ N h0 (mdF.rf N)⟩
    · rw [if_neg q0] at hQ ⊢
      have m2 := (M q0).2.1
      obtain ⟨n, rfl⟩ : ∃ n : Nat, r = n := ⟨r.toNat, by omega⟩
      simp only [bk135_0, bk135_7, bk135_10, bk135_20, bk135_23, U_iload_n, U_invokestatic1, U_if_ne, U_bipush, U_ireturn, U_aload_n, U_getfield, U_invokevirtual0, U_aald, U_invokevirtual1, UN_cc, UN_cn, UN_nc, UN_nn, UJ, lget, lset, lset2, entL, wsm, wcat, Option.toList_some, Option.toList_none, List.cons_append, List.nil_append, List.mem_cons, List.not_mem_nil, Prod.mk.injEq, or_false, false_or, or_true, true_or, and_true, true_and, and_false, false_and, and_self, ne_eq, not_false_eq_true, not_true_eq_false, forall_const, true_implies, false_implies, Nat.add_zero, Nat.zero_add, Nat.le_refl, Nat.zero_le, List.set_cons_zero, List.set_cons_succ, List.set_nil, ↓reduceIte, Nat.reduceAdd, Nat.reduceSub, Nat.reduceEqDiff, Nat.reduceLeDiff, Int.reduceEq, Int.reduceNe, Int.reduceNeg, reduceCtorEq, kd1, kd88, z1_7 S.1.1]
      refine ⟨r3 (by omega), k_list h0 V q0 fun N1 ρ1 C1 S1 R1 T1 _ M1 => ?_⟩
      have z1 := z57 S1.1.1 (n : Int) q.1 q.2
      have n1 : ¬ (58 + 5 * (n : Int) = 0) := by omega
      have p2 := R1.2 n (by omega)
      rw [← rx_is (z := z) ((V.cv q0).2.2.2.1 n)] at p2
      rw [Int.toNat_natCast] at hQ
      simp only [bk135_0, bk135_7, bk135_10, bk135_20, bk135_23, U_iload_n, U_invokestatic1, U_if_ne, U_bipush, U_ireturn, U_aload_n, U_getfield, U_invokevirtual0, U_aald, U_invokevirtual1, UN_cc, UN_cn, UN_nc, UN_nn, UJ, lget, lset, lset2, entL, wsm, wcat, Option.toList_some, Option.toList_none, List.cons_append, List.nil_append, List.mem_cons, List.not_mem_nil, Prod.mk.injEq, or_false, false_or, or_true, true_or, and_true, true_and, and_false, false_and, and_self, ne_eq, not_false_eq_true, not_true_eq_false, forall_const, true_implies, false_implies, Nat.add_zero, Nat.zero_add, Nat.le_refl, Nat.zero_le, List.set_cons_zero, List.set_cons_succ, List.set_nil, ↓reduceIte, Nat.reduceAdd, Nat.reduceSub, Nat.reduceEqDiff, Nat.reduceLeDiff, Int.reduceEq, Int.reduceNe, Int.reduceNeg, reduceCtorEq, kd1, kd57, kd88, ln57, z1_6 S1.1.1, z1_7 S1.1.1, z1, n1]
      refine ⟨q.1, q.2, s_findG (z := z) S1 (kdR q.1 q.2) (V.cv q0).2.2.1.1 T1 m2 p2 ?_⟩
      simp only [bk135_0, bk135_7, bk135_10, bk135_20, bk135_23, U_iload_n, U_invokestatic1, U_if_ne, U_bipush, U_ireturn, U_aload_n, U_getfield, U_invokevirtual0, U_aald, U_invokevirtual1, UN_cc, UN_cn, UN_nc, UN_nn, UJ, lget, lset, lset2, entL, wsm, wcat, Option.toList_some, Option.toList_none, List.cons_append, List.nil_append, List.mem_cons, List.not_mem_nil, Prod.mk.injEq, or_false, false_or, or_true, true_or, and_true, true_and, and_false, false_and, and_self, ne_eq, not_false_eq_true, not_true_eq_false, forall_const, true_implies, false_implies, Nat.add_zero, Nat.zero_add, Nat.le_refl, Nat.zero_le, List.set_cons_zero, List.set_cons_succ, List.set_nil, ↓reduceIte, Nat.reduceAdd, Nat.reduceSub, Nat.reduceEqDiff, Nat.reduceLeDiff, Int.reduceEq, Int.reduceNe, Int.reduceNeg, reduceCtorEq]
      exact hQ N1 C1 M1
  · rw [if_neg q]
    rw [if_pos q] at hQ
    simp only [bk135_0, bk135_7, bk135_10, bk135_20, bk135_23, U_iload_n, U_invokestatic1, U_if_ne, U_bipush, U_ireturn, U_aload_n, U_getfield, U_invokevirtual0, U_aald, U_invokevirtual1, UN_cc, UN_cn, UN_nc, UN_nn, UJ, lget, lset, lset2, entL, wsm, wcat, Option.toList_some, Option.toList_none, List.cons_append, List.nil_append, List.mem_cons, List.not_mem_nil, Prod.mk.injEq, or_false, false_or, or_true, true_or, and_true, true_and, and_false, false_and, and_self, ne_eq, not_false_eq_true, not_true_eq_false, forall_const, true_implies, false_implies, Nat.add_zero, Nat.zero_add, Nat.le_refl, Nat.zero_le, List.set_cons_zero, List.set_cons_succ, List.set_nil, ↓reduceIte, Nat.reduceAdd, Nat.reduceSub, Nat.reduceEqDiff, Nat.reduceLeDiff, Int.reduceEq, Int.reduceNe, Int.reduceNeg, reduceCtorEq]
    exact ⟨r3 (by omega), hQ N h0 (mdF.rf N)⟩
noncomputable def orN {G : Type} (ad : G → G → G) (z x : G) : Nat := @dite _ (∃ n, IsOrd ad z x n) (Classical.propDecidable _) (fun h => h.choose) (fun _ => 0)
theorem orN_is {G : Type} {ad : G → G → G} {z x : G} {n : Nat} (h : IsOrd ad z x n) : orN ad z x = n := by
  have he : ∃ n, IsOrd ad z x n := ⟨n, h⟩
  unfold orN
  rw [dif_pos he]
  exact ord_un he.choose_spec h
theorem IsLog.un {G : Type} {ad : G → G → G} {z a b : G} {r s : Int} (h1 : IsLog ad z a b r) (h2 : IsLog ad z a b s) : r = s := by
  rcases h1 with ⟨n, rfl, n1, n2⟩ | ⟨rfl, n1⟩
  · rcases h2 with ⟨m, rfl, m1, m2⟩ | ⟨rfl, m1⟩
    · rcases Nat.lt_trichotomy n m with q | q | q
      · exact absurd n1 (m2 n q)
      · rw [q]
      · exact absurd m1 (n2 m q)
    · exact absurd n1 (m1 n)
  · rcases h2 with ⟨m, rfl, m1, m2⟩ | ⟨rfl, m1⟩
    · exact absurd m1 (n1 m)
    · rfl
noncomputable def lgN {G : Type} (ad : G → G → G) (z a b : G) : Int := @dite _ (∃ r, IsLog ad z a b r) (Classical.propDecidable _) (fun h => h.choose) (fun _ => 0)
theorem lgN_is {G : Type} {ad : G → G → G} {z a b : G} {r : Int} (h : IsLog ad z a b r) : lgN ad z a b = r := by
  have he : ∃ r, IsLog ad z a b r := ⟨r, h⟩
  unfold lgN
  rw [dif_pos he]
  exact he.choose_spec.un h
set_option maxHeartbeats 8000000 in
theorem k_order {p : Int} {g : Nat} {f : Pz p} {pu : List Int} {rg : Nat → Pz p × Pz p} {A tl : Nat → Int} {E : Nat → Nat} {N : Mem} {Q : Post} {ad : Gq f g → Gq f g → Gq f g} {z : Gq f g} {ng : Gq f g → Gq f g} {r : Int} (h : CS g f pu rg A tl E N) (V : VS g f pu rg A tl E) (hG : g ≠ 0 → GG f g ad z ng) (M : g ≠ 0 → mhP f g) (hr : R32 r)
    (hQ : ∀ N', CS g f pu rg A tl E N' → mdF N N' → Q (some (0, oReg g r (orN ad z (rx z rg r.toNat)))) NN N') : CL 136 [(2, 1), (0, r)] NN N Q := by
  have h0 := h
  obtain ⟨⟨ρ, S, R⟩, hPu, hCr, -⟩ := h
  unfold oReg at hQ
  refine WP.run [] [] 90 ?_
  simp only [bk136_0, bk136_7, bk136_10, bk136_20, bk136_23, U_iload_n, U_invokestatic1, U_if_ne, U_bipush, U_ireturn, U_aload_n, U_getfield, U_invokevirtual0, U_aald, U_invokevirtual1, UN_cc, UN_cn, UN_nc, UN_nn, UJ, lget, lset, lset2, entL, wsm, wcat, Option.toList_some, Option.toList_none, List.cons_append, List.nil_append, List.mem_cons, List.not_mem_nil, Prod.mk.injEq, or_false, false_or, or_true, true_or, and_true, true_and, and_false, false_and, and_self, ne_eq, not_false_eq_true, not_true_eq_false, forall_const, true_implies, false_implies, Nat.add_zero, Nat.zero_add, Nat.le_refl, Nat.zero_le, List.set_cons_zero, List.set_cons_succ, List.set_nil, ↓reduceIte, Nat.reduceAdd, Nat.reduceSub, Nat.reduceEqDiff, Nat.reduceLeDiff, Int.reduceEq, Int.reduceNe, Int.reduceNeg, reduceCtorEq, kd1]
  refine c_isReg hr ?_
  by_cases q : 0 ≤ r ∧ r < 6
  · rw [if_pos q]
    rw [if_neg (by omega)] at hQ
    simp only [bk136_0, bk136_7, bk136_10, bk136_20, bk136_23, U_iload_n, U_invokestatic1, U_if_ne, U_bipush, U_ireturn, U_aload_n, U_getfield, U_invokevirtual0, U_aald, U_invokevirtual1, UN_cc, UN_cn, UN_nc, UN_nn, UJ, lget, lset, lset2, entL, wsm, wcat, Option.toList_some, Option.toList_none, List.cons_append, List.nil_append, List.mem_cons, List.not_mem_nil, Prod.mk.injEq, or_false, false_or, or_true, true_or, and_true, true_and, and_false, false_and, and_self, ne_eq, not_false_eq_true, not_true_eq_false, forall_const, true_implies, false_implies, Nat.add_zero, Nat.zero_add, Nat.le_refl, Nat.zero_le, List.set_cons_zero, List.set_cons_succ, List.set_nil, ↓reduceIte, Nat.reduceAdd, Nat.reduceSub, Nat.reduceEqDiff, Nat.reduceLeDiff, Int.reduceEq, Int.reduceNe, Int.reduceNeg, reduceCtorEq, kd1, kd21, z1_4 S.1.1]
    refine ⟨r3 (by omega), c_std hCr V.g2 ?_⟩
    by_cases q0 : g = 0
    · rw [if_pos q0] at hQ ⊢
      simp only [bk136_0, bk136_7, bk136_10, bk136_20, bk136_23, U_iload_n, U_invokestatic1, U_if_ne, U_bipush, U_ireturn, U_aload_n, U_getfield, U_invokevirtual0, U_aald, U_invokevirtual1, UN_cc, UN_cn, UN_nc, UN_nn, UJ, lget, lset, lset2, entL, wsm, wcat, Option.toList_some, Option.toList_none, List.cons_append, List.nil_append, List.mem_cons, List.not_mem_nil, Prod.mk.injEq, or_false, false_or, or_true, true_or, and_true, true_and, and_false, false_and, and_self, ne_eq, not_false_eq_true, not_true_eq_false, forall_const, true_implies, false_implies, Nat.add_zero, Nat.zero_add, Nat.le_refl, Nat.zero_le, List.set_cons_zero, List.set_cons_succ, List.set_nil, ↓reduceIte, Nat.reduceAdd, Nat.reduceSub, Nat.reduceEqDiff, Nat.reduceLeDiff, Int.reduceEq, Int.reduceNe, Int.reduceNeg, reduceCtorEq]
      exact ⟨r3 (by omega), hQ N h0 (mdF.rf N)⟩
    · rw [if_neg q0] at hQ ⊢
      have hc := (hCr.resolve_left (fun e => q0 e.1)).2
      have cv := V.cv q0
      have m := M q0
      have m2 := m.2.1
      have h13 := hc.2.2.2.2.2
      rw [m.1] at h13
      obtain ⟨n, rfl⟩ : ∃ n : Nat, r = n := ⟨r.toNat, by omega⟩
      have z1 := z57 S.1.1 (n : Int) q.1 q.2
      have n1 : ¬ (58 + 5 * (n : Int) = 0) := by omega
      have p2 := R.2 n (by omega)
      rw [← rx_is (z := z) (cv.2.2.2.1 n)] at p2
      rw [Int.toNat_natCast] at hQ
      simp only [bk136_0, bk136_7, bk136_10, bk136_20, bk136_23, U_iload_n, U_invokestatic1, U_if_ne, U_bipush, U_ireturn, U_aload_n, U_getfield, U_invokevirtual0, U_aald, U_invokevirtual1, UN_cc, UN_cn, UN_nc, UN_nn, UJ, lget, lset, lset2, entL, wsm, wcat, Option.toList_some, Option.toList_none, List.cons_append, List.nil_append, List.mem_cons, List.not_mem_nil, Prod.mk.injEq, or_false, false_or, or_true, true_or, and_true, true_and, and_false, false_and, and_self, ne_eq, not_false_eq_true, not_true_eq_false, forall_const, true_implies, false_implies, Nat.add_zero, Nat.zero_add, Nat.le_refl, Nat.zero_le, List.set_cons_zero, List.set_cons_succ, List.set_nil, ↓reduceIte, Nat.reduceAdd, Nat.reduceSub, Nat.reduceEqDiff, Nat.reduceLeDiff, Int.reduceEq, Int.reduceNe, Int.reduceNeg, reduceCtorEq, kd1, kd32, kd57, ln57, z1_5 S.1.1, z1_6 S.1.1, z1, n1]
      refine ⟨r3 (by omega), q.1, q.2, s_order (hG q0) S cv.2.2.1 (R.1 (by omega)) hc.1 h13 (by omega) (CN_ll V.1 cv.2.2.1.1 z) (kdR q.1 q.2) (by omega) (by omega) p2 fun N1 ρ1 k S1 F1 O1 R1 => ?_⟩
      simp only [bk136_0, bk136_7, bk136_10, bk136_20, bk136_23, U_iload_n, U_invokestatic1, U_if_ne, U_bipush, U_ireturn, U_aload_n, U_getfield, U_invokevirtual0, U_aald, U_invokevirtual1, UN_cc, UN_cn, UN_nc, UN_nn, UJ, lget, lset, lset2, entL, wsm, wcat, Option.toList_some, Option.toList_none, List.cons_append, List.nil_append, List.mem_cons, List.not_mem_nil, Prod.mk.injEq, or_false, false_or, or_true, true_or, and_true, true_and, and_false, false_and, and_self, ne_eq, not_false_eq_true, not_true_eq_false, forall_const, true_implies, false_implies, Nat.add_zero, Nat.zero_add, Nat.le_refl, Nat.zero_le, List.set_cons_zero, List.set_cons_succ, List.set_nil, ↓reduceIte, Nat.reduceAdd, Nat.reduceSub, Nat.reduceEqDiff, Nat.reduceLeDiff, Int.reduceEq, Int.reduceNe, Int.reduceNeg, reduceCtorEq]
      rw [← orN_is O1]
      exact hQ N1 (h0.st S1 (R.kp (fun y hy => R1 y (by unfold scr tmp; omega) (by omega) (by omega) (by omega) (by omega))) F1.cs) F1.md
  · rw [if_neg q]
    rw [if_pos q] at hQ
    simp only [bk136_0, bk136_7, bk136_10, bk136_20, bk136_23, U_iload_n, U_invokestatic1, U_if_ne, U_bipush, U_ireturn, U_aload_n, U_getfield, U_invokevirtual0, U_aald, U_invokevirtual1, UN_cc, UN_cn, UN_nc, UN_nn, UJ, lget, lset, lset2, entL, wsm, wcat, Option.toList_some, Option.toList_none, List.cons_append, List.nil_append, List.mem_cons, List.not_mem_nil, Prod.mk.injEq, or_false, false_or, or_true, true_or, and_true, true_and, and_false, false_and, and_self, ne_eq, not_false_eq_true, not_true_eq_false, forall_const, true_implies, false_implies, Nat.add_zero, Nat.zero_add, Nat.le_refl, Nat.zero_le, List.set_cons_zero, List.set_cons_succ, List.set_nil, ↓reduceIte, Nat.reduceAdd, Nat.reduceSub, Nat.reduceEqDiff, Nat.reduceLeDiff, Int.reduceEq, Int.reduceNe, Int.reduceNeg, reduceCtorEq]
    exact ⟨r3 (by omega), hQ N h0 (mdF.rf N)⟩
def oLog (g : Nat) (a b x : Int) : Int := if ¬ (0 ≤ a ∧ a < 6) ∨ ¬ (0 ≤ b ∧ b < 6) then -2 else if g = 0 then -3 else x
set_option maxHeartbeats 8000000 in
theorem k_log {p : Int} {g : Nat} {f : Pz p} {pu : List Int} {rg : Nat → Pz p × Pz p} {A tl : Nat → Int} {E : Nat → Nat} {N : Mem} {Q : Post} {ad : Gq f g → Gq f g → Gq f g} {z : Gq f g} {ng : Gq f g → Gq f g} {a b : Int} (h : CS g f pu rg A tl E N) (V : VS g f pu rg A tl E) (hG : g ≠ 0 → GG f g ad z ng) (M : g ≠ 0 → mhP f g) (ha : R32 a) (hb : R32 b)
    (hQ : ∀ N', CS g f pu rg A tl E N' → mdF N N' → Q (some (0, oLog g a b (lgN ad z (rx z rg a.toNat) (rx z rg b.toNat)))) NN N') : CL 137 [(2, 1), (0, a), (0, b)] NN N Q := by
  have h0 := h
  obtain ⟨⟨ρ, S, R⟩, hPu, hCr, -⟩ := h
  unfold oLog at hQ
  have bad : (¬ (0 ≤ a ∧ a < 6) ∨ ¬ (0 ≤ b ∧ b < 6)) → Q (some (0, -2)) NN N := fun e => by
    rw [if_pos e] at hQ
    exact hQ N h0 (mdF.rf N)
  refine WP.run [] [] 90 ?_
  simp only [bk137_0, bk137_7, bk137_14, bk137_17, bk137_27, bk137_30, U_iload_n, U_invokestatic1, U_if_eq, U_if_ne, U_bipush, U_ireturn, U_aload_n, U_getfield, U_invokevirtual0, U_aald, U_invokevirtual2, UN_cc, UN_cn, UN_nc, UN_nn, UJ, lget, lset, lset2, entL, wsm, wcat, Option.toList_some, Option.toList_none, List.cons_append, List.nil_append, List.mem_cons, List.not_mem_nil, Prod.mk.injEq, or_false, false_or, or_true, true_or, and_true, true_and, and_false, false_and, and_self, ne_eq, not_false_eq_true, not_true_eq_false, forall_const, true_implies, false_implies, Nat.add_zero, Nat.zero_add, Nat.le_refl, Nat.zero_le, List.set_cons_zero, List.set_cons_succ, List.set_nil, ↓reduceIte, Nat.reduceAdd, Nat.reduceSub, Nat.reduceEqDiff, Nat.reduceLeDiff, Int.reduceEq, Int.reduceNe, Int.reduceNeg, reduceCtorEq, kd1]
  refine c_isReg ha ?_
  by_cases q : 0 ≤ a ∧ a < 6
  · rw [if_pos q]
    simp only [bk137_0, bk137_7, bk137_14, bk137_17, bk137_27, bk137_30, U_iload_n, U_invokestatic1, U_if_eq, U_if_ne, U_bipush, U_ireturn, U_aload_n, U_getfield, U_invokevirtual0, U_aald, U_invokevirtual2, UN_cc, UN_cn, UN_nc, UN_nn, UJ, lget, lset, lset2, entL, wsm, wcat, Option.toList_some, Option.toList_none, List.cons_append, List.nil_append, List.mem_cons, List.not_mem_nil, Prod.mk.injEq, or_false, false_or, or_true, true_or, and_true, true_and, and_false, false_and, and_self, ne_eq, not_false_eq_true, not_true_eq_false, forall_const, true_implies, false_implies, Nat.add_zero, Nat.zero_add, Nat.le_refl, Nat.zero_le, List.set_cons_zero, List.set_cons_succ, List.set_nil, ↓reduceIte, Nat.reduceAdd, Nat.reduceSub, Nat.reduceEqDiff, Nat.reduceLeDiff, Int.reduceEq, Int.reduceNe, Int.reduceNeg, reduceCtorEq, kd1]
    refine ⟨r3 (by omega), c_isReg hb ?_⟩
    by_cases q1 : 0 ≤ b ∧ b < 6
    · rw [if_pos q1]
      rw [if_neg (show ¬ (¬ (0 ≤ a ∧ a < 6) ∨ ¬ (0 ≤ b ∧ b < 6)) by omega)] at hQ
      simp only [bk137_0, bk137_7, bk137_14, bk137_17, bk137_27, bk137_30, U_iload_n, U_invokestatic1, U_if_eq, U_if_ne, U_bipush, U_ireturn, U_aload_n, U_getfield, U_invokevirtual0, U_aald, U_invokevirtual2, UN_cc, UN_cn, UN_nc, UN_nn, UJ, lget, lset, lset2, entL, wsm, wcat, Option.toList_some, Option.toList_none, List.cons_append, List.nil_append, List.mem_cons, List.not_mem_nil, Prod.mk.injEq, or_false, false_or, or_true, true_or, and_true, true_and, and_false, false_and, and_self, ne_eq, not_false_eq_true, not_true_eq_false, forall_const, true_implies, false_implies, Nat.add_zero, Nat.zero_add, Nat.le_refl, Nat.zero_le, List.set_cons_zero, List.set_cons_succ, List.set_nil, ↓reduceIte, Nat.reduceAdd, Nat.reduceSub, Nat.reduceEqDiff, Nat.reduceLeDiff, Int.reduceEq, Int.reduceNe, Int.reduceNeg, reduceCtorEq, kd1, kd21, z1_4 S.1.1]
      refine ⟨r3 (by omega), c_std hCr V.g2 ?_⟩
      by_cases q0 : g = 0
      · rw [if_pos q0] at hQ ⊢
        simp only [bk137_0, bk137_7, bk137_14, bk137_17, bk137_27, bk137_30, U_iload_n, U_invokestatic1, U_if_eq, U_if_ne, U_bipush, U_ireturn, U_aload_n, U_getfield, U_invokevirtual0, U_aald, U_invokevirtual2, UN_cc, UN_cn, UN_nc, UN_nn, UJ, lget, lset, lset2, entL, wsm, wcat, Option.toList_some, Option.toList_none, List.cons_append, List.nil_append, List.mem_cons, List.not_mem_nil, Prod.mk.injEq, or_false, false_or, or_true, true_or, and_true, true_and, and_false, false_and, and_self, ne_eq, not_false_eq_true, not_true_eq_false, forall_const, true_implies, false_implies, Nat.add_zero, Nat.zero_add, Nat.le_refl, Nat.zero_le, List.set_cons_zero, List.set_cons_succ, List.set_nil, ↓reduceIte, Nat.reduceAdd, Nat.reduceSub, Nat.reduceEqDiff, Nat.reduceLeDiff, Int.reduceEq, Int.reduceNe, Int.reduceNeg, reduceCtorEq]
        exact ⟨r3 (by omega), hQ N h0 (mdF.rf N)⟩
      · rw [if_neg q0] at hQ ⊢
        have hc := (hCr.resolve_left (fun e => q0 e.1)).2
        have cv := V.cv q0
        have m := M q0
        have m2 := m.2.1
        have h13 := hc.2.2.2.2.2
        rw [m.1] at h13
        obtain ⟨n, rfl⟩ : ∃ n : Nat, a = n := ⟨a.toNat, by omega⟩
        obtain ⟨l, rfl⟩ : ∃ l : Nat, b = l := ⟨b.toNat, by omega⟩
        have z1 := z57 S.1.1 (n : Int) q.1 q.2
        have z2 := z57 S.1.1 (l : Int) q1.1 q1.2
        have n1 : ¬ (58 + 5 * (n : Int) = 0) := by omega
        have n2 : ¬ (58 + 5 * (l : Int) = 0) := by omega
        have p1 := R.2 n (by omega)
        have p2 := R.2 l (by omega)
        rw [← rx_is (z := z) (cv.2.2.2.1 n)] at p1
        rw [← rx_is (z := z) (cv.2.2.2.1 l)] at p2
        rw [Int.toNat_natCast, Int.toNat_natCast] at hQ
        simp only [bk137_0, bk137_7, bk137_14, bk137_17, bk137_27, bk137_30, U_iload_n, U_invokestatic1, U_if_eq, U_if_ne, U_bipush, U_ireturn, U_aload_n, U_getfield, U_invokevirtual0, U_aald, U_invokevirtual2, UN_cc, UN_cn, UN_nc, UN_nn, UJ, lget, lset, lset2, entL, wsm, wcat, Option.toList_some, Option.toList_none, List.cons_append, List.nil_append, List.mem_cons, List.not_mem_nil, Prod.mk.injEq, or_false, false_or, or_true, true_or, and_true, true_and, and_false, false_and, and_self, ne_eq, not_false_eq_true, not_true_eq_false, forall_const, true_implies, false_implies, Nat.add_zero, Nat.zero_add, Nat.le_refl, Nat.zero_le, List.set_cons_zero, List.set_cons_succ, List.set_nil, ↓reduceIte, Nat.reduceAdd, Nat.reduceSub, Nat.reduceEqDiff, Nat.reduceLeDiff, Int.reduceEq, Int.reduceNe, Int.reduceNeg, reduceCtorEq, kd1, kd32, kd57, ln57, z1_5 S.1.1, z1_6 S.1.1, z1, z2, n1, n2]
        refine ⟨r3 (by omega), q.1, q.2, q1.1, q1.2, s_steps (hG q0) S cv.2.2.1 (R.1 (by omega)) hc.1 h13 (by omega) (CN_ll V.1 cv.2.2.1.1 z) (kdR q.1 q.2) (kdR q1.1 q1.2) (by omega) (by omega) p1 p2 fun N1 ρ1 k S1 F1 O1 R1 => ?_⟩
        simp only [bk137_0, bk137_7, bk137_14, bk137_17, bk137_27, bk137_30, U_iload_n, U_invokestatic1, U_if_eq, U_if_ne, U_bipush, U_ireturn, U_aload_n, U_getfield, U_invokevirtual0, U_aald, U_invokevirtual2, UN_cc, UN_cn, UN_nc, UN_nn, UJ, lget, lset, lset2, entL, wsm, wcat, Option.toList_some, Option.toList_none, List.cons_append, List.nil_append, List.mem_cons, List.not_mem_nil, Prod.mk.injEq, or_false, false_or, or_true, true_or, and_true, true_and, and_false, false_and, and_self, ne_eq, not_false_eq_true, not_true_eq_false, forall_const, true_implies, false_implies, Nat.add_zero, Nat.zero_add, Nat.le_refl, Nat.zero_le, List.set_cons_zero, List.set_cons_succ, List.set_nil, ↓reduceIte, Nat.reduceAdd, Nat.reduceSub, Nat.reduceEqDiff, Nat.reduceLeDiff, Int.reduceEq, Int.reduceNe, Int.reduceNeg, reduceCtorEq]
        rw [← lgN_is O1]
        exact hQ N1 (h0.st S1 (R.kp (fun y hy => R1 y (by unfold scr tmp; omega) (by omega) (by omega))) F1.cs) F1.md
    · rw [if_neg q1]
      simp only [bk137_0, bk137_7, bk137_14, bk137_17, bk137_27, bk137_30, U_iload_n, U_invokestatic1, U_if_eq, U_if_ne, U_bipush, U_ireturn, U_aload_n, U_getfield, U_invokevirtual0, U_aald, U_invokevirtual2, UN_cc, UN_cn, UN_nc, UN_nn, UJ, lget, lset, lset2, entL, wsm, wcat, Option.toList_some, Option.toList_none, List.cons_append, List.nil_append, List.mem_cons, List.not_mem_nil, Prod.mk.injEq, or_false, false_or, or_true, true_or, and_true, true_and, and_false, false_and, and_self, ne_eq, not_false_eq_true, not_true_eq_false, forall_const, true_implies, false_implies, Nat.add_zero, Nat.zero_add, Nat.le_refl, Nat.zero_le, List.set_cons_zero, List.set_cons_succ, List.set_nil, ↓reduceIte, Nat.reduceAdd, Nat.reduceSub, Nat.reduceEqDiff, Nat.reduceLeDiff, Int.reduceEq, Int.reduceNe, Int.reduceNeg, reduceCtorEq]
      exact ⟨r3 (by omega), bad (Or.inr q1)⟩
  · rw [if_neg q]
    simp only [bk137_0, bk137_7, bk137_14, bk137_17, bk137_27, bk137_30, U_iload_n, U_invokestatic1, U_if_eq, U_if_ne, U_bipush, U_ireturn, U_aload_n, U_getfield, U_invokevirtual0, U_aald, U_invokevirtual2, UN_cc, UN_cn, UN_nc, UN_nn, UJ, lget, lset, lset2, entL, wsm, wcat, Option.toList_some, Option.toList_none, List.cons_append, List.nil_append, List.mem_cons, List.not_mem_nil, Prod.mk.injEq, or_false, false_or, or_true, true_or, and_true, true_and, and_false, false_and, and_self, ne_eq, not_false_eq_true, not_true_eq_false, forall_const, true_implies, false_implies, Nat.add_zero, Nat.zero_add, Nat.le_refl, Nat.zero_le, List.set_cons_zero, List.set_cons_succ, List.set_nil, ↓reduceIte, Nat.reduceAdd, Nat.reduceSub, Nat.reduceEqDiff, Nat.reduceLeDiff, Int.reduceEq, Int.reduceNe, Int.reduceNeg, reduceCtorEq]
    exact ⟨r3 (by omega), bad (Or.inl q)⟩
noncomputable def oGroup {p : Int} {f : Pz p} {g : Nat} (ad : Gq f g → Gq f g → Gq f g) (z : Gq f g) (i : Int) : Int := if i < 0 then -2 else if g = 0 then -3 else gAt (gNm ad z ((tkl f g).length - 1)).2.1 (gNm ad z ((tkl f g).length - 1)).2.2 i.toNat
theorem gNm_4 {p : Int} (hp : Pr p) {f : Pz p} {g : Nat} (hg : g = 1 ∨ g = 2) {ad : Gq f g → Gq f g → Gq f g} {z : Gq f g} {ng : Gq f g → Gq f g} (hG : GG f g ad z ng) (hk : ∀ q, Prm q → klN ad z (cll f g z) q < q ^ 5) (n : Nat) : (gNm ad z n).2.2 ≤ 4 := by
  obtain ⟨c1, c2⟩ := cll_is hp hg z
  have hh : 0 < (tkl f g).length := tkl_pos f g
  unfold gNm
  induction n with
  | zero => exact Nat.zero_le _
  | succ n ih =>
    rw [gFn_s]
    by_cases q : (gFn (tqN ad z (cll f g z)) (tkl f g).length n).1 % (n + 2) = 0
    · rw [if_pos q]
      exact mxT_le (fun j => tqN_le hG.1 c1 c2 hk (gIn_prm (gIn_all _ hh n) q) j) ih _
    · rw [if_neg q]; exact ih
set_option maxHeartbeats 8000000 in
theorem k_group {p : Int} {g : Nat} {f : Pz p} {pu : List Int} {rg : Nat → Pz p × Pz p} {A tl : Nat → Int} {E : Nat → Nat} {N : Mem} {Q : Post} {ad : Gq f g → Gq f g → Gq f g} {z : Gq f g} {ng : Gq f g → Gq f g} {i : Int} (h : CS g f pu rg A tl E N) (V : VS g f pu rg A tl E) (hG : g ≠ 0 → GG f g ad z ng) (M : g ≠ 0 → mhP f g) (hi : R32 i)
    (hQ : ∀ N', CS g f pu rg A tl E N' → mdF N N' → Q (some (0, oGroup ad z i)) NN N') : CL 138 [(2, 1), (0, i)] NN N Q := by
  have h0 := h
  obtain ⟨⟨ρ, S, R⟩, hPu, hCr, -⟩ := h
  unfold oGroup at hQ
  refine WP.run [] [] 90 ?_
  simp only [bk138_0, bk138_4, bk138_7, bk138_17, bk138_20, U_iload_n, U_if_ge, U_bipush, U_ireturn, U_aload_n, U_getfield, U_invokevirtual0, U_if_ne, U_invokevirtual1, UN_cc, UN_cn, UN_nc, UN_nn, UJ, lget, lset, lset2, entL, wsm, wcat, Option.toList_some, Option.toList_none, List.cons_append, List.nil_append, List.mem_cons, List.not_mem_nil, Prod.mk.injEq, or_false, false_or, or_true, true_or, and_true, true_and, and_false, false_and, and_self, ne_eq, not_false_eq_true, not_true_eq_false, forall_const, true_implies, false_implies, Nat.add_zero, Nat.zero_add, Nat.le_refl, Nat.zero_le, List.set_cons_zero, List.set_cons_succ, List.set_nil, ↓reduceIte, Nat.reduceAdd, Nat.reduceSub, Nat.reduceEqDiff, Nat.reduceLeDiff, Int.reduceEq, Int.reduceNe, Int.reduceNeg, reduceCtorEq, kd1, kd21, z1_4 S.1.1]
  refine ⟨hi, fun e => ?_, fun e => c_std hCr V.g2 ?_⟩
  · rw [if_pos e] at hQ; exact hQ N h0 (mdF.rf N)
  · rw [if_neg e] at hQ
    by_cases q0 : g = 0
    · rw [if_pos q0] at hQ ⊢
      simp only [bk138_0, bk138_4, bk138_7, bk138_17, bk138_20, U_iload_n, U_if_ge, U_bipush, U_ireturn, U_aload_n, U_getfield, U_invokevirtual0, U_if_ne, U_invokevirtual1, UN_cc, UN_cn, UN_nc, UN_nn, UJ, lget, lset, lset2, entL, wsm, wcat, Option.toList_some, Option.toList_none, List.cons_append, List.nil_append, List.mem_cons, List.not_mem_nil, Prod.mk.injEq, or_false, false_or, or_true, true_or, and_true, true_and, and_false, false_and, and_self, ne_eq, not_false_eq_true, not_true_eq_false, forall_const, true_implies, false_implies, Nat.add_zero, Nat.zero_add, Nat.le_refl, Nat.zero_le, List.set_cons_zero, List.set_cons_succ, List.set_nil, ↓reduceIte, Nat.reduceAdd, Nat.reduceSub, Nat.reduceEqDiff, Nat.reduceLeDiff, Int.reduceEq, Int.reduceNe, Int.reduceNeg, reduceCtorEq]
      exact ⟨r3 (by omega), hQ N h0 (mdF.rf N)⟩
    · rw [if_neg q0] at hQ ⊢
      have cv := V.cv q0
      have m := M q0
      simp only [bk138_0, bk138_4, bk138_7, bk138_17, bk138_20, U_iload_n, U_if_ge, U_bipush, U_ireturn, U_aload_n, U_getfield, U_invokevirtual0, U_if_ne, U_invokevirtual1, UN_cc, UN_cn, UN_nc, UN_nn, UJ, lget, lset, lset2, entL, wsm, wcat, Option.toList_some, Option.toList_none, List.cons_append, List.nil_append, List.mem_cons, List.not_mem_nil, Prod.mk.injEq, or_false, false_or, or_true, true_or, and_true, true_and, and_false, false_and, and_self, ne_eq, not_false_eq_true, not_true_eq_false, forall_const, true_implies, false_implies, Nat.add_zero, Nat.zero_add, Nat.le_refl, Nat.zero_le, List.set_cons_zero, List.set_cons_succ, List.set_nil, ↓reduceIte, Nat.reduceAdd, Nat.reduceSub, Nat.reduceEqDiff, Nat.reduceLeDiff, Int.reduceEq, Int.reduceNe, Int.reduceNeg, reduceCtorEq, kd1, kd88, z1_7 S.1.1]
      refine ⟨r3 (by omega), k_list h0 V q0 fun N1 ρ1 C1 S1 R1 T1 c1 M1 => ?_⟩
      simp only [bk138_0, bk138_4, bk138_7, bk138_17, bk138_20, U_iload_n, U_if_ge, U_bipush, U_ireturn, U_aload_n, U_getfield, U_invokevirtual0, U_if_ne, U_invokevirtual1, UN_cc, UN_cn, UN_nc, UN_nn, UJ, lget, lset, lset2, entL, wsm, wcat, Option.toList_some, Option.toList_none, List.cons_append, List.nil_append, List.mem_cons, List.not_mem_nil, Prod.mk.injEq, or_false, false_or, or_true, true_or, and_true, true_and, and_false, false_and, and_self, ne_eq, not_false_eq_true, not_true_eq_false, forall_const, true_implies, false_implies, Nat.add_zero, Nat.zero_add, Nat.le_refl, Nat.zero_le, List.set_cons_zero, List.set_cons_succ, List.set_nil, ↓reduceIte, Nat.reduceAdd, Nat.reduceSub, Nat.reduceEqDiff, Nat.reduceLeDiff, Int.reduceEq, Int.reduceNe, Int.reduceNeg, reduceCtorEq, kd1, kd94, z1_8 S1.1.1]
      have hk := m.2.2 ad z ng (hG q0)
      obtain ⟨-, -, -, -, -, -, -, hGp, -⟩ := id C1
      refine s_gensure (hG q0) S1 cv.2.2.1 (R1.1 (by omega)) c1.1 T1 m.2.1 hk (hGp.imp_right (fun e => ⟨e.2.1, e.2.2 ad z ng (hG q0)⟩)) fun N2 ρ2 S2 F2 R2 e2 A2 => ?_
      simp only [bk138_0, bk138_4, bk138_7, bk138_17, bk138_20, U_iload_n, U_if_ge, U_bipush, U_ireturn, U_aload_n, U_getfield, U_invokevirtual0, U_if_ne, U_invokevirtual1, UN_cc, UN_cn, UN_nc, UN_nn, UJ, lget, lset, lset2, entL, wsm, wcat, Option.toList_some, Option.toList_none, List.cons_append, List.nil_append, List.mem_cons, List.not_mem_nil, Prod.mk.injEq, or_false, false_or, or_true, true_or, and_true, true_and, and_false, false_and, and_self, ne_eq, not_false_eq_true, not_true_eq_false, forall_const, true_implies, false_implies, Nat.add_zero, Nat.zero_add, Nat.le_refl, Nat.zero_le, List.set_cons_zero, List.set_cons_succ, List.set_nil, ↓reduceIte, Nat.reduceAdd, Nat.reduceSub, Nat.reduceEqDiff, Nat.reduceLeDiff, Int.reduceEq, Int.reduceNe, Int.reduceNeg, reduceCtorEq, kd1, kd94, z1_8 S2.1.1]
      refine c_numberAt S2.1.1 A2 (gNm_4 V.1 cv.2.2.1.1 (hG q0) hk _) ⟨by omega, hi⟩ ?_
      simp only [bk138_0, bk138_4, bk138_7, bk138_17, bk138_20, U_iload_n, U_if_ge, U_bipush, U_ireturn, U_aload_n, U_getfield, U_invokevirtual0, U_if_ne, U_invokevirtual1, UN_cc, UN_cn, UN_nc, UN_nn, UJ, lget, lset, lset2, entL, wsm, wcat, Option.toList_some, Option.toList_none, List.cons_append, List.nil_append, List.mem_cons, List.not_mem_nil, Prod.mk.injEq, or_false, false_or, or_true, true_or, and_true, true_and, and_false, false_and, and_self, ne_eq, not_false_eq_true, not_true_eq_false, forall_const, true_implies, false_implies, Nat.add_zero, Nat.zero_add, Nat.le_refl, Nat.zero_le, List.set_cons_zero, List.set_cons_succ, List.set_nil, ↓reduceIte, Nat.reduceAdd, Nat.reduceSub, Nat.reduceEqDiff, Nat.reduceLeDiff, Int.reduceEq, Int.reduceNe, Int.reduceNeg, reduceCtorEq]
      refine hQ N2 (C1.gp S2 (R1.kp (fun y hy => R2 y (by unfold gro scr tmp; omega))) F2 (Or.inr ⟨by omega, e2, fun ad' z' ng' hG' => ?_⟩)) (M1.tr (F2.md (by decide)))
      obtain ⟨u1, u2, u3⟩ := GG_un (hG q0) hG'
      subst u1; subst u2; exact A2
