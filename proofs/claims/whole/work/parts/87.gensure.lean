/-! THE GROUP OBJECT: made where it is asked for -/
def GrS {p : Int} {f : Pz p} {g : Nat} (ad : Gq f g → Gq f g → Gq f g) (z : Gq f g) (N : Mem) : Prop := N 94 6 = 0 ∨ (N 94 6 = 1 ∧ NmA N (gNm ad z ((tkl f g).length - 1)).2.1 (gNm ad z ((tkl f g).length - 1)).2.2)
set_option maxHeartbeats 16000000 in
theorem l_gen {p : Int} {N : Mem} {ρ : Int → Option (Pz p)} {Q : Post} {f : Pz p} {g : Nat} {ad : Gq f g → Gq f g → Gq f g} {z : Gq f g} {ng : Gq f g → Gq f g} (hG : GG f g ad z ng) (hp : Pr p) (hcv : Cv f g) (hf : ρ 22 = some f) (hg : N 21 3 = g) (hT : TkA N (tkl f g)) (hl : (tkl f g).length ≤ 450)
    (hQ : ∀ N' ρ', ST p N' ρ' → FX [95, 96] N N' → (∀ r, ¬ gro r → ρ' r = ρ r) → OrF ad z N' → WP 89 (0, 0) 63 [(2, 94), (0, ((tkl f g).length : Int))] [] NN N' Q) :
    ∀ (m i : Nat) (Ni : Mem) (ρi : Int → Option (Pz p)), i + m = (tkl f g).length → ST p Ni ρi → FX [95, 96] N Ni → (∀ r, ¬ gro r → ρi r = ρ r) → OrA ad z Ni → (∀ j : Nat, j < i → Ni 95 (j : Int) ≠ 0) → WP 89 (0, 0) 23 [(2, 94), (0, (i : Int))] [] NN Ni Q := by
  have hg12 : g = 1 ∨ g = 2 := hcv.1
  intro m
  induction m with
  | zero =>
    intro i Ni ρi hi hS hF hρ hO hN
    obtain rfl : i = (tkl f g).length := by omega
    have e3 : Ni 88 3 = ((tkl f g).length : Int) := by rw [hF 88 (by decide) (by decide), hT.1]; omega
    refine WP.run [(89, 23), (89, 63)] [] 60 ?_
    simp only [bk89_0, bk89_7, bk89_8, bk89_23, bk89_34, bk89_43, bk89_52, bk89_57, bk89_63, U_aload_n, U_getfield, U_if_eq, U_return, U_iconst, U_putfield, U_invokestatic2, U_istore_n, U_iload_n, U_icmp_ge, U_alen, U_iald, U_if_ne, U_invokevirtual1, U_iinc, U_goto, U_invokevirtual0, UN_cc, UN_cn, UN_nc, UN_nn, UJ, lget, lset, lset2, entL, wsm, wcat, Option.toList_some, Option.toList_none, List.cons_append, List.nil_append, List.mem_cons, List.not_mem_nil, Prod.mk.injEq, or_false, false_or, or_true, true_or, and_true, true_and, and_false, false_and, and_self, ne_eq, not_false_eq_true, not_true_eq_false, forall_const, true_implies, false_implies, Nat.add_zero, Nat.zero_add, Nat.le_refl, Nat.zero_le, List.set_cons_zero, List.set_cons_succ, List.set_nil, ↓reduceIte, Nat.reduceAdd, Nat.reduceSub, Nat.reduceEqDiff, Nat.reduceLeDiff, Int.reduceEq, Int.reduceNe, Int.reduceNeg, reduceCtorEq, kd94, kd88, z94_1 hS.1.1, e3]
    refine ⟨rr (by omega), fun e => absurd e (by omega), fun _ => hQ Ni ρi hS hF hρ (fun j x hx => ?_)⟩
    obtain ⟨o, o1, o2, o3⟩ := hO j x hx
    have hj := (List.getElem?_eq_some_iff.mp hx).1
    rw [cll_len] at hj
    refine ⟨o, o1, o2, o3.resolve_left (fun q => hN j hj (by rw [o1, q]; rfl))⟩
  | succ m ih =>
    intro i Ni ρi hi hS hF hρ hO hN
    have e3 : Ni 88 3 = ((tkl f g).length : Int) := by rw [hF 88 (by decide) (by decide), hT.1]; omega
    have hTi : TkA Ni (tkl f g) := hT.fx (hF 88 (by decide) (by decide)) (hF 89 (by decide) (by decide))
    obtain ⟨x, hx⟩ : ∃ x, (cll f g z)[i]? = some x := ⟨_, List.getElem?_eq_getElem (by rw [cll_len]; omega)⟩
    obtain ⟨o, o1, o2, o3⟩ := hO i x hx
    have hf1 : ρi 22 = some f := (hρ 22 (by unfold gro scr tmp; omega)).trans hf
    refine WP.run [(89, 23), (89, 63)] [] 60 ?_
    simp only [bk89_0, bk89_7, bk89_8, bk89_23, bk89_34, bk89_43, bk89_52, bk89_57, bk89_63, U_aload_n, U_getfield, U_if_eq, U_return, U_iconst, U_putfield, U_invokestatic2, U_istore_n, U_iload_n, U_icmp_ge, U_alen, U_iald, U_if_ne, U_invokevirtual1, U_iinc, U_goto, U_invokevirtual0, UN_cc, UN_cn, UN_nc, UN_nn, UJ, lget, lset, lset2, entL, wsm, wcat, Option.toList_some, Option.toList_none, List.cons_append, List.nil_append, List.mem_cons, List.not_mem_nil, Prod.mk.injEq, or_false, false_or, or_true, true_or, and_true, true_and, and_false, false_and, and_self, ne_eq, not_false_eq_true, not_true_eq_false, forall_const, true_implies, false_implies, Nat.add_zero, Nat.zero_add, Nat.le_refl, Nat.zero_le, List.set_cons_zero, List.set_cons_succ, List.set_nil, ↓reduceIte, Nat.reduceAdd, Nat.reduceSub, Nat.reduceEqDiff, Nat.reduceLeDiff, Int.reduceEq, Int.reduceNe, Int.reduceNeg, reduceCtorEq, kd94, kd88, kd95, ln95, z94_1 hS.1.1, z94_2 hS.1.1, e3, o1]
    refine ⟨rr (by omega), fun _ => ⟨rr (by omega), fun _ => ⟨by omega, by omega, r3 (by omega), fun e => ?_, fun e => ?_⟩, fun e => absurd (by omega) e⟩, fun e => absurd (by omega) e⟩
    · refine s_walk hG hS hcv hf1 (by rw [hF 21 (by decide) (by decide)]; exact hg) hTi hl hx hO fun N1 ρ1 S1 F1 R1 O1 K1 Z1 => ?_
      simp only [bk89_0, bk89_7, bk89_8, bk89_23, bk89_34, bk89_43, bk89_52, bk89_57, bk89_63, U_aload_n, U_getfield, U_if_eq, U_return, U_iconst, U_putfield, U_invokestatic2, U_istore_n, U_iload_n, U_icmp_ge, U_alen, U_iald, U_if_ne, U_invokevirtual1, U_iinc, U_goto, U_invokevirtual0, UN_cc, UN_cn, UN_nc, UN_nn, UJ, lget, lset, lset2, entL, wsm, wcat, Option.toList_some, Option.toList_none, List.cons_append, List.nil_append, List.mem_cons, List.not_mem_nil, Prod.mk.injEq, or_false, false_or, or_true, true_or, and_true, true_and, and_false, false_and, and_self, ne_eq, not_false_eq_true, not_true_eq_false, forall_const, true_implies, false_implies, Nat.add_zero, Nat.zero_add, Nat.le_refl, Nat.zero_le, List.set_cons_zero, List.set_cons_succ, List.set_nil, ↓reduceIte, Nat.reduceAdd, Nat.reduceSub, Nat.reduceEqDiff, Nat.reduceLeDiff, Int.reduceEq, Int.reduceNe, Int.reduceNeg, reduceCtorEq]
      refine ih (i + 1) N1 ρ1 (by omega) S1 (hF.tr F1) (fun r hr => by rw [R1 r hr]; exact hρ r hr) O1 (fun j hj => ?_)
      by_cases q : j = i
      · subst q; exact Z1
      · exact K1 j (hN j (by omega))
    · refine ih (i + 1) Ni ρi (by omega) hS hF hρ hO (fun j hj => ?_)
      by_cases q : j = i
      · subst q; rw [o1]; exact e
      · exact hN j (by omega)
set_option maxHeartbeats 16000000 in
theorem s_gensure {p : Int} {N : Mem} {ρ : Int → Option (Pz p)} {Q : Post} {f : Pz p} {g : Nat} {ad : Gq f g → Gq f g → Gq f g} {z : Gq f g} {ng : Gq f g → Gq f g} (hG : GG f g ad z ng) (hS : ST p N ρ) (hcv : Cv f g) (hf : ρ 22 = some f) (hg : N 21 3 = g) (hT : TkA N (tkl f g)) (hl : (tkl f g).length ≤ 450) (hk : ∀ q, Prm q → klN ad z (cll f g z) q < q ^ 5) (hC : GrS ad z N)
    (hQ : ∀ N' ρ', ST p N' ρ' → FX [94, 95, 96, 97] N N' → (∀ r, ¬ gro r → ρ' r = ρ r) → N' 94 6 = 1 → NmA N' (gNm ad z ((tkl f g).length - 1)).2.1 (gNm ad z ((tkl f g).length - 1)).2.2 → Q none NN N') : CL 89 [(2, 94), (9, 0)] NN N Q := by
  have hp := hS.1.2.1
  have hg12 : g = 1 ∨ g = 2 := hcv.1
  rcases hC with h0 | ⟨h1, hC⟩
  · refine WP.run [(89, 23)] [] 60 ?_
    have S1 : ST p (ust N 94 6 1) ρ := hS.ust _ _ fz94_6 (by decide) (by decide) (by decide)
    simp only [bk89_0, bk89_7, bk89_8, bk89_23, bk89_34, bk89_43, bk89_52, bk89_57, bk89_63, U_aload_n, U_getfield, U_if_eq, U_return, U_iconst, U_putfield, U_invokestatic2, U_istore_n, U_iload_n, U_icmp_ge, U_alen, U_iald, U_if_ne, U_invokevirtual1, U_iinc, U_goto, U_invokevirtual0, UN_cc, UN_cn, UN_nc, UN_nn, UJ, lget, lset, lset2, entL, wsm, wcat, Option.toList_some, Option.toList_none, List.cons_append, List.nil_append, List.mem_cons, List.not_mem_nil, Prod.mk.injEq, or_false, false_or, or_true, true_or, and_true, true_and, and_false, false_and, and_self, ne_eq, not_false_eq_true, not_true_eq_false, forall_const, true_implies, false_implies, Nat.add_zero, Nat.zero_add, Nat.le_refl, Nat.zero_le, List.set_cons_zero, List.set_cons_succ, List.set_nil, ↓reduceIte, Nat.reduceAdd, Nat.reduceSub, Nat.reduceEqDiff, Nat.reduceLeDiff, Int.reduceEq, Int.reduceNe, Int.reduceNeg, reduceCtorEq, kd94, h0, z94_2 S1.1.1]
    refine ⟨r3 (by omega), ?_⟩
    refine c_fill rfl ?_
    rw [ln95]
    have S2 : ST p (fil (ust N 94 6 1) 95 450 0) ρ := by
      refine S1.other (S1.1.1.of fun a i v e => ?_) (fil_ne (by decide)) (fil_ne (by decide)) (fun b hb => fil_ne (fun e => by rw [e] at hb; exact absurd hb (by decide)))
      by_cases q : a = 95
      · subst q; rw [fz_arr (Or.inl rfl)] at e; cases e
      · rw [fil_ne q]
    have F2 : FX [94, 95] N (fil (ust N 94 6 1) 95 450 0) := fun b hb hk => by
      rw [fil_ne (fun e => hk (by simp [e])), ust_ne (fun e => hk (by simp [e]))]
    have e94 : fil (ust N 94 6 1) 95 450 0 94 = ust N 94 6 1 94 := fil_ne (by decide)
    simp only [bk89_0, bk89_7, bk89_8, bk89_23, bk89_34, bk89_43, bk89_52, bk89_57, bk89_63, U_aload_n, U_getfield, U_if_eq, U_return, U_iconst, U_putfield, U_invokestatic2, U_istore_n, U_iload_n, U_icmp_ge, U_alen, U_iald, U_if_ne, U_invokevirtual1, U_iinc, U_goto, U_invokevirtual0, UN_cc, UN_cn, UN_nc, UN_nn, UJ, lget, lset, lset2, entL, wsm, wcat, Option.toList_some, Option.toList_none, List.cons_append, List.nil_append, List.mem_cons, List.not_mem_nil, Prod.mk.injEq, or_false, false_or, or_true, true_or, and_true, true_and, and_false, false_and, and_self, ne_eq, not_false_eq_true, not_true_eq_false, forall_const, true_implies, false_implies, Nat.add_zero, Nat.zero_add, Nat.le_refl, Nat.zero_le, List.set_cons_zero, List.set_cons_succ, List.set_nil, ↓reduceIte, Nat.reduceAdd, Nat.reduceSub, Nat.reduceEqDiff, Nat.reduceLeDiff, Int.reduceEq, Int.reduceNe, Int.reduceNeg, reduceCtorEq]
    refine l_gen (N := fil (ust N 94 6 1) 95 450 0) hG hp hcv hf (by rw [F2 21 (by decide) (by decide)]; exact hg) (hT.fx (F2 88 (by decide) (by decide)) (F2 89 (by decide) (by decide))) hl (fun N3 ρ3 S3 F3 R3 O3 => ?_) (tkl f g).length 0 _ ρ (by omega) S2 (FX.rf _ _) (fun _ _ => rfl) (fun i x hx => ⟨0, ?_, by omega, Or.inl rfl⟩) (fun j hj => by omega)
    · refine WP.run [] [] 60 ?_
      simp only [bk89_0, bk89_7, bk89_8, bk89_23, bk89_34, bk89_43, bk89_52, bk89_57, bk89_63, U_aload_n, U_getfield, U_if_eq, U_return, U_iconst, U_putfield, U_invokestatic2, U_istore_n, U_iload_n, U_icmp_ge, U_alen, U_iald, U_if_ne, U_invokevirtual1, U_iinc, U_goto, U_invokevirtual0, UN_cc, UN_cn, UN_nc, UN_nn, UJ, lget, lset, lset2, entL, wsm, wcat, Option.toList_some, Option.toList_none, List.cons_append, List.nil_append, List.mem_cons, List.not_mem_nil, Prod.mk.injEq, or_false, false_or, or_true, true_or, and_true, true_and, and_false, false_and, and_self, ne_eq, not_false_eq_true, not_true_eq_false, forall_const, true_implies, false_implies, Nat.add_zero, Nat.zero_add, Nat.le_refl, Nat.zero_le, List.set_cons_zero, List.set_cons_succ, List.set_nil, ↓reduceIte, Nat.reduceAdd, Nat.reduceSub, Nat.reduceEqDiff, Nat.reduceLeDiff, Int.reduceEq, Int.reduceNe, Int.reduceNeg, reduceCtorEq, kd94]
      have e94' : N3 94 = ust N 94 6 1 94 := by rw [F3 94 (by decide) (by decide)]; exact e94
      have e88 : N3 88 3 = ((tkl f g).length : Int) := by rw [F3 88 (by decide) (by decide), F2 88 (by decide) (by decide), hT.1]; omega
      have S4 : ST p (ust N3 94 5 0) ρ3 := S3.ust _ _ fz94_5 (by decide) (by decide) (by decide)
      refine WP.run [(88, 23)] [] 60 ?_
      simp only [bk88_0, bk88_23, bk88_34, bk88_40, bk88_43, bk88_48, bk88_53, bk88_59, bk88_66, bk88_72, U_aload_n, U_iconst, U_putfield, U_getfield, U_invokestatic2, U_istore_n, U_iload_n, U_icmp_gt, U_irem, U_if_eq, U_goto, U_invokevirtual1, U_icmp_le, U_if_ne, U_idiv, U_iinc, U_return, UN_cc, UN_cn, UN_nc, UN_nn, UJ, lget, lset, lset2, entL, wsm, wcat, Option.toList_some, Option.toList_none, List.cons_append, List.nil_append, List.mem_cons, List.not_mem_nil, Prod.mk.injEq, or_false, false_or, or_true, true_or, and_true, true_and, and_false, false_and, and_self, ne_eq, not_false_eq_true, not_true_eq_false, forall_const, true_implies, false_implies, Nat.add_zero, Nat.zero_add, Nat.le_refl, Nat.zero_le, List.set_cons_zero, List.set_cons_succ, List.set_nil, ↓reduceIte, Nat.reduceAdd, Nat.reduceSub, Nat.reduceEqDiff, Nat.reduceLeDiff, Int.reduceEq, Int.reduceNe, Int.reduceNeg, reduceCtorEq, kd94, z94_4 S4.1.1]
      refine c_fill rfl ?_
      rw [ln97]
      have S5 : ST p (fil (ust N3 94 5 0) 97 8 1) ρ3 := by
        refine S4.other (S4.1.1.of fun a i v e => ?_) (fil_ne (by decide)) (fil_ne (by decide)) (fun b hb => fil_ne (fun e => by rw [e] at hb; exact absurd hb (by decide)))
        by_cases q : a = 97
        · subst q; rw [fz_arr (Or.inl rfl)] at e; cases e
        · rw [fil_ne q]
      have F5 : FX [94, 97] N3 (fil (ust N3 94 5 0) 97 8 1) := fun b hb hk => by
        rw [fil_ne (fun e => hk (by simp [e])), ust_ne (fun e => hk (by simp [e]))]
      have e885 : fil (ust N3 94 5 0) 97 8 1 88 3 = ((tkl f g).length : Int) := by rw [F5 88 (by decide) (by decide)]; exact e88
      simp only [bk88_0, bk88_23, bk88_34, bk88_40, bk88_43, bk88_48, bk88_53, bk88_59, bk88_66, bk88_72, U_aload_n, U_iconst, U_putfield, U_getfield, U_invokestatic2, U_istore_n, U_iload_n, U_icmp_gt, U_irem, U_if_eq, U_goto, U_invokevirtual1, U_icmp_le, U_if_ne, U_idiv, U_iinc, U_return, UN_cc, UN_cn, UN_nc, UN_nn, UJ, lget, lset, lset2, entL, wsm, wcat, Option.toList_some, Option.toList_none, List.cons_append, List.nil_append, List.mem_cons, List.not_mem_nil, Prod.mk.injEq, or_false, false_or, or_true, true_or, and_true, true_and, and_false, false_and, and_self, ne_eq, not_false_eq_true, not_true_eq_false, forall_const, true_implies, false_implies, Nat.add_zero, Nat.zero_add, Nat.le_refl, Nat.zero_le, List.set_cons_zero, List.set_cons_succ, List.set_nil, ↓reduceIte, Nat.reduceAdd, Nat.reduceSub, Nat.reduceEqDiff, Nat.reduceLeDiff, Int.reduceEq, Int.reduceNe, Int.reduceNeg, reduceCtorEq, kd94, kd88, z94_1 S5.1.1, e885]
      refine l_numbers (N := fil (ust N3 94 5 0) 97 8 1) (ρ := ρ3) hG hp hcv hl e885 (fun i x hx => by rw [F5 95 (by decide) (by decide)]; exact O3 i x hx) hk (fun N6 S6 F6 I6 A6 => ?_) ((tkl f g).length - 1) 0 _ (by have := tkl_pos f g; omega) S5 (FX.rf _ _) (fun _ _ => rfl) ⟨?_, fun k hk => ?_⟩
      · simp only [bk89_0, bk89_7, bk89_8, bk89_23, bk89_34, bk89_43, bk89_52, bk89_57, bk89_63, U_aload_n, U_getfield, U_if_eq, U_return, U_iconst, U_putfield, U_invokestatic2, U_istore_n, U_iload_n, U_icmp_ge, U_alen, U_iald, U_if_ne, U_invokevirtual1, U_iinc, U_goto, U_invokevirtual0, UN_cc, UN_cn, UN_nc, UN_nn, UJ, lget, lset, lset2, entL, wsm, wcat, Option.toList_some, Option.toList_none, List.cons_append, List.nil_append, List.mem_cons, List.not_mem_nil, Prod.mk.injEq, or_false, false_or, or_true, true_or, and_true, true_and, and_false, false_and, and_self, ne_eq, not_false_eq_true, not_true_eq_false, forall_const, true_implies, false_implies, Nat.add_zero, Nat.zero_add, Nat.le_refl, Nat.zero_le, List.set_cons_zero, List.set_cons_succ, List.set_nil, ↓reduceIte, Nat.reduceAdd, Nat.reduceSub, Nat.reduceEqDiff, Nat.reduceLeDiff, Int.reduceEq, Int.reduceNe, Int.reduceNeg, reduceCtorEq]
        refine hQ N6 ρ3 S6 (((F2.mo (by simp)).tr (F3.mo (by simp))).tr ((F5.mo (by simp)).tr (F6.mo (by simp)))) R3 ?_ A6
        rw [I6 6 (by decide), fil_ne (by decide), ust_at, if_neg (by decide), e94', ust_at, if_pos rfl]
      · rw [fil_ne (by decide), ust_at, if_pos rfl]; rfl
      · rw [fil_in (by omega) (by omega)]; rfl
    · rw [fil_in (by omega) (by have := (List.getElem?_eq_some_iff.mp hx).1; rw [cll_len] at this; omega)]; rfl
  · refine WP.run [(89, 23)] [] 60 ?_
    simp only [bk89_0, bk89_7, bk89_8, bk89_23, bk89_34, bk89_43, bk89_52, bk89_57, bk89_63, U_aload_n, U_getfield, U_if_eq, U_return, U_iconst, U_putfield, U_invokestatic2, U_istore_n, U_iload_n, U_icmp_ge, U_alen, U_iald, U_if_ne, U_invokevirtual1, U_iinc, U_goto, U_invokevirtual0, UN_cc, UN_cn, UN_nc, UN_nn, UJ, lget, lset, lset2, entL, wsm, wcat, Option.toList_some, Option.toList_none, List.cons_append, List.nil_append, List.mem_cons, List.not_mem_nil, Prod.mk.injEq, or_false, false_or, or_true, true_or, and_true, true_and, and_false, false_and, and_self, ne_eq, not_false_eq_true, not_true_eq_false, forall_const, true_implies, false_implies, Nat.add_zero, Nat.zero_add, Nat.le_refl, Nat.zero_le, List.set_cons_zero, List.set_cons_succ, List.set_nil, ↓reduceIte, Nat.reduceAdd, Nat.reduceSub, Nat.reduceEqDiff, Nat.reduceLeDiff, Int.reduceEq, Int.reduceNe, Int.reduceNeg, reduceCtorEq, kd94, h1]
    exact ⟨r3 (by omega), hQ N ρ hS (FX.rf _ _) (fun _ _ => rfl) h1 hC⟩
/-- the i-th number of the group, -1 where there is none -/
def gAt (nu : Nat → Nat) (mx : Nat) (i : Nat) : Int := if i < mx then (nu (mx - 1 - i) : Int) else -1
set_option maxHeartbeats 8000000 in
theorem c_numberAt {N : Mem} {Q : Post} {nu : Nat → Nat} {mx : Nat} {i : Int} (hz : Fz N) (hA : NmA N nu mx) (hm : mx ≤ 4) (hi : 0 ≤ i ∧ R32 i) (hQ : Q (some (0, gAt nu mx i.toNat)) NN N) : CL 81 [(2, 94), (0, i), (9, 0)] NN N Q := by
  have hi2 := hi.2
  unfold R32 at hi2
  unfold gAt at hQ
  refine WP.run [] [] 60 ?_
  by_cases q : i.toNat < mx
  · rw [if_pos q] at hQ
    have e := hA.2 (mx - 1 - i.toNat) (by omega)
    rw [show ((mx - 1 - i.toNat : Nat) : Int) = (mx : Int) - 1 - i by omega] at e
    simp only [bk81_0, bk81_13, bk81_17, bk81_26, bk81_30, bk81_36, U_aload_n, U_getfield, U_iconst, U_isub, U_iload_n, U_istore_n, U_if_lt, U_alen, U_icmp_lt, U_goto, U_iald, U_ireturn, UN_cc, UN_cn, UN_nc, UN_nn, UJ, lget, lset, lset2, entL, wsm, wcat, Option.toList_some, Option.toList_none, List.cons_append, List.nil_append, List.mem_cons, List.not_mem_nil, Prod.mk.injEq, or_false, false_or, or_true, true_or, and_true, true_and, and_false, false_and, and_self, ne_eq, not_false_eq_true, not_true_eq_false, forall_const, true_implies, false_implies, Nat.add_zero, Nat.zero_add, Nat.le_refl, Nat.zero_le, List.set_cons_zero, List.set_cons_succ, List.set_nil, ↓reduceIte, Nat.reduceAdd, Nat.reduceSub, Nat.reduceEqDiff, Nat.reduceLeDiff, Int.reduceEq, Int.reduceNe, Int.reduceNeg, reduceCtorEq, kd94, kd97, ln97, z94_4 hz, hA.1, e]
    exact ⟨r3 (by omega), fun e => absurd e (by omega), fun _ => ⟨r3 (by omega), fun e => absurd e (by omega), fun _ => ⟨rr (by omega), fun _ => ⟨by omega, by omega, hQ⟩, fun e => absurd (by omega) e⟩⟩⟩
  · rw [if_neg q] at hQ
    simp only [bk81_0, bk81_13, bk81_17, bk81_26, bk81_30, bk81_36, U_aload_n, U_getfield, U_iconst, U_isub, U_iload_n, U_istore_n, U_if_lt, U_alen, U_icmp_lt, U_goto, U_iald, U_ireturn, UN_cc, UN_cn, UN_nc, UN_nn, UJ, lget, lset, lset2, entL, wsm, wcat, Option.toList_some, Option.toList_none, List.cons_append, List.nil_append, List.mem_cons, List.not_mem_nil, Prod.mk.injEq, or_false, false_or, or_true, true_or, and_true, true_and, and_false, false_and, and_self, ne_eq, not_false_eq_true, not_true_eq_false, forall_const, true_implies, false_implies, Nat.add_zero, Nat.zero_add, Nat.le_refl, Nat.zero_le, List.set_cons_zero, List.set_cons_succ, List.set_nil, ↓reduceIte, Nat.reduceAdd, Nat.reduceSub, Nat.reduceEqDiff, Nat.reduceLeDiff, Int.reduceEq, Int.reduceNe, Int.reduceNeg, reduceCtorEq, kd94, kd97, ln97, z94_4 hz, hA.1]
    exact ⟨r3 (by omega), fun e => absurd e (by omega), fun _ => ⟨r3 (by omega), fun _ => hQ, fun e => absurd (by omega) e⟩⟩
set_option maxHeartbeats 4000000 in
theorem c_gforget {N : Mem} {Q : Post} (hQ : Q none NN (ust N 94 6 0)) : CL 80 [(2, 94)] NN N Q := by
  refine WP.run [] [] 60 ?_
  simp only [bk80_0, U_aload_n, U_iconst, U_putfield, U_return, UN_cc, UN_cn, UN_nc, UN_nn, UJ, lget, lset, lset2, entL, wsm, wcat, Option.toList_some, Option.toList_none, List.cons_append, List.nil_append, List.mem_cons, List.not_mem_nil, Prod.mk.injEq, or_false, false_or, or_true, true_or, and_true, true_and, and_false, false_and, and_self, ne_eq, not_false_eq_true, not_true_eq_false, forall_const, true_implies, false_implies, Nat.add_zero, Nat.zero_add, Nat.le_refl, Nat.zero_le, List.set_cons_zero, List.set_cons_succ, List.set_nil, ↓reduceIte, Nat.reduceAdd, Nat.reduceSub, Nat.reduceEqDiff, Nat.reduceLeDiff, Int.reduceEq, Int.reduceNe, Int.reduceNeg, reduceCtorEq, kd94]
  exact hQ
set_option maxHeartbeats 4000000 in
theorem c_tforget {N : Mem} {Q : Post} (hQ : Q none NN (ust N 182 4 0)) : CL 109 [(2, 182)] NN N Q := by
  refine WP.run [] [] 60 ?_
  simp only [bk109_0, U_aload_n, U_iconst, U_putfield, U_return, UN_cc, UN_cn, UN_nc, UN_nn, UJ, lget, lset, lset2, entL, wsm, wcat, Option.toList_some, Option.toList_none, List.cons_append, List.nil_append, List.mem_cons, List.not_mem_nil, Prod.mk.injEq, or_false, false_or, or_true, true_or, and_true, true_and, and_false, false_and, and_self, ne_eq, not_false_eq_true, not_true_eq_false, forall_const, true_implies, false_implies, Nat.add_zero, Nat.zero_add, Nat.le_refl, Nat.zero_le, List.set_cons_zero, List.set_cons_succ, List.set_nil, ↓reduceIte, Nat.reduceAdd, Nat.reduceSub, Nat.reduceEqDiff, Nat.reduceLeDiff, Int.reduceEq, Int.reduceNe, Int.reduceNeg, reduceCtorEq, kd182]
  exact hQ
set_option maxHeartbeats 4000000 in
theorem c_cforget {N : Mem} {Q : Post} (hQ : Q none NN (ust (ust N 120 9 0) 120 13 (-1))) : CL 35 [(2, 120)] NN N Q := by
  refine WP.run [] [] 60 ?_
  simp only [bk35_0, U_aload_n, U_iconst, U_putfield, U_return, UN_cc, UN_cn, UN_nc, UN_nn, UJ, lget, lset, lset2, entL, wsm, wcat, Option.toList_some, Option.toList_none, List.cons_append, List.nil_append, List.mem_cons, List.not_mem_nil, Prod.mk.injEq, or_false, false_or, or_true, true_or, and_true, true_and, and_false, false_and, and_self, ne_eq, not_false_eq_true, not_true_eq_false, forall_const, true_implies, false_implies, Nat.add_zero, Nat.zero_add, Nat.le_refl, Nat.zero_le, List.set_cons_zero, List.set_cons_succ, List.set_nil, ↓reduceIte, Nat.reduceAdd, Nat.reduceSub, Nat.reduceEqDiff, Nat.reduceLeDiff, Int.reduceEq, Int.reduceNe, Int.reduceNeg, reduceCtorEq, kd120]
  exact hQ
set_option maxHeartbeats 4000000 in
theorem c_clearTold {N : Mem} {Q : Post} (hz : Fz N) (hQ : Q none NN (ust (fil N 121 26 0) 120 13 (-1))) : CL 36 [(2, 120)] NN N Q := by
  refine WP.run [] [] 60 ?_
  simp only [bk36_0, U_aload_n, U_getfield, U_iconst, U_invokestatic2, U_putfield, U_return, UN_cc, UN_cn, UN_nc, UN_nn, UJ, lget, lset, lset2, entL, wsm, wcat, Option.toList_some, Option.toList_none, List.cons_append, List.nil_append, List.mem_cons, List.not_mem_nil, Prod.mk.injEq, or_false, false_or, or_true, true_or, and_true, true_and, and_false, false_and, and_self, ne_eq, not_false_eq_true, not_true_eq_false, forall_const, true_implies, false_implies, Nat.add_zero, Nat.zero_add, Nat.le_refl, Nat.zero_le, List.set_cons_zero, List.set_cons_succ, List.set_nil, ↓reduceIte, Nat.reduceAdd, Nat.reduceSub, Nat.reduceEqDiff, Nat.reduceLeDiff, Int.reduceEq, Int.reduceNe, Int.reduceNeg, reduceCtorEq, kd120, z120_2 hz]
  refine c_fill rfl ?_
  simp only [bk36_0, U_aload_n, U_getfield, U_iconst, U_invokestatic2, U_putfield, U_return, UN_cc, UN_cn, UN_nc, UN_nn, UJ, lget, lset, lset2, entL, wsm, wcat, Option.toList_some, Option.toList_none, List.cons_append, List.nil_append, List.mem_cons, List.not_mem_nil, Prod.mk.injEq, or_false, false_or, or_true, true_or, and_true, true_and, and_false, false_and, and_self, ne_eq, not_false_eq_true, not_true_eq_false, forall_const, true_implies, false_implies, Nat.add_zero, Nat.zero_add, Nat.le_refl, Nat.zero_le, List.set_cons_zero, List.set_cons_succ, List.set_nil, ↓reduceIte, Nat.reduceAdd, Nat.reduceSub, Nat.reduceEqDiff, Nat.reduceLeDiff, Int.reduceEq, Int.reduceNe, Int.reduceNeg, reduceCtorEq, kd120]
  exact hQ
set_option maxHeartbeats 4000000 in
theorem c_toldAt {N : Mem} {Q : Post} {j : Nat} (hz : Fz N) (hj : j < 26) (hQ : Q (some (0, N 121 (j : Int))) NN N) : CL 37 [(2, 120), (0, (j : Int))] NN N Q := by
  refine WP.run [] [] 60 ?_
  simp only [bk37_0, bk37_4, bk37_10, bk37_14, bk37_20, U_iload_n, U_if_lt, U_bipush, U_icmp_lt, U_iconst, U_goto, U_aload_n, U_getfield, U_iald, U_ireturn, UN_cc, UN_cn, UN_nc, UN_nn, UJ, lget, lset, lset2, entL, wsm, wcat, Option.toList_some, Option.toList_none, List.cons_append, List.nil_append, List.mem_cons, List.not_mem_nil, Prod.mk.injEq, or_false, false_or, or_true, true_or, and_true, true_and, and_false, false_and, and_self, ne_eq, not_false_eq_true, not_true_eq_false, forall_const, true_implies, false_implies, Nat.add_zero, Nat.zero_add, Nat.le_refl, Nat.zero_le, List.set_cons_zero, List.set_cons_succ, List.set_nil, ↓reduceIte, Nat.reduceAdd, Nat.reduceSub, Nat.reduceEqDiff, Nat.reduceLeDiff, Int.reduceEq, Int.reduceNe, Int.reduceNeg, reduceCtorEq, kd120, kd121, ln121, z120_2 hz]
  exact ⟨r3 (by omega), fun e => absurd e (by omega), fun _ => ⟨rr (by omega), fun _ => ⟨by omega, by omega, hQ⟩, fun e => absurd (by omega) e⟩⟩
set_option maxHeartbeats 4000000 in
theorem c_changeTold {N : Mem} {Q : Post} {j : Nat} {v : Int} (hz : Fz N) (hj : j < 26) (hQ : Q (some (0, N 121 (j : Int))) NN (ust (ust N 121 (j : Int) v) 120 13 (-1))) : CL 38 [(2, 120), (0, (j : Int)), (0, v), (9, 0)] NN N Q := by
  refine WP.run [] [] 60 ?_
  simp only [bk38_0, bk38_10, bk38_16, bk38_23, U_aload_n, U_iload_n, U_invokevirtual1, U_istore_n, U_if_lt, U_bipush, U_icmp_ge, U_getfield, U_iast, U_iconst, U_putfield, U_ireturn, UN_cc, UN_cn, UN_nc, UN_nn, UJ, lget, lset, lset2, entL, wsm, wcat, Option.toList_some, Option.toList_none, List.cons_append, List.nil_append, List.mem_cons, List.not_mem_nil, Prod.mk.injEq, or_false, false_or, or_true, true_or, and_true, true_and, and_false, false_and, and_self, ne_eq, not_false_eq_true, not_true_eq_false, forall_const, true_implies, false_implies, Nat.add_zero, Nat.zero_add, Nat.le_refl, Nat.zero_le, List.set_cons_zero, List.set_cons_succ, List.set_nil, ↓reduceIte, Nat.reduceAdd, Nat.reduceSub, Nat.reduceEqDiff, Nat.reduceLeDiff, Int.reduceEq, Int.reduceNe, Int.reduceNeg, reduceCtorEq, kd120]
  refine c_toldAt hz hj ?_
  simp only [bk38_0, bk38_10, bk38_16, bk38_23, U_aload_n, U_iload_n, U_invokevirtual1, U_istore_n, U_if_lt, U_bipush, U_icmp_ge, U_getfield, U_iast, U_iconst, U_putfield, U_ireturn, UN_cc, UN_cn, UN_nc, UN_nn, UJ, lget, lset, lset2, entL, wsm, wcat, Option.toList_some, Option.toList_none, List.cons_append, List.nil_append, List.mem_cons, List.not_mem_nil, Prod.mk.injEq, or_false, false_or, or_true, true_or, and_true, true_and, and_false, false_and, and_self, ne_eq, not_false_eq_true, not_true_eq_false, forall_const, true_implies, false_implies, Nat.add_zero, Nat.zero_add, Nat.le_refl, Nat.zero_le, List.set_cons_zero, List.set_cons_succ, List.set_nil, ↓reduceIte, Nat.reduceAdd, Nat.reduceSub, Nat.reduceEqDiff, Nat.reduceLeDiff, Int.reduceEq, Int.reduceNe, Int.reduceNeg, reduceCtorEq, kd120, kd121, ln121, z120_2 hz]
  exact ⟨r3 (by omega), fun e => absurd e (by omega), fun _ => ⟨rr (by omega), fun _ => ⟨by omega, by omega, hQ⟩, fun e => absurd (by omega) e⟩⟩
set_option maxHeartbeats 4000000 in
theorem c_wordAt {N : Mem} {Q : Post} {i j : Nat} (hz : Fz N) (hi : i < 26) (hj : j < 26) (hQ : Q (some (0, N (123 + (i : Int)) (j : Int))) NN N) : CL 44 [(2, 120), (0, (i : Int)), (0, (j : Int))] NN N Q := by
  obtain ⟨k1, -, l1, -, -, -⟩ := cdk (i := (i : Int)) (by omega) (by omega)
  have z2 := (z122 hz (i : Int) (by omega) (by omega)).1
  have nz : ¬ (123 + (i : Int) = 0) := by omega
  refine WP.run [] [] 60 ?_
  simp only [bk44_0, bk44_4, bk44_10, bk44_14, bk44_20, bk44_22, U_iload_n, U_if_lt, U_bipush, U_icmp_ge, U_icmp_lt, U_iconst, U_ireturn, U_aload_n, U_getfield, U_aald, U_iald, UN_cc, UN_cn, UN_nc, UN_nn, UJ, lget, lset, lset2, entL, wsm, wcat, Option.toList_some, Option.toList_none, List.cons_append, List.nil_append, List.mem_cons, List.not_mem_nil, Prod.mk.injEq, or_false, false_or, or_true, true_or, and_true, true_and, and_false, false_and, and_self, ne_eq, not_false_eq_true, not_true_eq_false, forall_const, true_implies, false_implies, Nat.add_zero, Nat.zero_add, Nat.le_refl, Nat.zero_le, List.set_cons_zero, List.set_cons_succ, List.set_nil, ↓reduceIte, Nat.reduceAdd, Nat.reduceSub, Nat.reduceEqDiff, Nat.reduceLeDiff, Int.reduceEq, Int.reduceNe, Int.reduceNeg, reduceCtorEq, kd120, kd122, ln122, z120_3 hz, z2, nz, k1, l1]
  exact ⟨r3 (by omega), fun e => absurd e (by omega), fun _ => ⟨rr (by omega), fun _ => ⟨r3 (by omega), fun e => absurd e (by omega), fun _ => ⟨rr (by omega), fun _ => ⟨by omega, by omega, by omega, by omega, hQ⟩, fun e => absurd (by omega) e⟩⟩, fun e => absurd (by omega) e⟩⟩
set_option maxHeartbeats 4000000 in
theorem c_nearDigit {N : Mem} {Q : Post} {j : Nat} (hz : Fz N) (hj : j < 26) (hQ : Q (some (0, N 181 (j : Int))) NN N) : CL 45 [(2, 120), (0, (j : Int))] NN N Q := by
  refine WP.run [] [] 60 ?_
  simp only [bk45_0, bk45_4, bk45_10, bk45_14, bk45_20, U_iload_n, U_if_lt, U_bipush, U_icmp_lt, U_iconst, U_goto, U_aload_n, U_getfield, U_iald, U_ireturn, UN_cc, UN_cn, UN_nc, UN_nn, UJ, lget, lset, lset2, entL, wsm, wcat, Option.toList_some, Option.toList_none, List.cons_append, List.nil_append, List.mem_cons, List.not_mem_nil, Prod.mk.injEq, or_false, false_or, or_true, true_or, and_true, true_and, and_false, false_and, and_self, ne_eq, not_false_eq_true, not_true_eq_false, forall_const, true_implies, false_implies, Nat.add_zero, Nat.zero_add, Nat.le_refl, Nat.zero_le, List.set_cons_zero, List.set_cons_succ, List.set_nil, ↓reduceIte, Nat.reduceAdd, Nat.reduceSub, Nat.reduceEqDiff, Nat.reduceLeDiff, Int.reduceEq, Int.reduceNe, Int.reduceNeg, reduceCtorEq, kd120, kd181, ln181, z120_15 hz]
  exact ⟨r3 (by omega), fun e => absurd e (by omega), fun _ => ⟨rr (by omega), fun _ => ⟨by omega, by omega, hQ⟩, fun e => absurd (by omega) e⟩⟩
