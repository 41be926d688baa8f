/-! THE GROUP OBJECT: rounds walked, orders -/
theorem clI_z {p : Int} (hp : Pr p) {f : Pz p} {g : Nat} (hg : g = 1 ∨ g = 2) {ad : Gq f g → Gq f g → Gq f g} {z : Gq f g} {ng : Gq f g → Gq f g} (hG : GG f g ad z ng) : clI z z = 0 := by
  have h := cll_at hp hg z (clI_is hp hg z z)
  have e : tkn z.1 = 0 := tkn_0 ((Gq_z hG hp z).mpr rfl)
  rw [e] at h
  rcases Nat.eq_zero_or_pos (clI z z) with q | q
  · exact q
  · have := (tkl_ascB hp f g).1 0 _ 0 _ q (tkl_0 f g) h; omega
theorem clI_lt {p : Int} (hp : Pr p) {f : Pz p} {g : Nat} (hg : g = 1 ∨ g = 2) (z x : Gq f g) : clI z x < (tkl f g).length := by
  have h := (List.getElem?_eq_some_iff.mp (clI_is hp hg z x)).1
  rwa [cll_len] at h
/-- orders as far as known -/
def OrA {p : Int} {f : Pz p} {g : Nat} (ad : Gq f g → Gq f g → Gq f g) (z : Gq f g) (N : Mem) : Prop := ∀ (i : Nat) (x : Gq f g), (cll f g z)[i]? = some x → ∃ o : Nat, N 95 (i : Int) = (o : Int) ∧ o ≤ 450 ∧ (o = 0 ∨ IsOrd ad z x o)
/-- rows that the group object uses up -/
def gro (r : Int) : Prop := scr r ∨ r = 99 ∨ r = 101 ∨ r = 104 ∨ r = 106
theorem ord_le {p : Int} (hp : Pr p) {f : Pz p} {g : Nat} (hg : g = 1 ∨ g = 2) {ad : Gq f g → Gq f g → Gq f g} {z : Gq f g} {ng : Gq f g → Gq f g} (hG : GG f g ad z ng) {x : Gq f g} {o : Nat} (h : IsOrd ad z x o) : o ≤ (tkl f g).length := by
  have := lagr hG.1 (cll_is hp hg z).1 (cll_is hp hg z).2 x
  rw [cll_len] at this
  exact h.2.2 _ (by have := tkl_pos f g; omega) this
set_option maxHeartbeats 16000000 in
theorem l_wk1 {p : Int} {N : Mem} {ρ : Int → Option (Pz p)} {Q : Post} {f : Pz p} {g : Nat} {ad : Gq f g → Gq f g → Gq f g} {z : Gq f g} {ng : Gq f g → Gq f g} {x : Gq f g} {o : Nat} {i : Int} (hG : GG f g ad z ng) (hp : Pr p) (hcv : Cv f g) (hf : ρ 22 = some f) (hg : N 21 3 = g) (hT : TkA N (tkl f g)) (hl : (tkl f g).length ≤ 450) (ho : IsOrd ad z x o)
    (hQ : ∀ N' ρ', ST p N' ρ' → FX [96] N N' → (∀ r, ¬ gro r → ρ' r = ρ r) → (∀ k : Nat, k + 1 < o → N' 96 (k : Int) = (clI z (nsm ad z (k + 1) x) : Int)) → ∀ v w : V, WP 86 (0, 0) 88 [(2, 94), (0, i), (0, (o : Int) - 1), v, w] [] NN N' Q) :
    ∀ (m n : Nat) (v w : V) (Ni : Mem) (ρi : Int → Option (Pz p)), n + 1 + m = o → ST p Ni ρi → FX [96] N Ni → (∀ r, ¬ gro r → ρi r = ρ r) → PH ρi 98 x.1 → PH ρi 103 (nsm ad z (n + 1) x).1 → (∀ k : Nat, k < n → Ni 96 (k : Int) = (clI z (nsm ad z (k + 1) x) : Int)) → WP 86 (0, 0) 25 [(2, 94), (0, i), (0, (n : Int)), v, w] [] NN Ni Q := by
  have k98 : KD 98 = 16 := rfl
  have k103 : KD 103 = 16 := rfl
  have hg12 : g = 1 ∨ g = 2 := hcv.1
  have hol := ord_le hp hg12 hG ho
  intro m
  induction m with
  | zero =>
    intro n v w Ni ρi hm hS hF hρ hx hw hP
    have hz : dg (nsm ad z (n + 1) x).1.1 = 1 := (Gq_z hG hp _).mpr (by have : n + 1 = o := by omega
                                                                        rw [this]; exact ho.2.1)
    have e : (n : Int) = (o : Int) - 1 := by omega
    have fin := hQ Ni ρi hS hF hρ (fun k hk => hP k (by omega)) v w
    rw [← e] at fin
    refine WP.run [(86, 25), (86, 88)] [] 60 ?_
    simp only [bk86_0, bk86_25, bk86_36, bk86_46, bk86_88, bk86_100, bk86_105, bk86_120, bk86_130, bk86_144, bk86_150, U_aload_n, U_getfield, U_iload_n, U_invokevirtual2, U_invokevirtual1, U_iconst, U_istore_n, U_alen, U_isub, U_icmp_ge, U_invokevirtual0, U_if_ne, U_iast, U_iinc, U_invokevirtual3, U_goto, U_icmp_gt, U_iald, U_istore, U_iload, U_if_lt, U_invokestatic2, U_idiv, U_return, UN_cc, UN_cn, UN_nc, UN_nn, UJ, lget, lset, lset2, entL, wsm, wcat, Option.toList_some, Option.toList_none, List.cons_append, List.nil_append, List.mem_cons, List.not_mem_nil, Prod.mk.injEq, or_false, false_or, or_true, true_or, and_true, true_and, and_false, false_and, and_self, ne_eq, not_false_eq_true, not_true_eq_false, forall_const, true_implies, false_implies, Nat.add_zero, Nat.zero_add, Nat.le_refl, Nat.zero_le, List.set_cons_zero, List.set_cons_succ, List.set_nil, ↓reduceIte, Nat.reduceAdd, Nat.reduceSub, Nat.reduceEqDiff, Nat.reduceLeDiff, Int.reduceEq, Int.reduceNe, Int.reduceNeg, reduceCtorEq, kd94, kd96, ln96, z94_3 hS.1.1, z94_8 hS.1.1, kd103]
    refine ⟨rr (by omega), fun _ => ?_, fun _ => fin⟩
    refine s_isNought hS k103 hw (fun _ => ?_) (fun e => absurd hz e)
    simp only [bk86_0, bk86_25, bk86_36, bk86_46, bk86_88, bk86_100, bk86_105, bk86_120, bk86_130, bk86_144, bk86_150, U_aload_n, U_getfield, U_iload_n, U_invokevirtual2, U_invokevirtual1, U_iconst, U_istore_n, U_alen, U_isub, U_icmp_ge, U_invokevirtual0, U_if_ne, U_iast, U_iinc, U_invokevirtual3, U_goto, U_icmp_gt, U_iald, U_istore, U_iload, U_if_lt, U_invokestatic2, U_idiv, U_return, UN_cc, UN_cn, UN_nc, UN_nn, UJ, lget, lset, lset2, entL, wsm, wcat, Option.toList_some, Option.toList_none, List.cons_append, List.nil_append, List.mem_cons, List.not_mem_nil, Prod.mk.injEq, or_false, false_or, or_true, true_or, and_true, true_and, and_false, false_and, and_self, ne_eq, not_false_eq_true, not_true_eq_false, forall_const, true_implies, false_implies, Nat.add_zero, Nat.zero_add, Nat.le_refl, Nat.zero_le, List.set_cons_zero, List.set_cons_succ, List.set_nil, ↓reduceIte, Nat.reduceAdd, Nat.reduceSub, Nat.reduceEqDiff, Nat.reduceLeDiff, Int.reduceEq, Int.reduceNe, Int.reduceNeg, reduceCtorEq]
    exact ⟨r3 (by omega), fin⟩
  | succ m ih =>
    intro n v w Ni ρi hm hS hF hρ hx hw hP
    have hnz : dg (nsm ad z (n + 1) x).1.1 ≠ 1 := fun e => by
      have := ho.2.2 (n + 1) (by omega) ((Gq_z hG hp _).mp e); omega
    have hf1 : ρi 22 = some f := (hρ 22 (by unfold gro scr tmp; omega)).trans hf
    have hTi : TkA Ni (tkl f g) := hT.fx (hF 88 (by decide) (by decide)) (hF 89 (by decide) (by decide))
    refine WP.run [(86, 25), (86, 88)] [] 90 ?_
    simp only [bk86_0, bk86_25, bk86_36, bk86_46, bk86_88, bk86_100, bk86_105, bk86_120, bk86_130, bk86_144, bk86_150, U_aload_n, U_getfield, U_iload_n, U_invokevirtual2, U_invokevirtual1, U_iconst, U_istore_n, U_alen, U_isub, U_icmp_ge, U_invokevirtual0, U_if_ne, U_iast, U_iinc, U_invokevirtual3, U_goto, U_icmp_gt, U_iald, U_istore, U_iload, U_if_lt, U_invokestatic2, U_idiv, U_return, UN_cc, UN_cn, UN_nc, UN_nn, UJ, lget, lset, lset2, entL, wsm, wcat, Option.toList_some, Option.toList_none, List.cons_append, List.nil_append, List.mem_cons, List.not_mem_nil, Prod.mk.injEq, or_false, false_or, or_true, true_or, and_true, true_and, and_false, false_and, and_self, ne_eq, not_false_eq_true, not_true_eq_false, forall_const, true_implies, false_implies, Nat.add_zero, Nat.zero_add, Nat.le_refl, Nat.zero_le, List.set_cons_zero, List.set_cons_succ, List.set_nil, ↓reduceIte, Nat.reduceAdd, Nat.reduceSub, Nat.reduceEqDiff, Nat.reduceLeDiff, Int.reduceEq, Int.reduceNe, Int.reduceNeg, reduceCtorEq, kd94, kd96, ln96, z94_3 hS.1.1, z94_8 hS.1.1, kd103]
    refine ⟨rr (by omega), fun _ => ?_, fun e => absurd (by omega) e⟩
    refine s_isNought hS k103 hw (fun e => absurd e hnz) (fun _ => ?_)
    simp only [bk86_0, bk86_25, bk86_36, bk86_46, bk86_88, bk86_100, bk86_105, bk86_120, bk86_130, bk86_144, bk86_150, U_aload_n, U_getfield, U_iload_n, U_invokevirtual2, U_invokevirtual1, U_iconst, U_istore_n, U_alen, U_isub, U_icmp_ge, U_invokevirtual0, U_if_ne, U_iast, U_iinc, U_invokevirtual3, U_goto, U_icmp_gt, U_iald, U_istore, U_iload, U_if_lt, U_invokestatic2, U_idiv, U_return, UN_cc, UN_cn, UN_nc, UN_nn, UJ, lget, lset, lset2, entL, wsm, wcat, Option.toList_some, Option.toList_none, List.cons_append, List.nil_append, List.mem_cons, List.not_mem_nil, Prod.mk.injEq, or_false, false_or, or_true, true_or, and_true, true_and, and_false, false_and, and_self, ne_eq, not_false_eq_true, not_true_eq_false, forall_const, true_implies, false_implies, Nat.add_zero, Nat.zero_add, Nat.le_refl, Nat.zero_le, List.set_cons_zero, List.set_cons_succ, List.set_nil, ↓reduceIte, Nat.reduceAdd, Nat.reduceSub, Nat.reduceEqDiff, Nat.reduceLeDiff, Int.reduceEq, Int.reduceNe, Int.reduceNeg, reduceCtorEq, kd94, kd96, kd88, z94_1 hS.1.1, z94_3 hS.1.1, z94_8 hS.1.1]
    refine ⟨r3 (by omega), s_findG (z := z) hS k103 hg12 hTi hl hw ?_⟩
    have S1 : ST p (ust Ni 96 (n : Int) (clI z (nsm ad z (n + 1) x) : Int)) ρi := hS.ust _ _ (fz_arr (Or.inl rfl) _) (by decide) (by decide) (by decide)
    simp only [bk86_0, bk86_25, bk86_36, bk86_46, bk86_88, bk86_100, bk86_105, bk86_120, bk86_130, bk86_144, bk86_150, U_aload_n, U_getfield, U_iload_n, U_invokevirtual2, U_invokevirtual1, U_iconst, U_istore_n, U_alen, U_isub, U_icmp_ge, U_invokevirtual0, U_if_ne, U_iast, U_iinc, U_invokevirtual3, U_goto, U_icmp_gt, U_iald, U_istore, U_iload, U_if_lt, U_invokestatic2, U_idiv, U_return, UN_cc, UN_cn, UN_nc, UN_nn, UJ, lget, lset, lset2, entL, wsm, wcat, Option.toList_some, Option.toList_none, List.cons_append, List.nil_append, List.mem_cons, List.not_mem_nil, Prod.mk.injEq, or_false, false_or, or_true, true_or, and_true, true_and, and_false, false_and, and_self, ne_eq, not_false_eq_true, not_true_eq_false, forall_const, true_implies, false_implies, Nat.add_zero, Nat.zero_add, Nat.le_refl, Nat.zero_le, List.set_cons_zero, List.set_cons_succ, List.set_nil, ↓reduceIte, Nat.reduceAdd, Nat.reduceSub, Nat.reduceEqDiff, Nat.reduceLeDiff, Int.reduceEq, Int.reduceNe, Int.reduceNeg, reduceCtorEq, kd94, kd96, ln96, kd32, z94_0 S1.1.1, z94_7 S1.1.1, z94_8 S1.1.1]
    refine ⟨by omega, by omega, ?_⟩
    refine s_addG hG S1 hcv hf1 (by rw [ust_ne (by decide), hF 21 (by decide) (by decide)]; exact hg) k103 k103 k98 hw hx fun N2 ρ2 S2 F2 hx2 hρ2 => ?_
    simp only [bk86_0, bk86_25, bk86_36, bk86_46, bk86_88, bk86_100, bk86_105, bk86_120, bk86_130, bk86_144, bk86_150, U_aload_n, U_getfield, U_iload_n, U_invokevirtual2, U_invokevirtual1, U_iconst, U_istore_n, U_alen, U_isub, U_icmp_ge, U_invokevirtual0, U_if_ne, U_iast, U_iinc, U_invokevirtual3, U_goto, U_icmp_gt, U_iald, U_istore, U_iload, U_if_lt, U_invokestatic2, U_idiv, U_return, UN_cc, UN_cn, UN_nc, UN_nn, UJ, lget, lset, lset2, entL, wsm, wcat, Option.toList_some, Option.toList_none, List.cons_append, List.nil_append, List.mem_cons, List.not_mem_nil, Prod.mk.injEq, or_false, false_or, or_true, true_or, and_true, true_and, and_false, false_and, and_self, ne_eq, not_false_eq_true, not_true_eq_false, forall_const, true_implies, false_implies, Nat.add_zero, Nat.zero_add, Nat.le_refl, Nat.zero_le, List.set_cons_zero, List.set_cons_succ, List.set_nil, ↓reduceIte, Nat.reduceAdd, Nat.reduceSub, Nat.reduceEqDiff, Nat.reduceLeDiff, Int.reduceEq, Int.reduceNe, Int.reduceNeg, reduceCtorEq]
    have e96 : N2 96 = (ust Ni 96 (n : Int) (clI z (nsm ad z (n + 1) x) : Int)) 96 := F2 96 (by decide)
    refine ih (n + 1) v w N2 ρ2 (by omega) S2 ((hF.us _ _ (by simp)).tr F2.fx) (fun r hr => by
      have hr' := hr
      unfold gro at hr'
      rw [hρ2 r (fun q => hr' (Or.inl q)) (by omega) (by omega)]; exact hρ r hr) ⟨(hρ2 _ (by unfold scr tmp; omega) (by omega) (by omega)).trans hx.1, (hρ2 _ (by unfold scr tmp; omega) (by omega) (by omega)).trans hx.2⟩ hx2 (fun k hk => ?_)
    rw [e96, ust_at]
    by_cases e : k = n
    · subst e; rw [if_pos rfl]
    · rw [if_neg (by omega)]; exact hP k (by omega)
set_option maxHeartbeats 16000000 in
theorem l_wk2 {p : Int} {N : Mem} {ρ : Int → Option (Pz p)} {Q : Post} {f : Pz p} {g : Nat} {ad : Gq f g → Gq f g → Gq f g} {z : Gq f g} {ng : Gq f g → Gq f g} {x : Gq f g} {o : Nat} {i : Int} (hG : GG f g ad z ng) (hp : Pr p) (hcv : Cv f g) (hl : (tkl f g).length ≤ 450) (ho : IsOrd ad z x o) (hP : ∀ k : Nat, k < o → N 96 (k : Int) = (clI z (nsm ad z (k + 1) x) : Int))
    (hQ : ∀ N', ST p N' ρ → FX [95] N N' → OrA ad z N' → (∀ j : Nat, N 95 (j : Int) ≠ 0 → N' 95 (j : Int) ≠ 0) → N' 95 (clI z x : Int) ≠ 0 → Q none NN N') :
    ∀ (m k : Nat) (w : V) (Ni : Mem), k + m = o + 1 → 1 ≤ k → ST p Ni ρ → FX [95] N Ni → OrA ad z Ni → (∀ j : Nat, N 95 (j : Int) ≠ 0 → Ni 95 (j : Int) ≠ 0) → (1 < k → Ni 95 (clI z x : Int) ≠ 0) → WP 86 (0, 0) 100 [(2, 94), (0, i), (0, (o : Int)), (0, (k : Int)), w] [] NN Ni Q := by
  have hg12 : g = 1 ∨ g = 2 := hcv.1
  have hol := ord_le hp hg12 hG ho
  have ho0 := ho.1
  intro m
  induction m with
  | zero =>
    intro k w Ni hk h1 hS hF hO hN hX
    refine WP.run [(86, 100)] [] 60 ?_
    simp only [bk86_0, bk86_25, bk86_36, bk86_46, bk86_88, bk86_100, bk86_105, bk86_120, bk86_130, bk86_144, bk86_150, U_aload_n, U_getfield, U_iload_n, U_invokevirtual2, U_invokevirtual1, U_iconst, U_istore_n, U_alen, U_isub, U_icmp_ge, U_invokevirtual0, U_if_ne, U_iast, U_iinc, U_invokevirtual3, U_goto, U_icmp_gt, U_iald, U_istore, U_iload, U_if_lt, U_invokestatic2, U_idiv, U_return, UN_cc, UN_cn, UN_nc, UN_nn, UJ, lget, lset, lset2, entL, wsm, wcat, Option.toList_some, Option.toList_none, List.cons_append, List.nil_append, List.mem_cons, List.not_mem_nil, Prod.mk.injEq, or_false, false_or, or_true, true_or, and_true, true_and, and_false, false_and, and_self, ne_eq, not_false_eq_true, not_true_eq_false, forall_const, true_implies, false_implies, Nat.add_zero, Nat.zero_add, Nat.le_refl, Nat.zero_le, List.set_cons_zero, List.set_cons_succ, List.set_nil, ↓reduceIte, Nat.reduceAdd, Nat.reduceSub, Nat.reduceEqDiff, Nat.reduceLeDiff, Int.reduceEq, Int.reduceNe, Int.reduceNeg, reduceCtorEq]
    exact ⟨rr (by omega), fun _ => hQ Ni hS hF hO hN (hX (by omega)), fun e => absurd (by omega) e⟩
  | succ m ih =>
    intro k w Ni hk h1 hS hF hO hN hX
    have hkk := hP (k - 1) (by omega)
    rw [show k - 1 + 1 = k by omega, ← hF 96 (by decide) (by decide), show (((k - 1 : Nat)) : Int) = (k : Int) - 1 by omega] at hkk
    have hlt := clI_lt hp hg12 z (nsm ad z k x)
    have hom := ord_mul hG.1 ho (k := k) (by omega)
    have hd0 := Nat.gcd_pos_of_pos_left k ho0
    have hdl := Nat.gcd_le_left k ho0
    have hdv := Nat.div_le_self o (Nat.gcd o k)
    have hgx := clI_is hp hg12 z (nsm ad z k x)
    generalize hc : clI z (nsm ad z k x) = c at *
    refine WP.run [(86, 100)] [] 90 ?_
    simp only [bk86_0, bk86_25, bk86_36, bk86_46, bk86_88, bk86_100, bk86_105, bk86_120, bk86_130, bk86_144, bk86_150, U_aload_n, U_getfield, U_iload_n, U_invokevirtual2, U_invokevirtual1, U_iconst, U_istore_n, U_alen, U_isub, U_icmp_ge, U_invokevirtual0, U_if_ne, U_iast, U_iinc, U_invokevirtual3, U_goto, U_icmp_gt, U_iald, U_istore, U_iload, U_if_lt, U_invokestatic2, U_idiv, U_return, UN_cc, UN_cn, UN_nc, UN_nn, UJ, lget, lset, lset2, entL, wsm, wcat, Option.toList_some, Option.toList_none, List.cons_append, List.nil_append, List.mem_cons, List.not_mem_nil, Prod.mk.injEq, or_false, false_or, or_true, true_or, and_true, true_and, and_false, false_and, and_self, ne_eq, not_false_eq_true, not_true_eq_false, forall_const, true_implies, false_implies, Nat.add_zero, Nat.zero_add, Nat.le_refl, Nat.zero_le, List.set_cons_zero, List.set_cons_succ, List.set_nil, ↓reduceIte, Nat.reduceAdd, Nat.reduceSub, Nat.reduceEqDiff, Nat.reduceLeDiff, Int.reduceEq, Int.reduceNe, Int.reduceNeg, reduceCtorEq, kd94, kd95, kd96, ln95, ln96, z94_2 hS.1.1, z94_3 hS.1.1, hkk]
    refine ⟨rr (by omega), fun e => absurd e (by omega), fun _ => ⟨by omega, by omega, r3 (by omega), fun e => absurd e (by omega), fun _ => ⟨rr (by omega), fun _ => c_gp (by omega) (by omega) ?_, fun e => absurd (by omega) e⟩⟩⟩
    simp only [bk86_0, bk86_25, bk86_36, bk86_46, bk86_88, bk86_100, bk86_105, bk86_120, bk86_130, bk86_144, bk86_150, U_aload_n, U_getfield, U_iload_n, U_invokevirtual2, U_invokevirtual1, U_iconst, U_istore_n, U_alen, U_isub, U_icmp_ge, U_invokevirtual0, U_if_ne, U_iast, U_iinc, U_invokevirtual3, U_goto, U_icmp_gt, U_iald, U_istore, U_iload, U_if_lt, U_invokestatic2, U_idiv, U_return, UN_cc, UN_cn, UN_nc, UN_nn, UJ, lget, lset, lset2, entL, wsm, wcat, Option.toList_some, Option.toList_none, List.cons_append, List.nil_append, List.mem_cons, List.not_mem_nil, Prod.mk.injEq, or_false, false_or, or_true, true_or, and_true, true_and, and_false, false_and, and_self, ne_eq, not_false_eq_true, not_true_eq_false, forall_const, true_implies, false_implies, Nat.add_zero, Nat.zero_add, Nat.le_refl, Nat.zero_le, List.set_cons_zero, List.set_cons_succ, List.set_nil, ↓reduceIte, Nat.reduceAdd, Nat.reduceSub, Nat.reduceEqDiff, Nat.reduceLeDiff, Int.reduceEq, Int.reduceNe, Int.reduceNeg, reduceCtorEq, kd95, ln95]
    rw [tdiv_nat]
    refine ⟨r3 (by omega), r3 (by omega), by omega, by omega, by omega, ?_⟩
    refine ih (k + 1) _ _ (by omega) (by omega) (hS.ust _ _ (fz_arr (Or.inl rfl) _) (by decide) (by decide) (by decide)) (hF.us _ _ (by simp)) (fun j y hy => ?_) (fun j hj => ?_) (fun _ => ?_)
    · rw [ust_at]
      by_cases e : j = c
      · subst e
        rw [if_pos rfl]
        rw [hgx] at hy
        cases hy
        exact ⟨_, rfl, by omega, Or.inr hom⟩
      · rw [if_neg (by omega)]; exact hO j y hy
    · rw [ust_at]
      by_cases e : j = c
      · subst e; rw [if_pos rfl]; have := hom.1; omega
      · rw [if_neg (by omega)]; exact hN j hj
    · rw [ust_at]
      by_cases e : clI z x = c
      · rw [if_pos (by omega)]; have := hom.1; omega
      · rw [if_neg (by omega)]
        by_cases e2 : k = 1
        · exfalso
          apply e
          rw [← hc, e2, nsm_one hG.1]
        · exact hX (by omega)
set_option maxHeartbeats 16000000 in
theorem s_walk {p : Int} {N : Mem} {ρ : Int → Option (Pz p)} {Q : Post} {f : Pz p} {g : Nat} {ad : Gq f g → Gq f g → Gq f g} {z : Gq f g} {ng : Gq f g → Gq f g} {x : Gq f g} {i : Nat} (hG : GG f g ad z ng) (hS : ST p N ρ) (hcv : Cv f g) (hf : ρ 22 = some f) (hg : N 21 3 = g) (hT : TkA N (tkl f g)) (hl : (tkl f g).length ≤ 450) (hx : (cll f g z)[i]? = some x) (hO : OrA ad z N)
    (hQ : ∀ N' ρ', ST p N' ρ' → FX [95, 96] N N' → (∀ r, ¬ gro r → ρ' r = ρ r) → OrA ad z N' → (∀ j : Nat, N 95 (j : Int) ≠ 0 → N' 95 (j : Int) ≠ 0) → N' 95 (i : Int) ≠ 0 → Q none NN N') : CL 86 [(2, 94), (0, (i : Int)), (9, 0), (9, 0), (9, 0)] NN N Q := by
  have k98 : KD 98 = 16 := rfl
  have k103 : KD 103 = 16 := rfl
  have hp := hS.1.2.1
  have hg12 : g = 1 ∨ g = 2 := hcv.1
  have hci := clI_un hp hg12 hx
  have hla := lagr hG.1 (cll_is hp hg12 z).1 (cll_is hp hg12 z).2 x
  rw [cll_len] at hla
  obtain ⟨o, ho⟩ := ord_ex (by have := tkl_pos f g; omega) hla
  have ho0 := ho.1
  have hol := ord_le hp hg12 hG ho
  refine WP.run [(86, 25)] [] 60 ?_
  simp only [bk86_0, bk86_25, bk86_36, bk86_46, bk86_88, bk86_100, bk86_105, bk86_120, bk86_130, bk86_144, bk86_150, U_aload_n, U_getfield, U_iload_n, U_invokevirtual2, U_invokevirtual1, U_iconst, U_istore_n, U_alen, U_isub, U_icmp_ge, U_invokevirtual0, U_if_ne, U_iast, U_iinc, U_invokevirtual3, U_goto, U_icmp_gt, U_iald, U_istore, U_iload, U_if_lt, U_invokestatic2, U_idiv, U_return, UN_cc, UN_cn, UN_nc, UN_nn, UJ, lget, lset, lset2, entL, wsm, wcat, Option.toList_some, Option.toList_none, List.cons_append, List.nil_append, List.mem_cons, List.not_mem_nil, Prod.mk.injEq, or_false, false_or, or_true, true_or, and_true, true_and, and_false, false_and, and_self, ne_eq, not_false_eq_true, not_true_eq_false, forall_const, true_implies, false_implies, Nat.add_zero, Nat.zero_add, Nat.le_refl, Nat.zero_le, List.set_cons_zero, List.set_cons_succ, List.set_nil, ↓reduceIte, Nat.reduceAdd, Nat.reduceSub, Nat.reduceEqDiff, Nat.reduceLeDiff, Int.reduceEq, Int.reduceNe, Int.reduceNeg, reduceCtorEq, kd94, kd88, z94_1 hS.1.1, z94_7 hS.1.1]
  refine s_fetchG hS k98 hg12 hT hl hx fun N1 ρ1 S1 F1 P1 R1 => ?_
  simp only [bk86_0, bk86_25, bk86_36, bk86_46, bk86_88, bk86_100, bk86_105, bk86_120, bk86_130, bk86_144, bk86_150, U_aload_n, U_getfield, U_iload_n, U_invokevirtual2, U_invokevirtual1, U_iconst, U_istore_n, U_alen, U_isub, U_icmp_ge, U_invokevirtual0, U_if_ne, U_iast, U_iinc, U_invokevirtual3, U_goto, U_icmp_gt, U_iald, U_istore, U_iload, U_if_lt, U_invokestatic2, U_idiv, U_return, UN_cc, UN_cn, UN_nc, UN_nn, UJ, lget, lset, lset2, entL, wsm, wcat, Option.toList_some, Option.toList_none, List.cons_append, List.nil_append, List.mem_cons, List.not_mem_nil, Prod.mk.injEq, or_false, false_or, or_true, true_or, and_true, true_and, and_false, false_and, and_self, ne_eq, not_false_eq_true, not_true_eq_false, forall_const, true_implies, false_implies, Nat.add_zero, Nat.zero_add, Nat.le_refl, Nat.zero_le, List.set_cons_zero, List.set_cons_succ, List.set_nil, ↓reduceIte, Nat.reduceAdd, Nat.reduceSub, Nat.reduceEqDiff, Nat.reduceLeDiff, Int.reduceEq, Int.reduceNe, Int.reduceNeg, reduceCtorEq, kd94, kd103, z94_7 S1.1.1, z94_8 S1.1.1]
  refine s_pairCopy S1 k103 k98 (by decide) P1 fun N2 S2 F2 => ?_
  simp only [bk86_0, bk86_25, bk86_36, bk86_46, bk86_88, bk86_100, bk86_105, bk86_120, bk86_130, bk86_144, bk86_150, U_aload_n, U_getfield, U_iload_n, U_invokevirtual2, U_invokevirtual1, U_iconst, U_istore_n, U_alen, U_isub, U_icmp_ge, U_invokevirtual0, U_if_ne, U_iast, U_iinc, U_invokevirtual3, U_goto, U_icmp_gt, U_iald, U_istore, U_iload, U_if_lt, U_invokestatic2, U_idiv, U_return, UN_cc, UN_cn, UN_nc, UN_nn, UJ, lget, lset, lset2, entL, wsm, wcat, Option.toList_some, Option.toList_none, List.cons_append, List.nil_append, List.mem_cons, List.not_mem_nil, Prod.mk.injEq, or_false, false_or, or_true, true_or, and_true, true_and, and_false, false_and, and_self, ne_eq, not_false_eq_true, not_true_eq_false, forall_const, true_implies, false_implies, Nat.add_zero, Nat.zero_add, Nat.le_refl, Nat.zero_le, List.set_cons_zero, List.set_cons_succ, List.set_nil, ↓reduceIte, Nat.reduceAdd, Nat.reduceSub, Nat.reduceEqDiff, Nat.reduceLeDiff, Int.reduceEq, Int.reduceNe, Int.reduceNeg, reduceCtorEq]
  have f12 := F1.tr F2
  have hρ2 : ∀ r, ¬ gro r → upq (upq ρ1 (103 + 1) x.1.1) (103 + 3) x.1.2 r = ρ r := fun r hr => by
    unfold gro at hr
    rw [upq_n (show r ≠ 103 + 3 by omega), upq_n (show r ≠ 103 + 1 by omega)]; exact R1 r (by omega) (by omega)
  refine l_wk1 (N := N2) (ρ := upq (upq ρ1 (103 + 1) x.1.1) (103 + 3) x.1.2) (x := x) (o := o) hG hp hcv ((hρ2 22 (by unfold gro scr tmp; omega)).trans hf) (by rw [f12 21 (by decide)]; exact hg) (hT.fx (f12 88 (by decide)) (f12 89 (by decide))) hl ho (fun N3 ρ3 S3 F3 R3 P3 v w => ?_) (o - 1) 0 _ _ N2 _ (by omega) S2 (FX.rf _ _) (fun _ _ => rfl) (P1.upq2 S1.1.1 k103 k98 (by decide)) ?_ (fun k hk => by omega)
  · have S4 : ST p (ust N3 96 ((o : Int) - 1) 0) ρ3 := S3.ust _ _ (fz_arr (Or.inl rfl) _) (by decide) (by decide) (by decide)
    refine WP.run [(86, 100)] [] 60 ?_
    simp only [bk86_0, bk86_25, bk86_36, bk86_46, bk86_88, bk86_100, bk86_105, bk86_120, bk86_130, bk86_144, bk86_150, U_aload_n, U_getfield, U_iload_n, U_invokevirtual2, U_invokevirtual1, U_iconst, U_istore_n, U_alen, U_isub, U_icmp_ge, U_invokevirtual0, U_if_ne, U_iast, U_iinc, U_invokevirtual3, U_goto, U_icmp_gt, U_iald, U_istore, U_iload, U_if_lt, U_invokestatic2, U_idiv, U_return, UN_cc, UN_cn, UN_nc, UN_nn, UJ, lget, lset, lset2, entL, wsm, wcat, Option.toList_some, Option.toList_none, List.cons_append, List.nil_append, List.mem_cons, List.not_mem_nil, Prod.mk.injEq, or_false, false_or, or_true, true_or, and_true, true_and, and_false, false_and, and_self, ne_eq, not_false_eq_true, not_true_eq_false, forall_const, true_implies, false_implies, Nat.add_zero, Nat.zero_add, Nat.le_refl, Nat.zero_le, List.set_cons_zero, List.set_cons_succ, List.set_nil, ↓reduceIte, Nat.reduceAdd, Nat.reduceSub, Nat.reduceEqDiff, Nat.reduceLeDiff, Int.reduceEq, Int.reduceNe, Int.reduceNeg, reduceCtorEq, kd94, kd96, ln96, z94_3 S3.1.1]
    refine ⟨by omega, by omega, ?_⟩
    rw [show (o : Int) - 1 + 1 = (o : Int) by omega]
    have e95 : ust N3 96 ((o : Int) - 1) 0 95 = N 95 := by rw [ust_ne (by decide), F3 95 (by decide) (by decide), f12 95 (by decide)]
    have hF4 : FX [95, 96] N (ust N3 96 ((o : Int) - 1) 0) := (((f12.fx (K := [96])).tr F3).us _ _ (by simp)).mo (by simp)
    refine l_wk2 (N := ust N3 96 ((o : Int) - 1) 0) (ρ := ρ3) (x := x) (o := o) hG hp hcv hl ho (fun k hk => ?_) (fun N5 a1 a2 a3 a4 a5 => hQ N5 ρ3 a1 (hF4.tr (a2.mo (by simp))) (fun r hr => by rw [R3 r hr]; exact hρ2 r hr) a3 (fun j hj => a4 j (by rw [e95]; exact hj)) (by rw [hci] at a5; exact a5)) o 1 _ _ (by omega) (by omega) S4 (FX.rf _ _) (fun j y hy => by rw [e95]; exact hO j y hy) (fun j hj => hj) (fun q => by omega)
    rw [ust_at]
    by_cases e : k + 1 = o
    · rw [if_pos (by omega), e, ho.2.1, clI_z hp hg12 hG]; rfl
    · rw [if_neg (by omega)]; exact P3 k (by omega)
  · rw [show 0 + 1 = 1 from rfl, nsm_one hG.1]
    exact ⟨(by repeat (first | assumption | rw [upq_e] | rw [upq_n (by omega)])), (by repeat (first | assumption | rw [upq_e] | rw [upq_n (by omega)]))⟩
