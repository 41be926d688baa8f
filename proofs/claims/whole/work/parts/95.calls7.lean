/-! CALLS OF THE CLASS: the prime, the row, the curve -/
def invG (q : Int) (N : Mem) (v : Int) : Prop := 0 ≤ N 3 v ∧ N 3 v < 13 ∧ v * N 3 v % q = 1
set_option maxHeartbeats 8000000 in
theorem l_tpW {N : Mem} {Q : Post} {n0 q : Int} {v : Nat} (hq : Pr q) (k2 : kd n0 2 = 19) (k3 : kd n0 3 = 1) (h21 : N 2 1 = 3) (h2 : N 2 0 = q) (hv : 1 ≤ v ∧ (v : Int) < q) (hQ : ∀ N', Fr [3] N N' → (∀ u : Int, u ≠ v → N' 3 u = N 3 u) → invG q N' v → ∀ x : V, WP 106 (0, 0) 19 [(2, 2), (0, q), (0, (v : Int) + 1), x] [] n0 N' Q) :
    ∀ (n w : Nat) (Ni : Mem), (w : Int) + n = q → 1 ≤ w → Fr [3] N Ni → (∀ u : Int, u ≠ v → Ni 3 u = N 3 u) → (∀ w' : Nat, 1 ≤ w' → w' < w → (v : Int) * w' % q = 1 → invG q Ni v) → WP 106 (0, 0) 35 [(2, 2), (0, q), (0, (v : Int)), (0, (w : Int))] [] n0 Ni Q := by
  have hpp := hq.pos
  intro n
  induction n with
  | zero =>
    intro w Ni hw h1 hF hO hI
    have e2 : Ni 2 0 = q := by rw [hF 2 (by simp)]; exact h2
    obtain ⟨y, y0, y1, y2⟩ := hq.inv (x := (v : Int)) (by omega) hv.2
    have hy : 1 ≤ y.toNat := by
      by_cases e : y = 0
      · rw [e, Int.mul_zero, Int.zero_emod] at y2; omega
      · omega
    have hg := hI y.toNat hy (by omega) (by rw [Int.toNat_of_nonneg y0]; exact y2)
    refine WP.run [(106, 35), (106, 19)] [] 60 ?_
    simp only [bk106_0, bk106_5, bk106_11, bk106_12, bk106_19, bk106_27, bk106_33, bk106_35, bk106_43, bk106_55, bk106_62, bk106_68, bk106_74, U_iload_n, U_iconst, U_icmp_lt, U_bipush, U_icmp_le, U_return, U_aload_n, U_putfield, U_istore_n, U_getfield, U_icmp_ge, U_imul, U_irem, U_icmp_ne, U_iast, U_iinc, U_goto, UN_cc, UN_cn, UN_nc, UN_nn, UJ, lget, lset, lset2, entL, wsm, wcat, Option.toList_some, Option.toList_none, List.cons_append, List.nil_append, List.mem_cons, List.not_mem_nil, Prod.mk.injEq, or_false, false_or, or_true, true_or, and_true, true_and, and_false, false_and, and_self, ne_eq, not_false_eq_true, not_true_eq_false, forall_const, true_implies, false_implies, Nat.add_zero, Nat.zero_add, Nat.le_refl, Nat.zero_le, List.set_cons_zero, List.set_cons_succ, List.set_nil, ↓reduceIte, Nat.reduceAdd, Nat.reduceSub, Nat.reduceEqDiff, Nat.reduceLeDiff, Int.reduceEq, Int.reduceNe, Int.reduceNeg, reduceCtorEq, k2, e2]
    exact ⟨rr (by omega), fun e => absurd e (by omega), fun _ => hQ Ni hF hO hg _⟩
  | succ n ih =>
    intro w Ni hw h1 hF hO hI
    have e2 : Ni 2 0 = q := by rw [hF 2 (by simp)]; exact h2
    have e21 : Ni 2 1 = 3 := by rw [hF 2 (by simp)]; exact h21
    have m := ab_mul (A := 13) (B := 13) (a := (v : Int)) (b := (w : Int)) (by omega) (by omega)
    have m0 : 0 ≤ (v : Int) * w := Int.mul_nonneg (by omega) (by omega)
    have md1 := Int.emod_nonneg ((v : Int) * w) (show q ≠ 0 by omega)
    have md2 := Int.emod_lt_of_pos ((v : Int) * w) (show 0 < q by omega)
    refine WP.run [(106, 35), (106, 19)] [] 60 ?_
    simp only [bk106_0, bk106_5, bk106_11, bk106_12, bk106_19, bk106_27, bk106_33, bk106_35, bk106_43, bk106_55, bk106_62, bk106_68, bk106_74, U_iload_n, U_iconst, U_icmp_lt, U_bipush, U_icmp_le, U_return, U_aload_n, U_putfield, U_istore_n, U_getfield, U_icmp_ge, U_imul, U_irem, U_icmp_ne, U_iast, U_iinc, U_goto, UN_cc, UN_cn, UN_nc, UN_nn, UJ, lget, lset, lset2, entL, wsm, wcat, Option.toList_some, Option.toList_none, List.cons_append, List.nil_append, List.mem_cons, List.not_mem_nil, Prod.mk.injEq, or_false, false_or, or_true, true_or, and_true, true_and, and_false, false_and, and_self, ne_eq, not_false_eq_true, not_true_eq_false, forall_const, true_implies, false_implies, Nat.add_zero, Nat.zero_add, Nat.le_refl, Nat.zero_le, List.set_cons_zero, List.set_cons_succ, List.set_nil, ↓reduceIte, Nat.reduceAdd, Nat.reduceSub, Nat.reduceEqDiff, Nat.reduceLeDiff, Int.reduceEq, Int.reduceNe, Int.reduceNeg, reduceCtorEq, k2, k3, ln3, e2, e21]
    rw [tm_nn m0]
    refine ⟨rr (by omega), fun _ => ⟨r3 (by omega), r3 (by omega), by omega, rr (by omega), fun e => ⟨by omega, by omega, ?_⟩, fun e => ?_⟩, fun e => absurd (by omega) e⟩
    · have hg : invG q (ust Ni 3 (v : Int) (w : Int)) v := by unfold invG; rw [ust_at, if_pos rfl]; exact ⟨by omega, by omega, e⟩
      refine ih (w + 1) _ (by omega) (by omega) (fun b hb => ?_) (fun u hu => ?_) (fun _ _ _ _ => hg)
      · rw [ust_ne (fun e => hb (by simp [e]))]; exact hF b hb
      · rw [ust_at, if_neg hu]; exact hO u hu
    · refine ih (w + 1) Ni (by omega) (by omega) hF hO (fun w' a b c => ?_)
      by_cases g : w' = w
      · subst g; exact absurd c e
      · exact hI w' a (by omega) c
set_option maxHeartbeats 8000000 in
theorem l_tpV {N : Mem} {Q : Post} {n0 q : Int} (hq : Pr q) (k2 : kd n0 2 = 19) (k3 : kd n0 3 = 1) (h21 : N 2 1 = 3) (h2 : N 2 0 = q) (hQ : ∀ N', Fr [3] N N' → (∀ u : Int, 0 < u → u < q → invG q N' u) → Q none n0 N') :
    ∀ (n v : Nat) (x : V) (Ni : Mem), (v : Int) + n = q → 1 ≤ v → Fr [3] N Ni → (∀ u : Int, 0 < u → u < v → invG q Ni u) → WP 106 (0, 0) 19 [(2, 2), (0, q), (0, (v : Int)), x] [] n0 Ni Q := by
  have hpp := hq.pos
  intro n
  induction n with
  | zero =>
    intro v x Ni hv h1 hF hI
    have e2 : Ni 2 0 = q := by rw [hF 2 (by simp)]; exact h2
    refine WP.run [(106, 19)] [] 60 ?_
    simp only [bk106_0, bk106_5, bk106_11, bk106_12, bk106_19, bk106_27, bk106_33, bk106_35, bk106_43, bk106_55, bk106_62, bk106_68, bk106_74, U_iload_n, U_iconst, U_icmp_lt, U_bipush, U_icmp_le, U_return, U_aload_n, U_putfield, U_istore_n, U_getfield, U_icmp_ge, U_imul, U_irem, U_icmp_ne, U_iast, U_iinc, U_goto, UN_cc, UN_cn, UN_nc, UN_nn, UJ, lget, lset, lset2, entL, wsm, wcat, Option.toList_some, Option.toList_none, List.cons_append, List.nil_append, List.mem_cons, List.not_mem_nil, Prod.mk.injEq, or_false, false_or, or_true, true_or, and_true, true_and, and_false, false_and, and_self, ne_eq, not_false_eq_true, not_true_eq_false, forall_const, true_implies, false_implies, Nat.add_zero, Nat.zero_add, Nat.le_refl, Nat.zero_le, List.set_cons_zero, List.set_cons_succ, List.set_nil, ↓reduceIte, Nat.reduceAdd, Nat.reduceSub, Nat.reduceEqDiff, Nat.reduceLeDiff, Int.reduceEq, Int.reduceNe, Int.reduceNeg, reduceCtorEq, k2, e2]
    exact ⟨rr (by omega), fun e => absurd e (by omega), fun _ => hQ Ni hF (fun u a b => hI u a (by omega))⟩
  | succ n ih =>
    intro v x Ni hv h1 hF hI
    have e2 : Ni 2 0 = q := by rw [hF 2 (by simp)]; exact h2
    have e21 : Ni 2 1 = 3 := by rw [hF 2 (by simp)]; exact h21
    refine WP.run [(106, 19), (106, 35)] [] 60 ?_
    simp only [bk106_0, bk106_5, bk106_11, bk106_12, bk106_19, bk106_27, bk106_33, bk106_35, bk106_43, bk106_55, bk106_62, bk106_68, bk106_74, U_iload_n, U_iconst, U_icmp_lt, U_bipush, U_icmp_le, U_return, U_aload_n, U_putfield, U_istore_n, U_getfield, U_icmp_ge, U_imul, U_irem, U_icmp_ne, U_iast, U_iinc, U_goto, UN_cc, UN_cn, UN_nc, UN_nn, UJ, lget, lset, lset2, entL, wsm, wcat, Option.toList_some, Option.toList_none, List.cons_append, List.nil_append, List.mem_cons, List.not_mem_nil, Prod.mk.injEq, or_false, false_or, or_true, true_or, and_true, true_and, and_false, false_and, and_self, ne_eq, not_false_eq_true, not_true_eq_false, forall_const, true_implies, false_implies, Nat.add_zero, Nat.zero_add, Nat.le_refl, Nat.zero_le, List.set_cons_zero, List.set_cons_succ, List.set_nil, ↓reduceIte, Nat.reduceAdd, Nat.reduceSub, Nat.reduceEqDiff, Nat.reduceLeDiff, Int.reduceEq, Int.reduceNe, Int.reduceNeg, reduceCtorEq, k2, e2]
    refine ⟨rr (by omega), fun _ => ⟨rr (by omega), fun _ => ?_, fun e => absurd e (by omega)⟩, fun e => absurd (by omega) e⟩
    refine l_tpW (N := Ni) hq k2 k3 e21 e2 ⟨h1, by omega⟩ (fun N' g1 g2 g3 y => ?_) (q.toNat - 1) 1 Ni (by omega) (by omega) (Fr.rf _ _) (fun _ _ => rfl) (fun w' a b => by omega)
    refine ih (v + 1) y N' (by omega) (by omega) (hF.tr g1) (fun u a b => ?_)
    by_cases e : u = v
    · subst e; exact g3
    · have := hI u a (by omega)
      unfold invG at this ⊢
      rw [g2 u e]; exact this
set_option maxHeartbeats 8000000 in
theorem s_takePrime {p q : Int} {N : Mem} {ρ : Int → Option (Pz p)} {Q : Post} (hS : ST p N ρ) (hq : Pr q) (hQ : ∀ N', ST q N' (fun _ => none) → (∀ b, b ≠ 2 → b ≠ 3 → N' b = N b) → Q none NN N') : CL 106 [(2, 2), (0, q), (9, 0), (9, 0)] NN N Q := by
  have hpp := hq.pos
  have z20 : fz 2 0 = none := rfl
  have hz1 : Fz (ust N 2 0 q) := hS.1.1.ust z20
  refine WP.run [(106, 19)] [] 60 ?_
  simp only [bk106_0, bk106_5, bk106_11, bk106_12, bk106_19, bk106_27, bk106_33, bk106_35, bk106_43, bk106_55, bk106_62, bk106_68, bk106_74, U_iload_n, U_iconst, U_icmp_lt, U_bipush, U_icmp_le, U_return, U_aload_n, U_putfield, U_istore_n, U_getfield, U_icmp_ge, U_imul, U_irem, U_icmp_ne, U_iast, U_iinc, U_goto, UN_cc, UN_cn, UN_nc, UN_nn, UJ, lget, lset, lset2, entL, wsm, wcat, Option.toList_some, Option.toList_none, List.cons_append, List.nil_append, List.mem_cons, List.not_mem_nil, Prod.mk.injEq, or_false, false_or, or_true, true_or, and_true, true_and, and_false, false_and, and_self, ne_eq, not_false_eq_true, not_true_eq_false, forall_const, true_implies, false_implies, Nat.add_zero, Nat.zero_add, Nat.le_refl, Nat.zero_le, List.set_cons_zero, List.set_cons_succ, List.set_nil, ↓reduceIte, Nat.reduceAdd, Nat.reduceSub, Nat.reduceEqDiff, Nat.reduceLeDiff, Int.reduceEq, Int.reduceNe, Int.reduceNeg, reduceCtorEq, kd2]
  refine ⟨rr (by omega), fun e => absurd e (by omega), fun _ => ⟨rr (by omega), fun e => absurd e (by omega), fun _ => ?_⟩⟩
  refine l_tpV (N := ust N 2 0 q) hq kd2 kd3 (z2_1 hz1) (by rw [ust_at, if_pos rfl]) (fun N' g1 g2 => ?_) (q.toNat - 1) 1 _ _ (by omega) (by omega) (Fr.rf _ _) (fun u a b => by omega)
  have hoth : ∀ b, b ≠ 2 → b ≠ 3 → N' b = N b := fun b h2 h3 => by rw [g1 b (by simp [h3]), ust_ne h2]
  have hz' : Fz N' := hz1.of fun a i x e => by
    by_cases e3 : a = 3
    · subst e3; rw [fz_arr (Or.inl rfl)] at e; cases e
    · rw [g1 a (by simp [e3])]
  have hrow : ∀ r, KD r = 18 → N' r 0 = N r 0 := fun r hr => by rw [hoth r (fun e => by subst e; exact absurd hr (by decide)) (fun e => by subst e; exact absurd hr (by decide))]
  refine hQ N' ⟨⟨hz', hq, by rw [g1 2 (by simp), ust_at, if_pos rfl], fun v a b => g2 v a b⟩, fun r hr => ?_, fun r s hr hs e => ?_, fun r a _ e => by cases e⟩ hoth
  · obtain ⟨⟨u1, u2⟩, u3⟩ := hS.2.1 r hr
    rw [hrow r hr]
    exact ⟨⟨u1, hrow r hr⟩, u3⟩
  · rw [hrow r hr, hrow s hs] at e
    exact hS.2.2.1 r s hr hs e
set_option maxHeartbeats 8000000 in
theorem l_fgR {p : Int} {N : Mem} {ρ : Int → Option (Pz p)} {Q : Post} (hQ : ∀ N' ρ', ST p N' ρ' → FR N N' → (∀ r : Nat, r < 6 → PH ρ' (58 + 5 * (r : Int)) (pC p 1, pC p 0)) → (∀ q, (q < 59 ∨ 86 < q) → ρ' q = ρ q) → WP 116 (0, 0) 23 [(2, 1), (0, 6)] [] NN N' Q) :
    ∀ (n r : Nat) (Ni : Mem) (ρi : Int → Option (Pz p)), r + n = 6 → ST p Ni ρi → FR N Ni → (∀ k : Nat, k < r → PH ρi (58 + 5 * (k : Int)) (pC p 1, pC p 0)) → (∀ q, (q < 59 ∨ 86 < q) → ρi q = ρ q) → WP 116 (0, 0) 2 [(2, 1), (0, (r : Int))] [] NN Ni Q := by
  intro n
  induction n with
  | zero =>
    intro r Ni ρi hr hS hF hI hρ
    obtain rfl : r = 6 := by omega
    refine WP.run [(116, 2), (116, 23)] [] 60 ?_
    simp only [bk116_0, bk116_2, bk116_8, bk116_23, U_iconst, U_istore_n, U_iload_n, U_bipush, U_icmp_ge, U_aload_n, U_getfield, U_aald, U_invokevirtual0, U_iinc, U_goto, U_return, UN_cc, UN_cn, UN_nc, UN_nn, UJ, lget, lset, lset2, entL, wsm, wcat, Option.toList_some, Option.toList_none, List.cons_append, List.nil_append, List.mem_cons, List.not_mem_nil, Prod.mk.injEq, or_false, false_or, or_true, true_or, and_true, true_and, and_false, false_and, and_self, ne_eq, not_false_eq_true, not_true_eq_false, forall_const, true_implies, false_implies, Nat.add_zero, Nat.zero_add, Nat.le_refl, Nat.zero_le, List.set_cons_zero, List.set_cons_succ, List.set_nil, ↓reduceIte, Nat.reduceAdd, Nat.reduceSub, Nat.reduceEqDiff, Nat.reduceLeDiff, Int.reduceEq, Int.reduceNe, Int.reduceNeg, reduceCtorEq]
    exact ⟨rr (by omega), fun e => absurd e (by omega), fun _ => hQ Ni ρi hS hF hI hρ⟩
  | succ n ih =>
    intro r Ni ρi hr hS hF hI hρ
    have z1 := z57 hS.1.1 (r : Int) (by omega) (by omega)
    have n1 : ¬ (58 + 5 * (r : Int) = 0) := by omega
    refine WP.run [(116, 2), (116, 23)] [] 60 ?_
    simp only [bk116_0, bk116_2, bk116_8, bk116_23, U_iconst, U_istore_n, U_iload_n, U_bipush, U_icmp_ge, U_aload_n, U_getfield, U_aald, U_invokevirtual0, U_iinc, U_goto, U_return, UN_cc, UN_cn, UN_nc, UN_nn, UJ, lget, lset, lset2, entL, wsm, wcat, Option.toList_some, Option.toList_none, List.cons_append, List.nil_append, List.mem_cons, List.not_mem_nil, Prod.mk.injEq, or_false, false_or, or_true, true_or, and_true, true_and, and_false, false_and, and_self, ne_eq, not_false_eq_true, not_true_eq_false, forall_const, true_implies, false_implies, Nat.add_zero, Nat.zero_add, Nat.le_refl, Nat.zero_le, List.set_cons_zero, List.set_cons_succ, List.set_nil, ↓reduceIte, Nat.reduceAdd, Nat.reduceSub, Nat.reduceEqDiff, Nat.reduceLeDiff, Int.reduceEq, Int.reduceNe, Int.reduceNeg, reduceCtorEq, kd1, kd57, ln57, z1_6 hS.1.1, z1, n1]
    refine ⟨rr (by omega), fun _ => ⟨by omega, by omega, kd_of (kdR (by omega) (by omega)) (by decide), s_makeNought hS (kdR (by omega) (by omega)) fun N1 S1 F1 => ?_⟩, fun e => absurd (by omega) e⟩
    simp only [bk116_0, bk116_2, bk116_8, bk116_23, U_iconst, U_istore_n, U_iload_n, U_bipush, U_icmp_ge, U_aload_n, U_getfield, U_aald, U_invokevirtual0, U_iinc, U_goto, U_return, UN_cc, UN_cn, UN_nc, UN_nn, UJ, lget, lset, lset2, entL, wsm, wcat, Option.toList_some, Option.toList_none, List.cons_append, List.nil_append, List.mem_cons, List.not_mem_nil, Prod.mk.injEq, or_false, false_or, or_true, true_or, and_true, true_and, and_false, false_and, and_self, ne_eq, not_false_eq_true, not_true_eq_false, forall_const, true_implies, false_implies, Nat.add_zero, Nat.zero_add, Nat.le_refl, Nat.zero_le, List.set_cons_zero, List.set_cons_succ, List.set_nil, ↓reduceIte, Nat.reduceAdd, Nat.reduceSub, Nat.reduceEqDiff, Nat.reduceLeDiff, Int.reduceEq, Int.reduceNe, Int.reduceNeg, reduceCtorEq]
    refine ih (r + 1) N1 _ (by omega) S1 (hF.tr F1) (fun k hk => ?_) (fun q hq => by rw [upq_n (by omega), upq_n (by omega)]; exact hρ q hq)
    by_cases e : k = r
    · subst e; exact ⟨by rw [upq_n (by omega)]; exact upq_e _ _ _, upq_e _ _ _⟩
    · have := hI k (by omega)
      exact ⟨by rw [upq_n (by omega), upq_n (by omega)]; exact this.1, by rw [upq_n (by omega), upq_n (by omega)]; exact this.2⟩
set_option maxHeartbeats 8000000 in
theorem s_forget {p : Int} {N : Mem} {ρ : Int → Option (Pz p)} {Q : Post} (hS : ST p N ρ) (hQ : ∀ N' ρ', ST p N' ρ' → (∀ r : Nat, r < 6 → PH ρ' (58 + 5 * (r : Int)) (pC p 1, pC p 0)) → (∀ q, (q < 59 ∨ 86 < q) → ρ' q = ρ q) → FX [109, 88, 94, 120, 182] N N' → (∀ i : Nat, i < 27 → N' 109 (i : Int) = 0) → N' 88 3 = 0 → N' 94 6 = 0 → N' 120 9 = 0 → N' 120 13 = -1 → N' 182 4 = 0 → Q none NN N') : CL 116 [(2, 1), (9, 0)] NN N Q := by
  refine WP.run [(116, 2)] [] 60 ?_
  simp only [bk116_0, bk116_2, bk116_8, bk116_23, U_iconst, U_istore_n, U_iload_n, U_bipush, U_icmp_ge, U_aload_n, U_getfield, U_aald, U_invokevirtual0, U_iinc, U_goto, U_return, UN_cc, UN_cn, UN_nc, UN_nn, UJ, lget, lset, lset2, entL, wsm, wcat, Option.toList_some, Option.toList_none, List.cons_append, List.nil_append, List.mem_cons, List.not_mem_nil, Prod.mk.injEq, or_false, false_or, or_true, true_or, and_true, true_and, and_false, false_and, and_self, ne_eq, not_false_eq_true, not_true_eq_false, forall_const, true_implies, false_implies, Nat.add_zero, Nat.zero_add, Nat.le_refl, Nat.zero_le, List.set_cons_zero, List.set_cons_succ, List.set_nil, ↓reduceIte, Nat.reduceAdd, Nat.reduceSub, Nat.reduceEqDiff, Nat.reduceLeDiff, Int.reduceEq, Int.reduceNe, Int.reduceNeg, reduceCtorEq]
  refine l_fgR (N := N) (ρ := ρ) (fun N1 ρ1 S1 F1 P1 R1 => ?_) 6 0 N ρ (by omega) hS (FR.rf N) (fun k hk => by omega) (fun _ _ => rfl)
  refine WP.run [] [] 60 ?_
  simp only [bk116_0, bk116_2, bk116_8, bk116_23, U_iconst, U_istore_n, U_iload_n, U_bipush, U_icmp_ge, U_aload_n, U_getfield, U_aald, U_invokevirtual0, U_iinc, U_goto, U_return, UN_cc, UN_cn, UN_nc, UN_nn, UJ, lget, lset, lset2, entL, wsm, wcat, Option.toList_some, Option.toList_none, List.cons_append, List.nil_append, List.mem_cons, List.not_mem_nil, Prod.mk.injEq, or_false, false_or, or_true, true_or, and_true, true_and, and_false, false_and, and_self, ne_eq, not_false_eq_true, not_true_eq_false, forall_const, true_implies, false_implies, Nat.add_zero, Nat.zero_add, Nat.le_refl, Nat.zero_le, List.set_cons_zero, List.set_cons_succ, List.set_nil, ↓reduceIte, Nat.reduceAdd, Nat.reduceSub, Nat.reduceEqDiff, Nat.reduceLeDiff, Int.reduceEq, Int.reduceNe, Int.reduceNeg, reduceCtorEq, kd1, kd108, z1_9 S1.1.1]
  refine c_roClear S1.1.1 ?_
  have S2 : ST p (fil N1 109 27 0) ρ1 := by
    refine S1.other (S1.1.1.of fun a i v e => ?_) (fil_ne (by decide)) (fil_ne (by decide)) (fun b hb => fil_ne (fun e => by rw [e] at hb; exact absurd hb (by decide)))
    by_cases q : a = 109
    · subst q; rw [fz_arr (Or.inl rfl)] at e; cases e
    · rw [fil_ne q]
  simp only [bk116_0, bk116_2, bk116_8, bk116_23, U_iconst, U_istore_n, U_iload_n, U_bipush, U_icmp_ge, U_aload_n, U_getfield, U_aald, U_invokevirtual0, U_iinc, U_goto, U_return, UN_cc, UN_cn, UN_nc, UN_nn, UJ, lget, lset, lset2, entL, wsm, wcat, Option.toList_some, Option.toList_none, List.cons_append, List.nil_append, List.mem_cons, List.not_mem_nil, Prod.mk.injEq, or_false, false_or, or_true, true_or, and_true, true_and, and_false, false_and, and_self, ne_eq, not_false_eq_true, not_true_eq_false, forall_const, true_implies, false_implies, Nat.add_zero, Nat.zero_add, Nat.le_refl, Nat.zero_le, List.set_cons_zero, List.set_cons_succ, List.set_nil, ↓reduceIte, Nat.reduceAdd, Nat.reduceSub, Nat.reduceEqDiff, Nat.reduceLeDiff, Int.reduceEq, Int.reduceNe, Int.reduceNeg, reduceCtorEq, kd1, kd88, z1_7 S2.1.1]
  refine c_lforget ?_
  have S3 := S2.ust 3 0 (a := 88) rfl (by decide) (by decide) (by decide)
  simp only [bk116_0, bk116_2, bk116_8, bk116_23, U_iconst, U_istore_n, U_iload_n, U_bipush, U_icmp_ge, U_aload_n, U_getfield, U_aald, U_invokevirtual0, U_iinc, U_goto, U_return, UN_cc, UN_cn, UN_nc, UN_nn, UJ, lget, lset, lset2, entL, wsm, wcat, Option.toList_some, Option.toList_none, List.cons_append, List.nil_append, List.mem_cons, List.not_mem_nil, Prod.mk.injEq, or_false, false_or, or_true, true_or, and_true, true_and, and_false, false_and, and_self, ne_eq, not_false_eq_true, not_true_eq_false, forall_const, true_implies, false_implies, Nat.add_zero, Nat.zero_add, Nat.le_refl, Nat.zero_le, List.set_cons_zero, List.set_cons_succ, List.set_nil, ↓reduceIte, Nat.reduceAdd, Nat.reduceSub, Nat.reduceEqDiff, Nat.reduceLeDiff, Int.reduceEq, Int.reduceNe, Int.reduceNeg, reduceCtorEq, kd1, kd94, z1_8 S3.1.1]
  refine c_gforget ?_
  have S4 := S3.ust 6 0 (a := 94) rfl (by decide) (by decide) (by decide)
  simp only [bk116_0, bk116_2, bk116_8, bk116_23, U_iconst, U_istore_n, U_iload_n, U_bipush, U_icmp_ge, U_aload_n, U_getfield, U_aald, U_invokevirtual0, U_iinc, U_goto, U_return, UN_cc, UN_cn, UN_nc, UN_nn, UJ, lget, lset, lset2, entL, wsm, wcat, Option.toList_some, Option.toList_none, List.cons_append, List.nil_append, List.mem_cons, List.not_mem_nil, Prod.mk.injEq, or_false, false_or, or_true, true_or, and_true, true_and, and_false, false_and, and_self, ne_eq, not_false_eq_true, not_true_eq_false, forall_const, true_implies, false_implies, Nat.add_zero, Nat.zero_add, Nat.le_refl, Nat.zero_le, List.set_cons_zero, List.set_cons_succ, List.set_nil, ↓reduceIte, Nat.reduceAdd, Nat.reduceSub, Nat.reduceEqDiff, Nat.reduceLeDiff, Int.reduceEq, Int.reduceNe, Int.reduceNeg, reduceCtorEq, kd1, kd120, z1_10 S4.1.1]
  refine c_cforget ?_
  have S5 := (S4.ust 9 0 (a := 120) rfl (by decide) (by decide) (by decide)).ust 13 (-1) (a := 120) rfl (by decide) (by decide) (by decide)
  simp only [bk116_0, bk116_2, bk116_8, bk116_23, U_iconst, U_istore_n, U_iload_n, U_bipush, U_icmp_ge, U_aload_n, U_getfield, U_aald, U_invokevirtual0, U_iinc, U_goto, U_return, UN_cc, UN_cn, UN_nc, UN_nn, UJ, lget, lset, lset2, entL, wsm, wcat, Option.toList_some, Option.toList_none, List.cons_append, List.nil_append, List.mem_cons, List.not_mem_nil, Prod.mk.injEq, or_false, false_or, or_true, true_or, and_true, true_and, and_false, false_and, and_self, ne_eq, not_false_eq_true, not_true_eq_false, forall_const, true_implies, false_implies, Nat.add_zero, Nat.zero_add, Nat.le_refl, Nat.zero_le, List.set_cons_zero, List.set_cons_succ, List.set_nil, ↓reduceIte, Nat.reduceAdd, Nat.reduceSub, Nat.reduceEqDiff, Nat.reduceLeDiff, Int.reduceEq, Int.reduceNe, Int.reduceNeg, reduceCtorEq, kd1, kd182, z1_11 S5.1.1]
  refine c_tforget ?_
  have S6 := S5.ust 4 0 (a := 182) rfl (by decide) (by decide) (by decide)
  simp only [bk116_0, bk116_2, bk116_8, bk116_23, U_iconst, U_istore_n, U_iload_n, U_bipush, U_icmp_ge, U_aload_n, U_getfield, U_aald, U_invokevirtual0, U_iinc, U_goto, U_return, UN_cc, UN_cn, UN_nc, UN_nn, UJ, lget, lset, lset2, entL, wsm, wcat, Option.toList_some, Option.toList_none, List.cons_append, List.nil_append, List.mem_cons, List.not_mem_nil, Prod.mk.injEq, or_false, false_or, or_true, true_or, and_true, true_and, and_false, false_and, and_self, ne_eq, not_false_eq_true, not_true_eq_false, forall_const, true_implies, false_implies, Nat.add_zero, Nat.zero_add, Nat.le_refl, Nat.zero_le, List.set_cons_zero, List.set_cons_succ, List.set_nil, ↓reduceIte, Nat.reduceAdd, Nat.reduceSub, Nat.reduceEqDiff, Nat.reduceLeDiff, Int.reduceEq, Int.reduceNe, Int.reduceNeg, reduceCtorEq]
  refine hQ _ ρ1 S6 P1 R1 (fun b hb hk => ?_) (fun i hi => ?_) ?_ ?_ ?_ ?_ ?_
  · simp at hk
    rw [ust_ne (by omega), ust_ne (by omega), ust_ne (by omega), ust_ne (by omega), ust_ne (by omega), fil_ne (by omega)]; exact F1 b hb
  · rw [ust_ne (by decide), ust_ne (by decide), ust_ne (by decide), ust_ne (by decide), ust_ne (by decide), fil_in (by omega) (by omega)]
  · rw [ust_ne (by decide), ust_ne (by decide), ust_ne (by decide), ust_ne (by decide), ust_at, if_pos rfl]
  · rw [ust_ne (by decide), ust_ne (by decide), ust_ne (by decide), ust_at, if_pos rfl]
  · rw [ust_ne (by decide), ust_at, if_neg (by decide), ust_at, if_pos rfl]
  · rw [ust_ne (by decide), ust_at, if_pos rfl]
  · rw [ust_at, if_pos rfl]
set_option maxHeartbeats 16000000 in
theorem k_prime {p : Int} {g : Nat} {f : Pz p} {pu : List Int} {rg : Nat → Pz p × Pz p} {A tl : Nat → Int} {E : Nat → Nat} {N : Mem} {Q : Post} {q : Int} (h : CS g f pu rg A tl E N) (V : VS g f pu rg A tl E) (hq : R32 q) (hQ1 : ¬ Pr q → Q (some (0, -2)) NN N)
    (hQ2 : Pr q → ∀ N', CS (p := q) 0 (pC q 0) [] (fun _ => (pC q 1, pC q 0)) (fun _ => 0) (fun _ => 0) (fun _ => 0) N' → mdF N N' → Q (some (0, 1)) NN N') : CL 117 [(2, 1), (0, q)] NN N Q := by
  have h0 := h
  obtain ⟨⟨ρ, S, R⟩, -⟩ := h
  have hq' := hq
  obtain ⟨q1, q2⟩ := hq'
  have fin : Pr q → WP 117 (0, 0) 31 [(2, 1), (0, q)] [] NN N Q := fun hp => by
    refine WP.run [] [] 60 ?_
    simp only [bk117_0, bk117_5, bk117_10, bk117_16, bk117_22, bk117_28, bk117_31, U_iload_n, U_iconst, U_icmp_eq, U_bipush, U_ireturn, U_aload_n, U_getfield, U_invokevirtual1, U_putfield, U_invokevirtual0, UN_cc, UN_cn, UN_nc, UN_nn, UJ, lget, lset, lset2, entL, wsm, wcat, Option.toList_some, Option.toList_none, List.cons_append, List.nil_append, List.mem_cons, List.not_mem_nil, Prod.mk.injEq, or_false, false_or, or_true, true_or, and_true, true_and, and_false, false_and, and_self, ne_eq, not_false_eq_true, not_true_eq_false, forall_const, true_implies, false_implies, Nat.add_zero, Nat.zero_add, Nat.le_refl, Nat.zero_le, List.set_cons_zero, List.set_cons_succ, List.set_nil, ↓reduceIte, Nat.reduceAdd, Nat.reduceSub, Nat.reduceEqDiff, Nat.reduceLeDiff, Int.reduceEq, Int.reduceNe, Int.reduceNeg, reduceCtorEq, kd1, kd2, z1_0 S.1.1]
    refine s_takePrime S hp fun N1 S1 F1 => ?_
    have S2 : ST q (ust N1 1 2 0) (fun _ => none) := S1.ust _ _ rfl (by decide) (by decide) (by decide)
    simp only [bk117_0, bk117_5, bk117_10, bk117_16, bk117_22, bk117_28, bk117_31, U_iload_n, U_iconst, U_icmp_eq, U_bipush, U_ireturn, U_aload_n, U_getfield, U_invokevirtual1, U_putfield, U_invokevirtual0, UN_cc, UN_cn, UN_nc, UN_nn, UJ, lget, lset, lset2, entL, wsm, wcat, Option.toList_some, Option.toList_none, List.cons_append, List.nil_append, List.mem_cons, List.not_mem_nil, Prod.mk.injEq, or_false, false_or, or_true, true_or, and_true, true_and, and_false, false_and, and_self, ne_eq, not_false_eq_true, not_true_eq_false, forall_const, true_implies, false_implies, Nat.add_zero, Nat.zero_add, Nat.le_refl, Nat.zero_le, List.set_cons_zero, List.set_cons_succ, List.set_nil, ↓reduceIte, Nat.reduceAdd, Nat.reduceSub, Nat.reduceEqDiff, Nat.reduceLeDiff, Int.reduceEq, Int.reduceNe, Int.reduceNeg, reduceCtorEq, kd1, kd21, z1_4 S2.1.1]
    refine s_drop S2 fun N3 S3 F3 a1 a2 a3 a4 => ?_
    simp only [bk117_0, bk117_5, bk117_10, bk117_16, bk117_22, bk117_28, bk117_31, U_iload_n, U_iconst, U_icmp_eq, U_bipush, U_ireturn, U_aload_n, U_getfield, U_invokevirtual1, U_putfield, U_invokevirtual0, UN_cc, UN_cn, UN_nc, UN_nn, UJ, lget, lset, lset2, entL, wsm, wcat, Option.toList_some, Option.toList_none, List.cons_append, List.nil_append, List.mem_cons, List.not_mem_nil, Prod.mk.injEq, or_false, false_or, or_true, true_or, and_true, true_and, and_false, false_and, and_self, ne_eq, not_false_eq_true, not_true_eq_false, forall_const, true_implies, false_implies, Nat.add_zero, Nat.zero_add, Nat.le_refl, Nat.zero_le, List.set_cons_zero, List.set_cons_succ, List.set_nil, ↓reduceIte, Nat.reduceAdd, Nat.reduceSub, Nat.reduceEqDiff, Nat.reduceLeDiff, Int.reduceEq, Int.reduceNe, Int.reduceNeg, reduceCtorEq, kd1]
    refine s_forget S3 fun N4 ρ4 S4 P4 R4 F4 b1 b2 b3 b4 b5 b6 => ?_
    simp only [bk117_0, bk117_5, bk117_10, bk117_16, bk117_22, bk117_28, bk117_31, U_iload_n, U_iconst, U_icmp_eq, U_bipush, U_ireturn, U_aload_n, U_getfield, U_invokevirtual1, U_putfield, U_invokevirtual0, UN_cc, UN_cn, UN_nc, UN_nn, UJ, lget, lset, lset2, entL, wsm, wcat, Option.toList_some, Option.toList_none, List.cons_append, List.nil_append, List.mem_cons, List.not_mem_nil, Prod.mk.injEq, or_false, false_or, or_true, true_or, and_true, true_and, and_false, false_and, and_self, ne_eq, not_false_eq_true, not_true_eq_false, forall_const, true_implies, false_implies, Nat.add_zero, Nat.zero_add, Nat.le_refl, Nat.zero_le, List.set_cons_zero, List.set_cons_succ, List.set_nil, ↓reduceIte, Nat.reduceAdd, Nat.reduceSub, Nat.reduceEqDiff, Nat.reduceLeDiff, Int.reduceEq, Int.reduceNe, Int.reduceNeg, reduceCtorEq, kd1, kd120, z1_10 S4.1.1]
    refine c_clearTold S4.1.1 ?_
    have S5 : ST q (ust (fil N4 121 26 0) 120 13 (-1)) ρ4 := by
      have S5' : ST q (fil N4 121 26 0) ρ4 := by
        refine S4.other (S4.1.1.of fun a i v e => ?_) (fil_ne (by decide)) (fil_ne (by decide)) (fun b hb => fil_ne (fun e => by rw [e] at hb; exact absurd hb (by decide)))
        by_cases q : a = 121
        · subst q; rw [fz_arr (Or.inl rfl)] at e; cases e
        · rw [fil_ne q]
      exact S5'.ust _ _ rfl (by decide) (by decide) (by decide)
    simp only [bk117_0, bk117_5, bk117_10, bk117_16, bk117_22, bk117_28, bk117_31, U_iload_n, U_iconst, U_icmp_eq, U_bipush, U_ireturn, U_aload_n, U_getfield, U_invokevirtual1, U_putfield, U_invokevirtual0, UN_cc, UN_cn, UN_nc, UN_nn, UJ, lget, lset, lset2, entL, wsm, wcat, Option.toList_some, Option.toList_none, List.cons_append, List.nil_append, List.mem_cons, List.not_mem_nil, Prod.mk.injEq, or_false, false_or, or_true, true_or, and_true, true_and, and_false, false_and, and_self, ne_eq, not_false_eq_true, not_true_eq_false, forall_const, true_implies, false_implies, Nat.add_zero, Nat.zero_add, Nat.le_refl, Nat.zero_le, List.set_cons_zero, List.set_cons_succ, List.set_nil, ↓reduceIte, Nat.reduceAdd, Nat.reduceSub, Nat.reduceEqDiff, Nat.reduceLeDiff, Int.reduceEq, Int.reduceNe, Int.reduceNeg, reduceCtorEq, kd1, kd188, z1_12 S5.1.1]
    refine c_coClear S5.1.1 ?_
    have S6 : ST q (fil (ust (fil N4 121 26 0) 120 13 (-1)) 189 13 0) ρ4 := by
      refine S5.other (S5.1.1.of fun a i v e => ?_) (fil_ne (by decide)) (fil_ne (by decide)) (fun b hb => fil_ne (fun e => by rw [e] at hb; exact absurd hb (by decide)))
      by_cases q : a = 189
      · subst q; rw [fz_arr (Or.inl rfl)] at e; cases e
      · rw [fil_ne q]
    simp only [bk117_0, bk117_5, bk117_10, bk117_16, bk117_22, bk117_28, bk117_31, U_iload_n, U_iconst, U_icmp_eq, U_bipush, U_ireturn, U_aload_n, U_getfield, U_invokevirtual1, U_putfield, U_invokevirtual0, UN_cc, UN_cn, UN_nc, UN_nn, UJ, lget, lset, lset2, entL, wsm, wcat, Option.toList_some, Option.toList_none, List.cons_append, List.nil_append, List.mem_cons, List.not_mem_nil, Prod.mk.injEq, or_false, false_or, or_true, true_or, and_true, true_and, and_false, false_and, and_self, ne_eq, not_false_eq_true, not_true_eq_false, forall_const, true_implies, false_implies, Nat.add_zero, Nat.zero_add, Nat.le_refl, Nat.zero_le, List.set_cons_zero, List.set_cons_succ, List.set_nil, ↓reduceIte, Nat.reduceAdd, Nat.reduceSub, Nat.reduceEqDiff, Nat.reduceLeDiff, Int.reduceEq, Int.reduceNe, Int.reduceNeg, reduceCtorEq]
    have c : ∀ b, b ≠ 121 → b ≠ 120 → b ≠ 189 → fil (ust (fil N4 121 26 0) 120 13 (-1)) 189 13 0 b = N4 b := fun b x y w => by rw [fil_ne w, ust_ne y, fil_ne x]
    refine hQ2 hp _ ⟨⟨ρ4, S6, ⟨fun e => absurd e (by omega), P4⟩⟩, ⟨?_, fun i v e => by cases e⟩, Or.inl ⟨rfl, ?_⟩, fun i hi => ?_, fun j hj => ?_, fun a ha => ?_, Or.inl ?_, Or.inl ?_, Or.inl ?_, Or.inl ?_, Or.inl ?_⟩ (fun b hb => ?_)
    · rw [c 1 (by decide) (by decide) (by decide), F4 1 (by decide) (by decide), F3 1 (by decide) (by decide), ust_at, if_pos rfl]; rfl
    · rw [c 21 (by decide) (by decide) (by decide), F4 21 (by decide) (by decide)]; exact a2
    · rw [c 109 (by decide) (by decide) (by decide)]; exact b1 i hi
    · rw [fil_ne (by decide), ust_ne (by decide), fil_in (by omega) (by omega)]
    · rw [fil_in (by omega) (by omega)]; rfl
    · rw [c 88 (by decide) (by decide) (by decide)]; exact b2
    · rw [c 94 (by decide) (by decide) (by decide)]; exact b3
    · rw [c 182 (by decide) (by decide) (by decide)]; exact b6
    · rw [fil_ne (by decide), ust_at, if_neg (by decide), fil_ne (by decide)]; exact b4
    · rw [fil_ne (by decide), ust_at, if_pos rfl]
    · rw [c b (by omega) (by omega) (by omega), F4.md (by decide) b hb, F3.md (by decide) b hb, ust_ne (by omega), F1 b (by omega) (by omega)]
  refine WP.run [(117, 31)] [] 60 ?_
  simp only [bk117_0, bk117_5, bk117_10, bk117_16, bk117_22, bk117_28, bk117_31, U_iload_n, U_iconst, U_icmp_eq, U_bipush, U_ireturn, U_aload_n, U_getfield, U_invokevirtual1, U_putfield, U_invokevirtual0, UN_cc, UN_cn, UN_nc, UN_nn, UJ, lget, lset, lset2, entL, wsm, wcat, Option.toList_some, Option.toList_none, List.cons_append, List.nil_append, List.mem_cons, List.not_mem_nil, Prod.mk.injEq, or_false, false_or, or_true, true_or, and_true, true_and, and_false, false_and, and_self, ne_eq, not_false_eq_true, not_true_eq_false, forall_const, true_implies, false_implies, Nat.add_zero, Nat.zero_add, Nat.le_refl, Nat.zero_le, List.set_cons_zero, List.set_cons_succ, List.set_nil, ↓reduceIte, Nat.reduceAdd, Nat.reduceSub, Nat.reduceEqDiff, Nat.reduceLeDiff, Int.reduceEq, Int.reduceNe, Int.reduceNeg, reduceCtorEq]
  refine ⟨rr (by omega), fun e => fin (by unfold Pr; omega), fun e => ⟨rr (by omega), fun e2 => fin (by unfold Pr; omega), fun e2 => ⟨rr (by omega), fun e3 => fin (by unfold Pr; omega), fun e3 => ⟨rr (by omega), fun e4 => fin (by unfold Pr; omega), fun e4 => ⟨rr (by omega), fun e5 => fin (by unfold Pr; omega), fun e5 => hQ1 (by unfold Pr; omega)⟩⟩⟩⟩⟩
theorem CS.pu {p : Int} {g : Nat} {f : Pz p} {pu : List Int} {rg : Nat → Pz p × Pz p} {A tl : Nat → Int} {E : Nat → Nat} {N : Mem} {N' : Mem} {pu' : List Int} (h : CS g f pu rg A tl E N) (hS : ∃ ρ, ST p N' ρ ∧ RgA ρ g f rg) (hP : PuA N' pu') (hF : ∀ b, csC b = true → b ≠ 1 → b ≠ 18 → N' b = N b) : CS g f pu' rg A tl E N' := by
  obtain ⟨-, a1, a2, a3, a4, a5, a6, a7, a8, a9⟩ := h
  have hp : Pr p := by obtain ⟨ρ, S, -⟩ := hS; exact S.1.2.1
  have hF' : ∀ b, csC b = true → b ≠ 1 → b ≠ 18 → N' b = N b := hF
  exact ⟨hS, hP, a2.fx (hF 21 rfl (by decide) (by decide)) (hF 26 rfl (by decide) (by decide)) (hF 27 rfl (by decide) (by decide)) (hF 29 rfl (by decide) (by decide)) (hF 30 rfl (by decide) (by decide)), fun i hi => by rw [hF 109 rfl (by decide) (by decide)]; exact a3 i hi, fun i hi => by rw [hF 121 rfl (by decide) (by decide)]; exact a4 i hi, fun i hi => by rw [hF 189 rfl (by decide) (by decide)]; exact a5 i hi, a6.fx (hF 88 rfl (by decide) (by decide)) (hF 89 rfl (by decide) (by decide)), a7.fx (hF 94 rfl (by decide) (by decide)) (hF 97 rfl (by decide) (by decide)), a8.fx (hF 182 rfl (by decide) (by decide)) (hF 183 rfl (by decide) (by decide)), a9.fx hp (hF 120 rfl (by decide) (by decide)) (hF 176 rfl (by decide) (by decide)) (hF 177 rfl (by decide) (by decide)) (hF 181 rfl (by decide) (by decide)) (fun b h1 h2 => hF b (csC_cd (Or.inl ⟨h1, h2⟩)) (by omega) (by omega)) (fun b h1 h2 => hF b (csC_cd (Or.inr ⟨h1, by omega⟩)) (by omega) (by omega))⟩
def oPush (p : Int) (pu : List Int) (v : Int) : Int := if ¬ (0 ≤ v ∧ v < p) then -2 else if 6 ≤ pu.length then -4 else (pu.length : Int) + 1
set_option maxHeartbeats 8000000 in
theorem k_push {p : Int} {g : Nat} {f : Pz p} {pu : List Int} {rg : Nat → Pz p × Pz p} {A tl : Nat → Int} {E : Nat → Nat} {N : Mem} {Q : Post} {v : Int} (h : CS g f pu rg A tl E N) (V : VS g f pu rg A tl E) (hv : R32 v)
    (hQ : ∀ N' pu', CS g f pu' rg A tl E N' → mdF N N' → pu' = (if (0 ≤ v ∧ v < p) ∧ pu.length < 6 then pu ++ [v] else pu) → Q (some (0, oPush p pu v)) NN N') : CL 119 [(2, 1), (0, v)] NN N Q := by
  have h0 := h
  obtain ⟨⟨ρ, S, R⟩, a1, a2, a3, a4, a5, a6, a7, a8, a9⟩ := h
  have hl := V.2.2.1.1
  unfold oPush at hQ
  refine WP.run [] [] 60 ?_
  simp only [bk119_0, bk119_8, bk119_11, bk119_20, bk119_23, U_aload_n, U_iload_n, U_invokevirtual1, U_if_ne, U_bipush, U_ireturn, U_getfield, U_icmp_lt, U_iast, U_dup, U_iconst, U_iadd, U_putfield, UN_cc, UN_cn, UN_nc, UN_nn, UJ, lget, lset, lset2, entL, wsm, wcat, Option.toList_some, Option.toList_none, List.cons_append, List.nil_append, List.mem_cons, List.not_mem_nil, Prod.mk.injEq, or_false, false_or, or_true, true_or, and_true, true_and, and_false, false_and, and_self, ne_eq, not_false_eq_true, not_true_eq_false, forall_const, true_implies, false_implies, Nat.add_zero, Nat.zero_add, Nat.le_refl, Nat.zero_le, List.set_cons_zero, List.set_cons_succ, List.set_nil, ↓reduceIte, Nat.reduceAdd, Nat.reduceSub, Nat.reduceEqDiff, Nat.reduceLeDiff, Int.reduceEq, Int.reduceNe, Int.reduceNeg, reduceCtorEq, kd1]
  refine c_isNum S.1 hv ?_
  by_cases q : 0 ≤ v ∧ v < p
  · rw [if_pos q]
    rw [if_neg (show ¬ ¬ (0 ≤ v ∧ v < p) by omega)] at hQ
    simp only [bk119_0, bk119_8, bk119_11, bk119_20, bk119_23, U_aload_n, U_iload_n, U_invokevirtual1, U_if_ne, U_bipush, U_ireturn, U_getfield, U_icmp_lt, U_iast, U_dup, U_iconst, U_iadd, U_putfield, UN_cc, UN_cn, UN_nc, UN_nn, UJ, lget, lset, lset2, entL, wsm, wcat, Option.toList_some, Option.toList_none, List.cons_append, List.nil_append, List.mem_cons, List.not_mem_nil, Prod.mk.injEq, or_false, false_or, or_true, true_or, and_true, true_and, and_false, false_and, and_self, ne_eq, not_false_eq_true, not_true_eq_false, forall_const, true_implies, false_implies, Nat.add_zero, Nat.zero_add, Nat.le_refl, Nat.zero_le, List.set_cons_zero, List.set_cons_succ, List.set_nil, ↓reduceIte, Nat.reduceAdd, Nat.reduceSub, Nat.reduceEqDiff, Nat.reduceLeDiff, Int.reduceEq, Int.reduceNe, Int.reduceNeg, reduceCtorEq, kd1, a1.1]
    refine ⟨r3 (by omega), rr (by omega), fun e => ?_, fun e => ?_⟩
    · rw [if_neg (show ¬ 6 ≤ pu.length by omega)] at hQ
      simp only [kd1, kd18, ln18, z1_1 S.1.1, a1.1]
      have S1 : ST p (ust N 18 (pu.length : Int) v) ρ := S.ust _ _ (fz_arr (a := 18) (Or.inl rfl) _) (by decide) (by decide) (by decide)
      have S2 : ST p (ust (ust N 18 (pu.length : Int) v) 1 2 (ust N 18 (pu.length : Int) v 1 2 + 1)) ρ := S1.ust _ _ rfl (by decide) (by decide) (by decide)
      have e2 : ust N 18 (pu.length : Int) v 1 2 = (pu.length : Int) := by rw [ust_ne (by decide)]; exact a1.1
      have e3 : ∀ x : Int, ust (ust N 18 (pu.length : Int) v) 1 2 x 1 2 = x := fun x => by rw [ust_at, if_pos rfl]
      rw [e3]
      refine ⟨by decide, trivial, by omega, by omega, ?_⟩
      have hh := hQ (ust (ust N 18 (pu.length : Int) v) 1 2 (ust N 18 (pu.length : Int) v 1 2 + 1)) (pu ++ [v]) (h0.pu ⟨ρ, S2, R⟩ ⟨?_, fun i x hx => ?_⟩ fun b hb b1 b2 => ?_) (fun b hb => ?_) (by rw [if_pos ⟨q, by omega⟩])
      · rw [e2] at hh ⊢; exact hh
      · rw [ust_at, if_pos rfl, e2, List.length_append]; simp
      · rw [ust_ne (by decide)]
        by_cases e4 : i < pu.length
        · rw [List.getElem?_append_left e4] at hx
          rw [ust_at, if_neg (by omega)]; exact a1.2 i x hx
        · have e5 : i = pu.length := by
            have := (List.getElem?_eq_some_iff.mp hx).1
            rw [List.length_append] at this
            simp at this; omega
          subst e5
          rw [List.getElem?_append_right (Nat.le_refl _)] at hx
          simp at hx
          rw [ust_at, if_pos rfl]; exact hx
      · rw [ust_ne b1, ust_ne b2]
      · rw [ust_ne (by omega), ust_ne (by omega)]
    · rw [if_pos (show 6 ≤ pu.length by omega)] at hQ
      exact hQ N pu h0 (mdF.rf N) (by rw [if_neg (by omega)])
  · rw [if_neg q]
    rw [if_pos q] at hQ
    simp only [bk119_0, bk119_8, bk119_11, bk119_20, bk119_23, U_aload_n, U_iload_n, U_invokevirtual1, U_if_ne, U_bipush, U_ireturn, U_getfield, U_icmp_lt, U_iast, U_dup, U_iconst, U_iadd, U_putfield, UN_cc, UN_cn, UN_nc, UN_nn, UJ, lget, lset, lset2, entL, wsm, wcat, Option.toList_some, Option.toList_none, List.cons_append, List.nil_append, List.mem_cons, List.not_mem_nil, Prod.mk.injEq, or_false, false_or, or_true, true_or, and_true, true_and, and_false, false_and, and_self, ne_eq, not_false_eq_true, not_true_eq_false, forall_const, true_implies, false_implies, Nat.add_zero, Nat.zero_add, Nat.le_refl, Nat.zero_le, List.set_cons_zero, List.set_cons_succ, List.set_nil, ↓reduceIte, Nat.reduceAdd, Nat.reduceSub, Nat.reduceEqDiff, Nat.reduceLeDiff, Int.reduceEq, Int.reduceNe, Int.reduceNeg, reduceCtorEq]
    exact ⟨r3 (by omega), hQ N pu h0 (mdF.rf N) (by rw [if_neg (by omega)])⟩
