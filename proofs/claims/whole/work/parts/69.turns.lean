/-! TURNS: f at a x + b; which turns keep the curve -/
noncomputable def lin (p a b : Int) : Pz p := padd (pC p b) (pM p a 1)
noncomputable def hor (p a b : Int) : Nat → (Nat → Int) → Pz p
  | 0, _ => pC p 0
  | n + 1, c => padd (pmul (lin p a b) (hor p a b n (sh c))) (pC p (c 0))
theorem rg_hor {R : Type} [Lean.Grind.CommRing R] (B A m : R) : B * m + A * m = (B + A) * m := by grind
theorem hor_step {p : Int} (a b : Int) (m : Pz p) : padd (pmul (pC p b) m) (pmul (pM p a 1) m) = pmul (lin p a b) m := @rg_hor (Pz p) (pring p) (pC p b) (pM p a 1) m
theorem dg_lin (p a b : Int) : dg (lin p a b) ≤ 2 := dg_le fun k hk => by
  show (padd (pC p b) (pM p a 1)).1 k = 0
  rw [padd_c, pC_c, pM_c, if_neg (by omega), if_neg (by omega), Int.zero_emod]; exact Int.zero_emod _
theorem dg_pC (p c : Int) : dg (pC p c) ≤ 1 := dg_le fun k hk => by rw [pC_c, if_neg (by omega)]; exact Int.zero_emod _
theorem hor_dg (p a b : Int) : ∀ (n : Nat) (c : Nat → Int), dg (hor p a b n c) ≤ n
  | 0, c => by show dg (pC p 0) ≤ 0; rw [dg_zero.mpr rfl]; exact Nat.le_refl _
  | n + 1, c => by
    have h1 := hor_dg p a b n (sh c)
    have h2 := dg_lin p a b
    have h3 := dg_mul_le (lin p a b) (hor p a b n (sh c))
    have h4 := dg_add (pmul (lin p a b) (hor p a b n (sh c))) (pC p (c 0))
    have h5 := dg_pC p (c 0)
    show dg (padd (pmul (lin p a b) (hor p a b n (sh c))) (pC p (c 0))) ≤ n + 1
    omega
theorem pput_0 {p : Int} (A : Pz p) (c : Int) : pput A 0 ((A.1 0 + c) % p) = padd A (pC p c) := Pz.ext fun k => by
  rw [pput_c, padd_c, pC_c]
  by_cases e : k = 0
  · subst e; rw [if_pos rfl, if_pos rfl, md_md]; exact md_add rfl (md_md _ _).symm
  · rw [if_neg e, if_neg e, Int.zero_emod, Int.add_zero]
/-- f at a x + b -/
noncomputable def fat {p : Int} (f : Pz p) (a b : Int) : Pz p := hor p a b (dg f) f.1
set_option maxHeartbeats 8000000 in
theorem l_tuH {p : Int} {N : Mem} {ρ : Int → Option (Pz p)} {Q : Post} {f : Pz p} {a b : Int} (hf : ρ 22 = some f) (ha : 0 ≤ a ∧ a < 13) (hb : 0 ≤ b ∧ b < 13)
    (hQ : ∀ N' ρ', ST p N' ρ' → FR N N' → ρ' 184 = some (fat f a b) → (∀ r, r ≠ 184 → r ≠ 186 → ρ' r = ρ r) → WP 110 (0, 0) 104 [(2, 182), (0, a), (0, b), (0, -1)] [] NN N' Q) :
    ∀ (k : Nat) (i : Int) (Ni : Mem) (ρi : Int → Option (Pz p)), i + 1 = k → k ≤ dg f → ST p Ni ρi → FR N Ni → ρi 184 = some (hor p a b (dg f - k) (fun j => f.1 (j + k))) → (∀ r, r ≠ 184 → r ≠ 186 → ρi r = ρ r) → WP 110 (0, 0) 18 [(2, 182), (0, a), (0, b), (0, i)] [] NN Ni Q := by
  have k184 : KD 184 = 18 := rfl
  have k186 : KD 186 = 18 := rfl
  have k22 : KD 22 = 18 := rfl
  intro k
  induction k with
  | zero =>
    intro i Ni ρi hi hk hS hF h184 hρ
    obtain rfl : i = -1 := by omega
    refine WP.run [(110, 18), (110, 104)] [] 60 ?_
    simp only [bk110_0, bk110_18, bk110_22, bk110_104, bk110_106, bk110_117, bk110_159, bk110_169, bk110_200, bk110_206, U_aload_n, U_getfield, U_invokevirtual0, U_istore_n, U_iload_n, U_if_lt, U_invokevirtual1, U_invokevirtual2, U_iconst, U_invokevirtual4, U_iadd, U_irem, U_iinc, U_goto, U_icmp_ge, U_imul, U_if_eq, U_sipush, U_bipush, U_iast, U_dup, U_putfield, U_return, UN_cc, UN_cn, UN_nc, UN_nn, UJ, lget, lset, lset2, entL, wsm, wcat, Option.toList_some, Option.toList_none, List.cons_append, List.nil_append, List.mem_cons, List.not_mem_nil, Prod.mk.injEq, or_false, false_or, or_true, true_or, and_true, true_and, and_false, false_and, and_self, ne_eq, not_false_eq_true, not_true_eq_false, forall_const, true_implies, false_implies, Nat.add_zero, Nat.zero_add, Nat.le_refl, Nat.zero_le, List.set_cons_zero, List.set_cons_succ, List.set_nil, ↓reduceIte, Nat.reduceAdd, Nat.reduceSub, Nat.reduceEqDiff, Nat.reduceLeDiff, Int.reduceEq, Int.reduceNe, Int.reduceNeg, reduceCtorEq]
    exact ⟨r3 (by omega), fun _ => hQ Ni ρi hS hF h184 hρ, fun e => absurd e (by omega)⟩
  | succ k ih =>
    intro i Ni ρi hi hk hS hF h184 hρ
    obtain rfl : i = (k : Int) := by omega
    have hf1 : ρi 22 = some f := (hρ 22 (by decide) (by decide)).trans hf
    have d22 := (hS.rp k22 hf1).2.2.1
    generalize hm : hor p a b (dg f - (k + 1)) (fun j => f.1 (j + (k + 1))) = m at h184
    have hdm : dg m ≤ dg f - (k + 1) := by rw [← hm]; exact hor_dg p a b _ _
    have hp := hS.1.2.1
    have hpp := hp.pos
    refine WP.run [(110, 18), (110, 104)] [] 90 ?_
    simp only [bk110_0, bk110_18, bk110_22, bk110_104, bk110_106, bk110_117, bk110_159, bk110_169, bk110_200, bk110_206, U_aload_n, U_getfield, U_invokevirtual0, U_istore_n, U_iload_n, U_if_lt, U_invokevirtual1, U_invokevirtual2, U_iconst, U_invokevirtual4, U_iadd, U_irem, U_iinc, U_goto, U_icmp_ge, U_imul, U_if_eq, U_sipush, U_bipush, U_iast, U_dup, U_putfield, U_return, UN_cc, UN_cn, UN_nc, UN_nn, UJ, lget, lset, lset2, entL, wsm, wcat, Option.toList_some, Option.toList_none, List.cons_append, List.nil_append, List.mem_cons, List.not_mem_nil, Prod.mk.injEq, or_false, false_or, or_true, true_or, and_true, true_and, and_false, false_and, and_self, ne_eq, not_false_eq_true, not_true_eq_false, forall_const, true_implies, false_implies, Nat.add_zero, Nat.zero_add, Nat.le_refl, Nat.zero_le, List.set_cons_zero, List.set_cons_succ, List.set_nil, ↓reduceIte, Nat.reduceAdd, Nat.reduceSub, Nat.reduceEqDiff, Nat.reduceLeDiff, Int.reduceEq, Int.reduceNe, Int.reduceNeg, reduceCtorEq, kd182, kd184, kd186, z182_5 hS.1.1, z182_6 hS.1.1]
    refine ⟨r3 (by omega), fun e => absurd e (by omega), fun _ => ?_⟩
    refine s_copy hS k186 k184 (by decide) h184 fun N1 S1 F1 => ?_
    simp only [bk110_0, bk110_18, bk110_22, bk110_104, bk110_106, bk110_117, bk110_159, bk110_169, bk110_200, bk110_206, U_aload_n, U_getfield, U_invokevirtual0, U_istore_n, U_iload_n, U_if_lt, U_invokevirtual1, U_invokevirtual2, U_iconst, U_invokevirtual4, U_iadd, U_irem, U_iinc, U_goto, U_icmp_ge, U_imul, U_if_eq, U_sipush, U_bipush, U_iast, U_dup, U_putfield, U_return, UN_cc, UN_cn, UN_nc, UN_nn, UJ, lget, lset, lset2, entL, wsm, wcat, Option.toList_some, Option.toList_none, List.cons_append, List.nil_append, List.mem_cons, List.not_mem_nil, Prod.mk.injEq, or_false, false_or, or_true, true_or, and_true, true_and, and_false, false_and, and_self, ne_eq, not_false_eq_true, not_true_eq_false, forall_const, true_implies, false_implies, Nat.add_zero, Nat.zero_add, Nat.le_refl, Nat.zero_le, List.set_cons_zero, List.set_cons_succ, List.set_nil, ↓reduceIte, Nat.reduceAdd, Nat.reduceSub, Nat.reduceEqDiff, Nat.reduceLeDiff, Int.reduceEq, Int.reduceNe, Int.reduceNeg, reduceCtorEq, kd182, kd184, kd186, kd2, z182_0 S1.1.1, z182_5 S1.1.1, z182_6 S1.1.1]
    refine s_scale S1 k184 (A := m) (by repeat (first | assumption | rw [upq_e] | rw [upq_n (by omega)])) (by omega) fun N2 S2 F2 => ?_
    simp only [bk110_0, bk110_18, bk110_22, bk110_104, bk110_106, bk110_117, bk110_159, bk110_169, bk110_200, bk110_206, U_aload_n, U_getfield, U_invokevirtual0, U_istore_n, U_iload_n, U_if_lt, U_invokevirtual1, U_invokevirtual2, U_iconst, U_invokevirtual4, U_iadd, U_irem, U_iinc, U_goto, U_icmp_ge, U_imul, U_if_eq, U_sipush, U_bipush, U_iast, U_dup, U_putfield, U_return, UN_cc, UN_cn, UN_nc, UN_nn, UJ, lget, lset, lset2, entL, wsm, wcat, Option.toList_some, Option.toList_none, List.cons_append, List.nil_append, List.mem_cons, List.not_mem_nil, Prod.mk.injEq, or_false, false_or, or_true, true_or, and_true, true_and, and_false, false_and, and_self, ne_eq, not_false_eq_true, not_true_eq_false, forall_const, true_implies, false_implies, Nat.add_zero, Nat.zero_add, Nat.le_refl, Nat.zero_le, List.set_cons_zero, List.set_cons_succ, List.set_nil, ↓reduceIte, Nat.reduceAdd, Nat.reduceSub, Nat.reduceEqDiff, Nat.reduceLeDiff, Int.reduceEq, Int.reduceNe, Int.reduceNeg, reduceCtorEq, kd182, kd184, kd186, kd2, z182_0 S2.1.1, z182_5 S2.1.1, z182_6 S2.1.1]
    refine s_addTimes S2 k184 k186 (A := pmul (pC p b) m) (B := m) (by repeat (first | assumption | rw [upq_e] | rw [upq_n (by omega)])) (by repeat (first | assumption | rw [upq_e] | rw [upq_n (by omega)])) (r3 (by omega)) 1 (by omega) (Or.inl (by decide)) fun N3 S3 F3 => ?_
    rw [hor_step] at S3
    simp only [bk110_0, bk110_18, bk110_22, bk110_104, bk110_106, bk110_117, bk110_159, bk110_169, bk110_200, bk110_206, U_aload_n, U_getfield, U_invokevirtual0, U_istore_n, U_iload_n, U_if_lt, U_invokevirtual1, U_invokevirtual2, U_iconst, U_invokevirtual4, U_iadd, U_irem, U_iinc, U_goto, U_icmp_ge, U_imul, U_if_eq, U_sipush, U_bipush, U_iast, U_dup, U_putfield, U_return, UN_cc, UN_cn, UN_nc, UN_nn, UJ, lget, lset, lset2, entL, wsm, wcat, Option.toList_some, Option.toList_none, List.cons_append, List.nil_append, List.mem_cons, List.not_mem_nil, Prod.mk.injEq, or_false, false_or, or_true, true_or, and_true, true_and, and_false, false_and, and_self, ne_eq, not_false_eq_true, not_true_eq_false, forall_const, true_implies, false_implies, Nat.add_zero, Nat.zero_add, Nat.le_refl, Nat.zero_le, List.set_cons_zero, List.set_cons_succ, List.set_nil, ↓reduceIte, Nat.reduceAdd, Nat.reduceSub, Nat.reduceEqDiff, Nat.reduceLeDiff, Int.reduceEq, Int.reduceNe, Int.reduceNeg, reduceCtorEq, kd182, kd184, kd186, kd2, kd21, kd22, z182_0 S3.1.1, z182_1 S3.1.1, z182_5 S3.1.1, z182_6 S3.1.1, z21_1 S3.1.1]
    have r1 := S3.rp k184 (upq_e _ _ _)
    refine c_get r1 (r3 (by omega)) ?_
    simp only [bk110_0, bk110_18, bk110_22, bk110_104, bk110_106, bk110_117, bk110_159, bk110_169, bk110_200, bk110_206, U_aload_n, U_getfield, U_invokevirtual0, U_istore_n, U_iload_n, U_if_lt, U_invokevirtual1, U_invokevirtual2, U_iconst, U_invokevirtual4, U_iadd, U_irem, U_iinc, U_goto, U_icmp_ge, U_imul, U_if_eq, U_sipush, U_bipush, U_iast, U_dup, U_putfield, U_return, UN_cc, UN_cn, UN_nc, UN_nn, UJ, lget, lset, lset2, entL, wsm, wcat, Option.toList_some, Option.toList_none, List.cons_append, List.nil_append, List.mem_cons, List.not_mem_nil, Prod.mk.injEq, or_false, false_or, or_true, true_or, and_true, true_and, and_false, false_and, and_self, ne_eq, not_false_eq_true, not_true_eq_false, forall_const, true_implies, false_implies, Nat.add_zero, Nat.zero_add, Nat.le_refl, Nat.zero_le, List.set_cons_zero, List.set_cons_succ, List.set_nil, ↓reduceIte, Nat.reduceAdd, Nat.reduceSub, Nat.reduceEqDiff, Nat.reduceLeDiff, Int.reduceEq, Int.reduceNe, Int.reduceNeg, reduceCtorEq, kd182, kd184, kd186, kd2, kd21, kd22, z182_0 S3.1.1, z182_1 S3.1.1, z182_5 S3.1.1, z182_6 S3.1.1, z21_1 S3.1.1]
    have r2 := S3.rp k22 (a := f) ((upq_n (by decide)).trans ((upq_n (by decide)).trans ((upq_n (by decide)).trans hf1)))
    refine c_get r2 (r3 (by omega)) ?_
    have b1 := hp.r32 (pmul (lin p a b) m) 0
    have b2 := hp.r32 f k
    rw [if_pos (by omega), if_pos (by omega)]
    simp only [bk110_0, bk110_18, bk110_22, bk110_104, bk110_106, bk110_117, bk110_159, bk110_169, bk110_200, bk110_206, U_aload_n, U_getfield, U_invokevirtual0, U_istore_n, U_iload_n, U_if_lt, U_invokevirtual1, U_invokevirtual2, U_iconst, U_invokevirtual4, U_iadd, U_irem, U_iinc, U_goto, U_icmp_ge, U_imul, U_if_eq, U_sipush, U_bipush, U_iast, U_dup, U_putfield, U_return, UN_cc, UN_cn, UN_nc, UN_nn, UJ, lget, lset, lset2, entL, wsm, wcat, Option.toList_some, Option.toList_none, List.cons_append, List.nil_append, List.mem_cons, List.not_mem_nil, Prod.mk.injEq, or_false, false_or, or_true, true_or, and_true, true_and, and_false, false_and, and_self, ne_eq, not_false_eq_true, not_true_eq_false, forall_const, true_implies, false_implies, Nat.add_zero, Nat.zero_add, Nat.le_refl, Nat.zero_le, List.set_cons_zero, List.set_cons_succ, List.set_nil, ↓reduceIte, Nat.reduceAdd, Nat.reduceSub, Nat.reduceEqDiff, Nat.reduceLeDiff, Int.reduceEq, Int.reduceNe, Int.reduceNeg, reduceCtorEq, kd182, kd184, kd186, kd2, kd21, kd22, z182_0 S3.1.1, z182_1 S3.1.1, z182_5 S3.1.1, z182_6 S3.1.1, z21_1 S3.1.1, S3.1.2.2.1, Int.toNat_natCast]
    rw [tm_nn (by rw [show Int.toNat 0 = 0 from rfl]; omega)]
    refine ⟨r3 (by rw [show Int.toNat 0 = 0 from rfl]; omega), r3 (by omega), by omega, ?_⟩
    refine s_put S3 k184 (upq_e _ _ _) 0 (by omega) (md_md _ _) fun N4 S4 F4 => ?_
    simp only [bk110_0, bk110_18, bk110_22, bk110_104, bk110_106, bk110_117, bk110_159, bk110_169, bk110_200, bk110_206, U_aload_n, U_getfield, U_invokevirtual0, U_istore_n, U_iload_n, U_if_lt, U_invokevirtual1, U_invokevirtual2, U_iconst, U_invokevirtual4, U_iadd, U_irem, U_iinc, U_goto, U_icmp_ge, U_imul, U_if_eq, U_sipush, U_bipush, U_iast, U_dup, U_putfield, U_return, UN_cc, UN_cn, UN_nc, UN_nn, UJ, lget, lset, lset2, entL, wsm, wcat, Option.toList_some, Option.toList_none, List.cons_append, List.nil_append, List.mem_cons, List.not_mem_nil, Prod.mk.injEq, or_false, false_or, or_true, true_or, and_true, true_and, and_false, false_and, and_self, ne_eq, not_false_eq_true, not_true_eq_false, forall_const, true_implies, false_implies, Nat.add_zero, Nat.zero_add, Nat.le_refl, Nat.zero_le, List.set_cons_zero, List.set_cons_succ, List.set_nil, ↓reduceIte, Nat.reduceAdd, Nat.reduceSub, Nat.reduceEqDiff, Nat.reduceLeDiff, Int.reduceEq, Int.reduceNe, Int.reduceNeg, reduceCtorEq, kd182]
    rw [show Int.toNat 0 = 0 from rfl, pput_0] at S4
    refine ih ((k : Int) + -1) N4 _ (by omega) (by omega) S4 ((((hF.tr F1).tr F2).tr F3).tr F4) ?_ (fun r r1 r2 => ?_)
    · rw [upq_e]
      have e : dg f - k = (dg f - (k + 1)) + 1 := by omega
      rw [e]
      show some (padd (pmul (lin p a b) m) (pC p (f.1 k))) = some (padd (pmul (lin p a b) (hor p a b (dg f - (k + 1)) (sh fun j => f.1 (j + k)))) (pC p (f.1 (0 + k))))
      have e2 : (sh fun j => f.1 (j + k)) = fun j => f.1 (j + (k + 1)) := funext fun j => by show f.1 (j + 1 + k) = f.1 (j + (k + 1)); rw [show j + 1 + k = j + (k + 1) by omega]
      rw [e2, hm, Nat.zero_add]
    · rw [upq_n r1, upq_n r1, upq_n r1, upq_n r2]; exact hρ r r1 r2
/-- the turns' tokens in the cells -/
def TuA (N : Mem) (L : List Int) : Prop := N 182 3 = (L.length : Int) ∧ ∀ (i : Nat) (t : Int), L[i]? = some t → N 183 (i : Int) = t
theorem TuA.fx {N N' : Mem} {L : List Int} (h : TuA N L) (h1 : N' 182 3 = N 182 3) (h2 : N' 183 = N 183) : TuA N' L := ⟨by rw [h1]; exact h.1, fun i t e => by rw [h2]; exact h.2 i t e⟩
theorem TuA.push {N : Mem} {L : List Int} (h : TuA N L) (t : Int) : TuA (ust (ust N 183 (L.length : Int) t) 182 3 ((L.length : Int) + 1)) (L ++ [t]) := by
  refine ⟨by rw [ust_at, if_pos rfl, List.length_append]; simp, fun i x e2 => ?_⟩
  rw [ust_ne (by decide), ust_at]
  by_cases q : i < L.length
  · rw [List.getElem?_append_left q] at e2
    rw [if_neg (by omega)]; exact h.2 i x e2
  · rw [List.getElem?_append_right (by omega)] at e2
    by_cases q2 : i = L.length
    · subst q2
      simp at e2
      rw [if_pos rfl]; exact e2
    · rw [List.getElem?_eq_none (by simp; omega)] at e2; cases e2
noncomputable def tuP {p : Int} (f : Pz p) (a b : Int) (c : Nat) : Bool := @decide (c ≠ 0 ∧ pmul (pC p ((c : Int) * c)) f = fat f a b) (Classical.propDecidable _)
noncomputable def tuC {p : Int} (f : Pz p) (a b : Int) (n : Nat) : List Int := selT (tuP f a b) (fun c => 10000 * a + 100 * b + c) n
noncomputable def tuB {p : Int} (f : Pz p) (a : Int) (n : Nat) : List Int := catT (fun b => tuC f a b p.toNat) n
noncomputable def tuL {p : Int} (f : Pz p) (n : Nat) : List Int := catT (fun a => if a = 0 then [] else tuB f a p.toNat) n
theorem tuC_rw {p : Int} (hp : Pr p) {f : Pz p} (hm : pmo f) (a b : Int) : ∀ n, (tuC f a b n).length ≤ (rowY p ((fat f a b).1 (dg f - 1)) n).length
  | 0 => Nat.le_refl _
  | n + 1 => by
    have ih := tuC_rw hp hm a b n
    show (tuC f a b n ++ (if tuP f a b n then [10000 * a + 100 * b + (n : Int)] else [])).length ≤ _
    rw [rowY_s, List.length_append, List.length_append]
    by_cases h : tuP f a b n = true
    · have h2 : n ≠ 0 ∧ pmul (pC p ((n : Int) * n)) f = fat f a b := by simpa [tuP] using h
      have h3 : (n : Int) * n % p = (fat f a b).1 (dg f - 1) := by rw [← h2.2, pC_mul, hm.2, Int.mul_one]
      rw [if_pos h, if_pos h3]; simp; exact ih
    · rw [if_neg h]; simp; omega
theorem tuC_2 {p : Int} (hp : Pr p) {f : Pz p} (hm : pmo f) (a b : Int) {n : Nat} (hn : n ≤ p.toNat) : (tuC f a b n).length ≤ 2 := by
  have h1 := tuC_rw hp hm a b n
  have h2 := hp.lt ((fat f a b).2.1 (dg f - 1))
  have h3 := rowY2 hp h2.1 h2.2
  have h4 := rowY_le p ((fat f a b).1 (dg f - 1)) hn
  omega
theorem tuB_2 {p : Int} (hp : Pr p) {f : Pz p} (hm : pmo f) (a : Int) : ∀ n, (tuB f a n).length ≤ 2 * n
  | 0 => Nat.le_refl _
  | n + 1 => by
    have ih := tuB_2 hp hm a n
    have := tuC_2 hp hm a n (Nat.le_refl _)
    show (tuB f a n ++ tuC f a n p.toNat).length ≤ _
    rw [List.length_append]; omega
theorem tuL_2 {p : Int} (hp : Pr p) {f : Pz p} (hm : pmo f) : ∀ n, (tuL f (n + 1)).length ≤ 26 * n
  | 0 => by show ([] ++ (if 0 = 0 then [] else _ : List Int)).length ≤ 0; simp
  | n + 1 => by
    have ih := tuL_2 hp hm n
    have := tuB_2 hp hm ((n + 1 : Nat) : Int) p.toNat
    have hpp := hp.pos
    show (tuL f (n + 1) ++ (if n + 1 = 0 then [] else tuB f ((n + 1 : Nat) : Int) p.toNat)).length ≤ _
    rw [if_neg (by omega), List.length_append]; omega
set_option maxHeartbeats 8000000 in
theorem l_tuC {p : Int} {N : Mem} {ρ : Int → Option (Pz p)} {Q : Post} {f : Pz p} {a b : Int} {L : List Int} (hp : Pr p) (hm : pmo f) (hf : ρ 22 = some f) (h184 : ρ 184 = some (fat f a b)) (ha : 0 ≤ a ∧ a < 13) (hb : 0 ≤ b ∧ b < 13) (hl : L.length ≤ 335)
    (hQ : ∀ N' ρ', ST p N' ρ' → FX [182, 183] N N' → (∀ i, i ≠ 3 → N' 182 i = N 182 i) → (∀ r, r ≠ 186 → ρ' r = ρ r) → TuA N' (L ++ tuC f a b p.toNat) → Q none NN N') :
    ∀ (n c : Nat) (Ni : Mem) (ρi : Int → Option (Pz p)), (c : Int) + n = p → 1 ≤ c → ST p Ni ρi → FX [182, 183] N Ni → (∀ i, i ≠ 3 → Ni 182 i = N 182 i) → (∀ r, r ≠ 186 → ρi r = ρ r) → TuA Ni (L ++ tuC f a b c) → WP 110 (0, 0) 106 [(2, 182), (0, a), (0, b), (0, (c : Int))] [] NN Ni Q := by
  have k184 : KD 184 = 18 := rfl
  have k186 : KD 186 = 18 := rfl
  have k22 : KD 22 = 18 := rfl
  have hpp := hp.pos
  intro n
  induction n with
  | zero =>
    intro c Ni ρi hc h1 hS hF hI hρ hT
    have e : c = p.toNat := by omega
    subst e
    refine WP.run [(110, 106)] [] 60 ?_
    simp only [bk110_0, bk110_18, bk110_22, bk110_104, bk110_106, bk110_117, bk110_159, bk110_169, bk110_200, bk110_206, U_aload_n, U_getfield, U_invokevirtual0, U_istore_n, U_iload_n, U_if_lt, U_invokevirtual1, U_invokevirtual2, U_iconst, U_invokevirtual4, U_iadd, U_irem, U_iinc, U_goto, U_icmp_ge, U_imul, U_if_eq, U_sipush, U_bipush, U_iast, U_dup, U_putfield, U_return, UN_cc, UN_cn, UN_nc, UN_nn, UJ, lget, lset, lset2, entL, wsm, wcat, Option.toList_some, Option.toList_none, List.cons_append, List.nil_append, List.mem_cons, List.not_mem_nil, Prod.mk.injEq, or_false, false_or, or_true, true_or, and_true, true_and, and_false, false_and, and_self, ne_eq, not_false_eq_true, not_true_eq_false, forall_const, true_implies, false_implies, Nat.add_zero, Nat.zero_add, Nat.le_refl, Nat.zero_le, List.set_cons_zero, List.set_cons_succ, List.set_nil, ↓reduceIte, Nat.reduceAdd, Nat.reduceSub, Nat.reduceEqDiff, Nat.reduceLeDiff, Int.reduceEq, Int.reduceNe, Int.reduceNeg, reduceCtorEq, kd182, kd2, z182_0 hS.1.1, hS.1.2.2.1]
    exact ⟨rr (by omega), fun e => absurd e (by omega), fun _ => hQ Ni ρi hS hF hI hρ hT⟩
  | succ n ih =>
    intro c Ni ρi hc h1 hS hF hI hρ hT
    have hf1 : ρi 22 = some f := (hρ 22 (by decide)).trans hf
    have h1841 : ρi 184 = some (fat f a b) := (hρ 184 (by decide)).trans h184
    have hcc := sq_le hp (v := (c : Int)) (by omega)
    have es : tuC f a b (c + 1) = tuC f a b c ++ (if tuP f a b c then [10000 * a + 100 * b + (c : Int)] else []) := rfl
    have hl2 := tuC_2 hp hm a b (n := c) (by omega)
    refine WP.run [(110, 106)] [] 90 ?_
    simp only [bk110_0, bk110_18, bk110_22, bk110_104, bk110_106, bk110_117, bk110_159, bk110_169, bk110_200, bk110_206, U_aload_n, U_getfield, U_invokevirtual0, U_istore_n, U_iload_n, U_if_lt, U_invokevirtual1, U_invokevirtual2, U_iconst, U_invokevirtual4, U_iadd, U_irem, U_iinc, U_goto, U_icmp_ge, U_imul, U_if_eq, U_sipush, U_bipush, U_iast, U_dup, U_putfield, U_return, UN_cc, UN_cn, UN_nc, UN_nn, UJ, lget, lset, lset2, entL, wsm, wcat, Option.toList_some, Option.toList_none, List.cons_append, List.nil_append, List.mem_cons, List.not_mem_nil, Prod.mk.injEq, or_false, false_or, or_true, true_or, and_true, true_and, and_false, false_and, and_self, ne_eq, not_false_eq_true, not_true_eq_false, forall_const, true_implies, false_implies, Nat.add_zero, Nat.zero_add, Nat.le_refl, Nat.zero_le, List.set_cons_zero, List.set_cons_succ, List.set_nil, ↓reduceIte, Nat.reduceAdd, Nat.reduceSub, Nat.reduceEqDiff, Nat.reduceLeDiff, Int.reduceEq, Int.reduceNe, Int.reduceNeg, reduceCtorEq, kd182, kd2, kd21, kd22, kd186, z182_0 hS.1.1, z182_1 hS.1.1, z182_6 hS.1.1, z21_1 hS.1.1, hS.1.2.2.1]
    refine ⟨rr (by omega), fun _ => ?_, fun e => absurd (by omega) e⟩
    refine s_copy hS k186 k22 (by decide) hf1 fun N1 S1 F1 => ?_
    simp only [bk110_0, bk110_18, bk110_22, bk110_104, bk110_106, bk110_117, bk110_159, bk110_169, bk110_200, bk110_206, U_aload_n, U_getfield, U_invokevirtual0, U_istore_n, U_iload_n, U_if_lt, U_invokevirtual1, U_invokevirtual2, U_iconst, U_invokevirtual4, U_iadd, U_irem, U_iinc, U_goto, U_icmp_ge, U_imul, U_if_eq, U_sipush, U_bipush, U_iast, U_dup, U_putfield, U_return, UN_cc, UN_cn, UN_nc, UN_nn, UJ, lget, lset, lset2, entL, wsm, wcat, Option.toList_some, Option.toList_none, List.cons_append, List.nil_append, List.mem_cons, List.not_mem_nil, Prod.mk.injEq, or_false, false_or, or_true, true_or, and_true, true_and, and_false, false_and, and_self, ne_eq, not_false_eq_true, not_true_eq_false, forall_const, true_implies, false_implies, Nat.add_zero, Nat.zero_add, Nat.le_refl, Nat.zero_le, List.set_cons_zero, List.set_cons_succ, List.set_nil, ↓reduceIte, Nat.reduceAdd, Nat.reduceSub, Nat.reduceEqDiff, Nat.reduceLeDiff, Int.reduceEq, Int.reduceNe, Int.reduceNeg, reduceCtorEq, kd182, kd2, kd186, z182_0 S1.1.1, z182_6 S1.1.1]
    refine s_scale S1 k186 (upq_e _ _ _) (by omega) fun N2 S2 F2 => ?_
    simp only [bk110_0, bk110_18, bk110_22, bk110_104, bk110_106, bk110_117, bk110_159, bk110_169, bk110_200, bk110_206, U_aload_n, U_getfield, U_invokevirtual0, U_istore_n, U_iload_n, U_if_lt, U_invokevirtual1, U_invokevirtual2, U_iconst, U_invokevirtual4, U_iadd, U_irem, U_iinc, U_goto, U_icmp_ge, U_imul, U_if_eq, U_sipush, U_bipush, U_iast, U_dup, U_putfield, U_return, UN_cc, UN_cn, UN_nc, UN_nn, UJ, lget, lset, lset2, entL, wsm, wcat, Option.toList_some, Option.toList_none, List.cons_append, List.nil_append, List.mem_cons, List.not_mem_nil, Prod.mk.injEq, or_false, false_or, or_true, true_or, and_true, true_and, and_false, false_and, and_self, ne_eq, not_false_eq_true, not_true_eq_false, forall_const, true_implies, false_implies, Nat.add_zero, Nat.zero_add, Nat.le_refl, Nat.zero_le, List.set_cons_zero, List.set_cons_succ, List.set_nil, ↓reduceIte, Nat.reduceAdd, Nat.reduceSub, Nat.reduceEqDiff, Nat.reduceLeDiff, Int.reduceEq, Int.reduceNe, Int.reduceNeg, reduceCtorEq, kd182, kd184, kd186, z182_5 S2.1.1, z182_6 S2.1.1]
    have r1 := S2.rp k186 (upq_e _ _ _)
    have r2 := S2.rp k184 (a := fat f a b) ((upq_n (by decide)).trans ((upq_n (by decide)).trans h1841))
    have f12 := F1.tr F2
    have e182 : N2 182 = Ni 182 := f12 182 (by decide)
    have e183 : N2 183 = Ni 183 := f12 183 (by decide)
    have hT2 : TuA N2 (L ++ tuC f a b c) := hT.fx (by rw [e182]) e183
    have hI2 : ∀ i, i ≠ 3 → N2 182 i = N 182 i := fun i hi => by rw [e182]; exact hI i hi
    have hρ2 : ∀ r, r ≠ 186 → upq (upq ρi 186 f) 186 (pmul (pC p ((c : Int) * c)) f) r = ρ r := fun r hr => by rw [upq_n hr, upq_n hr]; exact hρ r hr
    refine c_like hp r1 r2 (fun e => ?_) (fun e => ?_)
    · have ht : tuP f a b c = true := by unfold tuP; exact @decide_eq_true _ (Classical.propDecidable _) ⟨by omega, e⟩
      rw [if_pos ht] at es
      have hll : (L ++ tuC f a b c).length ≤ 337 := by rw [List.length_append]; omega
      have h3 := hT2.1
      generalize hLc : L ++ tuC f a b c = M at *
      simp only [bk110_0, bk110_18, bk110_22, bk110_104, bk110_106, bk110_117, bk110_159, bk110_169, bk110_200, bk110_206, U_aload_n, U_getfield, U_invokevirtual0, U_istore_n, U_iload_n, U_if_lt, U_invokevirtual1, U_invokevirtual2, U_iconst, U_invokevirtual4, U_iadd, U_irem, U_iinc, U_goto, U_icmp_ge, U_imul, U_if_eq, U_sipush, U_bipush, U_iast, U_dup, U_putfield, U_return, UN_cc, UN_cn, UN_nc, UN_nn, UJ, lget, lset, lset2, entL, wsm, wcat, Option.toList_some, Option.toList_none, List.cons_append, List.nil_append, List.mem_cons, List.not_mem_nil, Prod.mk.injEq, or_false, false_or, or_true, true_or, and_true, true_and, and_false, false_and, and_self, ne_eq, not_false_eq_true, not_true_eq_false, forall_const, true_implies, false_implies, Nat.add_zero, Nat.zero_add, Nat.le_refl, Nat.zero_le, List.set_cons_zero, List.set_cons_succ, List.set_nil, ↓reduceIte, Nat.reduceAdd, Nat.reduceSub, Nat.reduceEqDiff, Nat.reduceLeDiff, Int.reduceEq, Int.reduceNe, Int.reduceNeg, reduceCtorEq, kd182, kd183, ln183, z182_2 S2.1.1, h3, ust_r]
      refine ⟨r3 (by omega), rr (by omega), fun _ => ⟨by omega, by omega, ?_⟩, fun e => absurd (by omega) e⟩
      have hp1 := hT2.push (10000 * a + 100 * b + (c : Int))
      rw [← hLc, List.append_assoc, ← es, hLc] at hp1
      refine ih (c + 1) _ _ (by omega) (by omega) ((S2.ust _ _ (fz_arr (Or.inl rfl) _) (by decide) (by decide) (by decide)).ust _ _ rfl (by decide) (by decide) (by decide)) (((hF.tr f12.fx).us _ _ (by simp)).us _ _ (by simp)) (fun i hi => ?_) hρ2 hp1
      rw [ust_at, if_neg hi, ust_ne (by decide)]; exact hI2 i hi
    · have ht : ¬ tuP f a b c = true := fun q => e (@of_decide_eq_true _ (Classical.propDecidable _) q).2
      rw [if_neg ht, List.append_nil] at es
      simp only [bk110_0, bk110_18, bk110_22, bk110_104, bk110_106, bk110_117, bk110_159, bk110_169, bk110_200, bk110_206, U_aload_n, U_getfield, U_invokevirtual0, U_istore_n, U_iload_n, U_if_lt, U_invokevirtual1, U_invokevirtual2, U_iconst, U_invokevirtual4, U_iadd, U_irem, U_iinc, U_goto, U_icmp_ge, U_imul, U_if_eq, U_sipush, U_bipush, U_iast, U_dup, U_putfield, U_return, UN_cc, UN_cn, UN_nc, UN_nn, UJ, lget, lset, lset2, entL, wsm, wcat, Option.toList_some, Option.toList_none, List.cons_append, List.nil_append, List.mem_cons, List.not_mem_nil, Prod.mk.injEq, or_false, false_or, or_true, true_or, and_true, true_and, and_false, false_and, and_self, ne_eq, not_false_eq_true, not_true_eq_false, forall_const, true_implies, false_implies, Nat.add_zero, Nat.zero_add, Nat.le_refl, Nat.zero_le, List.set_cons_zero, List.set_cons_succ, List.set_nil, ↓reduceIte, Nat.reduceAdd, Nat.reduceSub, Nat.reduceEqDiff, Nat.reduceLeDiff, Int.reduceEq, Int.reduceNe, Int.reduceNeg, reduceCtorEq, kd182]
      rw [← es] at hT2
      exact ⟨r3 (by omega), ih (c + 1) N2 _ (by omega) (by omega) S2 (hF.tr f12.fx) hI2 hρ2 hT2⟩
set_option maxHeartbeats 8000000 in
theorem s_tuAt {p : Int} {N : Mem} {ρ : Int → Option (Pz p)} {Q : Post} {f : Pz p} {a b : Int} {L : List Int} (h : ST p N ρ) (hm : pmo f) (hf : ρ 22 = some f) (ha : 0 ≤ a ∧ a < 13) (hb : 0 ≤ b ∧ b < 13) (hl : L.length ≤ 335) (hT : TuA N L)
    (hQ : ∀ N' ρ', ST p N' ρ' → FX [182, 183] N N' → (∀ i, i ≠ 3 → N' 182 i = N 182 i) → (∀ r, r ≠ 184 → r ≠ 186 → ρ' r = ρ r) → TuA N' (L ++ tuC f a b p.toNat) → Q none NN N') : CL 110 [(2, 182), (0, a), (0, b), (9, 0)] NN N Q := by
  have k184 : KD 184 = 18 := rfl
  have k22 : KD 22 = 18 := rfl
  have hp := h.1.2.1
  have hpp := hp.pos
  refine WP.run [(110, 18)] [] 60 ?_
  simp only [bk110_0, bk110_18, bk110_22, bk110_104, bk110_106, bk110_117, bk110_159, bk110_169, bk110_200, bk110_206, U_aload_n, U_getfield, U_invokevirtual0, U_istore_n, U_iload_n, U_if_lt, U_invokevirtual1, U_invokevirtual2, U_iconst, U_invokevirtual4, U_iadd, U_irem, U_iinc, U_goto, U_icmp_ge, U_imul, U_if_eq, U_sipush, U_bipush, U_iast, U_dup, U_putfield, U_return, UN_cc, UN_cn, UN_nc, UN_nn, UJ, lget, lset, lset2, entL, wsm, wcat, Option.toList_some, Option.toList_none, List.cons_append, List.nil_append, List.mem_cons, List.not_mem_nil, Prod.mk.injEq, or_false, false_or, or_true, true_or, and_true, true_and, and_false, false_and, and_self, ne_eq, not_false_eq_true, not_true_eq_false, forall_const, true_implies, false_implies, Nat.add_zero, Nat.zero_add, Nat.le_refl, Nat.zero_le, List.set_cons_zero, List.set_cons_succ, List.set_nil, ↓reduceIte, Nat.reduceAdd, Nat.reduceSub, Nat.reduceEqDiff, Nat.reduceLeDiff, Int.reduceEq, Int.reduceNe, Int.reduceNeg, reduceCtorEq, kd182, kd184, z182_5 h.1.1]
  refine s_clear h k184 fun N1 S1 F1 => ?_
  have r22 := S1.rp k22 (a := f) ((upq_n (by decide)).trans hf)
  simp only [bk110_0, bk110_18, bk110_22, bk110_104, bk110_106, bk110_117, bk110_159, bk110_169, bk110_200, bk110_206, U_aload_n, U_getfield, U_invokevirtual0, U_istore_n, U_iload_n, U_if_lt, U_invokevirtual1, U_invokevirtual2, U_iconst, U_invokevirtual4, U_iadd, U_irem, U_iinc, U_goto, U_icmp_ge, U_imul, U_if_eq, U_sipush, U_bipush, U_iast, U_dup, U_putfield, U_return, UN_cc, UN_cn, UN_nc, UN_nn, UJ, lget, lset, lset2, entL, wsm, wcat, Option.toList_some, Option.toList_none, List.cons_append, List.nil_append, List.mem_cons, List.not_mem_nil, Prod.mk.injEq, or_false, false_or, or_true, true_or, and_true, true_and, and_false, false_and, and_self, ne_eq, not_false_eq_true, not_true_eq_false, forall_const, true_implies, false_implies, Nat.add_zero, Nat.zero_add, Nat.le_refl, Nat.zero_le, List.set_cons_zero, List.set_cons_succ, List.set_nil, ↓reduceIte, Nat.reduceAdd, Nat.reduceSub, Nat.reduceEqDiff, Nat.reduceLeDiff, Int.reduceEq, Int.reduceNe, Int.reduceNeg, reduceCtorEq, kd182, kd21, kd22, z182_1 S1.1.1, z21_1 S1.1.1, r22.2.2.2]
  refine l_tuH (f := f) (N := N1) (ρ := upq ρ 184 (pC p 0)) ((upq_n (by decide)).trans hf) ha hb (fun N2 ρ2 S2 F2 e2 hρ2 => ?_) (dg f) _ N1 _ (by omega) (Nat.le_refl _) S1 (FR.rf _) ?_ (fun _ _ _ => rfl)
  · refine WP.run [(110, 106)] [] 60 ?_
    simp only [bk110_0, bk110_18, bk110_22, bk110_104, bk110_106, bk110_117, bk110_159, bk110_169, bk110_200, bk110_206, U_aload_n, U_getfield, U_invokevirtual0, U_istore_n, U_iload_n, U_if_lt, U_invokevirtual1, U_invokevirtual2, U_iconst, U_invokevirtual4, U_iadd, U_irem, U_iinc, U_goto, U_icmp_ge, U_imul, U_if_eq, U_sipush, U_bipush, U_iast, U_dup, U_putfield, U_return, UN_cc, UN_cn, UN_nc, UN_nn, UJ, lget, lset, lset2, entL, wsm, wcat, Option.toList_some, Option.toList_none, List.cons_append, List.nil_append, List.mem_cons, List.not_mem_nil, Prod.mk.injEq, or_false, false_or, or_true, true_or, and_true, true_and, and_false, false_and, and_self, ne_eq, not_false_eq_true, not_true_eq_false, forall_const, true_implies, false_implies, Nat.add_zero, Nat.zero_add, Nat.le_refl, Nat.zero_le, List.set_cons_zero, List.set_cons_succ, List.set_nil, ↓reduceIte, Nat.reduceAdd, Nat.reduceSub, Nat.reduceEqDiff, Nat.reduceLeDiff, Int.reduceEq, Int.reduceNe, Int.reduceNeg, reduceCtorEq]
    have f12 := F1.tr F2
    have e182 : N2 182 = N 182 := f12 182 (by decide)
    have e183 : N2 183 = N 183 := f12 183 (by decide)
    have e1 : tuC f a b 1 = [] := by
      show ([] ++ (if tuP f a b 0 then _ else []) : List Int) = []
      rw [if_neg (by unfold tuP; simp)]; rfl
    refine l_tuC (N := N2) (ρ := ρ2) (L := L) hp hm ((hρ2 22 (by decide) (by decide)).trans ((upq_n (by decide)).trans hf)) e2 ha hb hl (fun N3 ρ3 S3 F3 I3 r3 T3 => hQ N3 ρ3 S3 (f12.fx.tr F3) (fun i hi => by rw [I3 i hi, e182]) (fun r q1 q2 => by rw [r3 r q2, hρ2 r q1 q2, upq_n q1]) T3) (p.toNat - 1) 1 N2 ρ2 (by omega) (by omega) S2 (FX.rf _ _) (fun _ _ => rfl) (fun _ _ => rfl) ?_
    rw [e1, List.append_nil]
    exact hT.fx (by rw [e182]) e183
  · rw [upq_e, Nat.sub_self]; rfl
set_option maxHeartbeats 8000000 in
theorem l_tuB {p : Int} {N : Mem} {ρ : Int → Option (Pz p)} {Q : Post} {f : Pz p} {a : Int} {L : List Int} (hp : Pr p) (hm : pmo f) (hf : ρ 22 = some f) (ha : 0 ≤ a ∧ a < 13) (hl : L.length ≤ 300)
    (hQ : ∀ N' ρ', ST p N' ρ' → FX [182, 183] N N' → (∀ i, i ≠ 3 → N' 182 i = N 182 i) → (∀ r, r ≠ 184 → r ≠ 186 → ρ' r = ρ r) → TuA N' (L ++ tuB f a p.toNat) → ∀ y : V, WP 111 (0, 0) 12 [(2, 182), (0, a + 1), y] [] NN N' Q) :
    ∀ (n b : Nat) (Ni : Mem) (ρi : Int → Option (Pz p)), (b : Int) + n = p → ST p Ni ρi → FX [182, 183] N Ni → (∀ i, i ≠ 3 → Ni 182 i = N 182 i) → (∀ r, r ≠ 184 → r ≠ 186 → ρi r = ρ r) → TuA Ni (L ++ tuB f a b) → WP 111 (0, 0) 25 [(2, 182), (0, a), (0, (b : Int))] [] NN Ni Q := by
  have hpp := hp.pos
  intro n
  induction n with
  | zero =>
    intro b Ni ρi hc hS hF hI hρ hT
    have e : b = p.toNat := by omega
    subst e
    refine WP.run [(111, 25), (111, 12)] [] 60 ?_
    simp only [bk111_0, bk111_12, bk111_23, bk111_25, bk111_36, bk111_48, bk111_54, U_aload_n, U_iconst, U_putfield, U_istore_n, U_iload_n, U_getfield, U_icmp_ge, U_invokevirtual2, U_iinc, U_goto, U_return, UN_cc, UN_cn, UN_nc, UN_nn, UJ, lget, lset, lset2, entL, wsm, wcat, Option.toList_some, Option.toList_none, List.cons_append, List.nil_append, List.mem_cons, List.not_mem_nil, Prod.mk.injEq, or_false, false_or, or_true, true_or, and_true, true_and, and_false, false_and, and_self, ne_eq, not_false_eq_true, not_true_eq_false, forall_const, true_implies, false_implies, Nat.add_zero, Nat.zero_add, Nat.le_refl, Nat.zero_le, List.set_cons_zero, List.set_cons_succ, List.set_nil, ↓reduceIte, Nat.reduceAdd, Nat.reduceSub, Nat.reduceEqDiff, Nat.reduceLeDiff, Int.reduceEq, Int.reduceNe, Int.reduceNeg, reduceCtorEq, kd182, kd2, z182_0 hS.1.1, hS.1.2.2.1]
    exact ⟨rr (by omega), fun e => absurd e (by omega), fun _ => hQ Ni ρi hS hF hI hρ hT _⟩
  | succ n ih =>
    intro b Ni ρi hc hS hF hI hρ hT
    have hf1 : ρi 22 = some f := (hρ 22 (by decide) (by decide)).trans hf
    have es : tuB f a (b + 1) = tuB f a b ++ tuC f a b p.toNat := rfl
    have hb2 := tuB_2 hp hm a b
    refine WP.run [(111, 25), (111, 12)] [] 60 ?_
    simp only [bk111_0, bk111_12, bk111_23, bk111_25, bk111_36, bk111_48, bk111_54, U_aload_n, U_iconst, U_putfield, U_istore_n, U_iload_n, U_getfield, U_icmp_ge, U_invokevirtual2, U_iinc, U_goto, U_return, UN_cc, UN_cn, UN_nc, UN_nn, UJ, lget, lset, lset2, entL, wsm, wcat, Option.toList_some, Option.toList_none, List.cons_append, List.nil_append, List.mem_cons, List.not_mem_nil, Prod.mk.injEq, or_false, false_or, or_true, true_or, and_true, true_and, and_false, false_and, and_self, ne_eq, not_false_eq_true, not_true_eq_false, forall_const, true_implies, false_implies, Nat.add_zero, Nat.zero_add, Nat.le_refl, Nat.zero_le, List.set_cons_zero, List.set_cons_succ, List.set_nil, ↓reduceIte, Nat.reduceAdd, Nat.reduceSub, Nat.reduceEqDiff, Nat.reduceLeDiff, Int.reduceEq, Int.reduceNe, Int.reduceNeg, reduceCtorEq, kd182, kd2, z182_0 hS.1.1, hS.1.2.2.1]
    refine ⟨rr (by omega), fun _ => ?_, fun e => absurd (by omega) e⟩
    refine s_tuAt (f := f) (L := L ++ tuB f a b) hS hm hf1 ha (by omega) (by rw [List.length_append]; omega) hT fun N1 ρ1 S1 F1 I1 r1 T1 => ?_
    simp only [bk111_0, bk111_12, bk111_23, bk111_25, bk111_36, bk111_48, bk111_54, U_aload_n, U_iconst, U_putfield, U_istore_n, U_iload_n, U_getfield, U_icmp_ge, U_invokevirtual2, U_iinc, U_goto, U_return, UN_cc, UN_cn, UN_nc, UN_nn, UJ, lget, lset, lset2, entL, wsm, wcat, Option.toList_some, Option.toList_none, List.cons_append, List.nil_append, List.mem_cons, List.not_mem_nil, Prod.mk.injEq, or_false, false_or, or_true, true_or, and_true, true_and, and_false, false_and, and_self, ne_eq, not_false_eq_true, not_true_eq_false, forall_const, true_implies, false_implies, Nat.add_zero, Nat.zero_add, Nat.le_refl, Nat.zero_le, List.set_cons_zero, List.set_cons_succ, List.set_nil, ↓reduceIte, Nat.reduceAdd, Nat.reduceSub, Nat.reduceEqDiff, Nat.reduceLeDiff, Int.reduceEq, Int.reduceNe, Int.reduceNeg, reduceCtorEq]
    rw [List.append_assoc, ← es] at T1
    exact ih (b + 1) N1 ρ1 (by omega) S1 (hF.tr F1) (fun i hi => by rw [I1 i hi]; exact hI i hi) (fun r q1 q2 => by rw [r1 r q1 q2]; exact hρ r q1 q2) T1
set_option maxHeartbeats 8000000 in
theorem l_tuL {p : Int} {N : Mem} {ρ : Int → Option (Pz p)} {Q : Post} {f : Pz p} (hp : Pr p) (hm : pmo f) (hf : ρ 22 = some f)
    (hQ : ∀ N' ρ', ST p N' ρ' → FX [182, 183] N N' → (∀ i, i ≠ 3 → N' 182 i = N 182 i) → (∀ r, r ≠ 184 → r ≠ 186 → ρ' r = ρ r) → TuA N' (tuL f p.toNat) → Q none NN N') :
    ∀ (n a : Nat) (y : V) (Ni : Mem) (ρi : Int → Option (Pz p)), (a : Int) + n = p → 1 ≤ a → ST p Ni ρi → FX [182, 183] N Ni → (∀ i, i ≠ 3 → Ni 182 i = N 182 i) → (∀ r, r ≠ 184 → r ≠ 186 → ρi r = ρ r) → TuA Ni (tuL f a) → WP 111 (0, 0) 12 [(2, 182), (0, (a : Int)), y] [] NN Ni Q := by
  have hpp := hp.pos
  intro n
  induction n with
  | zero =>
    intro a y Ni ρi hc h1 hS hF hI hρ hT
    have e : a = p.toNat := by omega
    subst e
    refine WP.run [(111, 12)] [] 60 ?_
    simp only [bk111_0, bk111_12, bk111_23, bk111_25, bk111_36, bk111_48, bk111_54, U_aload_n, U_iconst, U_putfield, U_istore_n, U_iload_n, U_getfield, U_icmp_ge, U_invokevirtual2, U_iinc, U_goto, U_return, UN_cc, UN_cn, UN_nc, UN_nn, UJ, lget, lset, lset2, entL, wsm, wcat, Option.toList_some, Option.toList_none, List.cons_append, List.nil_append, List.mem_cons, List.not_mem_nil, Prod.mk.injEq, or_false, false_or, or_true, true_or, and_true, true_and, and_false, false_and, and_self, ne_eq, not_false_eq_true, not_true_eq_false, forall_const, true_implies, false_implies, Nat.add_zero, Nat.zero_add, Nat.le_refl, Nat.zero_le, List.set_cons_zero, List.set_cons_succ, List.set_nil, ↓reduceIte, Nat.reduceAdd, Nat.reduceSub, Nat.reduceEqDiff, Nat.reduceLeDiff, Int.reduceEq, Int.reduceNe, Int.reduceNeg, reduceCtorEq, kd182, kd2, z182_0 hS.1.1, hS.1.2.2.1]
    exact ⟨rr (by omega), fun e => absurd e (by omega), fun _ => hQ Ni ρi hS hF hI hρ hT⟩
  | succ n ih =>
    intro a y Ni ρi hc h1 hS hF hI hρ hT
    have hf1 : ρi 22 = some f := (hρ 22 (by decide) (by decide)).trans hf
    have es : tuL f (a + 1) = tuL f a ++ tuB f a p.toNat := by
      show tuL f a ++ (if a = 0 then [] else tuB f a p.toNat) = _
      rw [if_neg (by omega)]
    have hb2 := tuL_2 hp hm (a - 1)
    rw [show a - 1 + 1 = a by omega] at hb2
    refine WP.run [(111, 25), (111, 12)] [] 60 ?_
    simp only [bk111_0, bk111_12, bk111_23, bk111_25, bk111_36, bk111_48, bk111_54, U_aload_n, U_iconst, U_putfield, U_istore_n, U_iload_n, U_getfield, U_icmp_ge, U_invokevirtual2, U_iinc, U_goto, U_return, UN_cc, UN_cn, UN_nc, UN_nn, UJ, lget, lset, lset2, entL, wsm, wcat, Option.toList_some, Option.toList_none, List.cons_append, List.nil_append, List.mem_cons, List.not_mem_nil, Prod.mk.injEq, or_false, false_or, or_true, true_or, and_true, true_and, and_false, false_and, and_self, ne_eq, not_false_eq_true, not_true_eq_false, forall_const, true_implies, false_implies, Nat.add_zero, Nat.zero_add, Nat.le_refl, Nat.zero_le, List.set_cons_zero, List.set_cons_succ, List.set_nil, ↓reduceIte, Nat.reduceAdd, Nat.reduceSub, Nat.reduceEqDiff, Nat.reduceLeDiff, Int.reduceEq, Int.reduceNe, Int.reduceNeg, reduceCtorEq, kd182, kd2, z182_0 hS.1.1, hS.1.2.2.1]
    refine ⟨rr (by omega), fun _ => ?_, fun e => absurd (by omega) e⟩
    refine l_tuB (N := Ni) (ρ := ρi) (f := f) (L := tuL f a) hp hm hf1 (by omega) (by omega) (fun N1 ρ1 S1 F1 I1 r1 T1 y => ?_) p.toNat 0 Ni ρi (by omega) hS (FX.rf _ _) (fun _ _ => rfl) (fun _ _ _ => rfl) (by show TuA Ni (tuL f a ++ []); rw [List.append_nil]; exact hT)
    rw [← es] at T1
    exact ih (a + 1) y N1 ρ1 (by omega) (by omega) S1 (hF.tr F1) (fun i hi => by rw [I1 i hi]; exact hI i hi) (fun r q1 q2 => by rw [r1 r q1 q2]; exact hρ r q1 q2) T1
/-- the turns as they stand: none found yet, or all -/
def TuS {p : Int} (N : Mem) (f : Pz p) : Prop := N 182 4 = 0 ∨ (N 182 4 = 1 ∧ TuA N (tuL f p.toNat))
set_option maxHeartbeats 8000000 in
theorem s_tuSize {p : Int} {N : Mem} {ρ : Int → Option (Pz p)} {Q : Post} {f : Pz p} (h : ST p N ρ) (hm : pmo f) (hf : ρ 22 = some f) (hT : TuS N f)
    (hQ : ∀ N' ρ', ST p N' ρ' → FX [182, 183] N N' → (∀ r, r ≠ 184 → r ≠ 186 → ρ' r = ρ r) → N' 182 4 = 1 → TuA N' (tuL f p.toNat) → Q (some (0, ((tuL f p.toNat).length : Int))) NN N') : CL 112 [(2, 182)] NN N Q := by
  have hp := h.1.2.1
  have hpp := hp.pos
  rcases hT with h0 | ⟨h1, hT⟩
  · refine WP.run [] [] 60 ?_
    simp only [bk112_0, bk112_7, bk112_11, U_aload_n, U_getfield, U_if_ne, U_invokevirtual0, U_ireturn, UN_cc, UN_cn, UN_nc, UN_nn, UJ, lget, lset, lset2, entL, wsm, wcat, Option.toList_some, Option.toList_none, List.cons_append, List.nil_append, List.mem_cons, List.not_mem_nil, Prod.mk.injEq, or_false, false_or, or_true, true_or, and_true, true_and, and_false, false_and, and_self, ne_eq, not_false_eq_true, not_true_eq_false, forall_const, true_implies, false_implies, Nat.add_zero, Nat.zero_add, Nat.le_refl, Nat.zero_le, List.set_cons_zero, List.set_cons_succ, List.set_nil, ↓reduceIte, Nat.reduceAdd, Nat.reduceSub, Nat.reduceEqDiff, Nat.reduceLeDiff, Int.reduceEq, Int.reduceNe, Int.reduceNeg, reduceCtorEq, kd182, h0]
    refine ⟨r3 (by omega), ?_⟩
    refine WP.run [(111, 12)] [] 60 ?_
    simp only [bk111_0, bk111_12, bk111_23, bk111_25, bk111_36, bk111_48, bk111_54, U_aload_n, U_iconst, U_putfield, U_istore_n, U_iload_n, U_getfield, U_icmp_ge, U_invokevirtual2, U_iinc, U_goto, U_return, UN_cc, UN_cn, UN_nc, UN_nn, UJ, lget, lset, lset2, entL, wsm, wcat, Option.toList_some, Option.toList_none, List.cons_append, List.nil_append, List.mem_cons, List.not_mem_nil, Prod.mk.injEq, or_false, false_or, or_true, true_or, and_true, true_and, and_false, false_and, and_self, ne_eq, not_false_eq_true, not_true_eq_false, forall_const, true_implies, false_implies, Nat.add_zero, Nat.zero_add, Nat.le_refl, Nat.zero_le, List.set_cons_zero, List.set_cons_succ, List.set_nil, ↓reduceIte, Nat.reduceAdd, Nat.reduceSub, Nat.reduceEqDiff, Nat.reduceLeDiff, Int.reduceEq, Int.reduceNe, Int.reduceNeg, reduceCtorEq, kd182]
    have S1 : ST p (ust (ust N 182 4 1) 182 3 0) ρ := (h.ust _ _ rfl (by decide) (by decide) (by decide)).ust _ _ rfl (by decide) (by decide) (by decide)
    refine l_tuL (N := ust (ust N 182 4 1) 182 3 0) (ρ := ρ) (f := f) hp hm hf (fun N' ρ' g1 g2 g3 g4 g5 => ?_) (p.toNat - 1) 1 _ _ ρ (by omega) (by omega) S1 (FX.rf _ _) (fun _ _ => rfl) (fun _ _ _ => rfl) ?_
    · simp only [bk112_0, bk112_7, bk112_11, U_aload_n, U_getfield, U_if_ne, U_invokevirtual0, U_ireturn, UN_cc, UN_cn, UN_nc, UN_nn, UJ, lget, lset, lset2, entL, wsm, wcat, Option.toList_some, Option.toList_none, List.cons_append, List.nil_append, List.mem_cons, List.not_mem_nil, Prod.mk.injEq, or_false, false_or, or_true, true_or, and_true, true_and, and_false, false_and, and_self, ne_eq, not_false_eq_true, not_true_eq_false, forall_const, true_implies, false_implies, Nat.add_zero, Nat.zero_add, Nat.le_refl, Nat.zero_le, List.set_cons_zero, List.set_cons_succ, List.set_nil, ↓reduceIte, Nat.reduceAdd, Nat.reduceSub, Nat.reduceEqDiff, Nat.reduceLeDiff, Int.reduceEq, Int.reduceNe, Int.reduceNeg, reduceCtorEq, kd182]
      rw [g5.1]
      refine hQ N' ρ' g1 ((((FX.rf _ N).us _ _ (by simp)).us _ _ (by simp)).tr g2) g4 ?_ g5
      rw [g3 4 (by decide), ust_at, if_neg (by decide), ust_at, if_pos rfl]
    · have e1 : tuL f 1 = [] := by
        show ([] ++ (if 0 = 0 then [] else _ : List Int)) = []
        rw [if_pos rfl]; rfl
      rw [e1]
      exact ⟨by rw [ust_at, if_pos rfl]; rfl, fun i t e => by cases e⟩
  · refine WP.run [] [] 60 ?_
    simp only [bk112_0, bk112_7, bk112_11, U_aload_n, U_getfield, U_if_ne, U_invokevirtual0, U_ireturn, UN_cc, UN_cn, UN_nc, UN_nn, UJ, lget, lset, lset2, entL, wsm, wcat, Option.toList_some, Option.toList_none, List.cons_append, List.nil_append, List.mem_cons, List.not_mem_nil, Prod.mk.injEq, or_false, false_or, or_true, true_or, and_true, true_and, and_false, false_and, and_self, ne_eq, not_false_eq_true, not_true_eq_false, forall_const, true_implies, false_implies, Nat.add_zero, Nat.zero_add, Nat.le_refl, Nat.zero_le, List.set_cons_zero, List.set_cons_succ, List.set_nil, ↓reduceIte, Nat.reduceAdd, Nat.reduceSub, Nat.reduceEqDiff, Nat.reduceLeDiff, Int.reduceEq, Int.reduceNe, Int.reduceNeg, reduceCtorEq, kd182, h1]
    refine ⟨r3 (by omega), ?_⟩
    rw [hT.1]
    exact hQ N ρ h (FX.rf _ _) (fun _ _ _ => rfl) h1 hT
set_option maxHeartbeats 8000000 in
theorem c_tuTok {N : Mem} {Q : Post} {L : List Int} {i : Nat} {t : Int} (hz : Fz N) (h : TuA N L) (hi : i < 338) (ht : L[i]? = some t) (hQ : Q (some (0, t)) NN N) : CL 113 [(2, 182), (0, (i : Int))] NN N Q := by
  refine WP.run [] [] 60 ?_
  simp only [bk113_0, bk113_4, bk113_11, bk113_15, bk113_21, U_iload_n, U_if_lt, U_sipush, U_icmp_lt, U_iconst, U_goto, U_aload_n, U_getfield, U_iald, U_ireturn, UN_cc, UN_cn, UN_nc, UN_nn, UJ, lget, lset, lset2, entL, wsm, wcat, Option.toList_some, Option.toList_none, List.cons_append, List.nil_append, List.mem_cons, List.not_mem_nil, Prod.mk.injEq, or_false, false_or, or_true, true_or, and_true, true_and, and_false, false_and, and_self, ne_eq, not_false_eq_true, not_true_eq_false, forall_const, true_implies, false_implies, Nat.add_zero, Nat.zero_add, Nat.le_refl, Nat.zero_le, List.set_cons_zero, List.set_cons_succ, List.set_nil, ↓reduceIte, Nat.reduceAdd, Nat.reduceSub, Nat.reduceEqDiff, Nat.reduceLeDiff, Int.reduceEq, Int.reduceNe, Int.reduceNeg, reduceCtorEq, kd182, kd183, ln183, z182_2 hz, h.2 i t ht]
  exact ⟨r3 (by omega), fun e => absurd e (by omega), fun _ => ⟨rr (by omega), fun _ => ⟨by omega, by omega, hQ⟩, fun e => absurd e (by omega)⟩⟩
theorem selT_mem {b : Nat → Bool} {t : Nat → Int} {x : Int} : ∀ n, x ∈ selT b t n → ∃ i, i < n ∧ b i = true ∧ x = t i
  | 0, h => by cases h
  | n + 1, h => by
    rcases List.mem_append.mp h with h | h
    · obtain ⟨i, h1, h2⟩ := selT_mem n h; exact ⟨i, by omega, h2⟩
    · by_cases e : b n = true
      · rw [if_pos e] at h; exact ⟨n, by omega, e, List.mem_singleton.mp h⟩
      · rw [if_neg e] at h; cases h
theorem catT_mem {L : Nat → List Int} {x : Int} : ∀ n, x ∈ catT L n → ∃ i, i < n ∧ x ∈ L i
  | 0, h => by cases h
  | n + 1, h => by
    rcases List.mem_append.mp h with h | h
    · obtain ⟨i, h1, h2⟩ := catT_mem n h; exact ⟨i, by omega, h2⟩
    · exact ⟨n, by omega, h⟩
theorem tuL_rg {p : Int} (hp : Pr p) {f : Pz p} {t : Int} (h : t ∈ tuL f p.toNat) : 0 ≤ t ∧ t ≤ 131312 := by
  have hpp := hp.pos
  obtain ⟨a, ha, h⟩ := catT_mem _ h
  by_cases e : a = 0
  · rw [if_pos e] at h; cases h
  · rw [if_neg e] at h
    obtain ⟨b, hb, h⟩ := catT_mem _ h
    obtain ⟨c, hc, -, h⟩ := selT_mem _ h
    omega
noncomputable def tuMv {p : Int} (f : Pz p) (t : Int) (q : Int × Int) : Nat := idxOf (ptl f p.toNat) ((t / 10000 * q.1 + t / 100 % 100) % p) ((t % 100 * q.2) % p) 0 (ptl f p.toNat).length
set_option maxHeartbeats 8000000 in
theorem c_tuMove0 {N : Mem} {Q : Post} {i : Int} (hQ : Q (some (0, 0)) NN N) : CL 114 [(2, 182), (0, i), (0, 0), (9, 0), (9, 0)] NN N Q := by
  refine WP.run [] [] 60 ?_
  simp only [bk114_0, bk114_4, bk114_6, U_iload_n, U_if_ne, U_iconst, U_ireturn, U_aload_n, U_invokevirtual1, U_istore_n, U_sipush, U_idiv, U_getfield, U_imul, U_bipush, U_irem, U_iadd, U_istore, U_iload, U_invokevirtual2, UN_cc, UN_cn, UN_nc, UN_nn, UJ, lget, lset, lset2, entL, wsm, wcat, Option.toList_some, Option.toList_none, List.cons_append, List.nil_append, List.mem_cons, List.not_mem_nil, Prod.mk.injEq, or_false, false_or, or_true, true_or, and_true, true_and, and_false, false_and, and_self, ne_eq, not_false_eq_true, not_true_eq_false, forall_const, true_implies, false_implies, Nat.add_zero, Nat.zero_add, Nat.le_refl, Nat.zero_le, List.set_cons_zero, List.set_cons_succ, List.set_nil, ↓reduceIte, Nat.reduceAdd, Nat.reduceSub, Nat.reduceEqDiff, Nat.reduceLeDiff, Int.reduceEq, Int.reduceNe, Int.reduceNeg, reduceCtorEq]
  exact ⟨r3 (by omega), by simpa using hQ⟩
set_option maxHeartbeats 8000000 in
theorem c_tuMove {p : Int} {N : Mem} {Q : Post} {f : Pz p} {L : List Int} {i j : Nat} {t : Int} {q : Int × Int} (hC : CB p N) (h : TuA N L) (hP : PTS N f) (hi : i < 338) (ht : L[i]? = some t) (htr : 0 ≤ t ∧ t ≤ 131312) (hq : (ptl f p.toNat)[j]? = some q) (hQ : Q (some (0, (tuMv f t q : Int))) NN N) : CL 114 [(2, 182), (0, (i : Int)), (0, (j : Int) + 1), (9, 0), (9, 0)] NN N Q := by
  have hp := hC.2.1
  have hpp := hp.pos
  have hr := ptl_rg hp f p.toNat (by omega) q (List.mem_of_getElem? hq)
  have hl := ptl_26 hp f
  have hj := (List.getElem?_eq_some_iff.mp hq).1
  have m1 := ab_mul (A := 14) (B := 13) (a := t / 10000) (b := q.1) (by omega) (by omega)
  have m2 := ab_mul (A := 100) (B := 13) (a := t % 100) (b := q.2) (by omega) (by omega)
  have m10 : 0 ≤ t / 10000 * q.1 := Int.mul_nonneg (by omega) (by omega)
  have m20 : 0 ≤ t % 100 * q.2 := Int.mul_nonneg (by omega) (by omega)
  have e1 := Int.emod_nonneg (t / 10000 * q.1 + t / 100 % 100) (b := p) (by omega)
  have e2 := Int.emod_lt_of_pos (t / 10000 * q.1 + t / 100 % 100) (b := p) (by omega)
  have e3 := Int.emod_nonneg (t % 100 * q.2) (b := p) (by omega)
  have e4 := Int.emod_lt_of_pos (t % 100 * q.2) (b := p) (by omega)
  refine WP.run [] [] 90 ?_
  simp only [bk114_0, bk114_4, bk114_6, U_iload_n, U_if_ne, U_iconst, U_ireturn, U_aload_n, U_invokevirtual1, U_istore_n, U_sipush, U_idiv, U_getfield, U_imul, U_bipush, U_irem, U_iadd, U_istore, U_iload, U_invokevirtual2, UN_cc, UN_cn, UN_nc, UN_nn, UJ, lget, lset, lset2, entL, wsm, wcat, Option.toList_some, Option.toList_none, List.cons_append, List.nil_append, List.mem_cons, List.not_mem_nil, Prod.mk.injEq, or_false, false_or, or_true, true_or, and_true, true_and, and_false, false_and, and_self, ne_eq, not_false_eq_true, not_true_eq_false, forall_const, true_implies, false_implies, Nat.add_zero, Nat.zero_add, Nat.le_refl, Nat.zero_le, List.set_cons_zero, List.set_cons_succ, List.set_nil, ↓reduceIte, Nat.reduceAdd, Nat.reduceSub, Nat.reduceEqDiff, Nat.reduceLeDiff, Int.reduceEq, Int.reduceNe, Int.reduceNeg, reduceCtorEq, kd182]
  refine ⟨r3 (by omega), fun e => absurd e (by omega), fun _ => ?_⟩
  refine c_tuTok hC.1 h hi ht ?_
  simp only [bk114_0, bk114_4, bk114_6, U_iload_n, U_if_ne, U_iconst, U_ireturn, U_aload_n, U_invokevirtual1, U_istore_n, U_sipush, U_idiv, U_getfield, U_imul, U_bipush, U_irem, U_iadd, U_istore, U_iload, U_invokevirtual2, UN_cc, UN_cn, UN_nc, UN_nn, UJ, lget, lset, lset2, entL, wsm, wcat, Option.toList_some, Option.toList_none, List.cons_append, List.nil_append, List.mem_cons, List.not_mem_nil, Prod.mk.injEq, or_false, false_or, or_true, true_or, and_true, true_and, and_false, false_and, and_self, ne_eq, not_false_eq_true, not_true_eq_false, forall_const, true_implies, false_implies, Nat.add_zero, Nat.zero_add, Nat.le_refl, Nat.zero_le, List.set_cons_zero, List.set_cons_succ, List.set_nil, ↓reduceIte, Nat.reduceAdd, Nat.reduceSub, Nat.reduceEqDiff, Nat.reduceLeDiff, Int.reduceEq, Int.reduceNe, Int.reduceNeg, reduceCtorEq, kd182, kd21, z182_1 hC.1]
  refine ⟨r3 (by omega), r3 (by omega), c_xOf hC.1 hp hP j hq ?_⟩
  simp only [bk114_0, bk114_4, bk114_6, U_iload_n, U_if_ne, U_iconst, U_ireturn, U_aload_n, U_invokevirtual1, U_istore_n, U_sipush, U_idiv, U_getfield, U_imul, U_bipush, U_irem, U_iadd, U_istore, U_iload, U_invokevirtual2, UN_cc, UN_cn, UN_nc, UN_nn, UJ, lget, lset, lset2, entL, wsm, wcat, Option.toList_some, Option.toList_none, List.cons_append, List.nil_append, List.mem_cons, List.not_mem_nil, Prod.mk.injEq, or_false, false_or, or_true, true_or, and_true, true_and, and_false, false_and, and_self, ne_eq, not_false_eq_true, not_true_eq_false, forall_const, true_implies, false_implies, Nat.add_zero, Nat.zero_add, Nat.le_refl, Nat.zero_le, List.set_cons_zero, List.set_cons_succ, List.set_nil, ↓reduceIte, Nat.reduceAdd, Nat.reduceSub, Nat.reduceEqDiff, Nat.reduceLeDiff, Int.reduceEq, Int.reduceNe, Int.reduceNeg, reduceCtorEq, kd182, kd21, kd2, z182_0 hC.1, z182_1 hC.1, hC.2.2.1]
  rw [Int.tdiv_eq_ediv_of_nonneg htr.1, Int.tdiv_eq_ediv_of_nonneg htr.1, tm_nn (show 0 ≤ t / 100 by omega), tm_nn (show 0 ≤ t / 10000 * q.1 + t / 100 % 100 by omega), tm_nn htr.1]
  refine ⟨r3 (by omega), r3 (by omega), r3 (by omega), r3 (by omega), r3 (by omega), r3 (by omega), by omega, r3 (by omega), r3 (by omega), c_yOf hC.1 hp hP j hq ?_⟩
  simp only [bk114_0, bk114_4, bk114_6, U_iload_n, U_if_ne, U_iconst, U_ireturn, U_aload_n, U_invokevirtual1, U_istore_n, U_sipush, U_idiv, U_getfield, U_imul, U_bipush, U_irem, U_iadd, U_istore, U_iload, U_invokevirtual2, UN_cc, UN_cn, UN_nc, UN_nn, UJ, lget, lset, lset2, entL, wsm, wcat, Option.toList_some, Option.toList_none, List.cons_append, List.nil_append, List.mem_cons, List.not_mem_nil, Prod.mk.injEq, or_false, false_or, or_true, true_or, and_true, true_and, and_false, false_and, and_self, ne_eq, not_false_eq_true, not_true_eq_false, forall_const, true_implies, false_implies, Nat.add_zero, Nat.zero_add, Nat.le_refl, Nat.zero_le, List.set_cons_zero, List.set_cons_succ, List.set_nil, ↓reduceIte, Nat.reduceAdd, Nat.reduceSub, Nat.reduceEqDiff, Nat.reduceLeDiff, Int.reduceEq, Int.reduceNe, Int.reduceNeg, reduceCtorEq, kd182, kd21, kd2, z182_0 hC.1, z182_1 hC.1, hC.2.2.1]
  rw [tm_nn m20]
  refine ⟨r3 (by omega), r3 (by omega), by omega, s_numberOf hC.1 hp hP (by omega) (by omega) ?_⟩
  simp only [bk114_0, bk114_4, bk114_6, U_iload_n, U_if_ne, U_iconst, U_ireturn, U_aload_n, U_invokevirtual1, U_istore_n, U_sipush, U_idiv, U_getfield, U_imul, U_bipush, U_irem, U_iadd, U_istore, U_iload, U_invokevirtual2, UN_cc, UN_cn, UN_nc, UN_nn, UJ, lget, lset, lset2, entL, wsm, wcat, Option.toList_some, Option.toList_none, List.cons_append, List.nil_append, List.mem_cons, List.not_mem_nil, Prod.mk.injEq, or_false, false_or, or_true, true_or, and_true, true_and, and_false, false_and, and_self, ne_eq, not_false_eq_true, not_true_eq_false, forall_const, true_implies, false_implies, Nat.add_zero, Nat.zero_add, Nat.le_refl, Nat.zero_le, List.set_cons_zero, List.set_cons_succ, List.set_nil, ↓reduceIte, Nat.reduceAdd, Nat.reduceSub, Nat.reduceEqDiff, Nat.reduceLeDiff, Int.reduceEq, Int.reduceNe, Int.reduceNeg, reduceCtorEq]
  exact hQ
