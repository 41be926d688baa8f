/-! THE GREATEST PART IN COMMON -/
theorem swap_mem {p : Int} {N N' : Mem} {ρ : Int → Option (Pz p)} {r s : Int} {a b : Pz p} (h : ST p N ρ) (hr : KD r = 18) (hs : KD s = 18) (hn : r ≠ s) (fr : fz r 0 = none) (fs : fz s 0 = none) (ha : ρ r = some a) (hb : ρ s = some b)
    (h1 : ∀ t, t ≠ r → t ≠ s → N' t = N t) (r0 : N' r 0 = N s 0) (r1 : N' r 1 = N s 1) (s0 : N' s 0 = N r 0) (s1 : N' s 1 = N r 1) : ST p N' (upq (upq ρ r b) s a) ∧ FR N N' := by
  have hz : Fz N' := h.1.1.of fun t i v e => by
    by_cases e1 : t = r
    · subst e1; rw [fz_r0 hr e] at e; rw [fr] at e; cases e
    · by_cases e2 : t = s
      · subst e2; rw [fz_r0 hs e] at e; rw [fs] at e; cases e
      · rw [h1 t e1 e2]
  have q1 := (h.rs hr).1.n2
  have q2 := (h.rs hs).1.n2
  have sg : ∃ σ : Int → Int, (∀ t, KD t = 18 → KD (σ t) = 18) ∧ (∀ t, KD t = 18 → N' t 0 = N (σ t) 0) ∧ (∀ t, KD t = 18 → N' t 1 = N (σ t) 1) ∧ (∀ t u, σ t = σ u → t = u) ∧ ∀ t, upq (upq ρ r b) s a t = ρ (σ t) := by
    refine ⟨fun t => if t = r then s else if t = s then r else t, fun t ht => ?_, fun t ht => ?_, fun t ht => ?_, fun t u e => ?_, fun t => ?_⟩
    · show KD (if t = r then s else if t = s then r else t) = 18
      split
      · exact hs
      · split
        · exact hr
        · exact ht
    · show N' t 0 = N (if t = r then s else if t = s then r else t) 0
      by_cases e1 : t = r
      · subst e1; rw [if_pos rfl, r0]
      · by_cases e2 : t = s
        · subst e2; rw [if_neg e1, if_pos rfl, s0]
        · rw [if_neg e1, if_neg e2, h1 t e1 e2]
    · show N' t 1 = N (if t = r then s else if t = s then r else t) 1
      by_cases e1 : t = r
      · subst e1; rw [if_pos rfl, r1]
      · by_cases e2 : t = s
        · subst e2; rw [if_neg e1, if_pos rfl, s1]
        · rw [if_neg e1, if_neg e2, h1 t e1 e2]
    · replace e : (if t = r then s else if t = s then r else t) = (if u = r then s else if u = s then r else u) := e
      by_cases e1 : t = r <;> by_cases e2 : u = r <;> by_cases e3 : t = s <;> by_cases e4 : u = s <;> simp_all
    · show upq (upq ρ r b) s a t = ρ (if t = r then s else if t = s then r else t)
      unfold upq
      by_cases e1 : t = r
      · subst e1; rw [if_neg hn, if_pos rfl, if_pos rfl, hb]
      · by_cases e2 : t = s
        · subst e2; rw [if_pos rfl, if_neg e1, if_pos rfl, ha]
        · rw [if_neg e2, if_neg e1, if_neg e1, if_neg e2]
  obtain ⟨σ, g1, g2, g3, g4, g5⟩ := sg
  refine ⟨⟨⟨hz, h.1.2.1, by rw [h1 2 q1.1.symm q2.1.symm]; exact h.1.2.2.1, fun v a b => by rw [h1 3 q1.2.2.symm q2.2.2.symm]; exact h.1.2.2.2 v a b⟩, fun t ht => ?_, fun t u ht hu e => ?_, fun t c ht e => ?_⟩, fun t ht => ?_⟩
  · rw [g2 t ht]
    have k := (h.rs (g1 t ht)).1
    exact ⟨⟨⟨kd_of ht (by decide), k.2⟩, g2 t ht⟩, (h.2.1 _ (g1 t ht)).2⟩
  · rw [g2 t ht, g2 u hu] at e
    exact g4 t u (h.2.2.1 _ _ (g1 t ht) (g1 u hu) e)
  · rw [g5] at e
    have k := h.rp (g1 t ht) e
    rw [g2 t ht]
    have hc : N' (N (σ t) 0) = N (N (σ t) 0) := h1 _ (fun q => h.rc hr (g1 t ht) q.symm) (fun q => h.rc hs (g1 t ht) q.symm)
    exact ⟨⟨⟨kd_of ht (by decide), k.1.1.2⟩, g2 t ht⟩, fun j hj => by rw [hc]; exact k.2.1 j hj, k.2.2.1, by rw [g3 t ht]; exact k.2.2.2⟩
  · refine h1 t (fun e => ?_) (fun e => ?_)
    · rw [e, inR_row hr] at ht; cases ht
    · rw [e, inR_row hs] at ht; cases ht
set_option maxHeartbeats 8000000 in
theorem s_swap {p : Int} {N : Mem} {ρ : Int → Option (Pz p)} {Q : Post} {r s : Int} {a b : Pz p} (h : ST p N ρ) (hr : KD r = 18) (hs : KD s = 18) (hn : ¬ r = s) (fr : fz r 0 = none) (fs : fz s 0 = none) (ha : ρ r = some a) (hb : ρ s = some b)
    (hQ : ∀ N', ST p N' (upq (upq ρ r b) s a) → FR N N' → Q none NN N') : CL 21 [(2, r), (2, s), (9, 0), (9, 0)] NN N Q := by
  have hn2 : ¬ s = r := fun e => hn e.symm
  have c1 := (h.rs hr).1.c0
  have c2 := (h.rs hs).1.c0
  refine WP.run [] [] 60 ?_
  simp only [bk21_0, U_aload_n, U_getfield, U_astore_n, U_istore_n, U_putfield, U_iload_n, U_return, UN_cc, UN_cn, UN_nc, UN_nn, UJ, lget, lset, lset2, entL, wsm, wcat, Option.toList_some, Option.toList_none, List.cons_append, List.nil_append, List.mem_cons, List.not_mem_nil, Prod.mk.injEq, or_false, false_or, or_true, true_or, and_true, true_and, and_false, false_and, and_self, ne_eq, not_false_eq_true, not_true_eq_false, forall_const, true_implies, false_implies, Nat.add_zero, Nat.zero_add, Nat.le_refl, Nat.zero_le, ↓reduceIte, Nat.reduceAdd, Nat.reduceSub, Nat.reduceEqDiff, Nat.reduceLeDiff, Int.reduceEq, Int.reduceNe, Int.reduceNeg, reduceCtorEq, kd_of hr (by decide), kd_of hs (by decide), ust_r, hn, hn2, c1, c2, if_false, if_true, ↓reduceIte]
  have k := swap_mem (N' := ust (ust (ust (ust N r 0 (N s 0)) r 1 (N s 1)) s 0 (N r 0)) s 1 (N r 1)) h hr hs hn fr fs ha hb (fun t t1 t2 => by rw [ust_ne t2, ust_ne t2, ust_ne t1, ust_ne t1]) (by simp [ust_r, hn, hn2]) (by simp [ust_r, hn, hn2]) (by simp [ust_r, hn, hn2]) (by simp [ust_r, hn, hn2])
  simpa using hQ _ k.1 k.2
/-- d = s a + t b, a part of both, 1 highest -/
def BZ {p : Int} (A B d s t : Pz p) : Prop := d = padd (pmul s A) (pmul t B) ∧ @Dv _ (pring p) d A ∧ @Dv _ (pring p) d B ∧ pmo d ∧ dg s ≤ max (dg A) (dg B) ∧ dg t ≤ max (dg A) (dg B)
def tmp (r : Int) : Prop := r = 4 ∨ r = 6 ∨ r = 8 ∨ r = 10 ∨ r = 12 ∨ r = 14 ∨ r = 16
theorem dg_mul_le {p : Int} (a b : Pz p) : dg (pmul a b) + 1 ≤ dg a + dg b ∨ (dg (pmul a b) = 0 ∧ (dg a = 0 ∨ dg b = 0)) := by
  by_cases ha : dg a = 0
  · right; have := dg_zero.mp ha; subst this; rw [pC_zero_mul]; exact ⟨dg_zero.mpr rfl, Or.inl ha⟩
  · by_cases hb : dg b = 0
    · right; have := dg_zero.mp hb; subst this; rw [pmul_comm, pC_zero_mul]; exact ⟨dg_zero.mpr rfl, Or.inr hb⟩
    · left
      have : dg (pmul a b) ≤ dg a + dg b - 1 := dg_le fun k hk => by
        rw [pmul_c, cv_far k (dg a) (dg b) a.1 b.1 (fun i hi => dg_far a hi) (fun i hi => dg_far b hi) (by omega)]; exact Int.zero_emod _
      omega
theorem rg_bz {R : Type} [Lean.Grind.CommRing R] {A B r0 r1 r2 q s0 s1 t0 t1 : R} (h0 : r0 = s0 * A + t0 * B) (h1 : r1 = s1 * A + t1 * B) (e : r0 = r1 * q + r2) : r2 = (s0 + (-1 * q) * s1) * A + (t0 + (-1 * q) * t1) * B := by grind
theorem rg_dv {R : Type} [Lean.Grind.CommRing R] {d r0 r1 r2 q : R} (e : r0 = r1 * q + r2) (h1 : Dv d r1) (h2 : Dv d r2) : Dv d r0 := by
  obtain ⟨x, hx⟩ := h1; obtain ⟨y, hy⟩ := h2; exact ⟨x * q + y, by grind⟩
theorem pC_m1 {p : Int} : @Neg.neg (Pz p) (pring p).toRing.toNeg (pC p 1) = pC p (-1) := (pC_neg p 1).symm
theorem Pr.inv_ne {p v k : Int} (hp : Pr p) (h : v * k % p = 1) : k % p ≠ 0 := fun e => by
  have hpp := hp.pos
  rw [md_mul (p := p) (b' := 0) rfl (by rw [e, Int.zero_emod]), Int.mul_zero, Int.zero_emod] at h
  omega
theorem monic_of {p : Int} (hp : Pr p) {a : Pz p} (ha : dg a ≠ 0) {k : Int} (hk : a.1 (dg a - 1) * k % p = 1) : pmo (pmul (pC p k) a) ∧ pmul (pC p (a.1 (dg a - 1))) (pmul (pC p k) a) = a := by
  have hpp := hp.pos
  have e := dg_Cmul hp (hp.inv_ne hk) a
  refine ⟨⟨by rw [e]; exact ha, by rw [e, pC_mul, Int.mul_comm]; exact hk⟩, ?_⟩
  rw [← pmul_assoc, pC_pC]
  have e2 : pC p (a.1 (dg a - 1) * k) = pC p 1 := Pz.ext fun j => by
    rw [pC_c, pC_c]
    by_cases q : j = 0
    · rw [if_pos q, if_pos q, hk]; exact (Int.emod_eq_of_lt (by omega) (by omega)).symm
    · rw [if_neg q, if_neg q]
  rw [e2, pC_one_mul]
theorem rg_sc {R : Type} [Lean.Grind.CommRing R] {c d s t A B : R} (h : d = s * A + t * B) : c * d = (c * s) * A + (c * t) * B := by grind
theorem rg_dvc {R : Type} [Lean.Grind.CommRing R] {d l c A : R} (h : l * (c * d) = d) (hA : Dv d A) : Dv (c * d) A := by
  obtain ⟨x, hx⟩ := hA; exact ⟨l * x, by grind⟩
set_option maxHeartbeats 16000000 in
theorem l_common_end {p : Int} {N : Mem} {ρ : Int → Option (Pz p)} {Q : Post} {ra rb i : Int} {A B : Pz p}
    (hQ : ∀ N' ρ' d s t, ST p N' ρ' → FR N N' → (∀ r, ¬ tmp r → ρ' r = ρ r) → ρ' 6 = some d → ρ' 8 = some s → ρ' 10 = some t → BZ A B d s t → Q none NN N')
    {Ni : Mem} {ρi : Int → Option (Pz p)} {r0 s0 t0 : Pz p} (hS : ST p Ni ρi) (hF : FR N Ni) (hρ : ∀ r, ¬ tmp r → ρi r = ρ r) (e6 : ρi 6 = some r0) (e8 : ρi 8 = some s0) (e10 : ρi 10 = some t0) (hr0 : r0 = padd (pmul s0 A) (pmul t0 B)) (d1 : @Dv _ (pring p) r0 A) (d2 : @Dv _ (pring p) r0 B) (hne : dg r0 ≠ 0) (g1 : dg s0 ≤ max (dg A) (dg B)) (g2 : dg t0 ≤ max (dg A) (dg B)) :
    WP 22 (0, 0) 147 [(2, 2), (2, ra), (2, rb), (0, i)] [] NN Ni Q := by
  have k6 : KD 6 = 18 := rfl
  have k8 : KD 8 = 18 := rfl
  have k10 : KD 10 = 18 := rfl
  have h6 := hS.rp k6 e6
  have hp := hS.1.2.1
  refine WP.run [] [] 60 ?_
  simp only [bk22_0, bk22_46, bk22_52, bk22_62, bk22_147, U_aload_n, U_getfield, U_invokevirtual1, U_invokevirtual0, U_iconst, U_istore_n, U_iload_n, U_bipush, U_icmp_gt, U_if_lt, U_invokevirtual2, U_invokevirtual4, U_iinc, U_goto, U_return, UN_cc, UN_cn, UN_nc, UN_nn, UJ, lget, lset, lset2, entL, wsm, wcat, Option.toList_some, Option.toList_none, List.cons_append, List.nil_append, List.mem_cons, List.not_mem_nil, Prod.mk.injEq, or_false, false_or, or_true, true_or, and_true, true_and, and_false, false_and, and_self, ne_eq, not_false_eq_true, not_true_eq_false, forall_const, true_implies, false_implies, Nat.add_zero, Nat.zero_add, Nat.le_refl, Nat.zero_le, ↓reduceIte, Nat.reduceAdd, Nat.reduceSub, Nat.reduceEqDiff, Nat.reduceLeDiff, Int.reduceEq, Int.reduceNe, Int.reduceNeg, reduceCtorEq, kd2, kd6, z2_3 hS.1.1, h6.2.2.2]
  refine c_get h6 (r3 (by have := h6.2.2.1; omega)) ?_
  rw [if_pos (by omega), show ((dg r0 : Int) - 1).toNat = dg r0 - 1 by omega]
  simp only [bk22_0, bk22_46, bk22_52, bk22_62, bk22_147, U_aload_n, U_getfield, U_invokevirtual1, U_invokevirtual0, U_iconst, U_istore_n, U_iload_n, U_bipush, U_icmp_gt, U_if_lt, U_invokevirtual2, U_invokevirtual4, U_iinc, U_goto, U_return, UN_cc, UN_cn, UN_nc, UN_nn, UJ, lget, lset, lset2, entL, wsm, wcat, Option.toList_some, Option.toList_none, List.cons_append, List.nil_append, List.mem_cons, List.not_mem_nil, Prod.mk.injEq, or_false, false_or, or_true, true_or, and_true, true_and, and_false, false_and, and_self, ne_eq, not_false_eq_true, not_true_eq_false, forall_const, true_implies, false_implies, Nat.add_zero, Nat.zero_add, Nat.le_refl, Nat.zero_le, ↓reduceIte, Nat.reduceAdd, Nat.reduceSub, Nat.reduceEqDiff, Nat.reduceLeDiff, Int.reduceEq, Int.reduceNe, Int.reduceNeg, reduceCtorEq, kd2, kd6, z2_3 hS.1.1]
  have hlt := hp.lt (r0.2.1 (dg r0 - 1))
  have htop := dg_top r0 hne
  refine c_inverse hS.1 (by omega) hlt.2 (fun w w0 w1 w2 => ?_)
  simp only [bk22_0, bk22_46, bk22_52, bk22_62, bk22_147, U_aload_n, U_getfield, U_invokevirtual1, U_invokevirtual0, U_iconst, U_istore_n, U_iload_n, U_bipush, U_icmp_gt, U_if_lt, U_invokevirtual2, U_invokevirtual4, U_iinc, U_goto, U_return, UN_cc, UN_cn, UN_nc, UN_nn, UJ, lget, lset, lset2, entL, wsm, wcat, Option.toList_some, Option.toList_none, List.cons_append, List.nil_append, List.mem_cons, List.not_mem_nil, Prod.mk.injEq, or_false, false_or, or_true, true_or, and_true, true_and, and_false, false_and, and_self, ne_eq, not_false_eq_true, not_true_eq_false, forall_const, true_implies, false_implies, Nat.add_zero, Nat.zero_add, Nat.le_refl, Nat.zero_le, ↓reduceIte, Nat.reduceAdd, Nat.reduceSub, Nat.reduceEqDiff, Nat.reduceLeDiff, Int.reduceEq, Int.reduceNe, Int.reduceNeg, reduceCtorEq, kd2, kd6, z2_3 hS.1.1]
  refine s_scale hS k6 e6 (by omega) fun N1 h1 f1 => ?_
  simp only [bk22_0, bk22_46, bk22_52, bk22_62, bk22_147, U_aload_n, U_getfield, U_invokevirtual1, U_invokevirtual0, U_iconst, U_istore_n, U_iload_n, U_bipush, U_icmp_gt, U_if_lt, U_invokevirtual2, U_invokevirtual4, U_iinc, U_goto, U_return, UN_cc, UN_cn, UN_nc, UN_nn, UJ, lget, lset, lset2, entL, wsm, wcat, Option.toList_some, Option.toList_none, List.cons_append, List.nil_append, List.mem_cons, List.not_mem_nil, Prod.mk.injEq, or_false, false_or, or_true, true_or, and_true, true_and, and_false, false_and, and_self, ne_eq, not_false_eq_true, not_true_eq_false, forall_const, true_implies, false_implies, Nat.add_zero, Nat.zero_add, Nat.le_refl, Nat.zero_le, ↓reduceIte, Nat.reduceAdd, Nat.reduceSub, Nat.reduceEqDiff, Nat.reduceLeDiff, Int.reduceEq, Int.reduceNe, Int.reduceNeg, reduceCtorEq, kd2, kd8, z2_4 h1.1.1]
  refine s_scale h1 k8 (A := s0) (by simp [upq, e8]) (by omega) fun N2 h2 f2 => ?_
  simp only [bk22_0, bk22_46, bk22_52, bk22_62, bk22_147, U_aload_n, U_getfield, U_invokevirtual1, U_invokevirtual0, U_iconst, U_istore_n, U_iload_n, U_bipush, U_icmp_gt, U_if_lt, U_invokevirtual2, U_invokevirtual4, U_iinc, U_goto, U_return, UN_cc, UN_cn, UN_nc, UN_nn, UJ, lget, lset, lset2, entL, wsm, wcat, Option.toList_some, Option.toList_none, List.cons_append, List.nil_append, List.mem_cons, List.not_mem_nil, Prod.mk.injEq, or_false, false_or, or_true, true_or, and_true, true_and, and_false, false_and, and_self, ne_eq, not_false_eq_true, not_true_eq_false, forall_const, true_implies, false_implies, Nat.add_zero, Nat.zero_add, Nat.le_refl, Nat.zero_le, ↓reduceIte, Nat.reduceAdd, Nat.reduceSub, Nat.reduceEqDiff, Nat.reduceLeDiff, Int.reduceEq, Int.reduceNe, Int.reduceNeg, reduceCtorEq, kd2, kd10, z2_5 h2.1.1]
  refine s_scale h2 k10 (A := t0) (by simp [upq, e10]) (by omega) fun N3 h3 f3 => ?_
  simp only [bk22_0, bk22_46, bk22_52, bk22_62, bk22_147, U_aload_n, U_getfield, U_invokevirtual1, U_invokevirtual0, U_iconst, U_istore_n, U_iload_n, U_bipush, U_icmp_gt, U_if_lt, U_invokevirtual2, U_invokevirtual4, U_iinc, U_goto, U_return, UN_cc, UN_cn, UN_nc, UN_nn, UJ, lget, lset, lset2, entL, wsm, wcat, Option.toList_some, Option.toList_none, List.cons_append, List.nil_append, List.mem_cons, List.not_mem_nil, Prod.mk.injEq, or_false, false_or, or_true, true_or, and_true, true_and, and_false, false_and, and_self, ne_eq, not_false_eq_true, not_true_eq_false, forall_const, true_implies, false_implies, Nat.add_zero, Nat.zero_add, Nat.le_refl, Nat.zero_le, ↓reduceIte, Nat.reduceAdd, Nat.reduceSub, Nat.reduceEqDiff, Nat.reduceLeDiff, Int.reduceEq, Int.reduceNe, Int.reduceNeg, reduceCtorEq]
  have mo := monic_of hp hne w2
  have hkn := hp.inv_ne w2
  refine hQ N3 _ (pmul (pC p w) r0) (pmul (pC p w) s0) (pmul (pC p w) t0) h3 (((hF.tr f1).tr f2).tr f3) (fun r hr => ?_) (by simp [upq]) (by simp [upq]) (by simp [upq]) ⟨?_, ?_, ?_, mo.1, ?_, ?_⟩
  · rw [← hρ r hr]
    unfold tmp at hr
    unfold upq
    rw [if_neg (by omega), if_neg (by omega), if_neg (by omega)]
  · exact @rg_sc (Pz p) (pring p) (pC p w) r0 s0 t0 A B hr0
  · exact @rg_dvc (Pz p) (pring p) r0 _ (pC p w) A mo.2 d1
  · exact @rg_dvc (Pz p) (pring p) r0 _ (pC p w) B mo.2 d2
  · rw [dg_Cmul hp hkn]; exact g1
  · rw [dg_Cmul hp hkn]; exact g2
set_option maxHeartbeats 16000000 in
theorem l_common {p : Int} {N : Mem} {ρ : Int → Option (Pz p)} {Q : Post} {ra rb : Int} {A B : Pz p} {D : Nat} (hDD : D = max (dg A) (dg B)) (hAB : ¬ (dg A = 0 ∧ dg B = 0)) (hD : D ≤ 8)
    (hQ : ∀ N' ρ' d s t, ST p N' ρ' → FR N N' → (∀ r, ¬ tmp r → ρ' r = ρ r) → ρ' 6 = some d → ρ' 8 = some s → ρ' 10 = some t → BZ A B d s t → Q none NN N') :
    ∀ (n : Nat) (i : Int) (Ni : Mem) (ρi : Int → Option (Pz p)) (r0 r1 s0 s1 t0 t1 : Pz p), i + n = 8 → 0 ≤ i → dg r1 ≤ n → ST p Ni ρi → FR N Ni → (∀ r, ¬ tmp r → ρi r = ρ r) → ρi 6 = some r0 → ρi 12 = some r1 → ρi 8 = some s0 → ρi 14 = some s1 → ρi 10 = some t0 → ρi 16 = some t1 →
      r0 = padd (pmul s0 A) (pmul t0 B) → r1 = padd (pmul s1 A) (pmul t1 B) → (∀ d, @Dv _ (pring p) d r0 → @Dv _ (pring p) d r1 → @Dv _ (pring p) d A ∧ @Dv _ (pring p) d B) →
      dg s0 ≤ D → dg t0 ≤ D → dg s0 + dg r1 ≤ D + 1 → dg t0 + dg r1 ≤ D + 1 → dg s1 + dg r0 ≤ D + 1 → dg t1 + dg r0 ≤ D + 1 → dg s1 ≤ D → dg t1 ≤ D →
      WP 22 (0, 0) 46 [(2, 2), (2, ra), (2, rb), (0, i)] [] NN Ni Q := by
  have k4 : KD 4 = 18 := rfl
  have k6 : KD 6 = 18 := rfl
  have k8 : KD 8 = 18 := rfl
  have k10 : KD 10 = 18 := rfl
  have k12 : KD 12 = 18 := rfl
  have k14 : KD 14 = 18 := rfl
  have k16 : KD 16 = 18 := rfl
  have fin : ∀ (i : Int) (Ni : Mem) (ρi : Int → Option (Pz p)) (r0 r1 s0 t0 : Pz p), i ≤ 8 → 0 ≤ i → dg r1 = 0 → ST p Ni ρi → FR N Ni → (∀ r, ¬ tmp r → ρi r = ρ r) → ρi 6 = some r0 → ρi 12 = some r1 → ρi 8 = some s0 → ρi 10 = some t0 →
      r0 = padd (pmul s0 A) (pmul t0 B) → (∀ d, @Dv _ (pring p) d r0 → @Dv _ (pring p) d r1 → @Dv _ (pring p) d A ∧ @Dv _ (pring p) d B) → dg s0 ≤ D → dg t0 ≤ D → WP 22 (0, 0) 46 [(2, 2), (2, ra), (2, rb), (0, i)] [] NN Ni Q := by
    intro i Ni ρi r0 r1 s0 t0 i1 i2 hz hS hF hρ e6 e12 e8 e10 hr0 hd g1 g2
    have h12 := hS.rp k12 e12
    have hz2 := dg_zero.mp hz
    have dd := hd r0 (@Dv.rf _ (pring p) r0) (by rw [hz2]; exact @Dv.zero _ (pring p) r0)
    have hne : dg r0 ≠ 0 := fun e => by
      have e2 := dg_zero.mp e
      rw [e2] at dd
      obtain ⟨⟨x, hx⟩, y, hy⟩ := dd
      refine hAB ⟨dg_zero.mpr ?_, dg_zero.mpr ?_⟩
      · rw [hx]; exact pC_zero_mul x
      · rw [hy]; exact pC_zero_mul y
    refine WP.run [(22, 147)] [] 60 ?_
    simp only [bk22_0, bk22_46, bk22_52, bk22_62, bk22_147, U_aload_n, U_getfield, U_invokevirtual1, U_invokevirtual0, U_iconst, U_istore_n, U_iload_n, U_bipush, U_icmp_gt, U_if_lt, U_invokevirtual2, U_invokevirtual4, U_iinc, U_goto, U_return, UN_cc, UN_cn, UN_nc, UN_nn, UJ, lget, lset, lset2, entL, wsm, wcat, Option.toList_some, Option.toList_none, List.cons_append, List.nil_append, List.mem_cons, List.not_mem_nil, Prod.mk.injEq, or_false, false_or, or_true, true_or, and_true, true_and, and_false, false_and, and_self, ne_eq, not_false_eq_true, not_true_eq_false, forall_const, true_implies, false_implies, Nat.add_zero, Nat.zero_add, Nat.le_refl, Nat.zero_le, ↓reduceIte, Nat.reduceAdd, Nat.reduceSub, Nat.reduceEqDiff, Nat.reduceLeDiff, Int.reduceEq, Int.reduceNe, Int.reduceNeg, reduceCtorEq, kd2, kd12, z2_6 hS.1.1, h12.2.2.2]
    refine ⟨rr (by omega), fun h => by omega, fun _ => ⟨r3 (by omega), fun _ => ?_, fun h => by omega⟩⟩
    exact l_common_end hQ hS hF hρ e6 e8 e10 hr0 dd.1 dd.2 hne (by omega) (by omega)
  intro n
  induction n with
  | zero =>
    intro i Ni ρi r0 r1 s0 s1 t0 t1 h1 h2 h3 hS hF hρ e6 e12 e8 e14 e10 e16 hr0 hr1 hd g1 g2 g3 g4 g5 g6 g7 g8
    exact fin i Ni ρi r0 r1 s0 t0 (by omega) h2 (by omega) hS hF hρ e6 e12 e8 e10 hr0 hd g1 g2
  | succ n ih =>
    intro i Ni ρi r0 r1 s0 s1 t0 t1 h1 h2 h3 hS hF hρ e6 e12 e8 e14 e10 e16 hr0 hr1 hd g1 g2 g3 g4 g5 g6 g7 g8
    by_cases hz : dg r1 = 0
    · exact fin i Ni ρi r0 r1 s0 t0 (by omega) h2 hz hS hF hρ e6 e12 e8 e10 hr0 hd g1 g2
    · have h12 := hS.rp k12 e12
      refine WP.run [(22, 46), (22, 147)] [] 90 ?_
      simp only [bk22_0, bk22_46, bk22_52, bk22_62, bk22_147, U_aload_n, U_getfield, U_invokevirtual1, U_invokevirtual0, U_iconst, U_istore_n, U_iload_n, U_bipush, U_icmp_gt, U_if_lt, U_invokevirtual2, U_invokevirtual4, U_iinc, U_goto, U_return, UN_cc, UN_cn, UN_nc, UN_nn, UJ, lget, lset, lset2, entL, wsm, wcat, Option.toList_some, Option.toList_none, List.cons_append, List.nil_append, List.mem_cons, List.not_mem_nil, Prod.mk.injEq, or_false, false_or, or_true, true_or, and_true, true_and, and_false, false_and, and_self, ne_eq, not_false_eq_true, not_true_eq_false, forall_const, true_implies, false_implies, Nat.add_zero, Nat.zero_add, Nat.le_refl, Nat.zero_le, ↓reduceIte, Nat.reduceAdd, Nat.reduceSub, Nat.reduceEqDiff, Nat.reduceLeDiff, Int.reduceEq, Int.reduceNe, Int.reduceNeg, reduceCtorEq, kd2, kd6, kd12, z2_3 hS.1.1, z2_6 hS.1.1, h12.2.2.2]
      refine ⟨rr (by omega), fun h => by omega, fun _ => ⟨r3 (by have := h12.2.2.1; omega), fun h => by omega, fun _ => s_divide hS k6 k12 (by decide) (by decide) (by decide) e6 e12 hz fun N1 q r2 hS1 hF1 hq1 hq2 hq3 => ?_⟩⟩
      simp only [bk22_0, bk22_46, bk22_52, bk22_62, bk22_147, U_aload_n, U_getfield, U_invokevirtual1, U_invokevirtual0, U_iconst, U_istore_n, U_iload_n, U_bipush, U_icmp_gt, U_if_lt, U_invokevirtual2, U_invokevirtual4, U_iinc, U_goto, U_return, UN_cc, UN_cn, UN_nc, UN_nn, UJ, lget, lset, lset2, entL, wsm, wcat, Option.toList_some, Option.toList_none, List.cons_append, List.nil_append, List.mem_cons, List.not_mem_nil, Prod.mk.injEq, or_false, false_or, or_true, true_or, and_true, true_and, and_false, false_and, and_self, ne_eq, not_false_eq_true, not_true_eq_false, forall_const, true_implies, false_implies, Nat.add_zero, Nat.zero_add, Nat.le_refl, Nat.zero_le, ↓reduceIte, Nat.reduceAdd, Nat.reduceSub, Nat.reduceEqDiff, Nat.reduceLeDiff, Int.reduceEq, Int.reduceNe, Int.reduceNeg, reduceCtorEq, kd2, z2_1 hS1.1.1, z2_2 hS1.1.1, z2_3 hS1.1.1, z2_4 hS1.1.1, z2_5 hS1.1.1, z2_6 hS1.1.1, z2_7 hS1.1.1, z2_8 hS1.1.1, kd2]
      refine s_addProduct hS1 k8 k4 k14 (by decide) (by decide) (O := s0) (A := q) (B := s1) (by simp [upq, e8]) (by simp [upq]) (by simp [upq, e14]) (Or.inr rfl) (by omega) fun N2 hS2 hF2 => ?_
      simp only [bk22_0, bk22_46, bk22_52, bk22_62, bk22_147, U_aload_n, U_getfield, U_invokevirtual1, U_invokevirtual0, U_iconst, U_istore_n, U_iload_n, U_bipush, U_icmp_gt, U_if_lt, U_invokevirtual2, U_invokevirtual4, U_iinc, U_goto, U_return, UN_cc, UN_cn, UN_nc, UN_nn, UJ, lget, lset, lset2, entL, wsm, wcat, Option.toList_some, Option.toList_none, List.cons_append, List.nil_append, List.mem_cons, List.not_mem_nil, Prod.mk.injEq, or_false, false_or, or_true, true_or, and_true, true_and, and_false, false_and, and_self, ne_eq, not_false_eq_true, not_true_eq_false, forall_const, true_implies, false_implies, Nat.add_zero, Nat.zero_add, Nat.le_refl, Nat.zero_le, ↓reduceIte, Nat.reduceAdd, Nat.reduceSub, Nat.reduceEqDiff, Nat.reduceLeDiff, Int.reduceEq, Int.reduceNe, Int.reduceNeg, reduceCtorEq, kd2, z2_1 hS2.1.1, z2_2 hS2.1.1, z2_3 hS2.1.1, z2_4 hS2.1.1, z2_5 hS2.1.1, z2_6 hS2.1.1, z2_7 hS2.1.1, z2_8 hS2.1.1, kd2]
      refine s_addProduct hS2 k10 k4 k16 (by decide) (by decide) (O := t0) (A := q) (B := t1) (by simp [upq, e10]) (by simp [upq]) (by simp [upq, e16]) (Or.inr rfl) (by omega) fun N3 hS3 hF3 => ?_
      simp only [bk22_0, bk22_46, bk22_52, bk22_62, bk22_147, U_aload_n, U_getfield, U_invokevirtual1, U_invokevirtual0, U_iconst, U_istore_n, U_iload_n, U_bipush, U_icmp_gt, U_if_lt, U_invokevirtual2, U_invokevirtual4, U_iinc, U_goto, U_return, UN_cc, UN_cn, UN_nc, UN_nn, UJ, lget, lset, lset2, entL, wsm, wcat, Option.toList_some, Option.toList_none, List.cons_append, List.nil_append, List.mem_cons, List.not_mem_nil, Prod.mk.injEq, or_false, false_or, or_true, true_or, and_true, true_and, and_false, false_and, and_self, ne_eq, not_false_eq_true, not_true_eq_false, forall_const, true_implies, false_implies, Nat.add_zero, Nat.zero_add, Nat.le_refl, Nat.zero_le, ↓reduceIte, Nat.reduceAdd, Nat.reduceSub, Nat.reduceEqDiff, Nat.reduceLeDiff, Int.reduceEq, Int.reduceNe, Int.reduceNeg, reduceCtorEq, kd2, kd6, kd12, z2_1 hS3.1.1, z2_2 hS3.1.1, z2_3 hS3.1.1, z2_4 hS3.1.1, z2_5 hS3.1.1, z2_6 hS3.1.1, z2_7 hS3.1.1, z2_8 hS3.1.1, kd2]
      generalize hs2 : padd s0 (pmul (pmul (pC p (-1)) q) s1) = s2 at hS2 hS3
      generalize ht2 : padd t0 (pmul (pmul (pC p (-1)) q) t1) = t2 at hS3
      refine s_swap hS3 k6 k12 (by decide) rfl rfl (a := r2) (b := r1) (by simp [upq]) (by simp [upq, e12]) fun N4 hS4 hF4 => ?_
      simp only [bk22_0, bk22_46, bk22_52, bk22_62, bk22_147, U_aload_n, U_getfield, U_invokevirtual1, U_invokevirtual0, U_iconst, U_istore_n, U_iload_n, U_bipush, U_icmp_gt, U_if_lt, U_invokevirtual2, U_invokevirtual4, U_iinc, U_goto, U_return, UN_cc, UN_cn, UN_nc, UN_nn, UJ, lget, lset, lset2, entL, wsm, wcat, Option.toList_some, Option.toList_none, List.cons_append, List.nil_append, List.mem_cons, List.not_mem_nil, Prod.mk.injEq, or_false, false_or, or_true, true_or, and_true, true_and, and_false, false_and, and_self, ne_eq, not_false_eq_true, not_true_eq_false, forall_const, true_implies, false_implies, Nat.add_zero, Nat.zero_add, Nat.le_refl, Nat.zero_le, ↓reduceIte, Nat.reduceAdd, Nat.reduceSub, Nat.reduceEqDiff, Nat.reduceLeDiff, Int.reduceEq, Int.reduceNe, Int.reduceNeg, reduceCtorEq, kd2, kd8, kd14, z2_1 hS4.1.1, z2_2 hS4.1.1, z2_3 hS4.1.1, z2_4 hS4.1.1, z2_5 hS4.1.1, z2_6 hS4.1.1, z2_7 hS4.1.1, z2_8 hS4.1.1, kd2]
      refine s_swap hS4 k8 k14 (by decide) rfl rfl (a := s2) (b := s1) (by simp [upq]) (by simp [upq, e14]) fun N5 hS5 hF5 => ?_
      simp only [bk22_0, bk22_46, bk22_52, bk22_62, bk22_147, U_aload_n, U_getfield, U_invokevirtual1, U_invokevirtual0, U_iconst, U_istore_n, U_iload_n, U_bipush, U_icmp_gt, U_if_lt, U_invokevirtual2, U_invokevirtual4, U_iinc, U_goto, U_return, UN_cc, UN_cn, UN_nc, UN_nn, UJ, lget, lset, lset2, entL, wsm, wcat, Option.toList_some, Option.toList_none, List.cons_append, List.nil_append, List.mem_cons, List.not_mem_nil, Prod.mk.injEq, or_false, false_or, or_true, true_or, and_true, true_and, and_false, false_and, and_self, ne_eq, not_false_eq_true, not_true_eq_false, forall_const, true_implies, false_implies, Nat.add_zero, Nat.zero_add, Nat.le_refl, Nat.zero_le, ↓reduceIte, Nat.reduceAdd, Nat.reduceSub, Nat.reduceEqDiff, Nat.reduceLeDiff, Int.reduceEq, Int.reduceNe, Int.reduceNeg, reduceCtorEq, kd2, kd10, kd16, z2_1 hS5.1.1, z2_2 hS5.1.1, z2_3 hS5.1.1, z2_4 hS5.1.1, z2_5 hS5.1.1, z2_6 hS5.1.1, z2_7 hS5.1.1, z2_8 hS5.1.1, kd2]
      refine s_swap hS5 k10 k16 (by decide) rfl rfl (a := t2) (b := t1) (by simp [upq]) (by simp [upq, e16]) fun N6 hS6 hF6 => ?_
      simp only [bk22_0, bk22_46, bk22_52, bk22_62, bk22_147, U_aload_n, U_getfield, U_invokevirtual1, U_invokevirtual0, U_iconst, U_istore_n, U_iload_n, U_bipush, U_icmp_gt, U_if_lt, U_invokevirtual2, U_invokevirtual4, U_iinc, U_goto, U_return, UN_cc, UN_cn, UN_nc, UN_nn, UJ, lget, lset, lset2, entL, wsm, wcat, Option.toList_some, Option.toList_none, List.cons_append, List.nil_append, List.mem_cons, List.not_mem_nil, Prod.mk.injEq, or_false, false_or, or_true, true_or, and_true, true_and, and_false, false_and, and_self, ne_eq, not_false_eq_true, not_true_eq_false, forall_const, true_implies, false_implies, Nat.add_zero, Nat.zero_add, Nat.le_refl, Nat.zero_le, ↓reduceIte, Nat.reduceAdd, Nat.reduceSub, Nat.reduceEqDiff, Nat.reduceLeDiff, Int.reduceEq, Int.reduceNe, Int.reduceNeg, reduceCtorEq]
      have m1 : (dg (pmul (pmul (pC p (-1)) q) s1) + 1 ≤ dg q + dg s1 ∨ dg (pmul (pmul (pC p (-1)) q) s1) = 0) ∧ (dg q = 0 → dg (pmul (pmul (pC p (-1)) q) s1) = 0) := by
        have hq : dg (pmul (pC p (-1)) q) = dg q := by
          refine dg_Cmul hS.1.2.1 ?_ q
          rcases hS.1.2.1 with rfl | rfl | rfl | rfl | rfl <;> decide
        have := dg_mul_le (pmul (pC p (-1)) q) s1
        refine ⟨by omega, fun hz => ?_⟩
        have hz2 := dg_zero.mp (hq.trans hz)
        rw [hz2, pC_zero_mul]; exact dg_zero.mpr rfl
      have m2 : (dg (pmul (pmul (pC p (-1)) q) t1) + 1 ≤ dg q + dg t1 ∨ dg (pmul (pmul (pC p (-1)) q) t1) = 0) ∧ (dg q = 0 → dg (pmul (pmul (pC p (-1)) q) t1) = 0) := by
        have hq : dg (pmul (pC p (-1)) q) = dg q := by
          refine dg_Cmul hS.1.2.1 ?_ q
          rcases hS.1.2.1 with rfl | rfl | rfl | rfl | rfl <;> decide
        have := dg_mul_le (pmul (pC p (-1)) q) t1
        refine ⟨by omega, fun hz => ?_⟩
        have hz2 := dg_zero.mp (hq.trans hz)
        rw [hz2, pC_zero_mul]; exact dg_zero.mpr rfl
      have a1 := dg_add s0 (pmul (pmul (pC p (-1)) q) s1)
      have a2 := dg_add t0 (pmul (pmul (pC p (-1)) q) t1)
      rw [hs2] at a1
      rw [ht2] at a2
      obtain ⟨m1, m1z⟩ := m1
      obtain ⟨m2, m2z⟩ := m2
      have hr01 : dg r2 ≤ dg r0 := by
        by_cases hlt : dg r1 ≤ dg r0
        · omega
        · have hq0 : dg q = 0 := by omega
          have : r0 = r2 := by
            rw [hq1, dg_zero.mp hq0, pmul_comm, pC_zero_mul, padd_comm, pC_zero_add]
          rw [this]; exact Nat.le_refl _
      have n1 := pC_m1 (p := p)
      refine ih (i + 1) N6 _ r1 r2 s1 s2 t1 t2 (by omega) (by omega) (by omega) hS6 ((((((hF.tr hF1).tr hF2).tr hF3).tr hF4).tr hF5).tr hF6) (fun r hr => ?_) (by simp [upq]) (by simp [upq]) (by simp [upq]) (by simp [upq]) (by simp [upq]) (by simp [upq]) hr1 ?_ ?_ g7 g8 (by omega) (by omega) (by omega) (by omega) (by omega) (by omega)
      · rw [← hρ r hr]
        unfold tmp at hr
        unfold upq
        repeat rw [if_neg (by omega)]
      · rw [← hs2, ← ht2, ← n1]
        exact @rg_bz (Pz p) (pring p) A B r0 r1 r2 q s0 s1 t0 t1 hr0 hr1 hq1
      · intro d dd1 dd2
        exact hd d (@rg_dv (Pz p) (pring p) d r0 r1 r2 q hq1 dd1 dd2) dd1
set_option maxHeartbeats 16000000 in
theorem s_common {p : Int} {N : Mem} {ρ : Int → Option (Pz p)} {Q : Post} {ra rb : Int} {A B : Pz p} (h : ST p N ρ) (ha : KD ra = 18) (hb : KD rb = 18) (na : ¬ tmp ra) (nb : ¬ tmp rb) (hA : ρ ra = some A) (hB : ρ rb = some B) (hAB : ¬ (dg A = 0 ∧ dg B = 0))
    (hQ : ∀ N' ρ' d s t, ST p N' ρ' → FR N N' → (∀ r, ¬ tmp r → ρ' r = ρ r) → ρ' 6 = some d → ρ' 8 = some s → ρ' 10 = some t → BZ A B d s t → Q none NN N') : CL 22 [(2, 2), (2, ra), (2, rb), (9, 0)] NN N Q := by
  have k6 : KD 6 = 18 := rfl
  have k8 : KD 8 = 18 := rfl
  have k10 : KD 10 = 18 := rfl
  have k12 : KD 12 = 18 := rfl
  have k14 : KD 14 = 18 := rfl
  have k16 : KD 16 = 18 := rfl
  have dA := (h.rp ha hA).2.2.1
  have dB := (h.rp hb hB).2.2.1
  have hp := h.1.2.1
  have u1 : dg (pC p 1) = 1 := dg_C (by rw [Int.emod_eq_of_lt (by omega) (by have := hp.pos; omega)]; omega)
  have u0 : dg (pC p 0) = 0 := dg_zero.mpr rfl
  unfold tmp at na nb
  refine WP.run [(22, 46), (22, 147)] [] 90 ?_
  simp only [bk22_0, bk22_46, bk22_52, bk22_62, bk22_147, U_aload_n, U_getfield, U_invokevirtual1, U_invokevirtual0, U_iconst, U_istore_n, U_iload_n, U_bipush, U_icmp_gt, U_if_lt, U_invokevirtual2, U_invokevirtual4, U_iinc, U_goto, U_return, UN_cc, UN_cn, UN_nc, UN_nn, UJ, lget, lset, lset2, entL, wsm, wcat, Option.toList_some, Option.toList_none, List.cons_append, List.nil_append, List.mem_cons, List.not_mem_nil, Prod.mk.injEq, or_false, false_or, or_true, true_or, and_true, true_and, and_false, false_and, and_self, ne_eq, not_false_eq_true, not_true_eq_false, forall_const, true_implies, false_implies, Nat.add_zero, Nat.zero_add, Nat.le_refl, Nat.zero_le, ↓reduceIte, Nat.reduceAdd, Nat.reduceSub, Nat.reduceEqDiff, Nat.reduceLeDiff, Int.reduceEq, Int.reduceNe, Int.reduceNeg, reduceCtorEq, kd2, kd6, z2_1 h.1.1, z2_2 h.1.1, z2_3 h.1.1, z2_4 h.1.1, z2_5 h.1.1, z2_6 h.1.1, z2_7 h.1.1, z2_8 h.1.1, kd2]
  refine s_copy h k6 ha (by omega) hA fun N1 h1 f1 => ?_
  simp only [bk22_0, bk22_46, bk22_52, bk22_62, bk22_147, U_aload_n, U_getfield, U_invokevirtual1, U_invokevirtual0, U_iconst, U_istore_n, U_iload_n, U_bipush, U_icmp_gt, U_if_lt, U_invokevirtual2, U_invokevirtual4, U_iinc, U_goto, U_return, UN_cc, UN_cn, UN_nc, UN_nn, UJ, lget, lset, lset2, entL, wsm, wcat, Option.toList_some, Option.toList_none, List.cons_append, List.nil_append, List.mem_cons, List.not_mem_nil, Prod.mk.injEq, or_false, false_or, or_true, true_or, and_true, true_and, and_false, false_and, and_self, ne_eq, not_false_eq_true, not_true_eq_false, forall_const, true_implies, false_implies, Nat.add_zero, Nat.zero_add, Nat.le_refl, Nat.zero_le, ↓reduceIte, Nat.reduceAdd, Nat.reduceSub, Nat.reduceEqDiff, Nat.reduceLeDiff, Int.reduceEq, Int.reduceNe, Int.reduceNeg, reduceCtorEq, kd2, kd8, z2_1 h1.1.1, z2_2 h1.1.1, z2_3 h1.1.1, z2_4 h1.1.1, z2_5 h1.1.1, z2_6 h1.1.1, z2_7 h1.1.1, z2_8 h1.1.1, kd2]
  refine s_makeOne h1 k8 fun N2 h2 f2 => ?_
  simp only [bk22_0, bk22_46, bk22_52, bk22_62, bk22_147, U_aload_n, U_getfield, U_invokevirtual1, U_invokevirtual0, U_iconst, U_istore_n, U_iload_n, U_bipush, U_icmp_gt, U_if_lt, U_invokevirtual2, U_invokevirtual4, U_iinc, U_goto, U_return, UN_cc, UN_cn, UN_nc, UN_nn, UJ, lget, lset, lset2, entL, wsm, wcat, Option.toList_some, Option.toList_none, List.cons_append, List.nil_append, List.mem_cons, List.not_mem_nil, Prod.mk.injEq, or_false, false_or, or_true, true_or, and_true, true_and, and_false, false_and, and_self, ne_eq, not_false_eq_true, not_true_eq_false, forall_const, true_implies, false_implies, Nat.add_zero, Nat.zero_add, Nat.le_refl, Nat.zero_le, ↓reduceIte, Nat.reduceAdd, Nat.reduceSub, Nat.reduceEqDiff, Nat.reduceLeDiff, Int.reduceEq, Int.reduceNe, Int.reduceNeg, reduceCtorEq, kd2, kd10, z2_1 h2.1.1, z2_2 h2.1.1, z2_3 h2.1.1, z2_4 h2.1.1, z2_5 h2.1.1, z2_6 h2.1.1, z2_7 h2.1.1, z2_8 h2.1.1, kd2]
  refine s_clear h2 k10 fun N3 h3 f3 => ?_
  simp only [bk22_0, bk22_46, bk22_52, bk22_62, bk22_147, U_aload_n, U_getfield, U_invokevirtual1, U_invokevirtual0, U_iconst, U_istore_n, U_iload_n, U_bipush, U_icmp_gt, U_if_lt, U_invokevirtual2, U_invokevirtual4, U_iinc, U_goto, U_return, UN_cc, UN_cn, UN_nc, UN_nn, UJ, lget, lset, lset2, entL, wsm, wcat, Option.toList_some, Option.toList_none, List.cons_append, List.nil_append, List.mem_cons, List.not_mem_nil, Prod.mk.injEq, or_false, false_or, or_true, true_or, and_true, true_and, and_false, false_and, and_self, ne_eq, not_false_eq_true, not_true_eq_false, forall_const, true_implies, false_implies, Nat.add_zero, Nat.zero_add, Nat.le_refl, Nat.zero_le, ↓reduceIte, Nat.reduceAdd, Nat.reduceSub, Nat.reduceEqDiff, Nat.reduceLeDiff, Int.reduceEq, Int.reduceNe, Int.reduceNeg, reduceCtorEq, kd2, kd12, z2_1 h3.1.1, z2_2 h3.1.1, z2_3 h3.1.1, z2_4 h3.1.1, z2_5 h3.1.1, z2_6 h3.1.1, z2_7 h3.1.1, z2_8 h3.1.1, kd2]
  refine s_copy h3 k12 hb (by omega) (a := B) ?_ fun N4 h4 f4 => ?_
  · unfold upq; rw [if_neg (by omega), if_neg (by omega), if_neg (by omega)]; exact hB
  simp only [bk22_0, bk22_46, bk22_52, bk22_62, bk22_147, U_aload_n, U_getfield, U_invokevirtual1, U_invokevirtual0, U_iconst, U_istore_n, U_iload_n, U_bipush, U_icmp_gt, U_if_lt, U_invokevirtual2, U_invokevirtual4, U_iinc, U_goto, U_return, UN_cc, UN_cn, UN_nc, UN_nn, UJ, lget, lset, lset2, entL, wsm, wcat, Option.toList_some, Option.toList_none, List.cons_append, List.nil_append, List.mem_cons, List.not_mem_nil, Prod.mk.injEq, or_false, false_or, or_true, true_or, and_true, true_and, and_false, false_and, and_self, ne_eq, not_false_eq_true, not_true_eq_false, forall_const, true_implies, false_implies, Nat.add_zero, Nat.zero_add, Nat.le_refl, Nat.zero_le, ↓reduceIte, Nat.reduceAdd, Nat.reduceSub, Nat.reduceEqDiff, Nat.reduceLeDiff, Int.reduceEq, Int.reduceNe, Int.reduceNeg, reduceCtorEq, kd2, kd14, z2_1 h4.1.1, z2_2 h4.1.1, z2_3 h4.1.1, z2_4 h4.1.1, z2_5 h4.1.1, z2_6 h4.1.1, z2_7 h4.1.1, z2_8 h4.1.1, kd2]
  refine s_clear h4 k14 fun N5 h5 f5 => ?_
  simp only [bk22_0, bk22_46, bk22_52, bk22_62, bk22_147, U_aload_n, U_getfield, U_invokevirtual1, U_invokevirtual0, U_iconst, U_istore_n, U_iload_n, U_bipush, U_icmp_gt, U_if_lt, U_invokevirtual2, U_invokevirtual4, U_iinc, U_goto, U_return, UN_cc, UN_cn, UN_nc, UN_nn, UJ, lget, lset, lset2, entL, wsm, wcat, Option.toList_some, Option.toList_none, List.cons_append, List.nil_append, List.mem_cons, List.not_mem_nil, Prod.mk.injEq, or_false, false_or, or_true, true_or, and_true, true_and, and_false, false_and, and_self, ne_eq, not_false_eq_true, not_true_eq_false, forall_const, true_implies, false_implies, Nat.add_zero, Nat.zero_add, Nat.le_refl, Nat.zero_le, ↓reduceIte, Nat.reduceAdd, Nat.reduceSub, Nat.reduceEqDiff, Nat.reduceLeDiff, Int.reduceEq, Int.reduceNe, Int.reduceNeg, reduceCtorEq, kd2, kd16, z2_1 h5.1.1, z2_2 h5.1.1, z2_3 h5.1.1, z2_4 h5.1.1, z2_5 h5.1.1, z2_6 h5.1.1, z2_7 h5.1.1, z2_8 h5.1.1, kd2]
  refine s_makeOne h5 k16 fun N6 h6 f6 => ?_
  simp only [bk22_0, bk22_46, bk22_52, bk22_62, bk22_147, U_aload_n, U_getfield, U_invokevirtual1, U_invokevirtual0, U_iconst, U_istore_n, U_iload_n, U_bipush, U_icmp_gt, U_if_lt, U_invokevirtual2, U_invokevirtual4, U_iinc, U_goto, U_return, UN_cc, UN_cn, UN_nc, UN_nn, UJ, lget, lset, lset2, entL, wsm, wcat, Option.toList_some, Option.toList_none, List.cons_append, List.nil_append, List.mem_cons, List.not_mem_nil, Prod.mk.injEq, or_false, false_or, or_true, true_or, and_true, true_and, and_false, false_and, and_self, ne_eq, not_false_eq_true, not_true_eq_false, forall_const, true_implies, false_implies, Nat.add_zero, Nat.zero_add, Nat.le_refl, Nat.zero_le, ↓reduceIte, Nat.reduceAdd, Nat.reduceSub, Nat.reduceEqDiff, Nat.reduceLeDiff, Int.reduceEq, Int.reduceNe, Int.reduceNeg, reduceCtorEq]
  refine l_common (D := max (dg A) (dg B)) rfl hAB (by omega) hQ 8 0 N6 _ A B (pC p 1) (pC p 0) (pC p 0) (pC p 1) (by omega) (by omega) dB h6 (((((f1.tr f2).tr f3).tr f4).tr f5).tr f6) (fun r hr => ?_) (by simp [upq]) (by simp [upq]) (by simp [upq]) (by simp [upq]) (by simp [upq]) (by simp [upq]) ?_ ?_ (fun d a b => ⟨a, b⟩) (by omega) (by omega) (by omega) (by omega) (by omega) (by omega) (by omega) (by omega)
  · unfold tmp at hr
    unfold upq
    repeat rw [if_neg (by omega)]
  · rw [pC_one_mul, pC_zero_mul, pC_zero_add]
  · rw [pC_one_mul, pC_zero_mul, padd_comm, pC_zero_add]
