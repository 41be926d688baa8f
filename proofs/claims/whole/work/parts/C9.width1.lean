/-! THE MODEL'S WIDTH: what is asked at one point -/
theorem PI_0 {p : Int} {f : Pz p} {q : Int × Int} (h : q.2 = 0) : PI f q = @II (Pz p) (pring p) f (pcl p q).1 (pC p 0) := by
  show @II (Pz p) (pring p) f (pcl p q).1 (pC p q.2) = _
  rw [h]
theorem f1_un {p : Int} (hp : Pr p) {f : Pz p} {g : Nat} (hcv : Cv f g) {q : Int × Int} (hq : OnC f q) (h0 : q.2 = 0) : ∃ f1 k m, f = pmul (pcl p q).1 f1 ∧ pmul f1 k = padd (pC p 1) (pmul (pcl p q).1 m) := by
  have hpp := hp.pos
  have ev : pev f q.1 = 0 := by rw [← hq.2.2.2.2, h0]; exact Int.zero_emod _
  obtain ⟨f1, hf1⟩ := root_dv hp q f ev
  replace hf1 : f = pmul (pcl p q).1 f1 := hf1
  have hne : pev f1 q.1 ≠ 0 := fun e => by
    refine f1_ne hp hcv hq h0 ?_
    have t1 : Lo 1 (sv (hX q.1) (pcl p q).1) := fun i hi => by
      obtain rfl : i = 0 := by omega
      rw [svT hp]
      show (-q.1 + q.1) % p = 0
      rw [Int.add_left_neg, Int.zero_emod]
    have c := Lo.lt (n := 0) (t := sv (hX q.1) f1) t1 (fun i hi => absurd hi (Nat.not_lt_zero i))
    rw [show (1 + 0 : Nat) = 1 from rfl, ← sv_mul, ← hf1, sv_0] at c
    rw [c]
    show (_ * pev f1 q.1) % p = 0
    rw [e, Int.mul_zero, Int.zero_emod]
  obtain ⟨w, hw⟩ := root_dec hp q f1
  have r := pev_rg hp f1 q.1
  obtain ⟨k, -, -, hk⟩ := hp.inv (x := pev f1 q.1) (by omega) r.2
  refine ⟨f1, pC p k, pmul w (pC p k), hf1, ?_⟩
  have e1 : pmul f1 (pC p k) = pmul (padd (pmul (pcl p q).1 w) (pC p (pev f1 q.1))) (pC p k) := congrArg (fun z => pmul z (pC p k)) hw
  rw [e1, padd_mul, pC_pC, pmul_assoc, padd_comm]
  congr 1
  exact pC_eq (by rw [hk]; exact (Int.emod_eq_of_lt (by omega) (by omega)).symm)
theorem ExA.ord {p : Int} (hp : Pr p) {f : Pz p} {g : Nat} (hcv : Cv f g) {q : Int × Int} (hq : OnC f q) {N : Mem} {X : Nat → Int} {Y : Sz p} (h : ExA f q N X Y) : ∀ k, k ≤ 8 → ∀ w : BB (Pz p) f, @bpw (Pz p) (pring p) f (PI f q) k w ↔ Lo k (psi X Y w) := by
  obtain ⟨-, X0, h | h⟩ := h
  · obtain ⟨h1, h2, h3, h4⟩ := h
    exact pw_1 hp ⟨h1, hq.2.2.2.1⟩ X0 h2 h3 h4 (by omega)
  · obtain ⟨h1, h2, h3, h4, h5⟩ := h
    intro k _ w
    obtain ⟨f1, u, m, e1, e2⟩ := f1_un hp hcv hq h1
    rw [PI_0 h1]
    exact (@pw_0 (Pz p) (pring p) (pcl p q).1 f f1 u m e1 e2 k w).trans (lo_Q0 hp X0 h2 h3 h4 h5 w k).symm
set_option maxHeartbeats 16000000 in
theorem l_w1 {p : Int} {N : Mem} {Q : Post} {a b c d e i : V} {h : Int} (hz : Fz N) (hQ : ∀ N', FM [213] [] N N' → RwX N' 0 (cs 1) → ∀ x : V, WP 222 (0, 0) 189 [(2, 190), a, b, c, d, e, (0, h), x, i] [] NN N' Q) :
    ∀ (n k : Nat) (Ni : Mem), k + n = 8 → FM [213] [] N Ni → (∀ l : Nat, l < k → Ni 213 (l : Int) = cs 1 l) → WP 222 (0, 0) 159 [(2, 190), a, b, c, d, e, (0, h), (0, (k : Int)), i] [] NN Ni Q := by
  intro n
  induction n with
  | zero =>
    intro k Ni hk hF hA
    obtain rfl : k = 8 := by omega
    have nx := hQ Ni hF (fun l hl => by
      have := hA l hl
      rw [show ((8 * 0 : Nat) : Int) + (l : Int) = (l : Int) by omega]; exact this) (0, ((8 : Nat) : Int))
    refine WP.run [(222, 159), (222, 189)] [] 60 ?_
    simp only [bk222_0, bk222_13, bk222_21, bk222_38, bk222_42, bk222_44, bk222_59, bk222_72, bk222_73, bk222_83, bk222_92, bk222_102, bk222_119, bk222_131, bk222_150, bk222_159, bk222_166, bk222_177, bk222_181, bk222_182, bk222_189, bk222_192, bk222_198, bk222_214, bk222_217, bk222_224, bk222_229, bk222_254, bk222_259, bk222_265, bk222_281, bk222_284, bk222_291, bk222_294, bk222_300, bk222_333, bk222_344, bk222_350, U_aload_n, U_invokevirtual0, U_getfield, U_iconst, U_iald, U_istore_n, U_iload_n, U_icmp_ge, U_imul, U_iadd, U_iinc, U_goto, U_if_ge, U_ireturn, U_idiv, U_icmp_lt, U_isub, U_putfield, U_istore, U_iload, U_if_ne, U_if_le, U_invokevirtual1, U_bipush, U_iast, U_invokevirtual2, U_icmp_le, UN_cc, UN_cn, UN_nc, UN_nn, UJ, lget, lset, lset2, entL, wsm, wcat, Option.toList_some, Option.toList_none, List.cons_append, List.nil_append, List.mem_cons, List.not_mem_nil, Prod.mk.injEq, or_false, false_or, or_true, true_or, and_true, true_and, and_false, false_and, and_self, ne_eq, not_false_eq_true, not_true_eq_false, forall_const, true_implies, false_implies, Nat.add_zero, Nat.zero_add, Nat.le_refl, Nat.zero_le, List.set_cons_zero, List.set_cons_succ, List.set_nil, ↓reduceIte, Nat.reduceAdd, Nat.reduceSub, Nat.reduceEqDiff, Nat.reduceLeDiff, Int.reduceEq, Int.reduceNe, Int.reduceNeg, reduceCtorEq]
    repeat' (first | refine And.intro (by omega) ?_ | refine And.intro (rr (by omega)) ?_ | refine And.intro (r3 (by omega)) ?_ | refine And.intro (r6 (by omega)) ?_ | ((fail_if_success (show WP _ _ _ _ _ _ _ _)); (first | refine And.intro ?_ ?_ | intro _)))
    all_goals first | (exfalso; omega) | exact nx
  | succ n ih =>
    intro k Ni hk hF hA
    have hz' := hF.fz (fzk rfl rfl) hz
    have nx : ∀ v : Int, v = cs 1 k → WP 222 (0, 0) 159 [(2, 190), a, b, c, d, e, (0, h), (0, ((k + 1 : Nat) : Int)), i] [] NN (ust Ni 213 (k : Int) v) Q := fun v hv => by
      refine ih (k + 1) _ (by omega) (hF.us _ _ (by simp) (by decide)) (fun l hl => ?_)
      rw [ust_at]
      by_cases q : l = k
      · rw [if_pos (by omega), hv, q]
      · rw [if_neg (by omega)]; exact hA l (by omega)
    unfold cs at nx
    by_cases q : k = 0
    · rw [if_pos q] at nx
      refine WP.run [(222, 159), (222, 189)] [] 60 ?_
      simp only [bk222_0, bk222_13, bk222_21, bk222_38, bk222_42, bk222_44, bk222_59, bk222_72, bk222_73, bk222_83, bk222_92, bk222_102, bk222_119, bk222_131, bk222_150, bk222_159, bk222_166, bk222_177, bk222_181, bk222_182, bk222_189, bk222_192, bk222_198, bk222_214, bk222_217, bk222_224, bk222_229, bk222_254, bk222_259, bk222_265, bk222_281, bk222_284, bk222_291, bk222_294, bk222_300, bk222_333, bk222_344, bk222_350, U_aload_n, U_invokevirtual0, U_getfield, U_iconst, U_iald, U_istore_n, U_iload_n, U_icmp_ge, U_imul, U_iadd, U_iinc, U_goto, U_if_ge, U_ireturn, U_idiv, U_icmp_lt, U_isub, U_putfield, U_istore, U_iload, U_if_ne, U_if_le, U_invokevirtual1, U_bipush, U_iast, U_invokevirtual2, U_icmp_le, UN_cc, UN_cn, UN_nc, UN_nn, UJ, lget, lset, lset2, entL, wsm, wcat, Option.toList_some, Option.toList_none, List.cons_append, List.nil_append, List.mem_cons, List.not_mem_nil, Prod.mk.injEq, or_false, false_or, or_true, true_or, and_true, true_and, and_false, false_and, and_self, ne_eq, not_false_eq_true, not_true_eq_false, forall_const, true_implies, false_implies, Nat.add_zero, Nat.zero_add, Nat.le_refl, Nat.zero_le, List.set_cons_zero, List.set_cons_succ, List.set_nil, ↓reduceIte, Nat.reduceAdd, Nat.reduceSub, Nat.reduceEqDiff, Nat.reduceLeDiff, Int.reduceEq, Int.reduceNe, Int.reduceNeg, reduceCtorEq, kd190, kd213, ln213, z190_30 hz']
      repeat' (first | refine And.intro (by omega) ?_ | refine And.intro (rr (by omega)) ?_ | refine And.intro (r3 (by omega)) ?_ | refine And.intro (r6 (by omega)) ?_ | ((fail_if_success (show WP _ _ _ _ _ _ _ _)); (first | refine And.intro ?_ ?_ | intro _)))
      all_goals first | (exfalso; omega) | exact nx _ rfl
    · rw [if_neg q] at nx
      refine WP.run [(222, 159), (222, 189)] [] 60 ?_
      simp only [bk222_0, bk222_13, bk222_21, bk222_38, bk222_42, bk222_44, bk222_59, bk222_72, bk222_73, bk222_83, bk222_92, bk222_102, bk222_119, bk222_131, bk222_150, bk222_159, bk222_166, bk222_177, bk222_181, bk222_182, bk222_189, bk222_192, bk222_198, bk222_214, bk222_217, bk222_224, bk222_229, bk222_254, bk222_259, bk222_265, bk222_281, bk222_284, bk222_291, bk222_294, bk222_300, bk222_333, bk222_344, bk222_350, U_aload_n, U_invokevirtual0, U_getfield, U_iconst, U_iald, U_istore_n, U_iload_n, U_icmp_ge, U_imul, U_iadd, U_iinc, U_goto, U_if_ge, U_ireturn, U_idiv, U_icmp_lt, U_isub, U_putfield, U_istore, U_iload, U_if_ne, U_if_le, U_invokevirtual1, U_bipush, U_iast, U_invokevirtual2, U_icmp_le, UN_cc, UN_cn, UN_nc, UN_nn, UJ, lget, lset, lset2, entL, wsm, wcat, Option.toList_some, Option.toList_none, List.cons_append, List.nil_append, List.mem_cons, List.not_mem_nil, Prod.mk.injEq, or_false, false_or, or_true, true_or, and_true, true_and, and_false, false_and, and_self, ne_eq, not_false_eq_true, not_true_eq_false, forall_const, true_implies, false_implies, Nat.add_zero, Nat.zero_add, Nat.le_refl, Nat.zero_le, List.set_cons_zero, List.set_cons_succ, List.set_nil, ↓reduceIte, Nat.reduceAdd, Nat.reduceSub, Nat.reduceEqDiff, Nat.reduceLeDiff, Int.reduceEq, Int.reduceNe, Int.reduceNeg, reduceCtorEq, kd190, kd213, ln213, z190_30 hz']
      repeat' (first | refine And.intro (by omega) ?_ | refine And.intro (rr (by omega)) ?_ | refine And.intro (r3 (by omega)) ?_ | refine And.intro (r6 (by omega)) ?_ | ((fail_if_success (show WP _ _ _ _ _ _ _ _)); (first | refine And.intro ?_ ?_ | intro _)))
      all_goals first | (exfalso; omega) | exact nx _ rfl
/-- the rows behind a first one -/
def RwS (p : Int) (X r0 : Nat → Int) (N : Mem) (s m : Nat) : Prop := ∀ i, i < m → RwX N (s + i) (xrw p X r0 i)
set_option maxHeartbeats 16000000 in
theorem l_w2 {p : Int} {N : Mem} {Q : Post} {X : Nat → Int} {n1 : Nat} {a c d e i : V} {h : Int} (hp : Pr p) (hz : Fz N) (h0 : N 190 0 = p) (hX : ∀ k : Nat, k < 8 → N 209 (k : Int) = X k ∧ 0 ≤ X k ∧ X k < p) (h1 : n1 ≤ 200) (hQ : ∀ N', FM [212, 213] [] N N' → RwS p X (cs 1) N' 0 n1 → ∀ x : V, WP 222 (0, 0) 214 [(2, 190), a, (0, (n1 : Int)), c, d, e, (0, h), x, i] [] NN N' Q) :
    ∀ (n k : Nat) (Ni : Mem), k + n = n1 → 1 ≤ k → FM [212, 213] [] N Ni → RwS p X (cs 1) Ni 0 k → WP 222 (0, 0) 192 [(2, 190), a, (0, (n1 : Int)), c, d, e, (0, h), (0, (k : Int)), i] [] NN Ni Q := by
  intro n
  induction n with
  | zero =>
    intro k Ni hk k1 hF hA
    obtain rfl : k = n1 := by omega
    have nx := hQ Ni hF hA (0, (k : Int))
    refine WP.run [(222, 192), (222, 214)] [] 60 ?_
    simp only [bk222_0, bk222_13, bk222_21, bk222_38, bk222_42, bk222_44, bk222_59, bk222_72, bk222_73, bk222_83, bk222_92, bk222_102, bk222_119, bk222_131, bk222_150, bk222_159, bk222_166, bk222_177, bk222_181, bk222_182, bk222_189, bk222_192, bk222_198, bk222_214, bk222_217, bk222_224, bk222_229, bk222_254, bk222_259, bk222_265, bk222_281, bk222_284, bk222_291, bk222_294, bk222_300, bk222_333, bk222_344, bk222_350, U_aload_n, U_invokevirtual0, U_getfield, U_iconst, U_iald, U_istore_n, U_iload_n, U_icmp_ge, U_imul, U_iadd, U_iinc, U_goto, U_if_ge, U_ireturn, U_idiv, U_icmp_lt, U_isub, U_putfield, U_istore, U_iload, U_if_ne, U_if_le, U_invokevirtual1, U_bipush, U_iast, U_invokevirtual2, U_icmp_le, UN_cc, UN_cn, UN_nc, UN_nn, UJ, lget, lset, lset2, entL, wsm, wcat, Option.toList_some, Option.toList_none, List.cons_append, List.nil_append, List.mem_cons, List.not_mem_nil, Prod.mk.injEq, or_false, false_or, or_true, true_or, and_true, true_and, and_false, false_and, and_self, ne_eq, not_false_eq_true, not_true_eq_false, forall_const, true_implies, false_implies, Nat.add_zero, Nat.zero_add, Nat.le_refl, Nat.zero_le, List.set_cons_zero, List.set_cons_succ, List.set_nil, ↓reduceIte, Nat.reduceAdd, Nat.reduceSub, Nat.reduceEqDiff, Nat.reduceLeDiff, Int.reduceEq, Int.reduceNe, Int.reduceNeg, reduceCtorEq]
    repeat' (first | refine And.intro (by omega) ?_ | refine And.intro (rr (by omega)) ?_ | refine And.intro (r3 (by omega)) ?_ | refine And.intro (r6 (by omega)) ?_ | ((fail_if_success (show WP _ _ _ _ _ _ _ _)); (first | refine And.intro ?_ ?_ | intro _)))
    all_goals first | (exfalso; omega) | exact nx
  | succ n ih =>
    intro k Ni hk k1 hF hA
    have hz' := hF.fz (fzk rfl rfl) hz
    have hP := hF.2 0 (by simp)
    rw [h0] at hP
    have hr := hA (k - 1) (by omega)
    rw [Nat.zero_add] at hr
    have e1 : (k : Int) - 1 = ((k - 1 : Nat) : Int) := by omega
    refine WP.run [(222, 192), (222, 214)] [] 60 ?_
    simp only [bk222_0, bk222_13, bk222_21, bk222_38, bk222_42, bk222_44, bk222_59, bk222_72, bk222_73, bk222_83, bk222_92, bk222_102, bk222_119, bk222_131, bk222_150, bk222_159, bk222_166, bk222_177, bk222_181, bk222_182, bk222_189, bk222_192, bk222_198, bk222_214, bk222_217, bk222_224, bk222_229, bk222_254, bk222_259, bk222_265, bk222_281, bk222_284, bk222_291, bk222_294, bk222_300, bk222_333, bk222_344, bk222_350, U_aload_n, U_invokevirtual0, U_getfield, U_iconst, U_iald, U_istore_n, U_iload_n, U_icmp_ge, U_imul, U_iadd, U_iinc, U_goto, U_if_ge, U_ireturn, U_idiv, U_icmp_lt, U_isub, U_putfield, U_istore, U_iload, U_if_ne, U_if_le, U_invokevirtual1, U_bipush, U_iast, U_invokevirtual2, U_icmp_le, UN_cc, UN_cn, UN_nc, UN_nn, UJ, lget, lset, lset2, entL, wsm, wcat, Option.toList_some, Option.toList_none, List.cons_append, List.nil_append, List.mem_cons, List.not_mem_nil, Prod.mk.injEq, or_false, false_or, or_true, true_or, and_true, true_and, and_false, false_and, and_self, ne_eq, not_false_eq_true, not_true_eq_false, forall_const, true_implies, false_implies, Nat.add_zero, Nat.zero_add, Nat.le_refl, Nat.zero_le, List.set_cons_zero, List.set_cons_succ, List.set_nil, ↓reduceIte, Nat.reduceAdd, Nat.reduceSub, Nat.reduceEqDiff, Nat.reduceLeDiff, Int.reduceEq, Int.reduceNe, Int.reduceNeg, reduceCtorEq, kd190]
    rw [e1]
    repeat' (first | refine And.intro (by omega) ?_ | refine And.intro (rr (by omega)) ?_ | refine And.intro (r3 (by omega)) ?_ | refine And.intro (r6 (by omega)) ?_ | ((fail_if_success (show WP _ _ _ _ _ _ _ _)); (first | refine And.intro ?_ ?_ | intro _)))
    all_goals first | (exfalso; omega) | skip
    refine m_timesX (X := X) hp hz' hP (by omega) (by omega) hr (xrw_rg hp (cs1_rg hp) _) (fun l hl => by rw [hF.1 209 (by decide) (by decide)]; exact hX l hl) (fun N2 F2 g1 g2 => ?_)
    simp only [bk222_0, bk222_13, bk222_21, bk222_38, bk222_42, bk222_44, bk222_59, bk222_72, bk222_73, bk222_83, bk222_92, bk222_102, bk222_119, bk222_131, bk222_150, bk222_159, bk222_166, bk222_177, bk222_181, bk222_182, bk222_189, bk222_192, bk222_198, bk222_214, bk222_217, bk222_224, bk222_229, bk222_254, bk222_259, bk222_265, bk222_281, bk222_284, bk222_291, bk222_294, bk222_300, bk222_333, bk222_344, bk222_350, U_aload_n, U_invokevirtual0, U_getfield, U_iconst, U_iald, U_istore_n, U_iload_n, U_icmp_ge, U_imul, U_iadd, U_iinc, U_goto, U_if_ge, U_ireturn, U_idiv, U_icmp_lt, U_isub, U_putfield, U_istore, U_iload, U_if_ne, U_if_le, U_invokevirtual1, U_bipush, U_iast, U_invokevirtual2, U_icmp_le, UN_cc, UN_cn, UN_nc, UN_nn, UJ, lget, lset, lset2, entL, wsm, wcat, Option.toList_some, Option.toList_none, List.cons_append, List.nil_append, List.mem_cons, List.not_mem_nil, Prod.mk.injEq, or_false, false_or, or_true, true_or, and_true, true_and, and_false, false_and, and_self, ne_eq, not_false_eq_true, not_true_eq_false, forall_const, true_implies, false_implies, Nat.add_zero, Nat.zero_add, Nat.le_refl, Nat.zero_le, List.set_cons_zero, List.set_cons_succ, List.set_nil, ↓reduceIte, Nat.reduceAdd, Nat.reduceSub, Nat.reduceEqDiff, Nat.reduceLeDiff, Int.reduceEq, Int.reduceNe, Int.reduceNeg, reduceCtorEq]
    have nx : WP 222 (0, 0) 192 [(2, 190), a, (0, (n1 : Int)), c, d, e, (0, h), (0, ((k + 1 : Nat) : Int)), i] [] NN N2 Q := ih (k + 1) N2 (by omega) (by omega) (hF.tr F2) (fun m hm => by
      rw [Nat.zero_add]
      by_cases q : m = k
      · obtain ⟨k', rfl⟩ : ∃ k', k = k' + 1 := ⟨k - 1, by omega⟩
        rw [q]; exact g1
      · intro l hl
        rw [g2 m q l hl]
        have := hA m (by omega)
        rw [Nat.zero_add] at this
        exact this l hl)
    repeat' (first | refine And.intro (by omega) ?_ | refine And.intro (rr (by omega)) ?_ | refine And.intro (r3 (by omega)) ?_ | refine And.intro (r6 (by omega)) ?_ | ((fail_if_success (show WP _ _ _ _ _ _ _ _)); (first | refine And.intro ?_ ?_ | intro _)))
    all_goals first | (exfalso; omega) | exact nx
set_option maxHeartbeats 16000000 in
theorem l_w4 {p : Int} {N : Mem} {Q : Post} {X r0 : Nat → Int} {n1 n2 : Nat} {a d e i : V} {h : Int} (hp : Pr p) (hz : Fz N) (h0 : N 190 0 = p) (hX : ∀ k : Nat, k < 8 → N 209 (k : Int) = X k ∧ 0 ≤ X k ∧ X k < p) (hr0 : ∀ k, 0 ≤ r0 k ∧ r0 k < p) (h1 : n1 + n2 ≤ 200) (hQ : ∀ N', FM [212, 213] [] N N' → RwS p X r0 N' n1 n2 → (∀ m, m < n1 → ∀ l : Nat, l < 8 → N' 213 (((8 * m : Nat) : Int) + (l : Int)) = N 213 (((8 * m : Nat) : Int) + (l : Int))) → ∀ x : V, WP 222 (0, 0) 281 [(2, 190), a, (0, (n1 : Int)), (0, ((n1 + n2 : Nat) : Int)), d, e, (0, h), x, i] [] NN N' Q) :
    ∀ (n k : Nat) (Ni : Mem), (k + n = n2 ∨ (n2 = 0 ∧ n = 0)) → 1 ≤ k → k ≤ n2 + 1 → FM [212, 213] [] N Ni → RwS p X r0 Ni n1 (min k n2) → (∀ m, m < n1 → ∀ l : Nat, l < 8 → Ni 213 (((8 * m : Nat) : Int) + (l : Int)) = N 213 (((8 * m : Nat) : Int) + (l : Int))) → WP 222 (0, 0) 259 [(2, 190), a, (0, (n1 : Int)), (0, ((n1 + n2 : Nat) : Int)), d, e, (0, h), (0, ((n1 + k : Nat) : Int)), i] [] NN Ni Q := by
  intro n
  induction n with
  | zero =>
    intro k Ni hk k1 k2 hF hA hB
    have nx := hQ Ni hF (by rw [show min k n2 = n2 by omega] at hA; exact hA) hB (0, ((n1 + k : Nat) : Int))
    refine WP.run [(222, 259), (222, 281)] [] 60 ?_
    simp only [bk222_0, bk222_13, bk222_21, bk222_38, bk222_42, bk222_44, bk222_59, bk222_72, bk222_73, bk222_83, bk222_92, bk222_102, bk222_119, bk222_131, bk222_150, bk222_159, bk222_166, bk222_177, bk222_181, bk222_182, bk222_189, bk222_192, bk222_198, bk222_214, bk222_217, bk222_224, bk222_229, bk222_254, bk222_259, bk222_265, bk222_281, bk222_284, bk222_291, bk222_294, bk222_300, bk222_333, bk222_344, bk222_350, U_aload_n, U_invokevirtual0, U_getfield, U_iconst, U_iald, U_istore_n, U_iload_n, U_icmp_ge, U_imul, U_iadd, U_iinc, U_goto, U_if_ge, U_ireturn, U_idiv, U_icmp_lt, U_isub, U_putfield, U_istore, U_iload, U_if_ne, U_if_le, U_invokevirtual1, U_bipush, U_iast, U_invokevirtual2, U_icmp_le, UN_cc, UN_cn, UN_nc, UN_nn, UJ, lget, lset, lset2, entL, wsm, wcat, Option.toList_some, Option.toList_none, List.cons_append, List.nil_append, List.mem_cons, List.not_mem_nil, Prod.mk.injEq, or_false, false_or, or_true, true_or, and_true, true_and, and_false, false_and, and_self, ne_eq, not_false_eq_true, not_true_eq_false, forall_const, true_implies, false_implies, Nat.add_zero, Nat.zero_add, Nat.le_refl, Nat.zero_le, List.set_cons_zero, List.set_cons_succ, List.set_nil, ↓reduceIte, Nat.reduceAdd, Nat.reduceSub, Nat.reduceEqDiff, Nat.reduceLeDiff, Int.reduceEq, Int.reduceNe, Int.reduceNeg, reduceCtorEq]
    repeat' (first | refine And.intro (by omega) ?_ | refine And.intro (rr (by omega)) ?_ | refine And.intro (r3 (by omega)) ?_ | refine And.intro (r6 (by omega)) ?_ | ((fail_if_success (show WP _ _ _ _ _ _ _ _)); (first | refine And.intro ?_ ?_ | intro _)))
    all_goals first | (exfalso; omega) | exact nx
  | succ n ih =>
    intro k Ni hk k1 k2 hF hA hB
    have hz' := hF.fz (fzk rfl rfl) hz
    have hP := hF.2 0 (by simp)
    rw [h0] at hP
    have hr := hA (k - 1) (by omega)
    have e1 : ((n1 + k : Nat) : Int) - 1 = ((n1 + (k - 1) : Nat) : Int) := by omega
    refine WP.run [(222, 259), (222, 281)] [] 60 ?_
    simp only [bk222_0, bk222_13, bk222_21, bk222_38, bk222_42, bk222_44, bk222_59, bk222_72, bk222_73, bk222_83, bk222_92, bk222_102, bk222_119, bk222_131, bk222_150, bk222_159, bk222_166, bk222_177, bk222_181, bk222_182, bk222_189, bk222_192, bk222_198, bk222_214, bk222_217, bk222_224, bk222_229, bk222_254, bk222_259, bk222_265, bk222_281, bk222_284, bk222_291, bk222_294, bk222_300, bk222_333, bk222_344, bk222_350, U_aload_n, U_invokevirtual0, U_getfield, U_iconst, U_iald, U_istore_n, U_iload_n, U_icmp_ge, U_imul, U_iadd, U_iinc, U_goto, U_if_ge, U_ireturn, U_idiv, U_icmp_lt, U_isub, U_putfield, U_istore, U_iload, U_if_ne, U_if_le, U_invokevirtual1, U_bipush, U_iast, U_invokevirtual2, U_icmp_le, UN_cc, UN_cn, UN_nc, UN_nn, UJ, lget, lset, lset2, entL, wsm, wcat, Option.toList_some, Option.toList_none, List.cons_append, List.nil_append, List.mem_cons, List.not_mem_nil, Prod.mk.injEq, or_false, false_or, or_true, true_or, and_true, true_and, and_false, false_and, and_self, ne_eq, not_false_eq_true, not_true_eq_false, forall_const, true_implies, false_implies, Nat.add_zero, Nat.zero_add, Nat.le_refl, Nat.zero_le, List.set_cons_zero, List.set_cons_succ, List.set_nil, ↓reduceIte, Nat.reduceAdd, Nat.reduceSub, Nat.reduceEqDiff, Nat.reduceLeDiff, Int.reduceEq, Int.reduceNe, Int.reduceNeg, reduceCtorEq, kd190]
    rw [e1]
    repeat' (first | refine And.intro (by omega) ?_ | refine And.intro (rr (by omega)) ?_ | refine And.intro (r3 (by omega)) ?_ | refine And.intro (r6 (by omega)) ?_ | ((fail_if_success (show WP _ _ _ _ _ _ _ _)); (first | refine And.intro ?_ ?_ | intro _)))
    all_goals first | (exfalso; omega) | skip
    refine m_timesX (X := X) hp hz' hP (by omega) (by omega) hr (xrw_rg hp hr0 _) (fun l hl => by rw [hF.1 209 (by decide) (by decide)]; exact hX l hl) (fun N2 F2 g1 g2 => ?_)
    simp only [bk222_0, bk222_13, bk222_21, bk222_38, bk222_42, bk222_44, bk222_59, bk222_72, bk222_73, bk222_83, bk222_92, bk222_102, bk222_119, bk222_131, bk222_150, bk222_159, bk222_166, bk222_177, bk222_181, bk222_182, bk222_189, bk222_192, bk222_198, bk222_214, bk222_217, bk222_224, bk222_229, bk222_254, bk222_259, bk222_265, bk222_281, bk222_284, bk222_291, bk222_294, bk222_300, bk222_333, bk222_344, bk222_350, U_aload_n, U_invokevirtual0, U_getfield, U_iconst, U_iald, U_istore_n, U_iload_n, U_icmp_ge, U_imul, U_iadd, U_iinc, U_goto, U_if_ge, U_ireturn, U_idiv, U_icmp_lt, U_isub, U_putfield, U_istore, U_iload, U_if_ne, U_if_le, U_invokevirtual1, U_bipush, U_iast, U_invokevirtual2, U_icmp_le, UN_cc, UN_cn, UN_nc, UN_nn, UJ, lget, lset, lset2, entL, wsm, wcat, Option.toList_some, Option.toList_none, List.cons_append, List.nil_append, List.mem_cons, List.not_mem_nil, Prod.mk.injEq, or_false, false_or, or_true, true_or, and_true, true_and, and_false, false_and, and_self, ne_eq, not_false_eq_true, not_true_eq_false, forall_const, true_implies, false_implies, Nat.add_zero, Nat.zero_add, Nat.le_refl, Nat.zero_le, List.set_cons_zero, List.set_cons_succ, List.set_nil, ↓reduceIte, Nat.reduceAdd, Nat.reduceSub, Nat.reduceEqDiff, Nat.reduceLeDiff, Int.reduceEq, Int.reduceNe, Int.reduceNeg, reduceCtorEq]
    have nx : WP 222 (0, 0) 259 [(2, 190), a, (0, (n1 : Int)), (0, ((n1 + n2 : Nat) : Int)), d, e, (0, h), (0, ((n1 + (k + 1) : Nat) : Int)), i] [] NN N2 Q := ih (k + 1) N2 (by omega) (by omega) (by omega) (hF.tr F2) (fun m hm => by
      by_cases q : m = k
      · obtain ⟨k', rfl⟩ : ∃ k', k = k' + 1 := ⟨k - 1, by omega⟩
        rw [q]; exact g1
      · intro l hl
        rw [g2 (n1 + m) (by omega) l hl]
        exact hA m (by omega) l hl) (fun m hm l hl => by rw [g2 m (by omega) l hl]; exact hB m hm l hl)
    rw [show ((n1 + (k + 1) : Nat) : Int) = ((n1 + k : Nat) : Int) + 1 by omega] at nx
    repeat' (first | refine And.intro (by omega) ?_ | refine And.intro (rr (by omega)) ?_ | refine And.intro (r3 (by omega)) ?_ | refine And.intro (r6 (by omega)) ?_ | ((fail_if_success (show WP _ _ _ _ _ _ _ _)); (first | refine And.intro ?_ ?_ | intro _)))
    all_goals first | (exfalso; omega) | exact nx
