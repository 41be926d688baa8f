/-! THE MODEL'S COUNT OVER P P: the loops -/
set_option maxHeartbeats 8000000 in
theorem l_ppV {p : Int} {N : Mem} {μ : Int → Option (Pz p)} {Q : Post} {f : Pz p} {s x : Int} {w5 : V} (h : MT p N μ) (h0 : μ 0 = some f) (hm : N 190 14 = nsq p) (hx : 0 ≤ x ∧ x < p * p) (hQ : ∀ i : Int, WP 181 (0, 0) 113 [(2, 190), (0, s), (0, swp p x), (0, swp p (hv p (nsq p) x (dg f) f.1)), (0, i), w5] [] NN N Q) : ∀ (n : Nat) (i w : Int), i + 1 = n → n ≤ dg f → w = swp p (hv p (nsq p) x (dg f - n) (fun k => f.1 (k + n))) → WP 181 (0, 0) 63 [(2, 190), (0, s), (0, swp p x), (0, w), (0, i), w5] [] NN N Q := by
  have hp := h.2.1
  have hpp := hp.pos
  have d24 := (h.2.2.2.2 0 f h0).2.2.1
  have hn2 : 0 ≤ nsq p ∧ nsq p < 13 := by unfold nsq; split <;> omega
  have hpq : p * p ≤ 169 := by rcases hp with rfl | rfl | rfl | rfl | rfl <;> decide
  intro n
  induction n with
  | zero =>
    intro i w h1 h2 h3
    refine WP.run [(181, 63), (181, 113)] [] 60 ?_
    simp only [bk181_0, bk181_5, bk181_25, bk181_38, bk181_42, bk181_55, bk181_63, bk181_68, bk181_113, bk181_122, bk181_140, bk181_155, bk181_160, bk181_164, bk181_173, bk181_177, bk181_178, bk181_186, U_aload_n, U_iconst, U_putfield, U_getfield, U_isub, U_idiv, U_invokevirtual2, U_icmp_ne, U_dup, U_iadd, U_goto, U_istore_n, U_iload_n, U_imul, U_icmp_ge, U_istore, U_iload, U_if_lt, U_irem, U_iinc, U_if_ne, U_ireturn, UN_cc, UN_cn, UN_nc, UN_nn, UJ, lget, lset, lset2, entL, wsm, wcat, Option.toList_some, Option.toList_none, List.cons_append, List.nil_append, List.mem_cons, List.not_mem_nil, Prod.mk.injEq, or_false, false_or, or_true, true_or, and_true, true_and, and_false, false_and, and_self, ne_eq, not_false_eq_true, not_true_eq_false, forall_const, true_implies, false_implies, Nat.add_zero, Nat.zero_add, Nat.le_refl, Nat.zero_le, List.set_cons_zero, List.set_cons_succ, List.set_nil, ↓reduceIte, Nat.reduceAdd, Nat.reduceSub, Nat.reduceEqDiff, Nat.reduceLeDiff, Int.reduceEq, Int.reduceNe, Int.reduceNeg, reduceCtorEq]
    refine ⟨r3 (by omega), fun _ => ?_, fun h => by omega⟩
    rw [h3]; exact hQ i
  | succ n ih =>
    intro i w h1 h2 h3
    have hw := hv_rg hp (nsq p) x (dg f - (n + 1)) (fun k => f.1 (k + (n + 1)))
    have hws := swp_dg hp hw
    have hxs := swp_dg hp hx
    have ht := wtc_rg hp (nsq p) (hv p (nsq p) x (dg f - (n + 1)) (fun k => f.1 (k + (n + 1)))) x
    have hts := swp_dg hp ht
    have hin : i.toNat = n := by omega
    have hfi := pz_rg hp f n
    refine WP.run [(181, 63), (181, 113)] [] 60 ?_
    simp only [bk181_0, bk181_5, bk181_25, bk181_38, bk181_42, bk181_55, bk181_63, bk181_68, bk181_113, bk181_122, bk181_140, bk181_155, bk181_160, bk181_164, bk181_173, bk181_177, bk181_178, bk181_186, U_aload_n, U_iconst, U_putfield, U_getfield, U_isub, U_idiv, U_invokevirtual2, U_icmp_ne, U_dup, U_iadd, U_goto, U_istore_n, U_iload_n, U_imul, U_icmp_ge, U_istore, U_iload, U_if_lt, U_irem, U_iinc, U_if_ne, U_ireturn, UN_cc, UN_cn, UN_nc, UN_nn, UJ, lget, lset, lset2, entL, wsm, wcat, Option.toList_some, Option.toList_none, List.cons_append, List.nil_append, List.mem_cons, List.not_mem_nil, Prod.mk.injEq, or_false, false_or, or_true, true_or, and_true, true_and, and_false, false_and, and_self, ne_eq, not_false_eq_true, not_true_eq_false, forall_const, true_implies, false_implies, Nat.add_zero, Nat.zero_add, Nat.le_refl, Nat.zero_le, List.set_cons_zero, List.set_cons_succ, List.set_nil, ↓reduceIte, Nat.reduceAdd, Nat.reduceSub, Nat.reduceEqDiff, Nat.reduceLeDiff, Int.reduceEq, Int.reduceNe, Int.reduceNeg, reduceCtorEq, kd190]
    refine ⟨r3 (by omega), fun h => by omega, fun _ => m_pairT hp h.2.2.1 hm hn2 (by rw [h3]; exact hws.2.2) hxs.2.2 ?_⟩
    rw [h3, pT_swp hp hw hx]
    simp only [bk181_0, bk181_5, bk181_25, bk181_38, bk181_42, bk181_55, bk181_63, bk181_68, bk181_113, bk181_122, bk181_140, bk181_155, bk181_160, bk181_164, bk181_173, bk181_177, bk181_178, bk181_186, U_aload_n, U_iconst, U_putfield, U_getfield, U_isub, U_idiv, U_invokevirtual2, U_icmp_ne, U_dup, U_iadd, U_goto, U_istore_n, U_iload_n, U_imul, U_icmp_ge, U_istore, U_iload, U_if_lt, U_irem, U_iinc, U_if_ne, U_ireturn, UN_cc, UN_cn, UN_nc, UN_nn, UJ, lget, lset, lset2, entL, wsm, wcat, Option.toList_some, Option.toList_none, List.cons_append, List.nil_append, List.mem_cons, List.not_mem_nil, Prod.mk.injEq, or_false, false_or, or_true, true_or, and_true, true_and, and_false, false_and, and_self, ne_eq, not_false_eq_true, not_true_eq_false, forall_const, true_implies, false_implies, Nat.add_zero, Nat.zero_add, Nat.le_refl, Nat.zero_le, List.set_cons_zero, List.set_cons_succ, List.set_nil, ↓reduceIte, Nat.reduceAdd, Nat.reduceSub, Nat.reduceEqDiff, Nat.reduceLeDiff, Int.reduceEq, Int.reduceNe, Int.reduceNeg, reduceCtorEq, kd190, h.2.2.1]
    rw [Int.tdiv_eq_ediv_of_nonneg hts.2.2.1]
    refine ⟨r3 (by omega), r3 (by omega), by omega, m_get h h0 (r3 (by omega)) ?_⟩
    rw [if_pos (by omega), hin]
    simp only [bk181_0, bk181_5, bk181_25, bk181_38, bk181_42, bk181_55, bk181_63, bk181_68, bk181_113, bk181_122, bk181_140, bk181_155, bk181_160, bk181_164, bk181_173, bk181_177, bk181_178, bk181_186, U_aload_n, U_iconst, U_putfield, U_getfield, U_isub, U_idiv, U_invokevirtual2, U_icmp_ne, U_dup, U_iadd, U_goto, U_istore_n, U_iload_n, U_imul, U_icmp_ge, U_istore, U_iload, U_if_lt, U_irem, U_iinc, U_if_ne, U_ireturn, UN_cc, UN_cn, UN_nc, UN_nn, UJ, lget, lset, lset2, entL, wsm, wcat, Option.toList_some, Option.toList_none, List.cons_append, List.nil_append, List.mem_cons, List.not_mem_nil, Prod.mk.injEq, or_false, false_or, or_true, true_or, and_true, true_and, and_false, false_and, and_self, ne_eq, not_false_eq_true, not_true_eq_false, forall_const, true_implies, false_implies, Nat.add_zero, Nat.zero_add, Nat.le_refl, Nat.zero_le, List.set_cons_zero, List.set_cons_succ, List.set_nil, ↓reduceIte, Nat.reduceAdd, Nat.reduceSub, Nat.reduceEqDiff, Nat.reduceLeDiff, Int.reduceEq, Int.reduceNe, Int.reduceNeg, reduceCtorEq, kd190, h.2.2.1]
    rw [tm_nn (show 0 ≤ swp p (wtc p (nsq p) (hv p (nsq p) x (dg f - (n + 1)) (fun k => f.1 (k + (n + 1)))) x) / p + f.1 n by rw [hts.1]; have := Int.emod_nonneg (wtc p (nsq p) (hv p (nsq p) x (dg f - (n + 1)) (fun k => f.1 (k + (n + 1)))) x) (show p ≠ 0 by omega); omega), tm_nn hts.2.2.1, wpl_swp hp ht]
    have q1 := Int.emod_nonneg (wtc p (nsq p) (hv p (nsq p) x (dg f - (n + 1)) (fun k => f.1 (k + (n + 1)))) x) (show p ≠ 0 by omega)
    have q2 := Int.emod_lt_of_pos (wtc p (nsq p) (hv p (nsq p) x (dg f - (n + 1)) (fun k => f.1 (k + (n + 1)))) x) (show 0 < p by omega)
    have q3 := hts.1
    have q4 := hts.2.2
    refine ⟨r3 (by omega), r3 (by omega), by omega, r3 (by omega), r3 (by omega), by omega, ?_⟩
    refine ih (i + -1) _ (by omega) (by omega) ?_
    have e : dg f - n = (dg f - (n + 1)) + 1 := by omega
    rw [e]
    show _ = swp p (wpl p (wtc p (nsq p) (hv p (nsq p) x (dg f - (n + 1)) (sh fun k => f.1 (k + n))) x) (f.1 (0 + n)))
    have e2 : (sh fun k => f.1 (k + n)) = fun k => f.1 (k + (n + 1)) := funext fun k => by show f.1 (k + 1 + n) = f.1 (k + (n + 1)); rw [show k + 1 + n = k + (n + 1) by omega]
    rw [e2, Nat.zero_add]
theorem prt_rg {p m v : Int} (hp : Pr p) : ∀ k, 0 ≤ prt p m v k ∧ prt p m v k < p * p
  | 0 => by
    have hpp := hp.pos
    show 0 ≤ p ∧ p < p * p
    rcases hp with rfl | rfl | rfl | rfl | rfl <;> decide
  | k + 1 => pT_rg hp
set_option maxHeartbeats 8000000 in
theorem l_ppR {p : Int} {N : Mem} {Q : Post} {s x v : Int} {m : Nat} (hp : Pr p) (h0 : N 190 0 = p) (hm : N 190 14 = nsq p) (hM : (m : Int) = (p * p - 1) / 2) (hv : 0 ≤ v ∧ v < p * p) (hQ : ∀ k : Int, WP 181 (0, 0) 155 [(2, 190), (0, s), (0, x), (0, v), (0, prt p (nsq p) v m), (0, k)] [] NN N Q) : ∀ (n k : Nat), k + n = m → WP 181 (0, 0) 122 [(2, 190), (0, s), (0, x), (0, v), (0, prt p (nsq p) v k), (0, (k : Int))] [] NN N Q := by
  have hpp := hp.pos
  have hn2 : 0 ≤ nsq p ∧ nsq p < 13 := by unfold nsq; split <;> omega
  have hpq : p * p ≤ 169 ∧ 9 ≤ p * p := by rcases hp with rfl | rfl | rfl | rfl | rfl <;> decide
  have td : (p * p - 1).tdiv 2 = (m : Int) := by rw [hM, Int.tdiv_eq_ediv_of_nonneg (by omega)]
  intro n
  induction n with
  | zero =>
    intro k hk
    obtain rfl : k = m := by omega
    refine WP.run [(181, 122), (181, 155)] [] 60 ?_
    simp only [bk181_0, bk181_5, bk181_25, bk181_38, bk181_42, bk181_55, bk181_63, bk181_68, bk181_113, bk181_122, bk181_140, bk181_155, bk181_160, bk181_164, bk181_173, bk181_177, bk181_178, bk181_186, U_aload_n, U_iconst, U_putfield, U_getfield, U_isub, U_idiv, U_invokevirtual2, U_icmp_ne, U_dup, U_iadd, U_goto, U_istore_n, U_iload_n, U_imul, U_icmp_ge, U_istore, U_iload, U_if_lt, U_irem, U_iinc, U_if_ne, U_ireturn, UN_cc, UN_cn, UN_nc, UN_nn, UJ, lget, lset, lset2, entL, wsm, wcat, Option.toList_some, Option.toList_none, List.cons_append, List.nil_append, List.mem_cons, List.not_mem_nil, Prod.mk.injEq, or_false, false_or, or_true, true_or, and_true, true_and, and_false, false_and, and_self, ne_eq, not_false_eq_true, not_true_eq_false, forall_const, true_implies, false_implies, Nat.add_zero, Nat.zero_add, Nat.le_refl, Nat.zero_le, List.set_cons_zero, List.set_cons_succ, List.set_nil, ↓reduceIte, Nat.reduceAdd, Nat.reduceSub, Nat.reduceEqDiff, Nat.reduceLeDiff, Int.reduceEq, Int.reduceNe, Int.reduceNeg, reduceCtorEq, kd190, h0, td]
    exact ⟨r3 (by omega), r3 (by omega), rr (by omega), fun e => absurd e (by omega), fun _ => hQ _⟩
  | succ n ih =>
    intro k hk
    refine WP.run [(181, 122), (181, 155)] [] 60 ?_
    simp only [bk181_0, bk181_5, bk181_25, bk181_38, bk181_42, bk181_55, bk181_63, bk181_68, bk181_113, bk181_122, bk181_140, bk181_155, bk181_160, bk181_164, bk181_173, bk181_177, bk181_178, bk181_186, U_aload_n, U_iconst, U_putfield, U_getfield, U_isub, U_idiv, U_invokevirtual2, U_icmp_ne, U_dup, U_iadd, U_goto, U_istore_n, U_iload_n, U_imul, U_icmp_ge, U_istore, U_iload, U_if_lt, U_irem, U_iinc, U_if_ne, U_ireturn, UN_cc, UN_cn, UN_nc, UN_nn, UJ, lget, lset, lset2, entL, wsm, wcat, Option.toList_some, Option.toList_none, List.cons_append, List.nil_append, List.mem_cons, List.not_mem_nil, Prod.mk.injEq, or_false, false_or, or_true, true_or, and_true, true_and, and_false, false_and, and_self, ne_eq, not_false_eq_true, not_true_eq_false, forall_const, true_implies, false_implies, Nat.add_zero, Nat.zero_add, Nat.le_refl, Nat.zero_le, List.set_cons_zero, List.set_cons_succ, List.set_nil, ↓reduceIte, Nat.reduceAdd, Nat.reduceSub, Nat.reduceEqDiff, Nat.reduceLeDiff, Int.reduceEq, Int.reduceNe, Int.reduceNeg, reduceCtorEq, kd190, h0, td]
    refine ⟨r3 (by omega), r3 (by omega), rr (by omega), fun _ => m_pairT hp h0 hm hn2 (prt_rg hp k) hv ?_, fun e => absurd (by omega) e⟩
    simp only [bk181_0, bk181_5, bk181_25, bk181_38, bk181_42, bk181_55, bk181_63, bk181_68, bk181_113, bk181_122, bk181_140, bk181_155, bk181_160, bk181_164, bk181_173, bk181_177, bk181_178, bk181_186, U_aload_n, U_iconst, U_putfield, U_getfield, U_isub, U_idiv, U_invokevirtual2, U_icmp_ne, U_dup, U_iadd, U_goto, U_istore_n, U_iload_n, U_imul, U_icmp_ge, U_istore, U_iload, U_if_lt, U_irem, U_iinc, U_if_ne, U_ireturn, UN_cc, UN_cn, UN_nc, UN_nn, UJ, lget, lset, lset2, entL, wsm, wcat, Option.toList_some, Option.toList_none, List.cons_append, List.nil_append, List.mem_cons, List.not_mem_nil, Prod.mk.injEq, or_false, false_or, or_true, true_or, and_true, true_and, and_false, false_and, and_self, ne_eq, not_false_eq_true, not_true_eq_false, forall_const, true_implies, false_implies, Nat.add_zero, Nat.zero_add, Nat.le_refl, Nat.zero_le, List.set_cons_zero, List.set_cons_succ, List.set_nil, ↓reduceIte, Nat.reduceAdd, Nat.reduceSub, Nat.reduceEqDiff, Nat.reduceLeDiff, Int.reduceEq, Int.reduceNe, Int.reduceNeg, reduceCtorEq]
    exact ih (k + 1) (by omega)
/-- roots at number x of the model's writing -/
noncomputable def ppF {p : Int} (f : Pz p) (x : Nat) : Int := rt2 p (nsq p) (swp p (hv p (nsq p) (swp p (x : Int)) (dg f) f.1))
set_option maxHeartbeats 8000000 in
theorem l_ppX {p : Int} {N : Mem} {μ : Int → Option (Pz p)} {Q : Post} {f : Pz p} (h : MT p N μ) (h0 : μ 0 = some f) (hm : N 190 14 = nsq p) (hd : N 190 1 = (dg f : Int) - 1) (hQ : Q (some (0, 1 + isum (ppF f) (p * p).toNat)) NN N) : ∀ (n k : Nat) (a b c : V), k + n = (p * p).toNat → WP 181 (0, 0) 42 [(2, 190), (0, 1 + isum (ppF f) k), (0, (k : Int)), a, b, c] [] NN N Q := by
  have hp := h.2.1
  have hpp := hp.pos
  have d24 := (h.2.2.2.2 0 f h0).2.2.1
  have hpq : p * p ≤ 169 ∧ 9 ≤ p * p := by rcases hp with rfl | rfl | rfl | rfl | rfl <;> decide
  have hrt : ∀ i, 0 ≤ ppF f i ∧ ppF f i ≤ 2 := fun i => by
    unfold ppF rt2
    split
    · omega
    · split <;> omega
  intro n
  induction n with
  | zero =>
    intro k a b c hk
    obtain rfl : k = (p * p).toNat := by omega
    refine WP.run [(181, 42)] [] 60 ?_
    simp only [bk181_0, bk181_5, bk181_25, bk181_38, bk181_42, bk181_55, bk181_63, bk181_68, bk181_113, bk181_122, bk181_140, bk181_155, bk181_160, bk181_164, bk181_173, bk181_177, bk181_178, bk181_186, U_aload_n, U_iconst, U_putfield, U_getfield, U_isub, U_idiv, U_invokevirtual2, U_icmp_ne, U_dup, U_iadd, U_goto, U_istore_n, U_iload_n, U_imul, U_icmp_ge, U_istore, U_iload, U_if_lt, U_irem, U_iinc, U_if_ne, U_ireturn, UN_cc, UN_cn, UN_nc, UN_nn, UJ, lget, lset, lset2, entL, wsm, wcat, Option.toList_some, Option.toList_none, List.cons_append, List.nil_append, List.mem_cons, List.not_mem_nil, Prod.mk.injEq, or_false, false_or, or_true, true_or, and_true, true_and, and_false, false_and, and_self, ne_eq, not_false_eq_true, not_true_eq_false, forall_const, true_implies, false_implies, Nat.add_zero, Nat.zero_add, Nat.le_refl, Nat.zero_le, List.set_cons_zero, List.set_cons_succ, List.set_nil, ↓reduceIte, Nat.reduceAdd, Nat.reduceSub, Nat.reduceEqDiff, Nat.reduceLeDiff, Int.reduceEq, Int.reduceNe, Int.reduceNeg, reduceCtorEq, kd190, h.2.2.1]
    exact ⟨rr (by omega), fun e => absurd e (by omega), fun _ => hQ⟩
  | succ n ih =>
    intro k a b c hk
    have hk2 : 0 ≤ (k : Int) ∧ (k : Int) < p * p := by omega
    have hs := swp_dg hp hk2
    have hss := swp_swp hp hk2
    have hV := hv_rg hp (nsq p) (swp p (k : Int)) (dg f) f.1
    have hVs := swp_dg hp hV
    have hsum := isum_rg (F := ppF f) (B := 2) hrt k
    refine WP.run [(181, 42), (181, 63)] [] 60 ?_
    simp only [bk181_0, bk181_5, bk181_25, bk181_38, bk181_42, bk181_55, bk181_63, bk181_68, bk181_113, bk181_122, bk181_140, bk181_155, bk181_160, bk181_164, bk181_173, bk181_177, bk181_178, bk181_186, U_aload_n, U_iconst, U_putfield, U_getfield, U_isub, U_idiv, U_invokevirtual2, U_icmp_ne, U_dup, U_iadd, U_goto, U_istore_n, U_iload_n, U_imul, U_icmp_ge, U_istore, U_iload, U_if_lt, U_irem, U_iinc, U_if_ne, U_ireturn, UN_cc, UN_cn, UN_nc, UN_nn, UJ, lget, lset, lset2, entL, wsm, wcat, Option.toList_some, Option.toList_none, List.cons_append, List.nil_append, List.mem_cons, List.not_mem_nil, Prod.mk.injEq, or_false, false_or, or_true, true_or, and_true, true_and, and_false, false_and, and_self, ne_eq, not_false_eq_true, not_true_eq_false, forall_const, true_implies, false_implies, Nat.add_zero, Nat.zero_add, Nat.le_refl, Nat.zero_le, List.set_cons_zero, List.set_cons_succ, List.set_nil, ↓reduceIte, Nat.reduceAdd, Nat.reduceSub, Nat.reduceEqDiff, Nat.reduceLeDiff, Int.reduceEq, Int.reduceNe, Int.reduceNeg, reduceCtorEq, kd190, h.2.2.1, hd]
    refine ⟨rr (by omega), fun _ => ?_, fun e => absurd (by omega) e⟩
    have hM : (((p * p - 1) / 2).toNat : Int) = (p * p - 1) / 2 := by omega
    have hst : isum (ppF f) (k + 1) = isum (ppF f) k + ppF f k := rfl
    have V := l_ppV (s := 1 + isum (ppF f) k) (x := swp p (k : Int)) (w5 := c) (Q := Q) h h0 hm hs.2.2 (fun i => ?_) (dg f) ((dg f : Int) - 1) 0 (by omega) (Nat.le_refl _) (by rw [Nat.sub_self]; show (0 : Int) = swp p 0; unfold swp; rw [Int.zero_emod, Int.zero_ediv]; omega)
    · rw [hss] at V; exact V
    · rw [hss]
      refine WP.run [(181, 122)] [] 60 ?_
      simp only [bk181_0, bk181_5, bk181_25, bk181_38, bk181_42, bk181_55, bk181_63, bk181_68, bk181_113, bk181_122, bk181_140, bk181_155, bk181_160, bk181_164, bk181_173, bk181_177, bk181_178, bk181_186, U_aload_n, U_iconst, U_putfield, U_getfield, U_isub, U_idiv, U_invokevirtual2, U_icmp_ne, U_dup, U_iadd, U_goto, U_istore_n, U_iload_n, U_imul, U_icmp_ge, U_istore, U_iload, U_if_lt, U_irem, U_iinc, U_if_ne, U_ireturn, UN_cc, UN_cn, UN_nc, UN_nn, UJ, lget, lset, lset2, entL, wsm, wcat, Option.toList_some, Option.toList_none, List.cons_append, List.nil_append, List.mem_cons, List.not_mem_nil, Prod.mk.injEq, or_false, false_or, or_true, true_or, and_true, true_and, and_false, false_and, and_self, ne_eq, not_false_eq_true, not_true_eq_false, forall_const, true_implies, false_implies, Nat.add_zero, Nat.zero_add, Nat.le_refl, Nat.zero_le, List.set_cons_zero, List.set_cons_succ, List.set_nil, ↓reduceIte, Nat.reduceAdd, Nat.reduceSub, Nat.reduceEqDiff, Nat.reduceLeDiff, Int.reduceEq, Int.reduceNe, Int.reduceNeg, reduceCtorEq, kd190, h.2.2.1]
      refine l_ppR (m := ((p * p - 1) / 2).toNat) hp h.2.2.1 hm hM hVs.2.2 (fun j => ?_) ((p * p - 1) / 2).toNat 0 (by omega)
      have hp2 := prt_rg (m := nsq p) (v := swp p (hv p (nsq p) (swp p (k : Int)) (dg f) f.1)) hp ((p * p - 1) / 2).toNat
      have nx := ih (k + 1) (0, swp p (hv p (nsq p) (swp p (k : Int)) (dg f) f.1)) (0, prt p (nsq p) (swp p (hv p (nsq p) (swp p (k : Int)) (dg f) f.1)) ((p * p - 1) / 2).toNat) (0, j) (by omega)
      rw [hst, ← Int.add_assoc] at nx
      have hF : ppF f k = rt2 p (nsq p) (swp p (hv p (nsq p) (swp p (k : Int)) (dg f) f.1)) := rfl
      unfold rt2 at hF
      refine WP.run [(181, 42)] [] 60 ?_
      simp only [bk181_0, bk181_5, bk181_25, bk181_38, bk181_42, bk181_55, bk181_63, bk181_68, bk181_113, bk181_122, bk181_140, bk181_155, bk181_160, bk181_164, bk181_173, bk181_177, bk181_178, bk181_186, U_aload_n, U_iconst, U_putfield, U_getfield, U_isub, U_idiv, U_invokevirtual2, U_icmp_ne, U_dup, U_iadd, U_goto, U_istore_n, U_iload_n, U_imul, U_icmp_ge, U_istore, U_iload, U_if_lt, U_irem, U_iinc, U_if_ne, U_ireturn, UN_cc, UN_cn, UN_nc, UN_nn, UJ, lget, lset, lset2, entL, wsm, wcat, Option.toList_some, Option.toList_none, List.cons_append, List.nil_append, List.mem_cons, List.not_mem_nil, Prod.mk.injEq, or_false, false_or, or_true, true_or, and_true, true_and, and_false, false_and, and_self, ne_eq, not_false_eq_true, not_true_eq_false, forall_const, true_implies, false_implies, Nat.add_zero, Nat.zero_add, Nat.le_refl, Nat.zero_le, List.set_cons_zero, List.set_cons_succ, List.set_nil, ↓reduceIte, Nat.reduceAdd, Nat.reduceSub, Nat.reduceEqDiff, Nat.reduceLeDiff, Int.reduceEq, Int.reduceNe, Int.reduceNeg, reduceCtorEq, kd190, h.2.2.1]
      have hq3 := hVs.2.2
      refine ⟨r3 (by omega), fun e => ?_, fun e => ⟨rr (by omega), fun e2 => ?_, fun e2 => ?_⟩⟩
      · rw [if_pos e] at hF; rw [hF] at nx; exact nx
      · rw [if_neg e, if_pos e2] at hF; rw [hF] at nx; exact nx
      · rw [if_neg e, if_neg e2] at hF; rw [hF] at nx; exact nx
theorem ppF_nn2 {p : Int} (hp : Pr p) (f : Pz p) : isum (ppF f) (p * p).toNat = nn2 f := by
  have e := isum_swp hp (fun x => cnt2 p (hv p (nsq p) x (dg f) f.1))
  unfold nn2
  rw [← e]
  refine isum_cg _ fun x hx => ?_
  unfold ppF
  exact rt2_ok hp (hv_rg hp _ _ _ _)
set_option maxHeartbeats 8000000 in
theorem m_pairPts {p : Int} {N : Mem} {μ : Int → Option (Pz p)} {Q : Post} {f : Pz p} (h : MT p N μ) (h0 : μ 0 = some f) (hd : N 190 1 = (dg f : Int) - 1) (hQ : ∀ N', PQ N N' → Q (some (0, nn2 f + 1)) NN N') : CL 181 [(2, 190), (9, 0), (9, 0), (9, 0), (9, 0), (9, 0)] NN N Q := by
  refine l_mean h fun N' e hm => ?_
  have h' := h.pq e
  refine WP.run [(181, 42)] [] 60 ?_
  simp only [bk181_0, bk181_5, bk181_25, bk181_38, bk181_42, bk181_55, bk181_63, bk181_68, bk181_113, bk181_122, bk181_140, bk181_155, bk181_160, bk181_164, bk181_173, bk181_177, bk181_178, bk181_186, U_aload_n, U_iconst, U_putfield, U_getfield, U_isub, U_idiv, U_invokevirtual2, U_icmp_ne, U_dup, U_iadd, U_goto, U_istore_n, U_iload_n, U_imul, U_icmp_ge, U_istore, U_iload, U_if_lt, U_irem, U_iinc, U_if_ne, U_ireturn, UN_cc, UN_cn, UN_nc, UN_nn, UJ, lget, lset, lset2, entL, wsm, wcat, Option.toList_some, Option.toList_none, List.cons_append, List.nil_append, List.mem_cons, List.not_mem_nil, Prod.mk.injEq, or_false, false_or, or_true, true_or, and_true, true_and, and_false, false_and, and_self, ne_eq, not_false_eq_true, not_true_eq_false, forall_const, true_implies, false_implies, Nat.add_zero, Nat.zero_add, Nat.le_refl, Nat.zero_le, List.set_cons_zero, List.set_cons_succ, List.set_nil, ↓reduceIte, Nat.reduceAdd, Nat.reduceSub, Nat.reduceEqDiff, Nat.reduceLeDiff, Int.reduceEq, Int.reduceNe, Int.reduceNeg, reduceCtorEq]
  refine l_ppX h' h0 hm (by rw [e.2 1 (by decide)]; exact hd) ?_ (p * p).toNat 0 _ _ _ (by omega)
  rw [ppF_nn2 h.2.1, Int.add_comm]
  exact hQ N' e
