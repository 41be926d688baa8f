/-! THE MODEL'S PAIRS: likeness -/
def lkN (N : Mem) (t a k : Nat) : Int := if ∀ j : Nat, j < k → N 204 (5 * (t : Int) + (j : Int)) = N 204 (5 * (a : Int) + (j : Int)) then 1 else 0
theorem lkN_s {N : Mem} {t a k : Nat} : lkN N t a (k + 1) = if lkN N t a k = 1 ∧ N 204 (5 * (t : Int) + (k : Int)) = N 204 (5 * (a : Int) + (k : Int)) then 1 else 0 := by
  unfold lkN
  by_cases h : ∀ j : Nat, j < k → N 204 (5 * (t : Int) + (j : Int)) = N 204 (5 * (a : Int) + (j : Int))
  · rw [if_pos h]
    by_cases e : N 204 (5 * (t : Int) + (k : Int)) = N 204 (5 * (a : Int) + (k : Int))
    · rw [if_pos (c := 1 = 1 ∧ N 204 (5 * (t : Int) + (k : Int)) = N 204 (5 * (a : Int) + (k : Int))) ⟨rfl, e⟩]
      exact if_pos (fun j hj => by
        by_cases q : j = k
        · rw [q]; exact e
        · exact h j (by omega))
    · rw [if_neg (c := 1 = 1 ∧ N 204 (5 * (t : Int) + (k : Int)) = N 204 (5 * (a : Int) + (k : Int))) (fun q => e q.2)]
      exact if_neg (fun q => e (q k (by omega)))
  · rw [if_neg h, if_neg (c := 0 = 1 ∧ N 204 (5 * (t : Int) + (k : Int)) = N 204 (5 * (a : Int) + (k : Int))) (fun q => absurd q.1 (by decide))]
    exact if_neg (fun q => h (fun j hj => q j (by omega)))
theorem lkN_01 (N : Mem) (t a k : Nat) : lkN N t a k = 1 ∨ lkN N t a k = 0 := by unfold lkN; split <;> simp
set_option maxHeartbeats 8000000 in
theorem l_isLike {N : Mem} {Q : Post} {t a : Nat} (hz : Fz N) (ht : t < 8) (ha : a < 8) (hr : ∀ j : Nat, j < 5 → R32 (N 204 (5 * (t : Int) + (j : Int))) ∧ R32 (N 204 (5 * (a : Int) + (j : Int)))) (hQ : Q (some (0, lkN N t a 5)) NN N) : ∀ (n k : Nat), k + n = 5 → WP 198 (0, 0) 5 [(2, 190), (0, (t : Int)), (0, (a : Int)), (0, lkN N t a k), (0, (k : Int))] [] NN N Q := by
  intro n
  induction n with
  | zero =>
    intro k hk
    obtain rfl : k = 5 := by omega
    have h01 := lkN_01 N t a 5
    refine WP.run [(198, 5)] [] 40 ?_
    simp only [bk198_0, bk198_5, bk198_11, bk198_15, bk198_40, bk198_44, bk198_45, bk198_52, U_iconst, U_istore_n, U_istore, U_iload, U_icmp_ge, U_iload_n, U_if_eq, U_aload_n, U_getfield, U_imul, U_iadd, U_iald, U_icmp_ne, U_goto, U_iinc, U_ireturn, UN_cc, UN_cn, UN_nc, UN_nn, UJ, lget, lset, lset2, entL, wsm, wcat, Option.toList_some, Option.toList_none, List.cons_append, List.nil_append, List.mem_cons, List.not_mem_nil, Prod.mk.injEq, or_false, false_or, or_true, true_or, and_true, true_and, and_false, false_and, and_self, ne_eq, not_false_eq_true, not_true_eq_false, forall_const, true_implies, false_implies, Nat.add_zero, Nat.zero_add, Nat.le_refl, Nat.zero_le, List.set_cons_zero, List.set_cons_succ, List.set_nil, ↓reduceIte, Nat.reduceAdd, Nat.reduceSub, Nat.reduceEqDiff, Nat.reduceLeDiff, Int.reduceEq, Int.reduceNe, Int.reduceNeg, reduceCtorEq]
    exact ⟨rr (by omega), fun e => absurd e (by omega), fun _ => ⟨h01.symm, hQ⟩⟩
  | succ n ih =>
    intro k hk
    have h01 := lkN_01 N t a k
    have nx := ih (k + 1) (by omega)
    rw [lkN_s] at nx
    have nx0 : ¬ (lkN N t a k = 1 ∧ N 204 (5 * (t : Int) + (k : Int)) = N 204 (5 * (a : Int) + (k : Int))) → WP 198 (0, 0) 5 [(2, 190), (0, (t : Int)), (0, (a : Int)), (0, 0), (0, (k : Int) + 1)] [] NN N Q := fun e => by rw [if_neg e] at nx; exact nx
    have nx1 : (lkN N t a k = 1 ∧ N 204 (5 * (t : Int) + (k : Int)) = N 204 (5 * (a : Int) + (k : Int))) → WP 198 (0, 0) 5 [(2, 190), (0, (t : Int)), (0, (a : Int)), (0, 1), (0, (k : Int) + 1)] [] NN N Q := fun e => by rw [if_pos e] at nx; exact nx
    refine WP.run [(198, 5)] [] 60 ?_
    simp only [bk198_0, bk198_5, bk198_11, bk198_15, bk198_40, bk198_44, bk198_45, bk198_52, U_iconst, U_istore_n, U_istore, U_iload, U_icmp_ge, U_iload_n, U_if_eq, U_aload_n, U_getfield, U_imul, U_iadd, U_iald, U_icmp_ne, U_goto, U_iinc, U_ireturn, UN_cc, UN_cn, UN_nc, UN_nn, UJ, lget, lset, lset2, entL, wsm, wcat, Option.toList_some, Option.toList_none, List.cons_append, List.nil_append, List.mem_cons, List.not_mem_nil, Prod.mk.injEq, or_false, false_or, or_true, true_or, and_true, true_and, and_false, false_and, and_self, ne_eq, not_false_eq_true, not_true_eq_false, forall_const, true_implies, false_implies, Nat.add_zero, Nat.zero_add, Nat.le_refl, Nat.zero_le, List.set_cons_zero, List.set_cons_succ, List.set_nil, ↓reduceIte, Nat.reduceAdd, Nat.reduceSub, Nat.reduceEqDiff, Nat.reduceLeDiff, Int.reduceEq, Int.reduceNe, Int.reduceNeg, reduceCtorEq, kd190, kd204, ln204, z190_20 hz]
    have hrk := hr k (by omega)
    refine ⟨rr (by omega), fun _ => ⟨r3 (by omega), fun e => nx0 (fun q => by omega), fun e => ⟨by omega, by omega, by omega, by omega, Or.inr hrk, fun e2 => nx1 ⟨by omega, e2⟩, fun e2 => nx0 (fun q => e2 q.2)⟩⟩, fun e => absurd (by omega) e⟩
set_option maxHeartbeats 8000000 in
theorem m_isLike {N : Mem} {Q : Post} {t a : Nat} (hz : Fz N) (ht : t < 8) (ha : a < 8) (hr : ∀ j : Nat, j < 5 → R32 (N 204 (5 * (t : Int) + (j : Int))) ∧ R32 (N 204 (5 * (a : Int) + (j : Int)))) (hQ : Q (some (0, lkN N t a 5)) NN N) : CL 198 [(2, 190), (0, (t : Int)), (0, (a : Int)), (9, 0), (9, 0)] NN N Q := by
  refine WP.run [(198, 5)] [] 40 ?_
  simp only [bk198_0, bk198_5, bk198_11, bk198_15, bk198_40, bk198_44, bk198_45, bk198_52, U_iconst, U_istore_n, U_istore, U_iload, U_icmp_ge, U_iload_n, U_if_eq, U_aload_n, U_getfield, U_imul, U_iadd, U_iald, U_icmp_ne, U_goto, U_iinc, U_ireturn, UN_cc, UN_cn, UN_nc, UN_nn, UJ, lget, lset, lset2, entL, wsm, wcat, Option.toList_some, Option.toList_none, List.cons_append, List.nil_append, List.mem_cons, List.not_mem_nil, Prod.mk.injEq, or_false, false_or, or_true, true_or, and_true, true_and, and_false, false_and, and_self, ne_eq, not_false_eq_true, not_true_eq_false, forall_const, true_implies, false_implies, Nat.add_zero, Nat.zero_add, Nat.le_refl, Nat.zero_le, List.set_cons_zero, List.set_cons_succ, List.set_nil, ↓reduceIte, Nat.reduceAdd, Nat.reduceSub, Nat.reduceEqDiff, Nat.reduceLeDiff, Int.reduceEq, Int.reduceNe, Int.reduceNeg, reduceCtorEq]
  exact l_isLike hz ht ha hr hQ 5 0 rfl
theorem wk_inj {p : Int} {x y : Pz p × Pz p} (hp : Pr p) (mx : pmo x.1) (my : pmo y.1) (dx : dg x.1 ≤ 3) (vx : dg x.2 < dg x.1) (vy : dg y.2 < dg y.1) (h : ∀ j : Nat, j < 5 → wkD x j = wkD y j) : x = y := by
  have h0 := h 0 (by omega)
  have h1 := h 1 (by omega)
  have h2 := h 2 (by omega)
  have h3 := h 3 (by omega)
  have h4 := h 4 (by omega)
  rw [wkD_0, wkD_0] at h0
  rw [wkD_1, wkD_1] at h1
  rw [wkD_2, wkD_2] at h2
  rw [wkD_3, wkD_3] at h3
  rw [wkD_4, wkD_4] at h4
  have hd : dg x.1 = dg y.1 := by omega
  have tx := pmo_top hp mx
  have ty := pmo_top hp my
  have x0 := mx.1
  have e1 : x.1 = y.1 := Pz.ext fun k => by
    by_cases c : dg x.1 ≤ k
    · rw [dg_far _ c, dg_far _ (by omega)]
    · by_cases c1 : k = dg x.1 - 1
      · rw [c1, tx, hd, ty]
      · by_cases c2 : k = 0
        · subst c2
          rw [if_pos (by omega), if_pos (by omega)] at h1; exact h1
        · have : k = 1 := by omega
          subst this
          rw [if_pos (by omega), if_pos (by omega)] at h2; exact h2
  have e2 : x.2 = y.2 := Pz.ext fun k => by
    by_cases c : 2 ≤ k
    · rw [dg_far _ (by omega), dg_far _ (by omega)]
    · have : k = 0 ∨ k = 1 := by omega
      rcases this with rfl | rfl
      · exact h3
      · exact h4
  exact Prod.ext e1 e2
