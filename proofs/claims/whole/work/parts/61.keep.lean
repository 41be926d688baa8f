/-! THE LIST OF CLASSES: tokens kept -/
def TkA (N : Mem) (L : List Int) : Prop := N 88 3 = min (L.length : Int) 450 ∧ ∀ (i : Nat) (t : Int), i < 450 → L[i]? = some t → N 89 (i : Int) = t
theorem TkA.fx {N N' : Mem} {L : List Int} (h : TkA N L) (h1 : N' 88 = N 88) (h2 : N' 89 = N 89) : TkA N' L := by
  unfold TkA; rw [h1, h2]; exact h
theorem fz88_3 : fz 88 3 = none := rfl
set_option maxHeartbeats 4000000 in
theorem s_keep {p : Int} {N : Mem} {ρ : Int → Option (Pz p)} {Q : Post} {L : List Int} {t : Int} (h : ST p N ρ) (hT : TkA N L) (ht : R32 t) (hQ : ∀ N', ST p N' ρ → FX [88, 89] N N' → TkA N' (L ++ [t]) → Q none NN N') : CL 92 [(2, 88), (0, t)] NN N Q := by
  obtain ⟨h1, h2⟩ := hT
  refine WP.run [] [] 60 ?_
  simp only [bk92_0, bk92_10, bk92_11, U_aload_n, U_getfield, U_sipush, U_icmp_lt, U_return, U_iload_n, U_iast, U_dup, U_iconst, U_iadd, U_putfield, UN_cc, UN_cn, UN_nc, UN_nn, UJ, lget, lset, lset2, entL, wsm, wcat, Option.toList_some, Option.toList_none, List.cons_append, List.nil_append, List.mem_cons, List.not_mem_nil, Prod.mk.injEq, or_false, false_or, or_true, true_or, and_true, true_and, and_false, false_and, and_self, ne_eq, not_false_eq_true, not_true_eq_false, forall_const, true_implies, false_implies, Nat.add_zero, Nat.zero_add, Nat.le_refl, Nat.zero_le, List.set_cons_zero, List.set_cons_succ, List.set_nil, ↓reduceIte, Nat.reduceAdd, Nat.reduceSub, Nat.reduceEqDiff, Nat.reduceLeDiff, Int.reduceEq, Int.reduceNe, Int.reduceNeg, reduceCtorEq, kd88, kd89, ln89, z88_2 h.1.1, h1, ust_r]
  refine ⟨rr (by omega), fun e => ?_, fun e => ?_⟩
  · refine ⟨by omega, by omega, ?_⟩
    have hl : min (L.length : Int) 450 = (L.length : Int) := by omega
    rw [hl] at *
    refine hQ _ ((h.ust _ _ (fz_arr (Or.inl rfl) _) (by decide) (by decide) (by decide)).ust _ _ fz88_3 (by decide) (by decide) (by decide)) (((FX.rf _ N).us _ _ (by simp)).us _ _ (by simp)) ⟨?_, fun i x hi e2 => ?_⟩
    · rw [ust_at, if_pos rfl, List.length_append]; simp; omega
    · rw [ust_ne (by decide), ust_at]
      by_cases q : i < L.length
      · rw [List.getElem?_append_left q] at e2
        rw [if_neg (by omega)]; exact h2 i x hi e2
      · rw [List.getElem?_append_right (by omega)] at e2
        by_cases q2 : i = L.length
        · subst q2
          simp at e2
          rw [if_pos rfl]; exact e2
        · rw [List.getElem?_eq_none (by simp; omega)] at e2; cases e2
  · refine hQ N h (FX.rf _ _) ⟨?_, fun i x hi e2 => ?_⟩
    · rw [h1, List.length_append]; simp; omega
    · rw [List.getElem?_append_left (by omega)] at e2; exact h2 i x hi e2
theorem c_degreeWeight {p : Int} {N : Mem} {Q : Post} (h : CB p N) (hQ : Q (some (0, p * p * p * p)) NN N) : CL 82 [(2, 88)] NN N Q := by
  refine WP.run [] [] 60 ?_
  simp only [bk82_0, U_aload_n, U_getfield, U_imul, U_ireturn, UN_cc, UN_cn, UN_nc, UN_nn, UJ, lget, lset, lset2, entL, wsm, wcat, Option.toList_some, Option.toList_none, List.cons_append, List.nil_append, List.mem_cons, List.not_mem_nil, Prod.mk.injEq, or_false, false_or, or_true, true_or, and_true, true_and, and_false, false_and, and_self, ne_eq, not_false_eq_true, not_true_eq_false, forall_const, true_implies, false_implies, Nat.add_zero, Nat.zero_add, Nat.le_refl, Nat.zero_le, List.set_cons_zero, List.set_cons_succ, List.set_nil, ↓reduceIte, Nat.reduceAdd, Nat.reduceSub, Nat.reduceEqDiff, Nat.reduceLeDiff, Int.reduceEq, Int.reduceNe, Int.reduceNeg, reduceCtorEq, kd88, kd2, z88_0 h.1, h.2.2.1]
  exact hQ
theorem c_lforget {N : Mem} {Q : Post} (hQ : Q none NN (ust N 88 3 0)) : CL 91 [(2, 88)] NN N Q := by
  refine WP.run [] [] 60 ?_
  simp only [bk91_0, U_aload_n, U_iconst, U_putfield, U_return, UN_cc, UN_cn, UN_nc, UN_nn, UJ, lget, lset, lset2, entL, wsm, wcat, Option.toList_some, Option.toList_none, List.cons_append, List.nil_append, List.mem_cons, List.not_mem_nil, Prod.mk.injEq, or_false, false_or, or_true, true_or, and_true, true_and, and_false, false_and, and_self, ne_eq, not_false_eq_true, not_true_eq_false, forall_const, true_implies, false_implies, Nat.add_zero, Nat.zero_add, Nat.le_refl, Nat.zero_le, List.set_cons_zero, List.set_cons_succ, List.set_nil, ↓reduceIte, Nat.reduceAdd, Nat.reduceSub, Nat.reduceEqDiff, Nat.reduceLeDiff, Int.reduceEq, Int.reduceNe, Int.reduceNeg, reduceCtorEq, kd88]
  exact hQ
