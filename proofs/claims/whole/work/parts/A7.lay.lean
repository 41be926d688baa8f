/-! THE MODEL'S PAIRS: five numbers a pair -/
noncomputable def wkD {p : Int} (x : Pz p × Pz p) (j : Nat) : Int := if j = 0 then (dg x.1 : Int) - 1 else if j = 1 then (if 2 ≤ dg x.1 then x.1.1 0 else 0) else if j = 2 then (if 3 ≤ dg x.1 then x.1.1 1 else 0) else if j = 3 then x.2.1 0 else x.2.1 1
/-- pair k of the cells c holds x -/
def WK {p : Int} (N : Mem) (c : Int) (k : Nat) (x : Pz p × Pz p) : Prop := ∀ j : Nat, j < 5 → N c (5 * (k : Int) + (j : Int)) = wkD x j
theorem WK.fx {p : Int} {N N' : Mem} {c : Int} {k : Nat} {x : Pz p × Pz p} (h : WK N c k x) (e : N' c = N c) : WK N' c k x := fun j hj => by rw [e]; exact h j hj
theorem MT.wk {p : Int} {N : Mem} {μ μ' : Int → Option (Pz p)} (h : MT p N μ) (h39 : μ' 39 = none) (hμ : ∀ a A, μ' a = some A → μ a = some A) : MT p N μ' := ⟨h.1, h.2.1, h.2.2.1, h39, fun a A e => h.2.2.2.2 a A (hμ a A e)⟩
theorem wkD_0 {p : Int} (x : Pz p × Pz p) : wkD x 0 = (dg x.1 : Int) - 1 := rfl
theorem wkD_1 {p : Int} (x : Pz p × Pz p) : wkD x 1 = if 2 ≤ dg x.1 then x.1.1 0 else 0 := rfl
theorem wkD_2 {p : Int} (x : Pz p × Pz p) : wkD x 2 = if 3 ≤ dg x.1 then x.1.1 1 else 0 := rfl
theorem wkD_3 {p : Int} (x : Pz p × Pz p) : wkD x 3 = x.2.1 0 := rfl
theorem wkD_4 {p : Int} (x : Pz p × Pz p) : wkD x 4 = x.2.1 1 := rfl
theorem pmo_top {p : Int} (_ : Pr p) {u : Pz p} (hm : pmo u) : u.1 (dg u - 1) = 1 := hm.2
set_option maxHeartbeats 16000000 in
theorem m_lay {p : Int} {N : Mem} {μ : Int → Option (Pz p)} {Q : Post} {u v : Int} {x : Pz p × Pz p} (h : MT p N μ) (hu : 0 ≤ u ∧ u < 39) (hv : 0 ≤ v ∧ v < 39) (huv : u ≠ v) (hm : pmo x.1) (h3 : dg x.1 ≤ 3) (hd : dg x.2 < dg x.1) (hQ : ∀ N', MT p N' (upq (upq μ u x.1) v x.2) → PF N N' → Q none NN N') : CL 193 [(2, 190), (0, u), (0, v), (0, wkD x 0), (0, wkD x 1), (0, wkD x 2), (0, wkD x 3), (0, wkD x 4)] NN N Q := by
  have hp := h.2.1
  have hpp := hp.pos
  have hm0 := hm.1
  have htop := pmo_top hp hm
  have fin : ∀ y0 y1 : Int, y0 = x.1.1 0 → (2 ≤ dg x.1 → y1 = x.1.1 1) → WP 193 (0, 0) 40 [(2, 190), (0, u), (0, v), (0, wkD x 0), (0, wkD x 1), (0, wkD x 2), (0, wkD x 3), (0, wkD x 4)] [(0, y1), (0, 24 * u + 1), (2, 198)] NN (ust N 198 (24 * u) y0) Q := fun y0 y1 e0 e1 => by
    have S0 := (h.fg u).fg v
    have nu : fgt (fgt μ u) v u = none := by rw [fgt_n huv]; exact fgt_e μ u
    have nv : fgt (fgt μ u) v v = none := fgt_e _ v
    have S1 := S0.us (a := u) (k := 0) (i := 24 * u) (v := y0) nu (by omega) (by omega) (by omega)
    have S2 := S1.us (a := u) (k := 1) (i := 24 * u + 1) (v := y1) nu (by omega) (by omega) (by omega)
    have S3 := S2.us (a := u) (k := 2) (i := 24 * u + 2) (v := 1) nu (by omega) (by omega) (by omega)
    have S4 := S3.ud (a := u) (d := (dg x.1 : Int) - 1) (A := x.1) hu.1 hu.2 rfl (by omega) (fun k hk => by
      have : k = 0 ∨ k = 1 ∨ k = 2 := by omega
      rcases this with rfl | rfl | rfl
      · rw [ust_at, if_neg (by omega), ust_at, if_neg (by omega), ust_at, if_pos (by omega)]; exact e0
      · rw [ust_at, if_neg (by omega), ust_at, if_pos (by omega)]; exact e1 (by omega)
      · rw [ust_at, if_pos (by omega), ← htop, show dg x.1 - 1 = 2 by omega])
    have nv2 : upq (fgt (fgt μ u) v) u x.1 v = none := by rw [upq_n huv.symm]; exact nv
    have S5 := S4.us (a := v) (k := 0) (i := 24 * v) (v := wkD x 3) nv2 (by omega) (by omega) (by omega)
    have S6 := S5.us (a := v) (k := 1) (i := 24 * v + 1) (v := wkD x 4) nv2 (by omega) (by omega) (by omega)
    refine WP.run [] [] 60 ?_
    simp only [bk193_0, bk193_12, bk193_16, bk193_18, bk193_34, bk193_38, bk193_40, U_aload_n, U_getfield, U_bipush, U_iload_n, U_imul, U_if_ne, U_iconst, U_goto, U_iload, U_iast, U_iadd, U_icmp_ne, U_invokevirtual2, U_return, UN_cc, UN_cn, UN_nc, UN_nn, UJ, lget, lset, lset2, entL, wsm, wcat, Option.toList_some, Option.toList_none, List.cons_append, List.nil_append, List.mem_cons, List.not_mem_nil, Prod.mk.injEq, or_false, false_or, or_true, true_or, and_true, true_and, and_false, false_and, and_self, ne_eq, not_false_eq_true, not_true_eq_false, forall_const, true_implies, false_implies, Nat.add_zero, Nat.zero_add, Nat.le_refl, Nat.zero_le, List.set_cons_zero, List.set_cons_succ, List.set_nil, ↓reduceIte, Nat.reduceAdd, Nat.reduceSub, Nat.reduceEqDiff, Nat.reduceLeDiff, Int.reduceEq, Int.reduceNe, Int.reduceNeg, reduceCtorEq, kd190, kd198, kd199, ln198, ln199, z190_12 S1.1, z190_12 S2.1, z190_12 S3.1, z190_13 S3.1, z190_12 S4.1, z190_12 S5.1, z190_12 S6.1, wkD_0]
    refine ⟨by omega, by omega, by omega, by omega, by omega, by omega, by omega, by omega, by omega, by omega, m_trim S6 hv.1 hv.2 (by omega) (by omega) (A := x.2) (fun k hk => ?_) (fun k hk => dg_far _ (by omega)) fun N' S' F' _ => ?_⟩
    · have : k = 0 ∨ k = 1 := by omega
      rcases this with rfl | rfl
      · rw [ust_at, if_neg (by omega), ust_at, if_pos (by omega)]; rfl
      · rw [ust_at, if_pos (by omega)]; rfl
    · simp only [bk193_0, bk193_12, bk193_16, bk193_18, bk193_34, bk193_38, bk193_40, U_aload_n, U_getfield, U_bipush, U_iload_n, U_imul, U_if_ne, U_iconst, U_goto, U_iload, U_iast, U_iadd, U_icmp_ne, U_invokevirtual2, U_return, UN_cc, UN_cn, UN_nc, UN_nn, UJ, lget, lset, lset2, entL, wsm, wcat, Option.toList_some, Option.toList_none, List.cons_append, List.nil_append, List.mem_cons, List.not_mem_nil, Prod.mk.injEq, or_false, false_or, or_true, true_or, and_true, true_and, and_false, false_and, and_self, ne_eq, not_false_eq_true, not_true_eq_false, forall_const, true_implies, false_implies, Nat.add_zero, Nat.zero_add, Nat.le_refl, Nat.zero_le, List.set_cons_zero, List.set_cons_succ, List.set_nil, ↓reduceIte, Nat.reduceAdd, Nat.reduceSub, Nat.reduceEqDiff, Nat.reduceLeDiff, Int.reduceEq, Int.reduceNe, Int.reduceNeg, reduceCtorEq]
      refine hQ N' ?_ ((((((PF.us _ _ _).tr (PF.us _ _ _)).tr (PF.us _ _ _)).tr (PF.ud _ _ _)).tr (PF.us _ _ _)).tr (PF.us _ _ _) |>.tr F')
      refine S'.wk ?_ fun a A e => ?_
      · rw [upq_n (by omega), upq_n (by omega)]; exact h.2.2.2.1
      · by_cases c1 : a = v
        · rw [c1, upq_e] at e ⊢; exact e
        · by_cases c2 : a = u
          · rw [upq_n c1, c2, upq_e] at e ⊢; exact e
          · rw [upq_n c1, upq_n c2] at e
            rw [upq_n c1, upq_n c2, fgt_n c1, fgt_n c2]; exact e
  have d1 : dg x.1 = 1 → x.1.1 0 = 1 := fun e => by rw [e] at htop; exact htop
  have d2 : dg x.1 = 2 → x.1.1 1 = 1 := fun e => by rw [e] at htop; exact htop
  have y1ok : ∀ y0, y0 = x.1.1 0 → WP 193 (0, 0) 18 [(2, 190), (0, u), (0, v), (0, wkD x 0), (0, wkD x 1), (0, wkD x 2), (0, wkD x 3), (0, wkD x 4)] [(0, y0), (0, 24 * u), (2, 198)] NN N Q := fun y0 e0 => by
    have S1 := (h.fg u).us (a := u) (k := 0) (i := 24 * u) (v := y0) (fgt_e μ u) (by omega) (by omega) (by omega)
    refine WP.run [(193, 40)] [] 60 ?_
    simp only [bk193_0, bk193_12, bk193_16, bk193_18, bk193_34, bk193_38, bk193_40, U_aload_n, U_getfield, U_bipush, U_iload_n, U_imul, U_if_ne, U_iconst, U_goto, U_iload, U_iast, U_iadd, U_icmp_ne, U_invokevirtual2, U_return, UN_cc, UN_cn, UN_nc, UN_nn, UJ, lget, lset, lset2, entL, wsm, wcat, Option.toList_some, Option.toList_none, List.cons_append, List.nil_append, List.mem_cons, List.not_mem_nil, Prod.mk.injEq, or_false, false_or, or_true, true_or, and_true, true_and, and_false, false_and, and_self, ne_eq, not_false_eq_true, not_true_eq_false, forall_const, true_implies, false_implies, Nat.add_zero, Nat.zero_add, Nat.le_refl, Nat.zero_le, List.set_cons_zero, List.set_cons_succ, List.set_nil, ↓reduceIte, Nat.reduceAdd, Nat.reduceSub, Nat.reduceEqDiff, Nat.reduceLeDiff, Int.reduceEq, Int.reduceNe, Int.reduceNeg, reduceCtorEq, kd190, kd198, ln198, z190_12 S1.1]
    refine ⟨by omega, by omega, rr (by rw [wkD_0]; omega), fun e => ?_, fun e => ?_⟩
    · exact fin y0 1 e0 (fun _ => (d2 (by rw [wkD_0] at e; omega)).symm)
    · refine fin y0 _ e0 (fun e2 => ?_)
      rw [wkD_2, if_pos (by rw [wkD_0] at e; omega)]
  refine WP.run [(193, 18)] [] 60 ?_
  simp only [bk193_0, bk193_12, bk193_16, bk193_18, bk193_34, bk193_38, bk193_40, U_aload_n, U_getfield, U_bipush, U_iload_n, U_imul, U_if_ne, U_iconst, U_goto, U_iload, U_iast, U_iadd, U_icmp_ne, U_invokevirtual2, U_return, UN_cc, UN_cn, UN_nc, UN_nn, UJ, lget, lset, lset2, entL, wsm, wcat, Option.toList_some, Option.toList_none, List.cons_append, List.nil_append, List.mem_cons, List.not_mem_nil, Prod.mk.injEq, or_false, false_or, or_true, true_or, and_true, true_and, and_false, false_and, and_self, ne_eq, not_false_eq_true, not_true_eq_false, forall_const, true_implies, false_implies, Nat.add_zero, Nat.zero_add, Nat.le_refl, Nat.zero_le, List.set_cons_zero, List.set_cons_succ, List.set_nil, ↓reduceIte, Nat.reduceAdd, Nat.reduceSub, Nat.reduceEqDiff, Nat.reduceLeDiff, Int.reduceEq, Int.reduceNe, Int.reduceNeg, reduceCtorEq, kd190, z190_12 h.1]
  refine ⟨r3 (by rw [wkD_0]; omega), fun e => ?_, fun e => ?_⟩
  · exact y1ok 1 (d1 (by rw [wkD_0] at e; omega)).symm
  · refine y1ok _ ?_
    rw [wkD_1, if_pos (by rw [wkD_0] at e; omega)]
set_option maxHeartbeats 8000000 in
theorem m_layWork {p : Int} {N : Mem} {μ : Int → Option (Pz p)} {Q : Post} {u v : Int} {k : Nat} {x : Pz p × Pz p} (h : MT p N μ) (hu : 0 ≤ u ∧ u < 39) (hv : 0 ≤ v ∧ v < 39) (huv : u ≠ v) (hk : k < 8) (hw : WK N 204 k x) (hm : pmo x.1) (h3 : dg x.1 ≤ 3) (hd : dg x.2 < dg x.1) (hQ : ∀ N', MT p N' (upq (upq μ u x.1) v x.2) → PF N N' → Q none NN N') : CL 194 [(2, 190), (0, u), (0, v), (0, (k : Int))] NN N Q := by
  have w0 := hw 0 (by omega)
  have w1 := hw 1 (by omega)
  have w2 := hw 2 (by omega)
  have w3 := hw 3 (by omega)
  have w4 := hw 4 (by omega)
  rw [show 5 * (k : Int) + ((0 : Nat) : Int) = 5 * (k : Int) by omega] at w0
  rw [show 5 * (k : Int) + ((1 : Nat) : Int) = 5 * (k : Int) + 1 by omega] at w1
  rw [show 5 * (k : Int) + ((2 : Nat) : Int) = 5 * (k : Int) + 2 by omega] at w2
  rw [show 5 * (k : Int) + ((3 : Nat) : Int) = 5 * (k : Int) + 3 by omega] at w3
  rw [show 5 * (k : Int) + ((4 : Nat) : Int) = 5 * (k : Int) + 4 by omega] at w4
  refine WP.run [] [] 60 ?_
  simp only [bk194_0, U_aload_n, U_iload_n, U_getfield, U_iconst, U_imul, U_iald, U_iadd, U_invokevirtual7, U_return, UN_cc, UN_cn, UN_nc, UN_nn, UJ, lget, lset, lset2, entL, wsm, wcat, Option.toList_some, Option.toList_none, List.cons_append, List.nil_append, List.mem_cons, List.not_mem_nil, Prod.mk.injEq, or_false, false_or, or_true, true_or, and_true, true_and, and_false, false_and, and_self, ne_eq, not_false_eq_true, not_true_eq_false, forall_const, true_implies, false_implies, Nat.add_zero, Nat.zero_add, Nat.le_refl, Nat.zero_le, List.set_cons_zero, List.set_cons_succ, List.set_nil, ↓reduceIte, Nat.reduceAdd, Nat.reduceSub, Nat.reduceEqDiff, Nat.reduceLeDiff, Int.reduceEq, Int.reduceNe, Int.reduceNeg, reduceCtorEq, kd190, kd204, ln204, z190_20 h.1, w0, w1, w2, w3, w4]
  refine ⟨by omega, by omega, by omega, by omega, by omega, by omega, by omega, by omega, by omega, by omega, m_lay h hu hv huv hm h3 hd fun N' S' F' => ?_⟩
  simp only [bk194_0, U_aload_n, U_iload_n, U_getfield, U_iconst, U_imul, U_iald, U_iadd, U_invokevirtual7, U_return, UN_cc, UN_cn, UN_nc, UN_nn, UJ, lget, lset, lset2, entL, wsm, wcat, Option.toList_some, Option.toList_none, List.cons_append, List.nil_append, List.mem_cons, List.not_mem_nil, Prod.mk.injEq, or_false, false_or, or_true, true_or, and_true, true_and, and_false, false_and, and_self, ne_eq, not_false_eq_true, not_true_eq_false, forall_const, true_implies, false_implies, Nat.add_zero, Nat.zero_add, Nat.le_refl, Nat.zero_le, List.set_cons_zero, List.set_cons_succ, List.set_nil, ↓reduceIte, Nat.reduceAdd, Nat.reduceSub, Nat.reduceEqDiff, Nat.reduceLeDiff, Int.reduceEq, Int.reduceNe, Int.reduceNeg, reduceCtorEq]
  exact hQ N' S' F'
