/-! THE LAW: its step, its loop, its start; printed by gen_law2.py -/
theorem U_tsw {cut : List (Nat × Nat)} {f m pc len x w : Nat} {z y : Int} {tg : List Nat} {r : List En} {ls st : List V} {k : Nat × Nat} {n : Int} {M : Mem} {Q : Post} {a d lo hi : Int} {off : Array Int} : U cut [] (f + 1) m k ((pc, .tableswitch d lo hi off, len, x, w, z, y, tg) :: r) ls ((0, a) :: st) n M Q = (R32 a ∧ if lo ≤ a ∧ a < lo + tg.length then UJ cut f m Q k (tgn tg (a - lo).toNat) ls st n M else UJ cut f m Q k x ls st n M) := by
  rw [U_eq]; simp only [wpI, true_and]
theorem band_R (x y : Int) : R32 (band x y) := by
  unfold band R32
  exact ⟨Int32.le_toInt _, by have := Int32.toInt_lt (Int32.ofInt x &&& Int32.ofInt y); omega⟩
def tgs : List Nat := [180, 203, 226, 239, 252, 285, 309, 322, 346, 360, 384, 417, 450, 493, 536, 579, 602, 625, 658, 681, 714, 737, 760, 793, 836, 869, 902, 925, 948, 981, 1014, 1037, 1070]
theorem UJ_in {cut : List (Nat × Nat)} {f m : Nat} {Q : Post} {k : Nat × Nat} {t : Nat} {ls st : List V} {n : Int} {M : Mem} (hc : (m, t) ∈ cut) (h : WP m k t ls st n M Q) : UJ cut f m Q k t ls st n M := by
  unfold UJ; rw [if_pos hc]; exact h
theorem law_tgs {M0 N : Mem} {Q : Post} {kk : Nat × Nat} {i : Int} (hk1 : kk.1 ≤ 600000) (hk2 : kk.2 ≤ 7302250) (hI : LI M0 N) (h0 : 0 ≤ i) (hL : i + 4 ≤ M0 (-1) 0) (hb : M0 (-1) 0 ≤ 2048) (hR : ∀ j, R32 (M0 0 j)) (nx : ∀ N', LI M0 N' → WP 247 kk 1084 [(3, 0), (2, 1), (2, 190), (0, i)] [] NN N' Q) (a : Nat) (ha : a < 33) : WP 247 kk (tgn tgs a) [(3, 0), (2, 1), (2, 190), (0, i)] [] NN N Q := by
  match a, ha with
  | 0, _ => exact t_prime hk1 hk2 hI h0 hL hb hR nx
  | 1, _ => exact t_push hk1 hk2 hI h0 hL hb hR nx
  | 2, _ => exact t_curve hk1 hk2 hI h0 hL hb hR nx
  | 3, _ => exact t_points hk1 hk2 hI h0 hL hb hR nx
  | 4, _ => exact t_point hk1 hk2 hI h0 hL hb hR nx
  | 5, _ => exact t_count hk1 hk2 hI h0 hL hb hR nx
  | 6, _ => exact t_countAll hk1 hk2 hI h0 hL hb hR nx
  | 7, _ => exact t_share hk1 hk2 hI h0 hL hb hR nx
  | 8, _ => exact t_classes hk1 hk2 hI h0 hL hb hR nx
  | 9, _ => exact t_places hk1 hk2 hI h0 hL hb hR nx
  | 10, _ => exact t_at hk1 hk2 hI h0 hL hb hR nx
  | 11, _ => exact t_pick hk1 hk2 hI h0 hL hb hR nx
  | 12, _ => exact t_sum hk1 hk2 hI h0 hL hb hR nx
  | 13, _ => exact t_times hk1 hk2 hI h0 hL hb hR nx
  | 14, _ => exact t_of hk1 hk2 hI h0 hL hb hR nx
  | 15, _ => exact t_which hk1 hk2 hI h0 hL hb hR nx
  | 16, _ => exact t_order hk1 hk2 hI h0 hL hb hR nx
  | 17, _ => exact t_log hk1 hk2 hI h0 hL hb hR nx
  | 18, _ => exact t_group hk1 hk2 hI h0 hL hb hR nx
  | 19, _ => exact t_amount hk1 hk2 hI h0 hL hb hR nx
  | 20, _ => exact t_room hk1 hk2 hI h0 hL hb hR nx
  | 21, _ => exact t_gaps hk1 hk2 hI h0 hL hb hR nx
  | 22, _ => exact t_code hk1 hk2 hI h0 hL hb hR nx
  | 23, _ => exact t_read hk1 hk2 hI h0 hL hb hR nx
  | 24, _ => exact t_tell hk1 hk2 hI h0 hL hb hR nx
  | 25, _ => exact t_near hk1 hk2 hI h0 hL hb hR nx
  | 26, _ => exact t_least hk1 hk2 hI h0 hL hb hR nx
  | 27, _ => exact t_turns hk1 hk2 hI h0 hL hb hR nx
  | 28, _ => exact t_turned hk1 hk2 hI h0 hL hb hR nx
  | 29, _ => exact t_cover hk1 hk2 hI h0 hL hb hR nx
  | 30, _ => exact t_genus hk1 hk2 hI h0 hL hb hR nx
  | 31, _ => exact t_above hk1 hk2 hI h0 hL hb hR nx
  | 32, _ => exact t_digest hk1 hk2 hI h0 hL hb hR nx
  | a + 33, h => exact absurd h (by omega)
theorem law_cut (a : Nat) (ha : a < 33) : (247, tgn tgs a) ∈ tgs.map (fun t => (247, t)) := by
  have : (List.range 33).all (fun a => decide ((247, tgn tgs a) ∈ tgs.map (fun t => ((247 : Nat), t)))) = true := by decide +kernel
  exact of_decide_eq_true (List.all_eq_true.mp this a (List.mem_range.mpr ha))
set_option maxHeartbeats 8000000 in
theorem law_step {M0 N : Mem} {Q : Post} {kk : Nat × Nat} {i : Int} (hk1 : kk.1 ≤ 600000) (hk2 : kk.2 ≤ 7302250) (hI : LI M0 N) (h0 : 0 ≤ i) (hL : i + 4 ≤ M0 (-1) 0) (hb : M0 (-1) 0 ≤ 2048) (hR : ∀ j, R32 (M0 0 j)) (nx : ∀ N', LI M0 N' → WP 247 kk 1084 [(3, 0), (2, 1), (2, 190), (0, i)] [] NN N' Q) : WP 247 kk 26 [(3, 0), (2, 1), (2, 190), (0, i)] [] NN N Q := by
  obtain ⟨e0, e1⟩ := hI.1
  refine WP.run ((247, 1084) :: tgs.map (fun t => (247, t))) [] 60 ?_
  simp only [bk247_26, U_aload, U_iload, U_aload_n, U_iload_n, U_siald, U_bipush, U_iand, U_tsw, e0, e1, UN_cc, UN_cn, lget, Nat.reduceAdd, true_and]
  have hr := band_R (M0 0 i) 63
  generalize band (M0 0 i) 63 = a at hr ⊢
  refine ⟨Or.inr trivial, h0, by omega, hr, ?_⟩
  split
  · rename_i ha
    exact UJ_in (List.mem_cons_of_mem _ (law_cut (a - 0).toNat (by have := ha.2; simp only [List.length_cons, List.length_nil] at this; omega))) (law_tgs hk1 hk2 hI h0 hL hb hR nx _ (by have := ha.2; simp only [List.length_cons, List.length_nil] at this; omega))
  · exact UJ_in List.mem_cons_self (nx N hI)
def QL : Post := fun o _ _ => o = some (0, 1)
set_option maxHeartbeats 8000000 in
theorem law_loop {M0 : Mem} {kk : Nat × Nat} (hk1 : kk.1 ≤ 600000) (hk2 : kk.2 ≤ 7302250) (hb : M0 (-1) 0 ≤ 2048) (hR : ∀ j, R32 (M0 0 j)) : ∀ (u : Nat) (i : Int) (N : Mem), LI M0 N → 0 ≤ i → i ≤ 2048 → M0 (-1) 0 - i ≤ u → 0 ≤ M0 (-1) 0 → WP 247 kk 18 [(3, 0), (2, 1), (2, 190), (0, i)] [] NN N QL
  | u, i, N, hI, h0, h1, hu, hz => by
    obtain ⟨e0, e1⟩ := hI.1
    refine WP.run [(247, 26)] [] 60 ?_
    simp only [bk247_0, bk247_18, bk247_26, bk247_180, bk247_201, bk247_203, bk247_224, bk247_226, bk247_237, bk247_239, bk247_250, bk247_252, bk247_283, bk247_285, bk247_307, bk247_309, bk247_320, bk247_322, bk247_344, bk247_346, bk247_358, bk247_360, bk247_382, bk247_384, bk247_415, bk247_417, bk247_448, bk247_450, bk247_491, bk247_493, bk247_534, bk247_536, bk247_577, bk247_579, bk247_600, bk247_602, bk247_623, bk247_625, bk247_656, bk247_658, bk247_679, bk247_681, bk247_712, bk247_714, bk247_735, bk247_737, bk247_758, bk247_760, bk247_791, bk247_793, bk247_834, bk247_836, bk247_867, bk247_869, bk247_900, bk247_902, bk247_923, bk247_925, bk247_946, bk247_948, bk247_979, bk247_981, bk247_1012, bk247_1014, bk247_1035, bk247_1037, bk247_1068, bk247_1070, bk247_1082, bk247_1084, bk247_1090, U_new, U_dup, U_invokespecial0, U_astore_n, U_iconst, U_istore_n, U_iload_n, U_aload_n, U_salen, U_isub, U_icmp_gt, U_iald, U_siald, U_bipush, U_iand, U_iadd, U_invokevirtual1, U_icmp_eq, U_ireturn, U_invokevirtual0, U_invokevirtual2, U_lcmp, U_if_eq, U_invokevirtual3, U_iinc, U_goto, UN_cc, UN_cn, UN_nc, UN_nn, UJ, lget, lset, lset2, entL, wsm, wcat, Option.toList_some, Option.toList_none, List.cons_append, List.nil_append, List.mem_cons, List.not_mem_nil, Prod.mk.injEq, or_false, false_or, or_true, true_or, and_true, true_and, and_false, false_and, and_self, ne_eq, not_false_eq_true, not_true_eq_false, forall_const, true_implies, false_implies, Nat.add_zero, Nat.zero_add, Nat.le_refl, Nat.zero_le, List.set_cons_zero, List.set_cons_succ, List.set_nil, ↓reduceIte, Nat.reduceAdd, Nat.reduceSub, Nat.reduceEqDiff, Nat.reduceLeDiff, Int.reduceEq, Int.reduceNe, Int.reduceNeg, reduceCtorEq, e0, e1]
    refine ⟨Or.inr ⟨r3 (by omega), r3 (by omega)⟩, fun hc => rfl, fun hc => ?_⟩
    · have hL : i + 4 ≤ M0 (-1) 0 := by omega
      match u, hu with
      | 0, hu => exact absurd hu (by omega)
      | u + 1, hu =>
        refine law_step hk1 hk2 hI h0 hL hb hR (fun N' hI' => ?_)
        refine WP.run [(247, 18)] [] 60 ?_
        simp only [bk247_0, bk247_18, bk247_26, bk247_180, bk247_201, bk247_203, bk247_224, bk247_226, bk247_237, bk247_239, bk247_250, bk247_252, bk247_283, bk247_285, bk247_307, bk247_309, bk247_320, bk247_322, bk247_344, bk247_346, bk247_358, bk247_360, bk247_382, bk247_384, bk247_415, bk247_417, bk247_448, bk247_450, bk247_491, bk247_493, bk247_534, bk247_536, bk247_577, bk247_579, bk247_600, bk247_602, bk247_623, bk247_625, bk247_656, bk247_658, bk247_679, bk247_681, bk247_712, bk247_714, bk247_735, bk247_737, bk247_758, bk247_760, bk247_791, bk247_793, bk247_834, bk247_836, bk247_867, bk247_869, bk247_900, bk247_902, bk247_923, bk247_925, bk247_946, bk247_948, bk247_979, bk247_981, bk247_1012, bk247_1014, bk247_1035, bk247_1037, bk247_1068, bk247_1070, bk247_1082, bk247_1084, bk247_1090, U_new, U_dup, U_invokespecial0, U_astore_n, U_iconst, U_istore_n, U_iload_n, U_aload_n, U_salen, U_isub, U_icmp_gt, U_iald, U_siald, U_bipush, U_iand, U_iadd, U_invokevirtual1, U_icmp_eq, U_ireturn, U_invokevirtual0, U_invokevirtual2, U_lcmp, U_if_eq, U_invokevirtual3, U_iinc, U_goto, UN_cc, UN_cn, UN_nc, UN_nn, UJ, lget, lset, lset2, entL, wsm, wcat, Option.toList_some, Option.toList_none, List.cons_append, List.nil_append, List.mem_cons, List.not_mem_nil, Prod.mk.injEq, or_false, false_or, or_true, true_or, and_true, true_and, and_false, false_and, and_self, ne_eq, not_false_eq_true, not_true_eq_false, forall_const, true_implies, false_implies, Nat.add_zero, Nat.zero_add, Nat.le_refl, Nat.zero_le, List.set_cons_zero, List.set_cons_succ, List.set_nil, ↓reduceIte, Nat.reduceAdd, Nat.reduceSub, Nat.reduceEqDiff, Nat.reduceLeDiff, Int.reduceEq, Int.reduceNe, Int.reduceNeg, reduceCtorEq]
        exact law_loop hk1 hk2 hb hR u (i + 4) N' hI' (by omega) (by omega) (by omega) hz
set_option maxHeartbeats 8000000 in
theorem law_start {M0 : Mem} (hM : ∀ b, 1 ≤ b → ∀ j, M0 b j = 0) (h0 : 0 ≤ M0 (-1) 0) (hb : M0 (-1) 0 ≤ 2048) (hR : ∀ j, R32 (M0 0 j)) : WP 247 (0, 0) 0 [(3, 0), (9, 0), (9, 0), (9, 0)] [] 1 M0 QL := by
  refine WP.run [(247, 18)] [] 60 ?_
  simp only [bk247_0, bk247_18, bk247_26, bk247_180, bk247_201, bk247_203, bk247_224, bk247_226, bk247_237, bk247_239, bk247_250, bk247_252, bk247_283, bk247_285, bk247_307, bk247_309, bk247_320, bk247_322, bk247_344, bk247_346, bk247_358, bk247_360, bk247_382, bk247_384, bk247_415, bk247_417, bk247_448, bk247_450, bk247_491, bk247_493, bk247_534, bk247_536, bk247_577, bk247_579, bk247_600, bk247_602, bk247_623, bk247_625, bk247_656, bk247_658, bk247_679, bk247_681, bk247_712, bk247_714, bk247_735, bk247_737, bk247_758, bk247_760, bk247_791, bk247_793, bk247_834, bk247_836, bk247_867, bk247_869, bk247_900, bk247_902, bk247_923, bk247_925, bk247_946, bk247_948, bk247_979, bk247_981, bk247_1012, bk247_1014, bk247_1035, bk247_1037, bk247_1068, bk247_1070, bk247_1082, bk247_1084, bk247_1090, U_new, U_dup, U_invokespecial0, U_astore_n, U_iconst, U_istore_n, U_iload_n, U_aload_n, U_salen, U_isub, U_icmp_gt, U_iald, U_siald, U_bipush, U_iand, U_iadd, U_invokevirtual1, U_icmp_eq, U_ireturn, U_invokevirtual0, U_invokevirtual2, U_lcmp, U_if_eq, U_invokevirtual3, U_iinc, U_goto, UN_cc, UN_cn, UN_nc, UN_nn, UJ, lget, lset, lset2, entL, wsm, wcat, Option.toList_some, Option.toList_none, List.cons_append, List.nil_append, List.mem_cons, List.not_mem_nil, Prod.mk.injEq, or_false, false_or, or_true, true_or, and_true, true_and, and_false, false_and, and_self, ne_eq, not_false_eq_true, not_true_eq_false, forall_const, true_implies, false_implies, Nat.add_zero, Nat.zero_add, Nat.le_refl, Nat.zero_le, List.set_cons_zero, List.set_cons_succ, List.set_nil, ↓reduceIte, Nat.reduceAdd, Nat.reduceSub, Nat.reduceEqDiff, Nat.reduceLeDiff, Int.reduceEq, Int.reduceNe, Int.reduceNeg, reduceCtorEq]
  refine ⟨rfl, by decide, by decide, rfl, ?_⟩
  refine i_CR (fun j => zro_z _ _ _) (fun M1 f1 I1 => ?_)
  simp only [bk247_0, bk247_18, bk247_26, bk247_180, bk247_201, bk247_203, bk247_224, bk247_226, bk247_237, bk247_239, bk247_250, bk247_252, bk247_283, bk247_285, bk247_307, bk247_309, bk247_320, bk247_322, bk247_344, bk247_346, bk247_358, bk247_360, bk247_382, bk247_384, bk247_415, bk247_417, bk247_448, bk247_450, bk247_491, bk247_493, bk247_534, bk247_536, bk247_577, bk247_579, bk247_600, bk247_602, bk247_623, bk247_625, bk247_656, bk247_658, bk247_679, bk247_681, bk247_712, bk247_714, bk247_735, bk247_737, bk247_758, bk247_760, bk247_791, bk247_793, bk247_834, bk247_836, bk247_867, bk247_869, bk247_900, bk247_902, bk247_923, bk247_925, bk247_946, bk247_948, bk247_979, bk247_981, bk247_1012, bk247_1014, bk247_1035, bk247_1037, bk247_1068, bk247_1070, bk247_1082, bk247_1084, bk247_1090, U_new, U_dup, U_invokespecial0, U_astore_n, U_iconst, U_istore_n, U_iload_n, U_aload_n, U_salen, U_isub, U_icmp_gt, U_iald, U_siald, U_bipush, U_iand, U_iadd, U_invokevirtual1, U_icmp_eq, U_ireturn, U_invokevirtual0, U_invokevirtual2, U_lcmp, U_if_eq, U_invokevirtual3, U_iinc, U_goto, UN_cc, UN_cn, UN_nc, UN_nn, UJ, lget, lset, lset2, entL, wsm, wcat, Option.toList_some, Option.toList_none, List.cons_append, List.nil_append, List.mem_cons, List.not_mem_nil, Prod.mk.injEq, or_false, false_or, or_true, true_or, and_true, true_and, and_false, false_and, and_self, ne_eq, not_false_eq_true, not_true_eq_false, forall_const, true_implies, false_implies, Nat.add_zero, Nat.zero_add, Nat.le_refl, Nat.zero_le, List.set_cons_zero, List.set_cons_succ, List.set_nil, ↓reduceIte, Nat.reduceAdd, Nat.reduceSub, Nat.reduceEqDiff, Nat.reduceLeDiff, Int.reduceEq, Int.reduceNe, Int.reduceNeg, reduceCtorEq]
  refine ⟨rfl, by decide, by decide, rfl, ?_⟩
  refine i_MD (fun j => zro_z _ _ _) (fun M2 f2 o2 p2 z2 q2 => ?_)
  simp only [bk247_0, bk247_18, bk247_26, bk247_180, bk247_201, bk247_203, bk247_224, bk247_226, bk247_237, bk247_239, bk247_250, bk247_252, bk247_283, bk247_285, bk247_307, bk247_309, bk247_320, bk247_322, bk247_344, bk247_346, bk247_358, bk247_360, bk247_382, bk247_384, bk247_415, bk247_417, bk247_448, bk247_450, bk247_491, bk247_493, bk247_534, bk247_536, bk247_577, bk247_579, bk247_600, bk247_602, bk247_623, bk247_625, bk247_656, bk247_658, bk247_679, bk247_681, bk247_712, bk247_714, bk247_735, bk247_737, bk247_758, bk247_760, bk247_791, bk247_793, bk247_834, bk247_836, bk247_867, bk247_869, bk247_900, bk247_902, bk247_923, bk247_925, bk247_946, bk247_948, bk247_979, bk247_981, bk247_1012, bk247_1014, bk247_1035, bk247_1037, bk247_1068, bk247_1070, bk247_1082, bk247_1084, bk247_1090, U_new, U_dup, U_invokespecial0, U_astore_n, U_iconst, U_istore_n, U_iload_n, U_aload_n, U_salen, U_isub, U_icmp_gt, U_iald, U_siald, U_bipush, U_iand, U_iadd, U_invokevirtual1, U_icmp_eq, U_ireturn, U_invokevirtual0, U_invokevirtual2, U_lcmp, U_if_eq, U_invokevirtual3, U_iinc, U_goto, UN_cc, UN_cn, UN_nc, UN_nn, UJ, lget, lset, lset2, entL, wsm, wcat, Option.toList_some, Option.toList_none, List.cons_append, List.nil_append, List.mem_cons, List.not_mem_nil, Prod.mk.injEq, or_false, false_or, or_true, true_or, and_true, true_and, and_false, false_and, and_self, ne_eq, not_false_eq_true, not_true_eq_false, forall_const, true_implies, false_implies, Nat.add_zero, Nat.zero_add, Nat.le_refl, Nat.zero_le, List.set_cons_zero, List.set_cons_succ, List.set_nil, ↓reduceIte, Nat.reduceAdd, Nat.reduceSub, Nat.reduceEqDiff, Nat.reduceLeDiff, Int.reduceEq, Int.reduceNe, Int.reduceNeg, reduceCtorEq]
  repeat (first | refine And.intro (by first | omega | exact not_false) ?_ | refine And.intro (rr (by omega)) ?_ | refine And.intro (r3 (by omega)) ?_ | refine And.intro (r6 (by omega)) ?_)
  have I2 : In0 M2 := I1.fx (fun b hb => by rw [f2 b hb, zro_o (by omega)])
  have Z2 := start_fz I2 o2
  have fr : FrS M0 M2 := ⟨by rw [f2 0 (by decide), zro_o (by omega), f1 0 (by decide), zro_o (by omega)], by rw [f2 (-1) (by decide), zro_o (by omega), f1 (-1) (by decide), zro_o (by omega)]⟩
  exact law_loop (by decide) (by decide) hb hR 2048 0 M2 ⟨fr, 7, 0, _, _, _, _, _, _, cs0 I2 Z2, ms0 Z2 o2 p2 z2, vs0⟩ (by decide) (by decide) (by omega) h0
