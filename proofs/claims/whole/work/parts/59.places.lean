/-! PLACES BY DEGREE -/
def plR (P : Nat → Int) (F : Nat → Int) (k i : Nat) : Int := P k - isum (fun j => if j = 0 ∨ k % j ≠ 0 then 0 else (j : Int) * F j) i
def plN (P : Nat → Int) : Nat → Nat → Int
  | 0, _ => 0
  | k + 1, j => if j = k + 1 then (plR P (plN P k) (k + 1) (k + 1)).tdiv ((k + 1 : Nat) : Int) else plN P k j
theorem plN_le (P : Nat → Int) : ∀ (m k j : Nat), j ≤ k → k ≤ m → plN P m j = plN P k j := by
  intro m
  induction m with
  | zero => intro k j h1 h2; obtain rfl : k = 0 := by omega
            rfl
  | succ m ih =>
    intro k j h1 h2
    by_cases e : k = m + 1
    · rw [e]
    · show (if j = m + 1 then _ else plN P m j) = _
      rw [if_neg (by omega)]; exact ih k j h1 (by omega)
def FoA (N : Mem) (F : Nat → Int) (k : Nat) : Prop := ∀ j : Nat, 1 ≤ j → j ≤ k → N 31 (j : Int) = F j
set_option maxHeartbeats 4000000 in
theorem l_plI {p : Int} {N : Mem} {ρ : Int → Option (Pz p)} {Q : Post} {d k : Nat} {P F : Nat → Int} (h : ST p N ρ) (hk : 1 ≤ k ∧ k ≤ 6) (hA : FoA N F (k - 1)) (hr : R64 (plR P F k k)) (hQ : WP 76 (0, 0) 15 [(2, 21), (0, (d : Int)), (0, (k : Int) + 1), (1, plR P F k k), (9, 0), (0, (k : Int))] [] NN (ust N 31 (k : Int) ((plR P F k k).tdiv (k : Int))) Q) :
    ∀ (n i : Nat), i + n = k → 1 ≤ i → WP 76 (0, 0) 29 [(2, 21), (0, (d : Int)), (0, (k : Int)), (1, plR P F k i), (9, 0), (0, (i : Int))] [] NN N Q := by
  intro n
  induction n with
  | zero =>
    intro i hi h1
    obtain rfl : i = k := by omega
    refine WP.run [(76, 29), (76, 15)] [] 60 ?_
    simp only [bk76_0, bk76_5, bk76_11, bk76_13, bk76_15, bk76_20, bk76_29, bk76_35, bk76_42, bk76_56, bk76_62, bk76_78, U_iload_n, U_iconst, U_icmp_lt, U_bipush, U_icmp_le, U_lconst, U_lreturn, U_istore_n, U_icmp_gt, U_aload_n, U_invokevirtual1, U_lstore_n, U_istore, U_iload, U_icmp_ge, U_irem, U_if_ne, U_lload_n, U_i2l, U_getfield, U_lald, U_lmul, U_lsub, U_iinc, U_goto, U_ldiv, U_last, UN_cc, UN_cn, UN_nc, UN_nn, UJ, lget, lset, lset2, entL, wsm, wcat, Option.toList_some, Option.toList_none, List.cons_append, List.nil_append, List.mem_cons, List.not_mem_nil, Prod.mk.injEq, or_false, false_or, or_true, true_or, and_true, true_and, and_false, false_and, and_self, ne_eq, not_false_eq_true, not_true_eq_false, forall_const, true_implies, false_implies, Nat.add_zero, Nat.zero_add, Nat.le_refl, Nat.zero_le, List.set_cons_zero, List.set_cons_succ, List.set_nil, ↓reduceIte, Nat.reduceAdd, Nat.reduceSub, Nat.reduceEqDiff, Nat.reduceLeDiff, Int.reduceEq, Int.reduceNe, Int.reduceNeg, reduceCtorEq, kd21, kd31, ln31, z21_12 h.1.1]
    exact ⟨rr (by omega), fun e => absurd e (by omega), fun _ => ⟨r3 (by omega), hr, r6 (by omega), by omega, by omega, by omega, hQ⟩⟩
  | succ n ih =>
    intro i hi h1
    have e1 := hA i h1 (by omega)
    have e2 : (k : Int).tmod (i : Int) = ((k % i : Nat) : Int) := by rw [tm_nn (by omega), Int.natCast_emod]
    have st : WP 76 (0, 0) 29 [(2, 21), (0, (d : Int)), (0, (k : Int)), (1, plR P F k (i + 1)), (9, 0), (0, (i : Int) + 1)] [] NN N Q := ih (i + 1) (by omega) (by omega)
    have e3 : plR P F k (i + 1) = plR P F k i - (if i = 0 ∨ k % i ≠ 0 then 0 else (i : Int) * F i) := by
      show P k - (isum _ i + (if i = 0 ∨ k % i ≠ 0 then 0 else (i : Int) * F i)) = P k - isum _ i - _
      omega
    refine WP.run [(76, 29)] [] 60 ?_
    simp only [bk76_0, bk76_5, bk76_11, bk76_13, bk76_15, bk76_20, bk76_29, bk76_35, bk76_42, bk76_56, bk76_62, bk76_78, U_iload_n, U_iconst, U_icmp_lt, U_bipush, U_icmp_le, U_lconst, U_lreturn, U_istore_n, U_icmp_gt, U_aload_n, U_invokevirtual1, U_lstore_n, U_istore, U_iload, U_icmp_ge, U_irem, U_if_ne, U_lload_n, U_i2l, U_getfield, U_lald, U_lmul, U_lsub, U_iinc, U_goto, U_ldiv, U_last, UN_cc, UN_cn, UN_nc, UN_nn, UJ, lget, lset, lset2, entL, wsm, wcat, Option.toList_some, Option.toList_none, List.cons_append, List.nil_append, List.mem_cons, List.not_mem_nil, Prod.mk.injEq, or_false, false_or, or_true, true_or, and_true, true_and, and_false, false_and, and_self, ne_eq, not_false_eq_true, not_true_eq_false, forall_const, true_implies, false_implies, Nat.add_zero, Nat.zero_add, Nat.le_refl, Nat.zero_le, List.set_cons_zero, List.set_cons_succ, List.set_nil, ↓reduceIte, Nat.reduceAdd, Nat.reduceSub, Nat.reduceEqDiff, Nat.reduceLeDiff, Int.reduceEq, Int.reduceNe, Int.reduceNeg, reduceCtorEq, kd21, kd31, ln31, z21_12 h.1.1, e1, e2]
    have hm : k % i < i := Nat.mod_lt _ (by omega)
    generalize hq : k % i = q at *
    refine ⟨rr (by omega), fun _ => ⟨r3 (by omega), r3 (by omega), by omega, r3 (by omega), fun e => ?_, fun e => ?_⟩, fun e => absurd (by omega) e⟩
    · have e4 : q = 0 := by omega
      rw [if_neg (by omega)] at e3
      refine ⟨r3 (by omega), by omega, by omega, ?_⟩
      rw [← e3]; exact st
    · rw [if_pos (by omega), Int.sub_zero] at e3
      rw [← e3]; exact st
set_option maxHeartbeats 8000000 in
theorem l_plO {p : Int} {N : Mem} {ρ : Int → Option (Pz p)} {Q : Post} {f : Pz p} {g d : Nat} (hC : CvN N f g) (hd : 1 ≤ d ∧ d ≤ 6) (hr : ∀ k, 1 ≤ k → k ≤ 6 → R64 (plR (ptO f g) (plN (ptO f g) (k - 1)) k k)) (hQ : ∀ N', ST p N' ρ → FX [31] N N' → Q (some (1, plN (ptO f g) 6 d)) NN N') :
    ∀ (n k : Nat) (v w : V) (w' : V) (Ni : Mem), k + n = d + 1 → 1 ≤ k → ST p Ni ρ → FX [31] N Ni → FoA Ni (plN (ptO f g) (k - 1)) (k - 1) → WP 76 (0, 0) 15 [(2, 21), (0, (d : Int)), (0, (k : Int)), v, w, w'] [] NN Ni Q := by
  intro n
  induction n with
  | zero =>
    intro k v w w' Ni hk h1 hS hF hA
    obtain rfl : k = d + 1 := by omega
    have e1 := hA d (by omega) (by omega)
    rw [show d + 1 - 1 = d by omega] at e1
    refine WP.run [(76, 15)] [] 60 ?_
    simp only [bk76_0, bk76_5, bk76_11, bk76_13, bk76_15, bk76_20, bk76_29, bk76_35, bk76_42, bk76_56, bk76_62, bk76_78, U_iload_n, U_iconst, U_icmp_lt, U_bipush, U_icmp_le, U_lconst, U_lreturn, U_istore_n, U_icmp_gt, U_aload_n, U_invokevirtual1, U_lstore_n, U_istore, U_iload, U_icmp_ge, U_irem, U_if_ne, U_lload_n, U_i2l, U_getfield, U_lald, U_lmul, U_lsub, U_iinc, U_goto, U_ldiv, U_last, UN_cc, UN_cn, UN_nc, UN_nn, UJ, lget, lset, lset2, entL, wsm, wcat, Option.toList_some, Option.toList_none, List.cons_append, List.nil_append, List.mem_cons, List.not_mem_nil, Prod.mk.injEq, or_false, false_or, or_true, true_or, and_true, true_and, and_false, false_and, and_self, ne_eq, not_false_eq_true, not_true_eq_false, forall_const, true_implies, false_implies, Nat.add_zero, Nat.zero_add, Nat.le_refl, Nat.zero_le, List.set_cons_zero, List.set_cons_succ, List.set_nil, ↓reduceIte, Nat.reduceAdd, Nat.reduceSub, Nat.reduceEqDiff, Nat.reduceLeDiff, Int.reduceEq, Int.reduceNe, Int.reduceNeg, reduceCtorEq, kd21, kd31, ln31, z21_12 hS.1.1, e1]
    refine ⟨rr (by omega), fun _ => ⟨by omega, by omega, ?_⟩, fun e => absurd (by omega) e⟩
    have := hQ Ni hS hF
    rw [plN_le _ 6 d d (by omega) (by omega)] at this; exact this
  | succ n ih =>
    intro k v w w' Ni hk h1 hS hF hA
    have hCi : CvN Ni f g := hC.fx (hF 21 (by decide) (by decide)) (hF 26 (by decide) (by decide)) (hF 27 (by decide) (by decide)) (hF 29 (by decide) (by decide)) (hF 30 (by decide) (by decide))
    refine WP.run [(76, 15), (76, 29)] [] 60 ?_
    simp only [bk76_0, bk76_5, bk76_11, bk76_13, bk76_15, bk76_20, bk76_29, bk76_35, bk76_42, bk76_56, bk76_62, bk76_78, U_iload_n, U_iconst, U_icmp_lt, U_bipush, U_icmp_le, U_lconst, U_lreturn, U_istore_n, U_icmp_gt, U_aload_n, U_invokevirtual1, U_lstore_n, U_istore, U_iload, U_icmp_ge, U_irem, U_if_ne, U_lload_n, U_i2l, U_getfield, U_lald, U_lmul, U_lsub, U_iinc, U_goto, U_ldiv, U_last, UN_cc, UN_cn, UN_nc, UN_nn, UJ, lget, lset, lset2, entL, wsm, wcat, Option.toList_some, Option.toList_none, List.cons_append, List.nil_append, List.mem_cons, List.not_mem_nil, Prod.mk.injEq, or_false, false_or, or_true, true_or, and_true, true_and, and_false, false_and, and_self, ne_eq, not_false_eq_true, not_true_eq_false, forall_const, true_implies, false_implies, Nat.add_zero, Nat.zero_add, Nat.le_refl, Nat.zero_le, List.set_cons_zero, List.set_cons_succ, List.set_nil, ↓reduceIte, Nat.reduceAdd, Nat.reduceSub, Nat.reduceEqDiff, Nat.reduceLeDiff, Int.reduceEq, Int.reduceNe, Int.reduceNeg, reduceCtorEq, kd21]
    refine ⟨rr (by omega), fun e => absurd e (by omega), fun _ => ?_⟩
    refine s_pointsOver (f := f) (g := g) hS hCi (by omega) ?_
    simp only [bk76_0, bk76_5, bk76_11, bk76_13, bk76_15, bk76_20, bk76_29, bk76_35, bk76_42, bk76_56, bk76_62, bk76_78, U_iload_n, U_iconst, U_icmp_lt, U_bipush, U_icmp_le, U_lconst, U_lreturn, U_istore_n, U_icmp_gt, U_aload_n, U_invokevirtual1, U_lstore_n, U_istore, U_iload, U_icmp_ge, U_irem, U_if_ne, U_lload_n, U_i2l, U_getfield, U_lald, U_lmul, U_lsub, U_iinc, U_goto, U_ldiv, U_last, UN_cc, UN_cn, UN_nc, UN_nn, UJ, lget, lset, lset2, entL, wsm, wcat, Option.toList_some, Option.toList_none, List.cons_append, List.nil_append, List.mem_cons, List.not_mem_nil, Prod.mk.injEq, or_false, false_or, or_true, true_or, and_true, true_and, and_false, false_and, and_self, ne_eq, not_false_eq_true, not_true_eq_false, forall_const, true_implies, false_implies, Nat.add_zero, Nat.zero_add, Nat.le_refl, Nat.zero_le, List.set_cons_zero, List.set_cons_succ, List.set_nil, ↓reduceIte, Nat.reduceAdd, Nat.reduceSub, Nat.reduceEqDiff, Nat.reduceLeDiff, Int.reduceEq, Int.reduceNe, Int.reduceNeg, reduceCtorEq]
    have := l_plI (p := p) (N := Ni) (ρ := ρ) (Q := Q) (d := d) (k := k) (P := ptO f g) (F := plN (ptO f g) (k - 1)) hS (by omega) hA (hr k (by omega) (by omega)) ?_ (k - 1) 1 (by omega) (by omega)
    · have e0 : plR (ptO f g) (plN (ptO f g) (k - 1)) k 1 = ptO f g k := by
        show ptO f g k - (0 + (if 0 = 0 ∨ k % 0 ≠ 0 then (0 : Int) else _)) = _
        rw [if_pos (Or.inl rfl)]; omega
      rw [e0] at this; exact this
    · refine ih (k + 1) _ _ _ _ (by omega) (by omega) (hS.ust _ _ (fz_arr (Or.inr rfl) _) (by decide) (by decide) (by decide)) (hF.us _ _ (by simp)) (fun j j1 j2 => ?_)
      rw [ust_at, show k + 1 - 1 = k by omega]
      obtain ⟨m, rfl⟩ : ∃ m, k = m + 1 := ⟨k - 1, by omega⟩
      rw [show m + 1 - 1 = m by omega] at *
      by_cases e : j = m + 1
      · rw [if_pos (by omega), e]
        show _ = if m + 1 = m + 1 then _ else _
        rw [if_pos rfl]
      · rw [if_neg (by omega), plN_le _ (m + 1) m j (by omega) (by omega)]; exact hA j j1 (by omega)
theorem ab_mul {a b A B : Int} (h1 : -A ≤ a ∧ a ≤ A) (h2 : -B ≤ b ∧ b ≤ B) : -(A * B) ≤ a * b ∧ a * b ≤ A * B := by
  have e1 : (a.natAbs : Int) ≤ A := by omega
  have e2 : (b.natAbs : Int) ≤ B := by omega
  have := Int.mul_le_mul e1 e2 (by omega) (by omega)
  rw [← Int.natCast_mul, ← Int.natAbs_mul] at this
  omega
theorem ab_div {a A : Int} (k : Nat) (h : -A ≤ a ∧ a ≤ A) : -A ≤ a.tdiv (k : Int) ∧ a.tdiv (k : Int) ≤ A := by
  have := Int.natAbs_tdiv_le_natAbs a (k : Int)
  omega
theorem ov_rg {s : Nat → Int} (h1 : -26 ≤ s 1 ∧ s 1 ≤ 26) (h2 : -16000 ≤ s 2 ∧ s 2 ≤ 16000) (h3 : -400 ≤ s 3 ∧ s 3 ≤ 400) (h4 : -200 ≤ s 4 ∧ s 4 ≤ 200) (h5 : s 5 = 0) (h6 : s 6 = 0) : ∀ k, 1 ≤ k → k ≤ 6 → -20000000000000 ≤ ovT s 6 k ∧ ovT s 6 k ≤ 20000000000000 := by
  have e1 : ovT s 6 1 = s 1 := by simp [ovT, isum]
  have e2 : ovT s 6 2 = 2 * s 2 - s 1 * ovT s 6 1 := by simp [ovT, isum]
  have e3 : ovT s 6 3 = 3 * s 3 - (s 1 * ovT s 6 2 + s 2 * ovT s 6 1) := by simp [ovT, isum]
  have e4 : ovT s 6 4 = 4 * s 4 - (s 1 * ovT s 6 3 + s 2 * ovT s 6 2 + s 3 * ovT s 6 1) := by simp [ovT, isum]
  have e5 : ovT s 6 5 = 5 * s 5 - (s 1 * ovT s 6 4 + s 2 * ovT s 6 3 + s 3 * ovT s 6 2 + s 4 * ovT s 6 1) := by simp [ovT, isum]
  have e6 : ovT s 6 6 = 6 * s 6 - (s 1 * ovT s 6 5 + s 2 * ovT s 6 4 + s 3 * ovT s 6 3 + s 4 * ovT s 6 2 + s 5 * ovT s 6 1) := by simp [ovT, isum]
  rw [h5] at e5 e6; rw [h6] at e6
  generalize hq1 : ovT s 6 1 = o1 at *
  generalize hq2 : ovT s 6 2 = o2 at *
  generalize hq3 : ovT s 6 3 = o3 at *
  generalize hq4 : ovT s 6 4 = o4 at *
  generalize hq5 : ovT s 6 5 = o5 at *
  generalize hq6 : ovT s 6 6 = o6 at *
  have b1 : -26 ≤ o1 ∧ o1 ≤ 26 := by omega
  have p11 := ab_mul h1 b1
  have b2 : -33000 ≤ o2 ∧ o2 ≤ 33000 := by omega
  have p12 := ab_mul h1 b2
  have p21 := ab_mul h2 b1
  have b3 : -1300000 ≤ o3 ∧ o3 ≤ 1300000 := by omega
  have p13 := ab_mul h1 b3
  have p22 := ab_mul h2 b2
  have p31 := ab_mul h3 b1
  have b4 : -600000000 ≤ o4 ∧ o4 ≤ 600000000 := by omega
  have p14 := ab_mul h1 b4
  have p23 := ab_mul h2 b3
  have p32 := ab_mul h3 b2
  have p41 := ab_mul h4 b1
  have b5 : -40000000000 ≤ o5 ∧ o5 ≤ 40000000000 := by omega
  have p15 := ab_mul h1 b5
  have p24 := ab_mul h2 b4
  have p33 := ab_mul h3 b3
  have p42 := ab_mul h4 b2
  intro k k1 k2
  have : k = 1 ∨ k = 2 ∨ k = 3 ∨ k = 4 ∨ k = 5 ∨ k = 6 := by omega
  rcases this with rfl | rfl | rfl | rfl | rfl | rfl <;> omega
theorem isum_cg {F G : Nat → Int} : ∀ (n : Nat), (∀ j, j < n → F j = G j) → isum F n = isum G n
  | 0, _ => rfl
  | n + 1, h => by
    show isum F n + F n = isum G n + G n
    rw [isum_cg n (fun j hj => h j (by omega)), h n (by omega)]
theorem plR_cg {P F G : Nat → Int} {k : Nat} (h : ∀ j, 1 ≤ j → j < k → F j = G j) : plR P F k k = plR P G k k := by
  unfold plR
  rw [isum_cg k (fun j hj => ?_)]
  by_cases q : j = 0
  · rw [if_pos (Or.inl q), if_pos (Or.inl q)]
  · rw [h j (by omega) hj]
theorem plN_k (P : Nat → Int) (k : Nat) (h1 : 1 ≤ k) (h2 : k ≤ 6) : plN P 6 k = (plR P (plN P 6) k k).tdiv (k : Int) := by
  obtain ⟨m, rfl⟩ : ∃ m, k = m + 1 := ⟨k - 1, by omega⟩
  rw [plN_le P 6 (m + 1) (m + 1) (by omega) (by omega)]
  show (if m + 1 = m + 1 then (plR P (plN P m) (m + 1) (m + 1)).tdiv ((m + 1 : Nat) : Int) else _) = _
  rw [if_pos rfl, plR_cg (G := plN P 6) (fun j j1 j2 => (plN_le P 6 m j (by omega) (by omega)).symm)]
theorem pl_rg {P : Nat → Int} (h : ∀ k, 1 ≤ k → k ≤ 6 → -30000000000000 ≤ P k ∧ P k ≤ 30000000000000) : ∀ k, 1 ≤ k → k ≤ 6 → (-9000000000000000 ≤ plR P (plN P (k - 1)) k k ∧ plR P (plN P (k - 1)) k k ≤ 9000000000000000) ∧ -9000000000000000 ≤ plN P 6 k ∧ plN P 6 k ≤ 9000000000000000 := by
  have e1 : plR P (plN P 6) 1 1 = P 1 := by simp [plR, isum]
  have e2 : plR P (plN P 6) 2 2 = P 2 - plN P 6 1 := by simp [plR, isum]
  have e3 : plR P (plN P 6) 3 3 = P 3 - plN P 6 1 := by simp [plR, isum]
  have e4 : plR P (plN P 6) 4 4 = P 4 - (plN P 6 1 + 2 * plN P 6 2) := by simp [plR, isum]
  have e5 : plR P (plN P 6) 5 5 = P 5 - plN P 6 1 := by simp [plR, isum]
  have e6 : plR P (plN P 6) 6 6 = P 6 - (plN P 6 1 + 2 * plN P 6 2 + 3 * plN P 6 3) := by simp [plR, isum]
  have d1 := ab_div (A := 30000000000000) 1 (a := plR P (plN P 6) 1 1) (by rw [e1]; exact h 1 (by omega) (by omega))
  rw [← plN_k P 1 (by omega) (by omega)] at d1
  have q2 := h 2 (by omega) (by omega)
  have d2 := ab_div (A := 60000000000000) 2 (a := plR P (plN P 6) 2 2) (by rw [e2]; omega)
  rw [← plN_k P 2 (by omega) (by omega)] at d2
  have q3 := h 3 (by omega) (by omega)
  have d3 := ab_div (A := 60000000000000) 3 (a := plR P (plN P 6) 3 3) (by rw [e3]; omega)
  rw [← plN_k P 3 (by omega) (by omega)] at d3
  have q4 := h 4 (by omega) (by omega)
  have d4 := ab_div (A := 300000000000000) 4 (a := plR P (plN P 6) 4 4) (by rw [e4]; omega)
  rw [← plN_k P 4 (by omega) (by omega)] at d4
  have q5 := h 5 (by omega) (by omega)
  have d5 := ab_div (A := 60000000000000) 5 (a := plR P (plN P 6) 5 5) (by rw [e5]; omega)
  rw [← plN_k P 5 (by omega) (by omega)] at d5
  have q6 := h 6 (by omega) (by omega)
  have d6 := ab_div (A := 600000000000000) 6 (a := plR P (plN P 6) 6 6) (by rw [e6]; omega)
  rw [← plN_k P 6 (by omega) (by omega)] at d6
  intro k k1 k2
  rw [plR_cg (G := plN P 6) (fun j j1 j2 => (plN_le P 6 (k - 1) j (by omega) (by omega)).symm)]
  have q1 := h 1 (by omega) (by omega)
  have : k = 1 ∨ k = 2 ∨ k = 3 ∨ k = 4 ∨ k = 5 ∨ k = 6 := by omega
  rcases this with rfl | rfl | rfl | rfl | rfl | rfl
  · rw [e1]; omega
  · rw [e2]; omega
  · rw [e3]; omega
  · rw [e4]; omega
  · rw [e5]; omega
  · rw [e6]; omega
