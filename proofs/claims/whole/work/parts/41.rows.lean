/-! ROWS IN CELLS: copy, likeness, sums, products -/
theorem tm_nn {a p : Int} (h : 0 ≤ a) : a.tmod p = a % p := Int.tmod_eq_emod_of_nonneg h
theorem tm_by {a p : Int} (hp : 0 < p) : (a.tmod p < 0 → a.tmod p + p = a % p) ∧ (¬ a.tmod p < 0 → a.tmod p = a % p) := by
  have h1 := Int.emod_nonneg a (b := p) (by omega)
  have h2 := Int.emod_lt_of_pos a hp
  rw [Int.tmod_eq_emod]
  by_cases h : 0 ≤ a ∨ p ∣ a
  · rw [if_pos h]; exact ⟨fun q => by omega, fun _ => by omega⟩
  · rw [if_neg h]; exact ⟨fun _ => by omega, fun q => by omega⟩
/-- what the class has of P -/
def CB (p : Int) (N : Mem) : Prop := Fz N ∧ Pr p ∧ N 2 0 = p ∧ ∀ v : Int, 0 < v → v < p → 0 ≤ N 3 v ∧ N 3 v < 13 ∧ v * N 3 v % p = 1
theorem CB.fr {p : Int} {N N' : Mem} {K : List Int} (h : CB p N) (hz : Fz N') (hF : Fr K N N') (h2 : (2 : Int) ∉ K) (h3 : (3 : Int) ∉ K) : CB p N' :=
  ⟨hz, h.2.1, by rw [hF 2 h2]; exact h.2.2.1, fun v a b => by rw [hF 3 h3]; exact h.2.2.2 v a b⟩
theorem KD_2 : KD 2 = 19 := rfl
theorem KD_3 : KD 3 = 1 := rfl
theorem IsRow.n2 {r c : Int} (h : IsRow r c) : r ≠ 2 ∧ c ≠ 2 ∧ r ≠ 3 := ⟨fun e => by have := kdN h.1 (by decide); rw [e, KD_2] at this; omega, fun e => by have := kdN h.2.1 (by decide); rw [e, KD_2] at this; omega, fun e => by have := kdN h.1 (by decide); rw [e, KD_3] at this; omega⟩
set_option maxHeartbeats 4000000 in
theorem c_by {p : Int} {N : Mem} {Q : Post} {v : Int} (hC : CB p N) (hv : R32 v) (hQ : Q (some (0, v % p)) NN N) : CL 10 [(2, 2), (0, v), (9, 0)] NN N Q := by
  have hpp := hC.2.1.pos
  have h1 := Int.emod_nonneg v (b := p) (by omega)
  have h2 := Int.emod_lt_of_pos v (b := p) (by omega)
  obtain ⟨t1, t2⟩ := tm_by (a := v) (p := p) (by omega)
  refine WP.run [] [] 30 ?_
  simp only [bk10_0, bk10_11, bk10_20, bk10_21, U_iload_n, U_aload_n, U_getfield, U_irem, U_istore_n, U_if_ge, U_iadd, U_goto, U_ireturn, UN_cc, UN_cn, UN_nc, UN_nn, UJ, lget, lset, lset2, entL, wsm, wcat, Option.toList_some, Option.toList_none, List.cons_append, List.nil_append, List.mem_cons, List.not_mem_nil, Prod.mk.injEq, or_false, false_or, or_true, true_or, and_true, true_and, and_false, false_and, and_self, ne_eq, not_false_eq_true, not_true_eq_false, forall_const, true_implies, false_implies, Nat.add_zero, Nat.zero_add, Nat.le_refl, Nat.zero_le, ↓reduceIte, Nat.reduceAdd, Nat.reduceSub, Nat.reduceEqDiff, Nat.reduceLeDiff, Int.reduceEq, Int.reduceNe, Int.reduceNeg, reduceCtorEq, kd2, hC.2.2.1]
  refine ⟨hv, r3 (by omega), by omega, r3 ?_, fun h => ?_, fun h => ?_⟩
  · by_cases q : v.tmod p < 0
    · have := t1 q; omega
    · have := t2 q; omega
  · rw [t1 h]; exact hQ
  · rw [t2 h]; exact hQ
set_option maxHeartbeats 4000000 in
theorem c_inverse {p : Int} {N : Mem} {Q : Post} {v : Int} (hC : CB p N) (h0 : 0 < v) (h1 : v < p) (hQ : ∀ w, 0 ≤ w → w < 13 → v * w % p = 1 → Q (some (0, w)) NN N) : CL 18 [(2, 2), (0, v)] NN N Q := by
  have hpp := hC.2.1.pos
  obtain ⟨i1, i2, i3⟩ := hC.2.2.2 v h0 h1
  refine WP.run [] [] 30 ?_
  simp only [bk18_0, bk18_4, bk18_10, bk18_14, bk18_20, U_iload_n, U_if_lt, U_bipush, U_icmp_lt, U_iconst, U_goto, U_aload_n, U_getfield, U_iald, U_ireturn, UN_cc, UN_cn, UN_nc, UN_nn, UJ, lget, lset, lset2, entL, wsm, wcat, Option.toList_some, Option.toList_none, List.cons_append, List.nil_append, List.mem_cons, List.not_mem_nil, Prod.mk.injEq, or_false, false_or, or_true, true_or, and_true, true_and, and_false, false_and, and_self, ne_eq, not_false_eq_true, not_true_eq_false, forall_const, true_implies, false_implies, Nat.add_zero, Nat.zero_add, Nat.le_refl, Nat.zero_le, ↓reduceIte, Nat.reduceAdd, Nat.reduceSub, Nat.reduceEqDiff, Nat.reduceLeDiff, Int.reduceEq, Int.reduceNe, Int.reduceNeg, reduceCtorEq, kd2, kd3, ln3, z2_1 hC.1]
  exact ⟨r3 (by omega), fun h => by omega, fun _ => ⟨rr (by omega), fun _ => ⟨by omega, by omega, hQ _ i1 i2 i3⟩, fun h => by omega⟩⟩
/-- the first i coefficients taken over -/
def cpM (N : Mem) (c e i : Int) : Mem := fun b j => if b = c ∧ 0 ≤ j ∧ j < i then N e j else N b j
set_option maxHeartbeats 4000000 in
theorem l_copy {N : Mem} {Q : Post} {r c s e : Int} (hr : RS N r c) (hs : RS N s e) (hce : c ≠ e) (hrs : r ≠ s) (hQ : Q none NN (ust (cpM N c e 8) r 1 (N s 1))) : ∀ (n : Nat) (i : Int), i + n = 8 → 0 ≤ i → WP 16 (0, 0) 2 [(2, r), (2, s), (0, i)] [] NN (cpM N c e i) Q := by
  have a1 : ∀ i, cpM N c e i r = N r := fun i => by funext j; unfold cpM; rw [if_neg (fun q => hr.1.ne q.1)]
  have a2 : ∀ i, cpM N c e i s = N s := fun i => by
    funext j; unfold cpM; rw [if_neg (fun q => ?_)]
    have h1 := kdN hs.1.1 (by decide); have h2 := kdN hr.1.2.1 (by decide)
    rw [q.1, h2] at h1; omega
  have a3 : ∀ i j, cpM N c e i e j = N e j := fun i j => by unfold cpM; rw [if_neg (fun q => hce q.1.symm)]
  intro n
  induction n with
  | zero =>
    intro i h1 h2
    obtain rfl : i = 8 := by omega
    refine WP.run [(16, 2)] [] 30 ?_
    simp only [bk16_0, bk16_2, bk16_8, bk16_26, U_iconst, U_istore_n, U_iload_n, U_bipush, U_icmp_ge, U_aload_n, U_getfield, U_iald, U_iast, U_iinc, U_goto, U_putfield, U_return, UN_cc, UN_cn, UN_nc, UN_nn, UJ, lget, lset, lset2, entL, wsm, wcat, Option.toList_some, Option.toList_none, List.cons_append, List.nil_append, List.mem_cons, List.not_mem_nil, Prod.mk.injEq, or_false, false_or, or_true, true_or, and_true, true_and, and_false, false_and, and_self, ne_eq, not_false_eq_true, not_true_eq_false, forall_const, true_implies, false_implies, Nat.add_zero, Nat.zero_add, Nat.le_refl, Nat.zero_le, ↓reduceIte, Nat.reduceAdd, Nat.reduceSub, Nat.reduceEqDiff, Nat.reduceLeDiff, Int.reduceEq, Int.reduceNe, Int.reduceNeg, reduceCtorEq, hr.1.1, hs.1.1, hr.1.2.1, hs.1.2.1, hr.1.2.2, hs.1.2.2, a1, a2, hr.2, hs.2, hr.1.c0, hs.1.c0]
    exact ⟨rr (by omega), fun h => absurd h (by omega), fun _ => hQ⟩
  | succ n ih =>
    intro i h1 h2
    refine WP.run [(16, 2)] [] 30 ?_
    simp only [bk16_0, bk16_2, bk16_8, bk16_26, U_iconst, U_istore_n, U_iload_n, U_bipush, U_icmp_ge, U_aload_n, U_getfield, U_iald, U_iast, U_iinc, U_goto, U_putfield, U_return, UN_cc, UN_cn, UN_nc, UN_nn, UJ, lget, lset, lset2, entL, wsm, wcat, Option.toList_some, Option.toList_none, List.cons_append, List.nil_append, List.mem_cons, List.not_mem_nil, Prod.mk.injEq, or_false, false_or, or_true, true_or, and_true, true_and, and_false, false_and, and_self, ne_eq, not_false_eq_true, not_true_eq_false, forall_const, true_implies, false_implies, Nat.add_zero, Nat.zero_add, Nat.le_refl, Nat.zero_le, ↓reduceIte, Nat.reduceAdd, Nat.reduceSub, Nat.reduceEqDiff, Nat.reduceLeDiff, Int.reduceEq, Int.reduceNe, Int.reduceNeg, reduceCtorEq, hr.1.1, hs.1.1, hr.1.2.1, hs.1.2.1, hr.1.2.2, hs.1.2.2, a1, a2, a3, hr.2, hs.2, hr.1.c0, hs.1.c0]
    refine ⟨rr (by omega), fun h => ⟨h2, h, h2, h, ?_⟩, fun h => absurd h (by omega)⟩
    have e2 : ust (cpM N c e i) c i (N e i) = cpM N c e (i + 1) := by
      funext b j
      unfold ust cpM
      by_cases e3 : b = c
      · by_cases e4 : j = i
        · rw [if_pos ⟨e3, e4⟩, if_pos ⟨e3, by omega, by omega⟩, e4]
        · rw [if_neg (fun q => e4 q.2)]
          by_cases e5 : 0 ≤ j ∧ j < i
          · rw [if_pos ⟨e3, e5⟩, if_pos ⟨e3, by omega, by omega⟩]
          · rw [if_neg (fun q => e5 q.2), if_neg (fun q => e5 ⟨q.2.1, by omega⟩)]
      · rw [if_neg (fun q => e3 q.1), if_neg (fun q => e3 q.1), if_neg (fun q => e3 q.1)]
    rw [e2]
    exact ih (i + 1) (by omega) (by omega)
set_option maxHeartbeats 4000000 in
theorem c_copy {p : Int} {N : Mem} {Q : Post} {r c s e : Int} {a : Pz p} (hr : RS N r c) (hs : RP N s e a) (hce : c ≠ e) (hrs : r ≠ s) (hQ : ∀ N', Fr [r, c] N N' → RP N' r c a → Q none NN N') : CL 16 [(2, r), (2, s), (9, 0)] NN N Q := by
  refine WP.run [(16, 2)] [] 30 ?_
  simp only [bk16_0, bk16_2, bk16_8, bk16_26, U_iconst, U_istore_n, U_iload_n, U_bipush, U_icmp_ge, U_aload_n, U_getfield, U_iald, U_iast, U_iinc, U_goto, U_putfield, U_return, UN_cc, UN_cn, UN_nc, UN_nn, UJ, lget, lset, lset2, entL, wsm, wcat, Option.toList_some, Option.toList_none, List.cons_append, List.nil_append, List.mem_cons, List.not_mem_nil, Prod.mk.injEq, or_false, false_or, or_true, true_or, and_true, true_and, and_false, false_and, and_self, ne_eq, not_false_eq_true, not_true_eq_false, forall_const, true_implies, false_implies, Nat.add_zero, Nat.zero_add, Nat.le_refl, Nat.zero_le, ↓reduceIte, Nat.reduceAdd, Nat.reduceSub, Nat.reduceEqDiff, Nat.reduceLeDiff, Int.reduceEq, Int.reduceNe, Int.reduceNeg, reduceCtorEq]
  have e0 : cpM N c e 0 = N := by funext b j; unfold cpM; rw [if_neg (by omega)]
  have := l_copy (Q := Q) hr hs.1 hce hrs ?_ 8 0 (by omega) (by omega)
  · rw [e0] at this; exact this
  · refine hQ _ (fun b hb => ?_) ⟨⟨hr.1, ?_⟩, fun j hj => ?_, hs.2.2.1, ?_⟩
    · rw [ust_ne (by intro q; exact hb (by simp [q]))]
      funext j; unfold cpM; rw [if_neg (by intro q; exact hb (by simp [q.1]))]
    · rw [ust_r, if_neg (by omega)]; unfold cpM; rw [if_neg (fun q => hr.1.ne q.1)]; exact hr.2
    · rw [ust_r, if_neg (fun q => hr.1.ne q.1.symm)]; unfold cpM; rw [if_pos ⟨rfl, by omega, by omega⟩]; exact hs.2.1 j hj
    · rw [ust_at, if_pos rfl]; exact hs.2.2.2
set_option maxHeartbeats 4000000 in
theorem l_like {p : Int} (hp : Pr p) {N : Mem} {Q : Post} {r c s e : Int} {a b : Pz p} (hr : RP N r c a) (hs : RP N s e b) (hd : dg a = dg b) (h1 : a = b → Q (some (0, 1)) NN N) (h0 : a ≠ b → Q (some (0, 0)) NN N) : ∀ (n : Nat) (i : Int), i + n = 8 → 0 ≤ i → (∀ j : Nat, j < i → a.1 j = b.1 j) → WP 31 (0, 0) 15 [(2, r), (2, s), (0, i)] [] NN N Q := by
  intro n
  induction n with
  | zero =>
    intro i g1 g2 g3
    refine WP.run [(31, 15)] [] 30 ?_
    simp only [bk31_0, bk31_11, bk31_13, bk31_15, bk31_21, bk31_36, bk31_38, bk31_44, U_aload_n, U_getfield, U_icmp_eq, U_iconst, U_ireturn, U_istore_n, U_iload_n, U_bipush, U_icmp_ge, U_iald, U_iinc, U_goto, UN_cc, UN_cn, UN_nc, UN_nn, UJ, lget, lset, lset2, entL, wsm, wcat, Option.toList_some, Option.toList_none, List.cons_append, List.nil_append, List.mem_cons, List.not_mem_nil, Prod.mk.injEq, or_false, false_or, or_true, true_or, and_true, true_and, and_false, false_and, and_self, ne_eq, not_false_eq_true, not_true_eq_false, forall_const, true_implies, false_implies, Nat.add_zero, Nat.zero_add, Nat.le_refl, Nat.zero_le, ↓reduceIte, Nat.reduceAdd, Nat.reduceSub, Nat.reduceEqDiff, Nat.reduceLeDiff, Int.reduceEq, Int.reduceNe, Int.reduceNeg, reduceCtorEq, hr.1.1.1, hs.1.1.1, hr.1.1.2.1, hs.1.1.2.1, hr.1.1.2.2, hs.1.1.2.2, hr.1.2, hs.1.2, hr.1.1.c0, hs.1.1.c0]
    refine ⟨rr (by omega), fun h => by omega, fun _ => h1 (Pz.ext fun k => ?_)⟩
    by_cases q : k < 8
    · exact g3 k (by omega)
    · rw [hr.far (by omega), hs.far (by omega)]
  | succ n ih =>
    intro i g1 g2 g3
    have e1 := hr.2.1 i.toNat (by omega)
    have e2 := hs.2.1 i.toNat (by omega)
    have b1 := hp.r32 a i.toNat
    have b2 := hp.r32 b i.toNat
    rw [Int.toNat_of_nonneg g2] at e1 e2
    refine WP.run [(31, 15)] [] 30 ?_
    simp only [bk31_0, bk31_11, bk31_13, bk31_15, bk31_21, bk31_36, bk31_38, bk31_44, U_aload_n, U_getfield, U_icmp_eq, U_iconst, U_ireturn, U_istore_n, U_iload_n, U_bipush, U_icmp_ge, U_iald, U_iinc, U_goto, UN_cc, UN_cn, UN_nc, UN_nn, UJ, lget, lset, lset2, entL, wsm, wcat, Option.toList_some, Option.toList_none, List.cons_append, List.nil_append, List.mem_cons, List.not_mem_nil, Prod.mk.injEq, or_false, false_or, or_true, true_or, and_true, true_and, and_false, false_and, and_self, ne_eq, not_false_eq_true, not_true_eq_false, forall_const, true_implies, false_implies, Nat.add_zero, Nat.zero_add, Nat.le_refl, Nat.zero_le, ↓reduceIte, Nat.reduceAdd, Nat.reduceSub, Nat.reduceEqDiff, Nat.reduceLeDiff, Int.reduceEq, Int.reduceNe, Int.reduceNeg, reduceCtorEq, hr.1.1.1, hs.1.1.1, hr.1.1.2.1, hs.1.1.2.1, hr.1.1.2.2, hs.1.1.2.2, hr.1.2, hs.1.2, hr.1.1.c0, hs.1.1.c0, e1, e2]
    refine ⟨rr (by omega), fun h => ⟨g2, h, g2, h, rr (by omega), fun q => ?_, fun q => ?_⟩, fun h => by omega⟩
    · refine ih (i + 1) (by omega) (by omega) (fun j hj => ?_)
      by_cases q2 : (j : Int) = i
      · have : j = i.toNat := by omega
        rw [this]; exact q
      · exact g3 j (by omega)
    · exact h0 (fun q2 => q (by rw [q2]))
set_option maxHeartbeats 4000000 in
theorem c_like {p : Int} (hp : Pr p) {N : Mem} {Q : Post} {r c s e : Int} {a b : Pz p} (hr : RP N r c a) (hs : RP N s e b) (h1 : a = b → Q (some (0, 1)) NN N) (h0 : a ≠ b → Q (some (0, 0)) NN N) : CL 31 [(2, r), (2, s), (9, 0)] NN N Q := by
  have d1 := hr.2.2.1
  have d2 := hs.2.2.1
  refine WP.run [(31, 15)] [] 30 ?_
  simp only [bk31_0, bk31_11, bk31_13, bk31_15, bk31_21, bk31_36, bk31_38, bk31_44, U_aload_n, U_getfield, U_icmp_eq, U_iconst, U_ireturn, U_istore_n, U_iload_n, U_bipush, U_icmp_ge, U_iald, U_iinc, U_goto, UN_cc, UN_cn, UN_nc, UN_nn, UJ, lget, lset, lset2, entL, wsm, wcat, Option.toList_some, Option.toList_none, List.cons_append, List.nil_append, List.mem_cons, List.not_mem_nil, Prod.mk.injEq, or_false, false_or, or_true, true_or, and_true, true_and, and_false, false_and, and_self, ne_eq, not_false_eq_true, not_true_eq_false, forall_const, true_implies, false_implies, Nat.add_zero, Nat.zero_add, Nat.le_refl, Nat.zero_le, ↓reduceIte, Nat.reduceAdd, Nat.reduceSub, Nat.reduceEqDiff, Nat.reduceLeDiff, Int.reduceEq, Int.reduceNe, Int.reduceNeg, reduceCtorEq, hr.1.1.1, hs.1.1.1, hr.2.2.2, hs.2.2.2]
  refine ⟨rr (by omega), fun h => ?_, fun h => h0 (fun q => h (by rw [q]))⟩
  exact l_like hp hr hs (by omega) h1 h0 8 0 (by omega) (by omega) (fun j hj => by omega)
/-! values -/
set_option maxHeartbeats 4000000 in
theorem l_valueAt {p : Int} {N : Mem} {Q : Post} {r c x : Int} {a : Pz p} (hC : CB p N) (hr : RP N r c a) (hx : 0 ≤ x) (hx2 : x < 13) (hQ : Q (some (0, pev a x)) NN N) : ∀ (n : Nat) (i w : Int), i + 1 = n → n ≤ dg a → w = ev x (dg a - n) (fun k => a.1 (k + n)) % p → WP 64 (0, 0) 8 [(2, 2), (2, r), (0, x), (0, w), (0, i)] [] NN N Q := by
  have hpp := hC.2.1.pos
  intro n
  induction n with
  | zero =>
    intro i w h1 h2 h3
    refine WP.run [(64, 8)] [] 30 ?_
    simp only [bk64_0, bk64_8, bk64_13, bk64_35, U_iconst, U_istore_n, U_aload_n, U_getfield, U_istore, U_iload, U_if_lt, U_iload_n, U_imul, U_invokevirtual1, U_iadd, U_irem, U_iinc, U_goto, U_ireturn, UN_cc, UN_cn, UN_nc, UN_nn, UJ, lget, lset, lset2, entL, wsm, wcat, Option.toList_some, Option.toList_none, List.cons_append, List.nil_append, List.mem_cons, List.not_mem_nil, Prod.mk.injEq, or_false, false_or, or_true, true_or, and_true, true_and, and_false, false_and, and_self, ne_eq, not_false_eq_true, not_true_eq_false, forall_const, true_implies, false_implies, Nat.add_zero, Nat.zero_add, Nat.le_refl, Nat.zero_le, ↓reduceIte, Nat.reduceAdd, Nat.reduceSub, Nat.reduceEqDiff, Nat.reduceLeDiff, Int.reduceEq, Int.reduceNe, Int.reduceNeg, reduceCtorEq, kd2, hC.2.2.1]
    refine ⟨r3 (by omega), fun _ => ?_, fun h => by omega⟩
    rw [h3]; exact hQ
  | succ n ih =>
    intro i w h1 h2 h3
    have hw1 := Int.emod_nonneg (ev x (dg a - (n + 1)) (fun k => a.1 (k + (n + 1)))) (b := p) (by omega)
    have hw2 := Int.emod_lt_of_pos (ev x (dg a - (n + 1)) (fun k => a.1 (k + (n + 1)))) (b := p) (by omega)
    rw [← h3] at hw1 hw2
    have hin : i.toNat = n := by omega
    have d8 := hr.2.2.1
    refine WP.run [(64, 8)] [] 30 ?_
    simp only [bk64_0, bk64_8, bk64_13, bk64_35, U_iconst, U_istore_n, U_aload_n, U_getfield, U_istore, U_iload, U_if_lt, U_iload_n, U_imul, U_invokevirtual1, U_iadd, U_irem, U_iinc, U_goto, U_ireturn, UN_cc, UN_cn, UN_nc, UN_nn, UJ, lget, lset, lset2, entL, wsm, wcat, Option.toList_some, Option.toList_none, List.cons_append, List.nil_append, List.mem_cons, List.not_mem_nil, Prod.mk.injEq, or_false, false_or, or_true, true_or, and_true, true_and, and_false, false_and, and_self, ne_eq, not_false_eq_true, not_true_eq_false, forall_const, true_implies, false_implies, Nat.add_zero, Nat.zero_add, Nat.le_refl, Nat.zero_le, ↓reduceIte, Nat.reduceAdd, Nat.reduceSub, Nat.reduceEqDiff, Nat.reduceLeDiff, Int.reduceEq, Int.reduceNe, Int.reduceNeg, reduceCtorEq, kd2, hC.2.2.1, hr.1.1.1]
    have hai := hC.2.1.r32 a i.toNat
    have hwx : 0 ≤ w * x := Int.mul_nonneg hw1 hx
    have hwx2 : w * x ≤ 13 * 13 := Int.mul_le_mul (by omega) (by omega) hx (by omega)
    refine ⟨r3 (by omega), fun h => by omega, fun _ => c_get hr (r3 (by have := hr.2.2.1; omega)) ?_⟩
    rw [if_pos (by omega)]
    simp only [bk64_0, bk64_8, bk64_13, bk64_35, U_iconst, U_istore_n, U_aload_n, U_getfield, U_istore, U_iload, U_if_lt, U_iload_n, U_imul, U_invokevirtual1, U_iadd, U_irem, U_iinc, U_goto, U_ireturn, UN_cc, UN_cn, UN_nc, UN_nn, UJ, lget, lset, lset2, entL, wsm, wcat, Option.toList_some, Option.toList_none, List.cons_append, List.nil_append, List.mem_cons, List.not_mem_nil, Prod.mk.injEq, or_false, false_or, or_true, true_or, and_true, true_and, and_false, false_and, and_self, ne_eq, not_false_eq_true, not_true_eq_false, forall_const, true_implies, false_implies, Nat.add_zero, Nat.zero_add, Nat.le_refl, Nat.zero_le, ↓reduceIte, Nat.reduceAdd, Nat.reduceSub, Nat.reduceEqDiff, Nat.reduceLeDiff, Int.reduceEq, Int.reduceNe, Int.reduceNeg, reduceCtorEq, kd2, hC.2.2.1, hr.1.1.1]
    refine ⟨r3 (by omega), r3 (by omega), by omega, ?_⟩
    refine ih (i + -1) _ (by omega) (by omega) ?_
    rw [tm_nn (by omega), h3, hin]
    have e : dg a - n = (dg a - (n + 1)) + 1 := by omega
    rw [e]
    show _ = (a.1 (0 + n) + x * ev x (dg a - (n + 1)) (sh fun k => a.1 (k + n))) % p
    have e2 : (sh fun k => a.1 (k + n)) = fun k => a.1 (k + (n + 1)) := funext fun k => by show a.1 (k + 1 + n) = a.1 (k + (n + 1)); rw [show k + 1 + n = k + (n + 1) by omega]
    rw [e2, Nat.zero_add, Int.add_comm, Int.mul_comm]
    exact md_add rfl (md_mul rfl (md_md _ _))
set_option maxHeartbeats 4000000 in
theorem c_valueAt {p : Int} {N : Mem} {Q : Post} {r c x : Int} {a : Pz p} (hC : CB p N) (hr : RP N r c a) (hx : 0 ≤ x) (hx2 : x < 13) (hQ : Q (some (0, pev a x)) NN N) : CL 64 [(2, 2), (2, r), (0, x), (9, 0), (9, 0)] NN N Q := by
  refine WP.run [(64, 8)] [] 30 ?_
  simp only [bk64_0, bk64_8, bk64_13, bk64_35, U_iconst, U_istore_n, U_aload_n, U_getfield, U_istore, U_iload, U_if_lt, U_iload_n, U_imul, U_invokevirtual1, U_iadd, U_irem, U_iinc, U_goto, U_ireturn, UN_cc, UN_cn, UN_nc, UN_nn, UJ, lget, lset, lset2, entL, wsm, wcat, Option.toList_some, Option.toList_none, List.cons_append, List.nil_append, List.mem_cons, List.not_mem_nil, Prod.mk.injEq, or_false, false_or, or_true, true_or, and_true, true_and, and_false, false_and, and_self, ne_eq, not_false_eq_true, not_true_eq_false, forall_const, true_implies, false_implies, Nat.add_zero, Nat.zero_add, Nat.le_refl, Nat.zero_le, ↓reduceIte, Nat.reduceAdd, Nat.reduceSub, Nat.reduceEqDiff, Nat.reduceLeDiff, Int.reduceEq, Int.reduceNe, Int.reduceNeg, reduceCtorEq, kd2, hC.2.2.1, hr.1.1.1, hr.2.2.2]
  exact l_valueAt hC hr hx hx2 hQ (dg a) _ 0 (by omega) (Nat.le_refl _) (by rw [Nat.sub_self]; exact (Int.zero_emod p).symm)
/-! sums with a factor and a shift -/
def adM (N : Mem) (p co ca k s i : Int) : Mem := fun b j => if b = co ∧ s ≤ j ∧ j < s + i then (N co j + k * N ca (j - s)) % p else N b j
theorem add_z {p : Int} (A : Pz p) {k : Int} (s : Nat) (B : Pz p) (h : k % p = 0 ∨ dg B = 0) : padd A (pmul (pM p k s) B) = A := Pz.ext fun j => by
  rw [padd_c, pM_mul]
  have e : (if s ≤ j then k * B.1 (j - s) else 0) % p = 0 := by
    split
    · rcases h with h | h
      · rw [md_mul (p := p) (a' := 0) (by rw [h, Int.zero_emod]) rfl, Int.zero_mul, Int.zero_emod]
      · rw [dg_far B (by omega), Int.mul_zero, Int.zero_emod]
    · exact Int.zero_emod _
  rw [e, Int.add_zero]; exact A.2.1 j
set_option maxHeartbeats 8000000 in
theorem l_addTimes {p : Int} {N : Mem} {Q : Post} {ro co ra ca : Int} {A B : Pz p} {k0 k t : Int} (hC : CB p N) (ho : RP N ro co A) (ha : RP N ra ca B) (s : Nat) (hs : dg B + s ≤ 8) (hk : 0 ≤ k) (hk2 : k < 13) (hal : (ro ≠ ra ∧ co ≠ ca) ∨ (ro = ra ∧ co = ca ∧ s = 0))
    (hQ : WP 13 (0, 0) 95 [(2, 2), (2, ro), (2, ra), (0, k0), (0, (s : Int)), (0, k), (0, t), (0, (dg B : Int))] [] NN (adM N p co ca k s (dg B)) Q) : ∀ (n : Nat) (i : Int), i + n = dg B → 0 ≤ i → WP 13 (0, 0) 44 [(2, 2), (2, ro), (2, ra), (0, k0), (0, (s : Int)), (0, k), (0, t), (0, i)] [] NN (adM N p co ca k s i) Q := by
  have hpp := hC.2.1.pos
  have hn2 := ho.1.1.n2
  have a1 : ∀ i, adM N p co ca k s i ro = N ro := fun i => by funext j; unfold adM; rw [if_neg (fun q => ho.1.1.ne q.1)]
  have a2 : ∀ i, adM N p co ca k s i ra = N ra := fun i => by
    funext j; unfold adM; rw [if_neg (fun q => ?_)]
    have h1 := kdN ha.1.1.1 (by decide); have h2 := kdN ho.1.1.2.1 (by decide)
    rw [q.1, h2] at h1; omega
  have a3 : ∀ i, adM N p co ca k s i 2 = N 2 := fun i => by funext j; unfold adM; rw [if_neg (fun q => hn2.2.1 q.1.symm)]
  have a4 : ∀ i, adM N p co ca k s i co (i + s) = N co (i + s) := fun i => by unfold adM; rw [if_neg (by omega)]
  have a5 : ∀ i, adM N p co ca k s i ca i = N ca i := fun i => by
    unfold adM
    rcases hal with h | h
    · rw [if_neg (fun q => h.2 q.1.symm)]
    · rw [if_neg (by omega)]
  intro n
  induction n with
  | zero =>
    intro i h1 h2
    obtain rfl : i = dg B := by omega
    refine WP.run [(13, 44), (13, 95)] [] 60 ?_
    simp only [bk13_0, bk13_21, bk13_28, bk13_33, bk13_40, bk13_41, bk13_44, bk13_53, bk13_95, U_aload_n, U_iload_n, U_invokevirtual1, U_istore, U_getfield, U_iload, U_iadd, U_if_eq, U_if_lt, U_bipush, U_icmp_lt, U_return, U_iconst, U_icmp_gt, U_iald, U_imul, U_irem, U_iast, U_iinc, U_goto, U_max, UN_cc, UN_cn, UN_nc, UN_nn, UJ, lget, lset, lset2, entL, wsm, wcat, Option.toList_some, Option.toList_none, List.cons_append, List.nil_append, List.mem_cons, List.not_mem_nil, Prod.mk.injEq, or_false, false_or, or_true, true_or, and_true, true_and, and_false, false_and, and_self, ne_eq, not_false_eq_true, not_true_eq_false, forall_const, true_implies, false_implies, Nat.add_zero, Nat.zero_add, Nat.le_refl, Nat.zero_le, ↓reduceIte, Nat.reduceAdd, Nat.reduceSub, Nat.reduceEqDiff, Nat.reduceLeDiff, Int.reduceEq, Int.reduceNe, Int.reduceNeg, reduceCtorEq, kd2, hC.2.2.1, a1, a2, a3, ha.1.1.1, ha.2.2.2]
    exact ⟨rr (by omega), fun _ => hQ, fun h => absurd h (by omega)⟩
  | succ n ih =>
    intro i h1 h2
    have e1 := ho.2.1 (i + s).toNat (by omega)
    have e2 := ha.2.1 i.toNat (by omega)
    rw [Int.toNat_of_nonneg (by omega)] at e1 e2
    have b1 := hC.2.1.r32 A (i + s).toNat
    have b2 := hC.2.1.r32 B i.toNat
    have m1 : 0 ≤ k * B.1 i.toNat := Int.mul_nonneg hk b2.1
    have m2 : k * B.1 i.toNat ≤ 13 * 13 := Int.mul_le_mul (by omega) (by omega) b2.1 (by omega)
    refine WP.run [(13, 44), (13, 95)] [] 60 ?_
    simp only [bk13_0, bk13_21, bk13_28, bk13_33, bk13_40, bk13_41, bk13_44, bk13_53, bk13_95, U_aload_n, U_iload_n, U_invokevirtual1, U_istore, U_getfield, U_iload, U_iadd, U_if_eq, U_if_lt, U_bipush, U_icmp_lt, U_return, U_iconst, U_icmp_gt, U_iald, U_imul, U_irem, U_iast, U_iinc, U_goto, U_max, UN_cc, UN_cn, UN_nc, UN_nn, UJ, lget, lset, lset2, entL, wsm, wcat, Option.toList_some, Option.toList_none, List.cons_append, List.nil_append, List.mem_cons, List.not_mem_nil, Prod.mk.injEq, or_false, false_or, or_true, true_or, and_true, true_and, and_false, false_and, and_self, ne_eq, not_false_eq_true, not_true_eq_false, forall_const, true_implies, false_implies, Nat.add_zero, Nat.zero_add, Nat.le_refl, Nat.zero_le, ↓reduceIte, Nat.reduceAdd, Nat.reduceSub, Nat.reduceEqDiff, Nat.reduceLeDiff, Int.reduceEq, Int.reduceNe, Int.reduceNeg, reduceCtorEq, kd2, hC.2.2.1, a1, a2, a3, a4, a5, ha.1.1.1, ho.1.1.1, ha.1.1.2.1, ho.1.1.2.1, ha.1.1.2.2, ho.1.1.2.2, ha.1.2, ho.1.2, ha.1.1.c0, ho.1.1.c0, ha.2.2.2, e1, e2]
    refine ⟨rr (by omega), fun h => by omega, fun _ => ⟨by omega, by omega, by omega, by omega, r3 (by omega), r3 (by omega), by omega, by omega, by omega, ?_⟩⟩
    have e3 : ust (adM N p co ca k s i) co (i + s) ((A.1 (i + s).toNat + k * B.1 i.toNat).tmod p) = adM N p co ca k s (i + 1) := by
      funext b j
      rw [ust_r]
      unfold adM
      by_cases q1 : b = co
      · by_cases q2 : j = i + s
        · rw [if_pos ⟨q1, q2⟩, if_pos ⟨q1, by omega, by omega⟩, tm_nn (by omega), q2, e1, show i + ↑s - ↑s = i by omega, e2]
        · rw [if_neg (fun q => q2 q.2)]
          by_cases q3 : (s : Int) ≤ j ∧ j < s + i
          · rw [if_pos ⟨q1, q3⟩, if_pos ⟨q1, by omega, by omega⟩]
          · rw [if_neg (fun q => q3 q.2), if_neg (fun q => q3 ⟨q.2.1, by omega⟩)]
      · rw [if_neg (fun q => q1 q.1), if_neg (fun q => q1 q.1), if_neg (fun q => q1 q.1)]
    rw [e3]
    exact ih (i + 1) (by omega) (by omega)
set_option maxHeartbeats 8000000 in
theorem c_addTimes {p : Int} {N : Mem} {Q : Post} {ro co ra ca : Int} {A B : Pz p} {k : Int} (hC : CB p N) (ho : RP N ro co A) (ha : RP N ra ca B) (hk : R32 k) (s : Nat) (hs : dg B + s ≤ 8) (hal : (ro ≠ ra ∧ co ≠ ca) ∨ (ro = ra ∧ co = ca ∧ s = 0))
    (hQ : ∀ N', Fz N' → Fr [ro, co] N N' → RP N' ro co (padd A (pmul (pM p k s) B)) → Q none NN N') : CL 13 [(2, 2), (2, ro), (2, ra), (0, k), (0, (s : Int)), (9, 0), (9, 0), (9, 0)] NN N Q := by
  have hpp := hC.2.1.pos
  have h1 := Int.emod_nonneg k (b := p) (by omega)
  have h2 := Int.emod_lt_of_pos k (b := p) (by omega)
  have hn2 := ho.1.1.n2
  refine WP.run [(13, 44), (13, 95)] [] 60 ?_
  simp only [bk13_0, bk13_21, bk13_28, bk13_33, bk13_40, bk13_41, bk13_44, bk13_53, bk13_95, U_aload_n, U_iload_n, U_invokevirtual1, U_istore, U_getfield, U_iload, U_iadd, U_if_eq, U_if_lt, U_bipush, U_icmp_lt, U_return, U_iconst, U_icmp_gt, U_iald, U_imul, U_irem, U_iast, U_iinc, U_goto, U_max, UN_cc, UN_cn, UN_nc, UN_nn, UJ, lget, lset, lset2, entL, wsm, wcat, Option.toList_some, Option.toList_none, List.cons_append, List.nil_append, List.mem_cons, List.not_mem_nil, Prod.mk.injEq, or_false, false_or, or_true, true_or, and_true, true_and, and_false, false_and, and_self, ne_eq, not_false_eq_true, not_true_eq_false, forall_const, true_implies, false_implies, Nat.add_zero, Nat.zero_add, Nat.le_refl, Nat.zero_le, ↓reduceIte, Nat.reduceAdd, Nat.reduceSub, Nat.reduceEqDiff, Nat.reduceLeDiff, Int.reduceEq, Int.reduceNe, Int.reduceNeg, reduceCtorEq, kd2]
  refine c_by hC hk ?_
  simp only [bk13_0, bk13_21, bk13_28, bk13_33, bk13_40, bk13_41, bk13_44, bk13_53, bk13_95, U_aload_n, U_iload_n, U_invokevirtual1, U_istore, U_getfield, U_iload, U_iadd, U_if_eq, U_if_lt, U_bipush, U_icmp_lt, U_return, U_iconst, U_icmp_gt, U_iald, U_imul, U_irem, U_iast, U_iinc, U_goto, U_max, UN_cc, UN_cn, UN_nc, UN_nn, UJ, lget, lset, lset2, entL, wsm, wcat, Option.toList_some, Option.toList_none, List.cons_append, List.nil_append, List.mem_cons, List.not_mem_nil, Prod.mk.injEq, or_false, false_or, or_true, true_or, and_true, true_and, and_false, false_and, and_self, ne_eq, not_false_eq_true, not_true_eq_false, forall_const, true_implies, false_implies, Nat.add_zero, Nat.zero_add, Nat.le_refl, Nat.zero_le, ↓reduceIte, Nat.reduceAdd, Nat.reduceSub, Nat.reduceEqDiff, Nat.reduceLeDiff, Int.reduceEq, Int.reduceNe, Int.reduceNeg, reduceCtorEq, kd2, ha.1.1.1, ha.2.2.2]
  refine ⟨r3 (by omega), fun h => ?_, fun h => ⟨r3 (by omega), fun h3 => ?_, fun h3 => ⟨r3 (by omega), fun h4 => by omega, fun _ => ⟨rr (by omega), fun _ => ?_, fun h5 => by omega⟩⟩⟩⟩
  · have e := add_z A s B (Or.inl h)
    exact hQ N hC.1 (Fr.rf _ _) (by rw [e]; exact ho)
  · have e := add_z A (k := k) s B (Or.inr (by omega))
    exact hQ N hC.1 (Fr.rf _ _) (by rw [e]; exact ho)
  · have e0 : adM N p co ca (k % p) s 0 = N := by funext b j; unfold adM; rw [if_neg (by omega)]
    have := l_addTimes (Q := Q) (k0 := k) (k := k % p) (t := (dg B : Int) - 1 + s) hC ho ha s hs h1 (by omega) hal ?_ (dg B) 0 (by omega) (by omega)
    · rw [e0] at this; exact this
    · have a1 : adM N p co ca (k % p) s (dg B) ro = N ro := by funext j; unfold adM; rw [if_neg (fun q => ho.1.1.ne q.1)]
      have hcf : ∀ j : Nat, j < 8 → adM N p co ca (k % p) s (dg B) co (j : Int) = (padd A (pmul (pM p k s) B)).1 j := fun j hj => by
        rw [padd_c, pM_mul]
        unfold adM
        by_cases q : s ≤ j
        · rw [if_pos q]
          by_cases q2 : j < s + dg B
          · have e2 := ha.2.1 (j - s) (by omega)
            rw [show ((j - s : Nat) : Int) = (j : Int) - s by omega] at e2
            rw [if_pos ⟨rfl, by omega, by omega⟩, ho.2.1 j hj, e2]
            exact md_add rfl ((md_mul (md_md _ _) rfl).trans (md_md _ _).symm)
          · rw [if_neg (by omega), dg_far B (by omega), Int.mul_zero, Int.zero_emod, Int.add_zero, A.2.1]; exact ho.2.1 j hj
        · rw [if_neg q, if_neg (by omega), Int.zero_emod, Int.add_zero, A.2.1]; exact ho.2.1 j hj
      have hRS : RS (adM N p co ca (k % p) s (dg B)) ro co := ⟨ho.1.1, by rw [a1]; exact ho.1.2⟩
      have d1 := ho.2.2.1
      have hB0 : 1 ≤ dg B := by omega
      refine WP.run [] [] 60 ?_
      simp only [bk13_0, bk13_21, bk13_28, bk13_33, bk13_40, bk13_41, bk13_44, bk13_53, bk13_95, U_aload_n, U_iload_n, U_invokevirtual1, U_istore, U_getfield, U_iload, U_iadd, U_if_eq, U_if_lt, U_bipush, U_icmp_lt, U_return, U_iconst, U_icmp_gt, U_iald, U_imul, U_irem, U_iast, U_iinc, U_goto, U_max, UN_cc, UN_cn, UN_nc, UN_nn, UJ, lget, lset, lset2, entL, wsm, wcat, Option.toList_some, Option.toList_none, List.cons_append, List.nil_append, List.mem_cons, List.not_mem_nil, Prod.mk.injEq, or_false, false_or, or_true, true_or, and_true, true_and, and_false, false_and, and_self, ne_eq, not_false_eq_true, not_true_eq_false, forall_const, true_implies, false_implies, Nat.add_zero, Nat.zero_add, Nat.le_refl, Nat.zero_le, ↓reduceIte, Nat.reduceAdd, Nat.reduceSub, Nat.reduceEqDiff, Nat.reduceLeDiff, Int.reduceEq, Int.reduceNe, Int.reduceNeg, reduceCtorEq, a1, ho.1.1.1, ho.2.2.2]
      refine ⟨r3 (by omega), r3 (by omega), c_settle hRS (fun j j0 j1 => ?_) (r3 (by omega)) (by omega) (fun d d1 d2 d3 d4 d5 => ?_)⟩
      · have e := hcf j.toNat (by omega)
        rw [Int.toNat_of_nonneg j0] at e
        rw [e]
        have := hC.2.1.r32 (padd A (pmul (pM p k s) B)) j.toNat
        exact r3 (by omega)
      · simp only [bk13_0, bk13_21, bk13_28, bk13_33, bk13_40, bk13_41, bk13_44, bk13_53, bk13_95, U_aload_n, U_iload_n, U_invokevirtual1, U_istore, U_getfield, U_iload, U_iadd, U_if_eq, U_if_lt, U_bipush, U_icmp_lt, U_return, U_iconst, U_icmp_gt, U_iald, U_imul, U_irem, U_iast, U_iinc, U_goto, U_max, UN_cc, UN_cn, UN_nc, UN_nn, UJ, lget, lset, lset2, entL, wsm, wcat, Option.toList_some, Option.toList_none, List.cons_append, List.nil_append, List.mem_cons, List.not_mem_nil, Prod.mk.injEq, or_false, false_or, or_true, true_or, and_true, true_and, and_false, false_and, and_self, ne_eq, not_false_eq_true, not_true_eq_false, forall_const, true_implies, false_implies, Nat.add_zero, Nat.zero_add, Nat.le_refl, Nat.zero_le, ↓reduceIte, Nat.reduceAdd, Nat.reduceSub, Nat.reduceEqDiff, Nat.reduceLeDiff, Int.reduceEq, Int.reduceNe, Int.reduceNeg, reduceCtorEq]
        have hfar : ∀ j : Nat, (max ((dg A : Int) - 1) ((dg B : Int) - 1 + s) < j ∨ 8 ≤ j) → (padd A (pmul (pM p k s) B)).1 j = 0 := fun j hj => by
          rw [padd_c, pM_mul, dg_far A (by omega)]
          by_cases q : s ≤ j
          · rw [if_pos q, dg_far B (by omega), Int.mul_zero, Int.zero_emod]; exact Int.zero_emod _
          · rw [if_neg q, Int.zero_emod]; exact Int.zero_emod _
        have hdd : (dg (padd A (pmul (pM p k s) B)) : Int) - 1 = d := dg_int d1 (fun j hj => by
          by_cases h8 : j < 8
          · by_cases hm : (j : Int) ≤ max ((dg A : Int) - 1) ((dg B : Int) - 1 + s)
            · rw [← hcf j h8]; exact d4 j hj hm (by omega)
            · exact hfar j (Or.inl (by omega))
          · exact hfar j (Or.inr (by omega))) (fun h0 => by
          rw [← hcf d.toNat (by omega), Int.toNat_of_nonneg h0]; exact d5 h0)
        have hF : Fr [ro, co] N (ust (adM N p co ca (k % p) s (dg B)) ro 1 d) := fun b hb => by
          rw [ust_ne (by intro q; exact hb (by simp [q]))]
          funext j; unfold adM; rw [if_neg (by intro q; exact hb (by simp [q.1]))]
        have h0 : ust (adM N p co ca (k % p) s (dg B)) ro 1 d ro 0 = N ro 0 := by rw [ust_r, if_neg (by omega), a1]
        refine hQ _ (hC.1.row ho.1.1 hF h0) hF ⟨⟨ho.1.1, h0.trans ho.1.2⟩, fun j hj => ?_, by omega, ?_⟩
        · rw [ust_r, if_neg (fun q => ho.1.1.ne q.1.symm)]; exact hcf j hj
        · rw [hdd, ust_at, if_pos rfl]
