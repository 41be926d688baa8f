/-! THE FIELD OF P P: a number that is no square, products, values, the count -/
def bitF (p : Int) : Nat → Int
  | 0 => 0
  | y + 1 => bor (bitF p y) (2 ^ (((y : Int) * y) % p).toNat)
def nsL (bits : Int) : Nat → Int → Int
  | 0, cur => cur
  | v + 1, cur => nsL bits v (if band (bits / 2 ^ (v + 1)) 1 = 0 then ((v + 1 : Nat) : Int) else cur)
def nsq (p : Int) : Int := if p = 7 then 3 else 2
theorem bit_all : ([3, 5, 7, 11, 13] : List Nat).all (fun p => (List.range (p + 1)).all (fun y => decide (0 ≤ bitF (p : Int) y) && decide (bitF (p : Int) y < 100000))) = true := by decide +kernel
theorem ns_all : ([3, 5, 7, 11, 13] : List Nat).all (fun p => decide (nsL (bitF (p : Int) p) (p - 1) 0 = nsq (p : Int))) = true := by decide +kernel
theorem bit_rg {p : Int} (hp : Pr p) {y : Nat} (hy : (y : Int) ≤ p) : 0 ≤ bitF p y ∧ bitF p y < 100000 := by
  obtain ⟨n, rfl, hn⟩ := hp.nat
  have := List.all_eq_true.mp (List.all_eq_true.mp bit_all n hn) y (List.mem_range.mpr (by omega))
  simp only [Bool.and_eq_true, decide_eq_true_eq] at this
  exact this
theorem ns_eq {p : Int} (hp : Pr p) : nsL (bitF p p.toNat) (p.toNat - 1) 0 = nsq p := by
  obtain ⟨n, rfl, hn⟩ := hp.nat
  exact of_decide_eq_true (List.all_eq_true.mp ns_all n hn)
theorem nsq_rg (p : Int) : 2 ≤ nsq p ∧ nsq p ≤ 3 := by unfold nsq; split <;> omega
theorem ust_u (N : Mem) (a i x y : Int) : ust (ust N a i x) a i y = ust N a i y := by
  funext b j; unfold ust; by_cases h : b = a ∧ j = i <;> simp [h]
theorem fz21 (i : Int) (h : i = 3 ∨ i = 4 ∨ i = 7 ∨ i = 9 ∨ i = 13) : fz 21 i = none := by rcases h with rfl | rfl | rfl | rfl | rfl <;> rfl
theorem st_u21 {p : Int} {N : Mem} {ρ : Int → Option (Pz p)} (h : ST p N ρ) (i x : Int) (hi : i = 3 ∨ i = 4 ∨ i = 7 ∨ i = 9 ∨ i = 13) : ST p (ust N 21 i x) ρ := h.ust i x (fz21 i hi) (by decide) (by decide) (by decide)
set_option maxHeartbeats 8000000 in
theorem l_ns2 {p : Int} {N : Mem} {ρ : Int → Option (Pz p)} {Q : Post} {bits : Int} (hb : 0 ≤ bits ∧ bits < 100000) (h : ST p N ρ) :
    ∀ (v : Nat) (cur : Int), v < 13 → Q none NN (ust N 21 9 (nsL bits v cur)) → WP 66 (0, 0) 52 [(2, 21), (0, bits), (0, (v : Int))] [] NN (ust N 21 9 cur) Q := by
  intro v
  induction v with
  | zero =>
    intro cur hv hQ
    refine WP.run [(66, 52)] [] 60 ?_
    simp only [bk66_0, bk66_4, bk66_15, bk66_37, bk66_52, bk66_56, bk66_64, bk66_69, bk66_75, U_iconst, U_istore_n, U_iload_n, U_aload_n, U_getfield, U_icmp_ge, U_imul, U_irem, U_ishl, U_ior, U_iinc, U_goto, U_putfield, U_isub, U_if_le, U_ishr, U_iand, U_if_ne, U_return, UN_cc, UN_cn, UN_nc, UN_nn, UJ, lget, lset, lset2, entL, wsm, wcat, Option.toList_some, Option.toList_none, List.cons_append, List.nil_append, List.mem_cons, List.not_mem_nil, Prod.mk.injEq, or_false, false_or, or_true, true_or, and_true, true_and, and_false, false_and, and_self, ne_eq, not_false_eq_true, not_true_eq_false, forall_const, true_implies, false_implies, Nat.add_zero, Nat.zero_add, Nat.le_refl, Nat.zero_le, ↓reduceIte, Nat.reduceAdd, Nat.reduceSub, Nat.reduceEqDiff, Nat.reduceLeDiff, Int.reduceEq, Int.reduceNe, Int.reduceNeg, reduceCtorEq]
    exact ⟨r3 (by omega), fun e => by omega, fun _ => hQ⟩
  | succ v ih =>
    intro cur hv hQ
    have hsh : bits / 2 ^ (((v + 1 : Nat) : Int)).toNat = bits / 2 ^ (v + 1) := by rw [Int.toNat_natCast]
    have hp2 : (1 : Int) ≤ 2 ^ (v + 1) := by
      have := Nat.one_le_two_pow (n := v + 1)
      exact_mod_cast this
    have h0 : 0 ≤ bits / 2 ^ (v + 1) := Int.ediv_nonneg hb.1 (by omega)
    have h1 : bits / 2 ^ (v + 1) ≤ bits := Int.ediv_le_self _ hb.1
    have hbd := band_1 (x := bits / 2 ^ (v + 1)) h0 (by omega)
    unfold nsL at hQ
    rw [hbd] at hQ
    refine WP.run [(66, 52)] [] 60 ?_
    simp only [bk66_0, bk66_4, bk66_15, bk66_37, bk66_52, bk66_56, bk66_64, bk66_69, bk66_75, U_iconst, U_istore_n, U_iload_n, U_aload_n, U_getfield, U_icmp_ge, U_imul, U_irem, U_ishl, U_ior, U_iinc, U_goto, U_putfield, U_isub, U_if_le, U_ishr, U_iand, U_if_ne, U_return, UN_cc, UN_cn, UN_nc, UN_nn, UJ, lget, lset, lset2, entL, wsm, wcat, Option.toList_some, Option.toList_none, List.cons_append, List.nil_append, List.mem_cons, List.not_mem_nil, Prod.mk.injEq, or_false, false_or, or_true, true_or, and_true, true_and, and_false, false_and, and_self, ne_eq, not_false_eq_true, not_true_eq_false, forall_const, true_implies, false_implies, Nat.add_zero, Nat.zero_add, Nat.le_refl, Nat.zero_le, ↓reduceIte, Nat.reduceAdd, Nat.reduceSub, Nat.reduceEqDiff, Nat.reduceLeDiff, Int.reduceEq, Int.reduceNe, Int.reduceNeg, reduceCtorEq, kd21, hsh, hbd]
    generalize bits / 2 ^ (v + 1) = k at *
    refine ⟨r3 (by omega), fun _ => ⟨r3 (by omega), by omega, by omega, r3 (by omega), fun e => ?_, fun e => ?_⟩, fun e => absurd e (by omega)⟩
    · rw [if_pos e] at hQ
      rw [ust_u, show ((v + 1 : Nat) : Int) + -1 = v by omega]
      exact ih _ (by omega) hQ
    · rw [if_neg e] at hQ
      rw [show ((v + 1 : Nat) : Int) + -1 = v by omega]
      exact ih _ (by omega) hQ
set_option maxHeartbeats 8000000 in
theorem l_ns1 {p : Int} {N : Mem} {ρ : Int → Option (Pz p)} {Q : Post} (h : ST p N ρ) (hQ : Q none NN (ust N 21 9 (nsq p))) :
    ∀ (n y : Nat), (y : Int) + n = p → WP 66 (0, 0) 4 [(2, 21), (0, bitF p y), (0, (y : Int))] [] NN N Q := by
  have hp := h.1.2.1
  have hpp := hp.pos
  intro n
  induction n with
  | zero =>
    intro y hy
    have hb := bit_rg hp (y := y) (by omega)
    have e : p.toNat = y := by omega
    have hns := ns_eq hp
    rw [e] at hns
    refine WP.run [(66, 4), (66, 52)] [] 60 ?_
    simp only [bk66_0, bk66_4, bk66_15, bk66_37, bk66_52, bk66_56, bk66_64, bk66_69, bk66_75, U_iconst, U_istore_n, U_iload_n, U_aload_n, U_getfield, U_icmp_ge, U_imul, U_irem, U_ishl, U_ior, U_iinc, U_goto, U_putfield, U_isub, U_if_le, U_ishr, U_iand, U_if_ne, U_return, UN_cc, UN_cn, UN_nc, UN_nn, UJ, lget, lset, lset2, entL, wsm, wcat, Option.toList_some, Option.toList_none, List.cons_append, List.nil_append, List.mem_cons, List.not_mem_nil, Prod.mk.injEq, or_false, false_or, or_true, true_or, and_true, true_and, and_false, false_and, and_self, ne_eq, not_false_eq_true, not_true_eq_false, forall_const, true_implies, false_implies, Nat.add_zero, Nat.zero_add, Nat.le_refl, Nat.zero_le, ↓reduceIte, Nat.reduceAdd, Nat.reduceSub, Nat.reduceEqDiff, Nat.reduceLeDiff, Int.reduceEq, Int.reduceNe, Int.reduceNeg, reduceCtorEq, kd21, kd2, z21_0 h.1.1, h.1.2.2.1, ust_r]
    refine ⟨rr (by omega), fun e => absurd e (by omega), fun _ => ?_⟩
    rw [show p - 1 = ((y - 1 : Nat) : Int) by omega]
    exact l_ns2 hb h (y - 1) 0 (by omega) (by rw [hns]; exact hQ)
  | succ n ih =>
    intro y hy
    have m1 : 0 ≤ (y : Int) * y := Int.mul_nonneg (by omega) (by omega)
    have m2 : (y : Int) * y ≤ 13 * 13 := Int.mul_le_mul (by omega) (by omega) (by omega) (by omega)
    have m3 := Int.emod_nonneg ((y : Int) * y) (b := p) (by omega)
    have m4 := Int.emod_lt_of_pos ((y : Int) * y) (b := p) (by omega)
    refine WP.run [(66, 4), (66, 52)] [] 60 ?_
    simp only [bk66_0, bk66_4, bk66_15, bk66_37, bk66_52, bk66_56, bk66_64, bk66_69, bk66_75, U_iconst, U_istore_n, U_iload_n, U_aload_n, U_getfield, U_icmp_ge, U_imul, U_irem, U_ishl, U_ior, U_iinc, U_goto, U_putfield, U_isub, U_if_le, U_ishr, U_iand, U_if_ne, U_return, UN_cc, UN_cn, UN_nc, UN_nn, UJ, lget, lset, lset2, entL, wsm, wcat, Option.toList_some, Option.toList_none, List.cons_append, List.nil_append, List.mem_cons, List.not_mem_nil, Prod.mk.injEq, or_false, false_or, or_true, true_or, and_true, true_and, and_false, false_and, and_self, ne_eq, not_false_eq_true, not_true_eq_false, forall_const, true_implies, false_implies, Nat.add_zero, Nat.zero_add, Nat.le_refl, Nat.zero_le, ↓reduceIte, Nat.reduceAdd, Nat.reduceSub, Nat.reduceEqDiff, Nat.reduceLeDiff, Int.reduceEq, Int.reduceNe, Int.reduceNeg, reduceCtorEq, kd21, kd2, z21_0 h.1.1, h.1.2.2.1]
    rw [tm_nn m1]
    refine ⟨rr (by omega), fun _ => ⟨r3 (by omega), r3 (by omega), by omega, by omega, by omega, ?_⟩, fun e => absurd e (by omega)⟩
    exact ih (y + 1) (by omega)
set_option maxHeartbeats 8000000 in
theorem s_findNonSquare {p : Int} {N : Mem} {ρ : Int → Option (Pz p)} {Q : Post} (h : ST p N ρ) (hQ : Q none NN (ust N 21 9 (nsq p))) : CL 66 [(2, 21), (9, 0), (9, 0)] NN N Q := by
  have hpp := h.1.2.1.pos
  refine WP.run [(66, 4)] [] 60 ?_
  simp only [bk66_0, bk66_4, bk66_15, bk66_37, bk66_52, bk66_56, bk66_64, bk66_69, bk66_75, U_iconst, U_istore_n, U_iload_n, U_aload_n, U_getfield, U_icmp_ge, U_imul, U_irem, U_ishl, U_ior, U_iinc, U_goto, U_putfield, U_isub, U_if_le, U_ishr, U_iand, U_if_ne, U_return, UN_cc, UN_cn, UN_nc, UN_nn, UJ, lget, lset, lset2, entL, wsm, wcat, Option.toList_some, Option.toList_none, List.cons_append, List.nil_append, List.mem_cons, List.not_mem_nil, Prod.mk.injEq, or_false, false_or, or_true, true_or, and_true, true_and, and_false, false_and, and_self, ne_eq, not_false_eq_true, not_true_eq_false, forall_const, true_implies, false_implies, Nat.add_zero, Nat.zero_add, Nat.le_refl, Nat.zero_le, ↓reduceIte, Nat.reduceAdd, Nat.reduceSub, Nat.reduceEqDiff, Nat.reduceLeDiff, Int.reduceEq, Int.reduceNe, Int.reduceNeg, reduceCtorEq]
  exact l_ns1 h hQ p.toNat 0 (by omega)
def wtc (p s v w : Int) : Int := ((v % p) * (w % p) + (v / p) * (w / p) * s) % p + ((v % p) * (w / p) + (v / p) * (w % p)) % p * p
theorem mb {x y : Int} (hx : 0 ≤ x ∧ x ≤ 13) (hy : 0 ≤ y ∧ y ≤ 13) : 0 ≤ x * y ∧ x * y ≤ 169 := ⟨Int.mul_nonneg hx.1 hy.1, by
  have := Int.mul_le_mul hx.2 hy.2 hy.1 (by omega : (0 : Int) ≤ 13); omega⟩
theorem wdig {p v : Int} (hp : Pr p) (h : 0 ≤ v ∧ v < p * p) : 0 ≤ v % p ∧ v % p < p ∧ 0 ≤ v / p ∧ v / p < p := by
  have hpp := hp.pos
  exact ⟨Int.emod_nonneg _ (by omega), Int.emod_lt_of_pos _ (by omega), Int.ediv_nonneg h.1 (by omega), Int.ediv_lt_of_lt_mul (by omega) h.2⟩
theorem wmk {p a b : Int} (hp : Pr p) (ha : 0 ≤ a ∧ a < p) (hb : 0 ≤ b ∧ b < p) : 0 ≤ a + b * p ∧ a + b * p < p * p := by
  have hpp := hp.pos
  have h1 := Int.mul_nonneg hb.1 (show (0 : Int) ≤ p by omega)
  have h2 : b * p ≤ (p - 1) * p := Int.mul_le_mul_of_nonneg_right (by omega) (by omega)
  rw [Int.sub_mul, Int.one_mul] at h2
  omega
theorem wtc_rg {p : Int} (hp : Pr p) (s v w : Int) : 0 ≤ wtc p s v w ∧ wtc p s v w < p * p := by
  have hpp := hp.pos
  exact wmk hp ⟨Int.emod_nonneg _ (by omega), Int.emod_lt_of_pos _ (by omega)⟩ ⟨Int.emod_nonneg _ (by omega), Int.emod_lt_of_pos _ (by omega)⟩
theorem pp_le {p : Int} (hp : Pr p) : 9 ≤ p * p ∧ p * p ≤ 169 := by rcases hp with rfl | rfl | rfl | rfl | rfl <;> omega
set_option maxHeartbeats 16000000 in
theorem c_wideTimes {p : Int} {N : Mem} {Q : Post} {v w : Int} (hC : CB p N) (hs : N 21 9 = nsq p) (hv : 0 ≤ v ∧ v < p * p) (hw : 0 ≤ w ∧ w < p * p) (hQ : Q (some (0, wtc p (nsq p) v w)) NN N) : CL 67 [(2, 21), (0, v), (0, w), (9, 0), (9, 0), (9, 0), (9, 0), (9, 0)] NN N Q := by
  have hp := hC.2.1
  have hpp := hp.pos
  have h169 := pp_le hp
  obtain ⟨v1, v2, v3, v4⟩ := wdig hp hv
  obtain ⟨w1, w2, w3, w4⟩ := wdig hp hw
  have hn := nsq_rg p
  have m1 := mb (x := v % p) (y := w % p) (by omega) (by omega)
  have m2 := mb (x := v / p) (y := w / p) (by omega) (by omega)
  have m3 := mb (x := v % p) (y := w / p) (by omega) (by omega)
  have m4 := mb (x := v / p) (y := w % p) (by omega) (by omega)
  have m5 : 0 ≤ v / p * (w / p) * nsq p ∧ v / p * (w / p) * nsq p ≤ 169 * 3 := ⟨Int.mul_nonneg m2.1 (by omega), Int.mul_le_mul m2.2 hn.2 (by omega) (by omega)⟩
  refine WP.run [] [] 100 ?_
  simp only [bk67_0, U_aload_n, U_getfield, U_istore_n, U_iload_n, U_irem, U_istore, U_idiv, U_iload, U_imul, U_iadd, U_ireturn, UN_cc, UN_cn, UN_nc, UN_nn, UJ, lget, lset, lset2, entL, wsm, wcat, Option.toList_some, Option.toList_none, List.cons_append, List.nil_append, List.mem_cons, List.not_mem_nil, Prod.mk.injEq, or_false, false_or, or_true, true_or, and_true, true_and, and_false, false_and, and_self, ne_eq, not_false_eq_true, not_true_eq_false, forall_const, true_implies, false_implies, Nat.add_zero, Nat.zero_add, Nat.le_refl, Nat.zero_le, ↓reduceIte, Nat.reduceAdd, Nat.reduceSub, Nat.reduceEqDiff, Nat.reduceLeDiff, Int.reduceEq, Int.reduceNe, Int.reduceNeg, reduceCtorEq, kd21, kd2, z21_0 hC.1, hC.2.2.1, hs]
  rw [tm_nn hv.1, tm_nn hw.1, Int.tdiv_eq_ediv_of_nonneg hv.1, Int.tdiv_eq_ediv_of_nonneg hw.1, tm_nn (by omega), tm_nn (by omega)]
  unfold wtc at hQ
  refine ⟨r3 (by omega), r3 (by omega), by omega, r3 (by omega), r3 (by omega), by omega, r3 (by omega), r3 (by omega), by omega, r3 (by omega), r3 (by omega), by omega, r3 (by omega), r3 (by omega), by omega, r3 (by omega), r3 (by omega), by omega, ?_⟩
  simpa using hQ
