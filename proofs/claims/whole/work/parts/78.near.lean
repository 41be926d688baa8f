/-! CODES: how many words, the nearest, the least -/
def wmF (P : Nat) : Nat → Nat
  | 0 => 1
  | i + 1 => if wmF P i ≤ 20000 then wmF P i * P else wmF P i
theorem wmF_le {P : Nat} (h1 : 1 ≤ P) (h2 : P ≤ 13) : ∀ n, 1 ≤ wmF P n ∧ wmF P n ≤ 260000 ∧ (wmF P n ≤ 20000 ↔ P ^ n ≤ 20000) ∧ (P ^ n ≤ 20000 → wmF P n = P ^ n)
  | 0 => ⟨Nat.le_refl _, (by show (1 : Nat) ≤ 260000; omega), Iff.rfl, fun _ => rfl⟩
  | n + 1 => by
    obtain ⟨a, b, c, d⟩ := wmF_le h1 h2 n
    show 1 ≤ (if wmF P n ≤ 20000 then wmF P n * P else wmF P n) ∧ (if wmF P n ≤ 20000 then wmF P n * P else wmF P n) ≤ 260000 ∧ ((if wmF P n ≤ 20000 then wmF P n * P else wmF P n) ≤ 20000 ↔ P ^ (n + 1) ≤ 20000) ∧ (P ^ (n + 1) ≤ 20000 → (if wmF P n ≤ 20000 then wmF P n * P else wmF P n) = P ^ (n + 1))
    have hm : P ^ n ≤ P ^ (n + 1) := Nat.pow_le_pow_right h1 (by omega)
    by_cases q : wmF P n ≤ 20000
    · have e := d (c.mp q)
      rw [if_pos q, e, show P ^ n * P = P ^ (n + 1) by rw [Nat.pow_succ]]
      have h3 : P ^ n * P ≤ 20000 * 13 := Nat.mul_le_mul (by omega) h2
      have h4 : P ^ (n + 1) = P ^ n * P := Nat.pow_succ P n
      have : 0 < P ^ (n + 1) := Nat.pow_pos (by omega)
      exact ⟨by omega, by omega, Iff.rfl, fun _ => rfl⟩
    · rw [if_neg q]
      have hn : ¬ P ^ n ≤ 20000 := fun g => q (c.mpr g)
      exact ⟨a, b, ⟨fun g => absurd g q, fun g => absurd (Nat.le_trans hm g) hn⟩, fun g => absurd (Nat.le_trans hm g) hn⟩
theorem wmF_stop {P i : Nat} (h : ¬ wmF P i ≤ 20000) : ∀ n, wmF P (i + n) = wmF P i
  | 0 => rfl
  | n + 1 => by
    have ih := wmF_stop h n
    show (if wmF P (i + n) ≤ 20000 then _ else wmF P (i + n)) = _
    rw [ih, if_neg h]
set_option maxHeartbeats 8000000 in
theorem l_wm {p : Int} {N : Mem} {Q : Post} {w : Nat} (hC : CB p N) (hw : w ≤ 100) (hQ : Q (some (0, (wmF p.toNat w : Int))) NN N) : ∀ (n i : Nat), i + n = w → WP 46 (0, 0) 4 [(2, 120), (0, (w : Int)), (0, (wmF p.toNat i : Int)), (0, (i : Int))] [] NN N Q := by
  have hpp := hC.2.1.pos
  intro n
  induction n with
  | zero =>
    intro i hi
    obtain rfl : i = w := by omega
    refine WP.run [(46, 4)] [] 60 ?_
    simp only [bk46_0, bk46_4, bk46_9, bk46_16, bk46_32, U_iconst, U_istore_n, U_iload_n, U_icmp_ge, U_sipush, U_icmp_gt, U_aload_n, U_getfield, U_imul, U_iinc, U_goto, U_ireturn, UN_cc, UN_cn, UN_nc, UN_nn, UJ, lget, lset, lset2, entL, wsm, wcat, Option.toList_some, Option.toList_none, List.cons_append, List.nil_append, List.mem_cons, List.not_mem_nil, Prod.mk.injEq, or_false, false_or, or_true, true_or, and_true, true_and, and_false, false_and, and_self, ne_eq, not_false_eq_true, not_true_eq_false, forall_const, true_implies, false_implies, Nat.add_zero, Nat.zero_add, Nat.le_refl, Nat.zero_le, List.set_cons_zero, List.set_cons_succ, List.set_nil, ↓reduceIte, Nat.reduceAdd, Nat.reduceSub, Nat.reduceEqDiff, Nat.reduceLeDiff, Int.reduceEq, Int.reduceNe, Int.reduceNeg, reduceCtorEq]
    exact ⟨rr (by omega), fun e => absurd e (by omega), fun _ => hQ⟩
  | succ n ih =>
    intro i hi
    have hl := wmF_le (P := p.toNat) (by omega) (by omega) i
    have es : wmF p.toNat (i + 1) = if wmF p.toNat i ≤ 20000 then wmF p.toNat i * p.toNat else wmF p.toNat i := rfl
    refine WP.run [(46, 4)] [] 60 ?_
    simp only [bk46_0, bk46_4, bk46_9, bk46_16, bk46_32, U_iconst, U_istore_n, U_iload_n, U_icmp_ge, U_sipush, U_icmp_gt, U_aload_n, U_getfield, U_imul, U_iinc, U_goto, U_ireturn, UN_cc, UN_cn, UN_nc, UN_nn, UJ, lget, lset, lset2, entL, wsm, wcat, Option.toList_some, Option.toList_none, List.cons_append, List.nil_append, List.mem_cons, List.not_mem_nil, Prod.mk.injEq, or_false, false_or, or_true, true_or, and_true, true_and, and_false, false_and, and_self, ne_eq, not_false_eq_true, not_true_eq_false, forall_const, true_implies, false_implies, Nat.add_zero, Nat.zero_add, Nat.le_refl, Nat.zero_le, List.set_cons_zero, List.set_cons_succ, List.set_nil, ↓reduceIte, Nat.reduceAdd, Nat.reduceSub, Nat.reduceEqDiff, Nat.reduceLeDiff, Int.reduceEq, Int.reduceNe, Int.reduceNeg, reduceCtorEq, kd120, kd2, z120_0 hC.1, hC.2.2.1]
    refine ⟨rr (by omega), fun _ => ⟨rr (by omega), fun e => ?_, fun e => ?_⟩, fun e => absurd (by omega) e⟩
    · have := wmF_stop (P := p.toNat) (i := i) (by omega) (n + 1)
      rw [hi] at this
      rw [this] at hQ; exact hQ
    · rw [if_pos (by omega)] at es
      have := ih (i + 1) (by omega)
      rw [es, Int.natCast_mul, Int.toNat_of_nonneg (by omega)] at this
      exact this
set_option maxHeartbeats 8000000 in
theorem s_words {p : Int} {N : Mem} {Q : Post} {w : Nat} (hC : CB p N) (hw : w ≤ 100) (hQ : Q (some (0, (wmF p.toNat w : Int))) NN N) : CL 46 [(2, 120), (0, (w : Int)), (9, 0), (9, 0)] NN N Q := by
  refine WP.run [(46, 4)] [] 60 ?_
  simp only [bk46_0, bk46_4, bk46_9, bk46_16, bk46_32, U_iconst, U_istore_n, U_iload_n, U_icmp_ge, U_sipush, U_icmp_gt, U_aload_n, U_getfield, U_imul, U_iinc, U_goto, U_ireturn, UN_cc, UN_cn, UN_nc, UN_nn, UJ, lget, lset, lset2, entL, wsm, wcat, Option.toList_some, Option.toList_none, List.cons_append, List.nil_append, List.mem_cons, List.not_mem_nil, Prod.mk.injEq, or_false, false_or, or_true, true_or, and_true, true_and, and_false, false_and, and_self, ne_eq, not_false_eq_true, not_true_eq_false, forall_const, true_implies, false_implies, Nat.add_zero, Nat.zero_add, Nat.le_refl, Nat.zero_le, List.set_cons_zero, List.set_cons_succ, List.set_nil, ↓reduceIte, Nat.reduceAdd, Nat.reduceSub, Nat.reduceEqDiff, Nat.reduceLeDiff, Int.reduceEq, Int.reduceNe, Int.reduceNeg, reduceCtorEq]
  exact l_wm hC hw hQ w 0 (by omega)
/-- in how many places word n of the first w functions differs from the told row -/
def difN (P : Nat) (p : Int) (W : Nat → Nat → Int) (tl : Nat → Int) (w L n : Nat) : Nat := cntE (fun j => if isum (fun i => ((n / P ^ i % P : Nat) : Int) * W i j) w % p = tl j then 0 else 1) 1 L
/-- the first with the least -/
def IsFst (D : Nat → Nat) (N b : Nat) : Prop := b < N ∧ (∀ n, n < N → D b ≤ D n) ∧ ∀ n, n < b → D b < D n
theorem IsFst.un {D : Nat → Nat} {N a b : Nat} (h1 : IsFst D N a) (h2 : IsFst D N b) : a = b := by
  rcases Nat.lt_trichotomy a b with q | q | q
  · have := h2.2.2 a q; have := h1.2.1 b h2.1; omega
  · exact q
  · have := h1.2.2 b q; have := h2.2.1 a h1.1; omega
theorem cntE_not (a : Nat → Int) (v : Int) (b : Nat → Int) : ∀ L, (∀ j, j < L → (a j = v ∧ b j = 0) ∨ (a j ≠ v ∧ b j = 1)) → cntE b 1 L + cntE a v L = L
  | 0, _ => rfl
  | L + 1, h => by
    have ih := cntE_not a v b L (fun j hj => h j (by omega))
    show cntE b 1 L + (if b L = 1 then 1 else 0) + (cntE a v L + (if a L = v then 1 else 0)) = L + 1
    rcases h L (by omega) with ⟨q1, q2⟩ | ⟨q1, q2⟩
    · rw [if_neg (by rw [q2]; decide), if_pos q1]; omega
    · rw [if_pos q2, if_neg q1]; omega
theorem isum_hd (F : Nat → Int) : ∀ n, isum F (n + 1) = F 0 + isum (fun k => F (k + 1)) n
  | 0 => by show 0 + F 0 = F 0 + 0; omega
  | n + 1 => by
    have ih := isum_hd F n
    show isum F (n + 1) + F (n + 1) = F 0 + (isum (fun k => F (k + 1)) n + F (n + 1))
    omega
theorem dig_0 {P M v : Nat} (hv : v < P) : (P * M + v) / P ^ 0 % P = v := by
  rw [Nat.pow_zero, Nat.div_one, Nat.mul_add_mod, Nat.mod_eq_of_lt hv]
theorem dig_s {P M v : Nat} (hv : v < P) {i : Nat} (hi : 1 ≤ i) : (P * M + v) / P ^ i % P = dgt P M i := by
  unfold dgt
  have : P ^ i = P * P ^ (i - 1) := by rw [Nat.mul_comm, ← Nat.pow_succ]; congr 1; omega
  rw [this, ← Nat.div_div_eq_div_mul, Nat.mul_add_div (by omega), Nat.div_eq_of_lt hv, Nat.add_zero]
theorem isum_dig {P M v w : Nat} {W : Nat → Nat → Int} {j : Nat} (hv : v < P) (hw : 1 ≤ w) (h0 : W 0 j = 1) : isum (fun i => (((P * M + v) / P ^ i % P : Nat) : Int) * W i j) w = (v : Int) + sumC (dgt P M) W w j := by
  obtain ⟨u, rfl⟩ : ∃ u, w = u + 1 := ⟨w - 1, by omega⟩
  unfold sumC
  rw [isum_hd, isum_hd, if_pos rfl, dig_0 hv, h0, Int.mul_one, Int.zero_add]
  congr 1
  refine isum_cg u (fun k _ => ?_)
  rw [if_neg (by omega), dig_s hv (by omega)]
/-- the distance of a word by what is left of the told row: as many as aren't the constant -/
theorem difN_eq {p : Int} (hp : Pr p) {W : Nat → Nat → Int} {tl a : Nat → Int} {w L M v : Nat} (hw : 1 ≤ w) (h0 : ∀ j, j < L → W 0 j = 1) (htl : ∀ j, 0 ≤ tl j ∧ tl j < p) (hv : v < p.toNat) (ha : ∀ j, j < L → a j = (tl j - sumC (dgt p.toNat M) W w j) % p) : difN p.toNat p W tl w L (p.toNat * M + v) + cntE a v L = L := by
  have hpp := hp.pos
  refine cntE_not a v _ L (fun j hj => ?_)
  show (a j = v ∧ (if isum (fun i => (((p.toNat * M + v) / p.toNat ^ i % p.toNat : Nat) : Int) * W i j) w % p = tl j then (0 : Int) else 1) = 0) ∨ (a j ≠ v ∧ (if isum (fun i => (((p.toNat * M + v) / p.toNat ^ i % p.toNat : Nat) : Int) * W i j) w % p = tl j then (0 : Int) else 1) = 1)
  rw [isum_dig hv hw (h0 j hj), ha j hj]
  obtain ⟨t1, t2⟩ := htl j
  generalize sumC (dgt p.toNat M) W w j = s
  by_cases q : ((v : Int) + s) % p = tl j
  · left
    refine ⟨?_, if_pos q⟩
    have : (tl j - s) % p = ((v : Int) + s - s) % p := md_sub (by rw [← q, md_md]) rfl
    rw [this, Int.add_sub_cancel]; exact Int.emod_eq_of_lt (by omega) (by omega)
  · right
    refine ⟨fun e => q ?_, if_neg q⟩
    have : ((v : Int) + s) % p = ((tl j - s) + s) % p := md_add (by rw [← e, md_md]) rfl
    rw [this, Int.sub_add_cancel]; exact Int.emod_eq_of_lt t1 t2
/-- the first with the least, block by block -/
theorem fst_next {D : Nat → Nat} {P M o nd : Nat} (hP : 1 ≤ P) {b : Nat} (hb : IsFst D (P * M) b) (hnd : nd = D b) (ho : o < P) (h1 : ∀ v, v < P → D (P * M + o) ≤ D (P * M + v)) (h2 : ∀ v, v < o → D (P * M + o) < D (P * M + v)) : (D (P * M + o) < nd → IsFst D (P * (M + 1)) (P * M + o)) ∧ (¬ D (P * M + o) < nd → IsFst D (P * (M + 1)) b) := by
  have e : P * (M + 1) = P * M + P := Nat.mul_succ P M
  rw [e]
  refine ⟨fun h => ⟨by omega, fun n hn => ?_, fun n hn => ?_⟩, fun h => ⟨by have := hb.1; omega, fun n hn => ?_, hb.2.2⟩⟩
  · by_cases q : n < P * M
    · have := hb.2.1 n q; omega
    · have := h1 (n - P * M) (by omega)
      rw [show P * M + (n - P * M) = n by omega] at this; exact this
  · by_cases q : n < P * M
    · have := hb.2.1 n q; omega
    · have := h2 (n - P * M) (by omega)
      rw [show P * M + (n - P * M) = n by omega] at this; exact this
  · by_cases q : n < P * M
    · exact hb.2.1 n q
    · have := h1 (n - P * M) (by omega)
      rw [show P * M + (n - P * M) = n by omega] at this; omega
theorem fst_0 {D : Nat → Nat} {P o : Nat} (ho : o < P) (h1 : ∀ v, v < P → D (P * 0 + o) ≤ D (P * 0 + v)) (h2 : ∀ v, v < o → D (P * 0 + o) < D (P * 0 + v)) : IsFst D (P * 1) (P * 0 + o) := by
  rw [Nat.mul_zero, Nat.zero_add] at *
  rw [Nat.mul_one]
  exact ⟨ho, fun n hn => by have := h1 n hn; rwa [Nat.zero_add] at this, fun n hn => by have := h2 n hn; rwa [Nat.zero_add] at this⟩
