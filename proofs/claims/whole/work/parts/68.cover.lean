/-! COVERS: the greatest part in common, what the cover object answers -/
theorem gp_half {a b k : Nat} (h0 : 0 < b) (h1 : b ≤ a) (h : a * b < 2 ^ (k + 1)) : b * (a % b) < 2 ^ k := by
  have e := Nat.div_add_mod a b
  have hq : 1 ≤ a / b := (Nat.le_div_iff_mul_le h0).mpr (by omega)
  have hm := Nat.mod_lt a h0
  have h2 : b ≤ b * (a / b) := Nat.le_mul_of_pos_right b hq
  have h3 : 2 * (a % b) ≤ a := by omega
  have h4 : b * (2 * (a % b)) ≤ b * a := Nat.mul_le_mul_left b h3
  have h5 : b * (2 * (a % b)) = 2 * (b * (a % b)) := by rw [Nat.mul_left_comm]
  have h6 : b * a = a * b := Nat.mul_comm b a
  rw [Nat.pow_succ] at h
  omega
set_option maxHeartbeats 8000000 in
theorem l_gp {N : Mem} {Q : Post} {a0 b0 : Int} : ∀ (k s a b : Nat) (v : V), b ≤ a → a * b < 2 ^ k → s + k ≤ 63 → a ≤ 100000 → Q (some (0, ((Nat.gcd a b : Nat) : Int))) NN N → WP 56 (0, 0) 7 [(0, a0), (0, b0), (0, (a : Int)), (0, (b : Int)), (0, (s : Int)), v] [] NN N Q := by
  have z : ∀ (s a : Nat) (v : V), s ≤ 63 → Q (some (0, (a : Int))) NN N → WP 56 (0, 0) 7 [(0, a0), (0, b0), (0, (a : Int)), (0, 0), (0, (s : Int)), v] [] NN N Q := fun s a v hs hQ => by
    refine WP.run [] [] 60 ?_
    simp only [bk56_0, bk56_7, bk56_14, bk56_18, bk56_34, U_iload_n, U_istore_n, U_iconst, U_istore, U_iload, U_bipush, U_icmp_ge, U_if_eq, U_irem, U_iinc, U_goto, U_ireturn, UN_cc, UN_cn, UN_nc, UN_nn, UJ, lget, lset, lset2, entL, wsm, wcat, Option.toList_some, Option.toList_none, List.cons_append, List.nil_append, List.mem_cons, List.not_mem_nil, Prod.mk.injEq, or_false, false_or, or_true, true_or, and_true, true_and, and_false, false_and, and_self, ne_eq, not_false_eq_true, not_true_eq_false, forall_const, true_implies, false_implies, Nat.add_zero, Nat.zero_add, Nat.le_refl, Nat.zero_le, List.set_cons_zero, List.set_cons_succ, List.set_nil, ↓reduceIte, Nat.reduceAdd, Nat.reduceSub, Nat.reduceEqDiff, Nat.reduceLeDiff, Int.reduceEq, Int.reduceNe, Int.reduceNeg, reduceCtorEq]
    exact ⟨rr (by omega), fun _ => ⟨r3 (by omega), hQ⟩, fun e => absurd e (by omega)⟩
  intro k
  induction k with
  | zero =>
    intro s a b v h1 h2 h3 h4 hQ
    have hb : b = 0 := by
      rcases Nat.eq_zero_or_pos b with q | q
      · exact q
      · have := Nat.mul_le_mul (show 1 ≤ a by omega) (show 1 ≤ b by omega)
        omega
    subst hb
    rw [Nat.gcd_zero_right] at hQ
    exact z s a v (by omega) hQ
  | succ k ih =>
    intro s a b v h1 h2 h3 h4 hQ
    rcases Nat.eq_zero_or_pos b with q | q
    · subst q
      rw [Nat.gcd_zero_right] at hQ
      exact z s a v (by omega) hQ
    · refine WP.run [(56, 7)] [] 60 ?_
      simp only [bk56_0, bk56_7, bk56_14, bk56_18, bk56_34, U_iload_n, U_istore_n, U_iconst, U_istore, U_iload, U_bipush, U_icmp_ge, U_if_eq, U_irem, U_iinc, U_goto, U_ireturn, UN_cc, UN_cn, UN_nc, UN_nn, UJ, lget, lset, lset2, entL, wsm, wcat, Option.toList_some, Option.toList_none, List.cons_append, List.nil_append, List.mem_cons, List.not_mem_nil, Prod.mk.injEq, or_false, false_or, or_true, true_or, and_true, true_and, and_false, false_and, and_self, ne_eq, not_false_eq_true, not_true_eq_false, forall_const, true_implies, false_implies, Nat.add_zero, Nat.zero_add, Nat.le_refl, Nat.zero_le, List.set_cons_zero, List.set_cons_succ, List.set_nil, ↓reduceIte, Nat.reduceAdd, Nat.reduceSub, Nat.reduceEqDiff, Nat.reduceLeDiff, Int.reduceEq, Int.reduceNe, Int.reduceNeg, reduceCtorEq]
      rw [tmod_nat]
      refine ⟨rr (by omega), fun _ => ⟨r3 (by omega), fun e => absurd e (by omega), fun _ => ⟨r3 (by omega), r3 (by omega), by omega, ?_⟩⟩, fun e => absurd e (by omega)⟩
      have hm := Nat.mod_lt a q
      refine ih (s + 1) b (a % b) _ (by omega) (gp_half q h1 h2) (by omega) (by omega) ?_
      have e : Nat.gcd b (a % b) = Nat.gcd a b := by rw [Nat.gcd_comm b, ← Nat.gcd_rec, Nat.gcd_comm]
      rw [e]; exact hQ
set_option maxHeartbeats 8000000 in
theorem c_gp {N : Mem} {Q : Post} {a b : Nat} (ha : a ≤ 1000) (hb : b ≤ 1000) (hQ : Q (some (0, ((Nat.gcd a b : Nat) : Int))) NN N) : CL 56 [(0, (a : Int)), (0, (b : Int)), (9, 0), (9, 0), (9, 0), (9, 0)] NN N Q := by
  have hm : ∀ x y : Nat, x ≤ 1000 → y ≤ 1000 → x * y < 2 ^ 20 := fun x y hx hy => by
    have := Nat.mul_le_mul hx hy
    omega
  refine WP.run [(56, 7)] [] 60 ?_
  simp only [bk56_0, bk56_7, bk56_14, bk56_18, bk56_34, U_iload_n, U_istore_n, U_iconst, U_istore, U_iload, U_bipush, U_icmp_ge, U_if_eq, U_irem, U_iinc, U_goto, U_ireturn, UN_cc, UN_cn, UN_nc, UN_nn, UJ, lget, lset, lset2, entL, wsm, wcat, Option.toList_some, Option.toList_none, List.cons_append, List.nil_append, List.mem_cons, List.not_mem_nil, Prod.mk.injEq, or_false, false_or, or_true, true_or, and_true, true_and, and_false, false_and, and_self, ne_eq, not_false_eq_true, not_true_eq_false, forall_const, true_implies, false_implies, Nat.add_zero, Nat.zero_add, Nat.le_refl, Nat.zero_le, List.set_cons_zero, List.set_cons_succ, List.set_nil, ↓reduceIte, Nat.reduceAdd, Nat.reduceSub, Nat.reduceEqDiff, Nat.reduceLeDiff, Int.reduceEq, Int.reduceNe, Int.reduceNeg, reduceCtorEq]
  by_cases h : b ≤ a
  · exact l_gp 20 0 a b _ h (hm a b ha hb) (by omega) (by omega) hQ
  · refine WP.run [(56, 7)] [] 60 ?_
    simp only [bk56_0, bk56_7, bk56_14, bk56_18, bk56_34, U_iload_n, U_istore_n, U_iconst, U_istore, U_iload, U_bipush, U_icmp_ge, U_if_eq, U_irem, U_iinc, U_goto, U_ireturn, UN_cc, UN_cn, UN_nc, UN_nn, UJ, lget, lset, lset2, entL, wsm, wcat, Option.toList_some, Option.toList_none, List.cons_append, List.nil_append, List.mem_cons, List.not_mem_nil, Prod.mk.injEq, or_false, false_or, or_true, true_or, and_true, true_and, and_false, false_and, and_self, ne_eq, not_false_eq_true, not_true_eq_false, forall_const, true_implies, false_implies, Nat.add_zero, Nat.zero_add, Nat.le_refl, Nat.zero_le, List.set_cons_zero, List.set_cons_succ, List.set_nil, ↓reduceIte, Nat.reduceAdd, Nat.reduceSub, Nat.reduceEqDiff, Nat.reduceLeDiff, Int.reduceEq, Int.reduceNe, Int.reduceNeg, reduceCtorEq]
    rw [tmod_nat]
    refine ⟨rr (by omega), fun _ => ⟨r3 (by omega), fun e => absurd e (by omega), fun _ => ⟨r3 (by omega), r3 (by omega), by omega, ?_⟩⟩, fun e => absurd e (by omega)⟩
    have e : a % b = a := Nat.mod_eq_of_lt (by omega)
    rw [e]
    refine l_gp 20 1 b a _ (by omega) (hm b a hb ha) (by omega) (by omega) ?_
    rw [Nat.gcd_comm]; exact hQ
def nsum (E : Nat → Nat) : Nat → Nat
  | 0 => 0
  | k + 1 => nsum E k + E k
theorem nsum_le {E : Nat → Nat} {B : Nat} (h : ∀ k, E k ≤ B) : ∀ n, nsum E n ≤ n * B
  | 0 => by simp [nsum]
  | n + 1 => by
    have h1 := nsum_le h n
    have h2 := h n
    show nsum E n + E n ≤ (n + 1) * B
    rw [Nat.add_mul, Nat.one_mul]; omega
def gcf (n : Nat) (E : Nat → Nat) : Nat → Nat
  | 0 => n
  | k + 1 => Nat.gcd (gcf n E k) (E k)
/-- amounts of the cover in the class's cells -/
def CoA (N : Mem) (E : Nat → Nat) : Prop := (∀ a : Nat, a < 13 → N 189 (a : Int) = (E a : Int)) ∧ ∀ a, E a ≤ 20
theorem CoA.fx {N N' : Mem} {E : Nat → Nat} (h : CoA N E) (h1 : N' 189 = N 189) : CoA N' E := ⟨fun a ha => by rw [h1]; exact h.1 a ha, h.2⟩
set_option maxHeartbeats 4000000 in
theorem c_coClear {N : Mem} {Q : Post} (hz : Fz N) (hQ : Q none NN (fil N 189 13 0)) : CL 52 [(2, 188)] NN N Q := by
  refine WP.run [] [] 60 ?_
  simp only [bk52_0, U_aload_n, U_getfield, U_iconst, U_invokestatic2, U_return, UN_cc, UN_cn, UN_nc, UN_nn, UJ, lget, lset, lset2, entL, wsm, wcat, Option.toList_some, Option.toList_none, List.cons_append, List.nil_append, List.mem_cons, List.not_mem_nil, Prod.mk.injEq, or_false, false_or, or_true, true_or, and_true, true_and, and_false, false_and, and_self, ne_eq, not_false_eq_true, not_true_eq_false, forall_const, true_implies, false_implies, Nat.add_zero, Nat.zero_add, Nat.le_refl, Nat.zero_le, List.set_cons_zero, List.set_cons_succ, List.set_nil, ↓reduceIte, Nat.reduceAdd, Nat.reduceSub, Nat.reduceEqDiff, Nat.reduceLeDiff, Int.reduceEq, Int.reduceNe, Int.reduceNeg, reduceCtorEq, kd188, z188_0 hz]
  refine c_fill rfl ?_
  simp only [bk52_0, U_aload_n, U_getfield, U_iconst, U_invokestatic2, U_return, UN_cc, UN_cn, UN_nc, UN_nn, UJ, lget, lset, lset2, entL, wsm, wcat, Option.toList_some, Option.toList_none, List.cons_append, List.nil_append, List.mem_cons, List.not_mem_nil, Prod.mk.injEq, or_false, false_or, or_true, true_or, and_true, true_and, and_false, false_and, and_self, ne_eq, not_false_eq_true, not_true_eq_false, forall_const, true_implies, false_implies, Nat.add_zero, Nat.zero_add, Nat.le_refl, Nat.zero_le, List.set_cons_zero, List.set_cons_succ, List.set_nil, ↓reduceIte, Nat.reduceAdd, Nat.reduceSub, Nat.reduceEqDiff, Nat.reduceLeDiff, Int.reduceEq, Int.reduceNe, Int.reduceNeg, reduceCtorEq]
  exact hQ
set_option maxHeartbeats 4000000 in
theorem c_coGet {N : Mem} {Q : Post} {E : Nat → Nat} {a : Nat} (hz : Fz N) (h : CoA N E) (ha : a < 13) (hQ : Q (some (0, (E a : Int))) NN N) : CL 53 [(2, 188), (0, (a : Int))] NN N Q := by
  refine WP.run [] [] 60 ?_
  simp only [bk53_0, bk53_4, bk53_10, bk53_14, bk53_20, U_iload_n, U_if_lt, U_bipush, U_icmp_lt, U_iconst, U_goto, U_aload_n, U_getfield, U_iald, U_ireturn, UN_cc, UN_cn, UN_nc, UN_nn, UJ, lget, lset, lset2, entL, wsm, wcat, Option.toList_some, Option.toList_none, List.cons_append, List.nil_append, List.mem_cons, List.not_mem_nil, Prod.mk.injEq, or_false, false_or, or_true, true_or, and_true, true_and, and_false, false_and, and_self, ne_eq, not_false_eq_true, not_true_eq_false, forall_const, true_implies, false_implies, Nat.add_zero, Nat.zero_add, Nat.le_refl, Nat.zero_le, List.set_cons_zero, List.set_cons_succ, List.set_nil, ↓reduceIte, Nat.reduceAdd, Nat.reduceSub, Nat.reduceEqDiff, Nat.reduceLeDiff, Int.reduceEq, Int.reduceNe, Int.reduceNeg, reduceCtorEq, kd188, kd189, ln189, z188_0 hz, h.1 a ha]
  exact ⟨r3 (by omega), fun e => absurd e (by omega), fun _ => ⟨rr (by omega), fun _ => ⟨by omega, by omega, hQ⟩, fun e => absurd e (by omega)⟩⟩
set_option maxHeartbeats 4000000 in
theorem c_coChange {N : Mem} {Q : Post} {E : Nat → Nat} {a : Nat} {e : Int} (hz : Fz N) (h : CoA N E) (ha : a < 13) (hQ : Q (some (0, (E a : Int))) NN (ust N 189 (a : Int) e)) : CL 54 [(2, 188), (0, (a : Int)), (0, e), (9, 0)] NN N Q := by
  refine WP.run [] [] 60 ?_
  simp only [bk54_0, bk54_10, bk54_16, bk54_23, U_aload_n, U_iload_n, U_invokevirtual1, U_istore_n, U_if_lt, U_bipush, U_icmp_ge, U_getfield, U_iast, U_ireturn, UN_cc, UN_cn, UN_nc, UN_nn, UJ, lget, lset, lset2, entL, wsm, wcat, Option.toList_some, Option.toList_none, List.cons_append, List.nil_append, List.mem_cons, List.not_mem_nil, Prod.mk.injEq, or_false, false_or, or_true, true_or, and_true, true_and, and_false, false_and, and_self, ne_eq, not_false_eq_true, not_true_eq_false, forall_const, true_implies, false_implies, Nat.add_zero, Nat.zero_add, Nat.le_refl, Nat.zero_le, List.set_cons_zero, List.set_cons_succ, List.set_nil, ↓reduceIte, Nat.reduceAdd, Nat.reduceSub, Nat.reduceEqDiff, Nat.reduceLeDiff, Int.reduceEq, Int.reduceNe, Int.reduceNeg, reduceCtorEq, kd188]
  refine c_coGet hz h ha ?_
  simp only [bk54_0, bk54_10, bk54_16, bk54_23, U_aload_n, U_iload_n, U_invokevirtual1, U_istore_n, U_if_lt, U_bipush, U_icmp_ge, U_getfield, U_iast, U_ireturn, UN_cc, UN_cn, UN_nc, UN_nn, UJ, lget, lset, lset2, entL, wsm, wcat, Option.toList_some, Option.toList_none, List.cons_append, List.nil_append, List.mem_cons, List.not_mem_nil, Prod.mk.injEq, or_false, false_or, or_true, true_or, and_true, true_and, and_false, false_and, and_self, ne_eq, not_false_eq_true, not_true_eq_false, forall_const, true_implies, false_implies, Nat.add_zero, Nat.zero_add, Nat.le_refl, Nat.zero_le, List.set_cons_zero, List.set_cons_succ, List.set_nil, ↓reduceIte, Nat.reduceAdd, Nat.reduceSub, Nat.reduceEqDiff, Nat.reduceLeDiff, Int.reduceEq, Int.reduceNe, Int.reduceNeg, reduceCtorEq, kd188, kd189, ln189, z188_0 hz]
  exact ⟨r3 (by omega), fun e => absurd e (by omega), fun _ => ⟨rr (by omega), fun _ => ⟨by omega, by omega, hQ⟩, fun e => absurd e (by omega)⟩⟩
set_option maxHeartbeats 4000000 in
theorem l_coTotal {N : Mem} {Q : Post} {E : Nat → Nat} (hz : Fz N) (h : CoA N E) (hQ : Q (some (0, (nsum E 13 : Int))) NN N) : ∀ (n k : Nat), k + n = 13 → WP 55 (0, 0) 4 [(2, 188), (0, (nsum E k : Int)), (0, (k : Int))] [] NN N Q := by
  intro n
  induction n with
  | zero =>
    intro k hk
    obtain rfl : k = 13 := by omega
    refine WP.run [(55, 4)] [] 60 ?_
    simp only [bk55_0, bk55_4, bk55_10, bk55_25, U_iconst, U_istore_n, U_iload_n, U_bipush, U_icmp_ge, U_aload_n, U_getfield, U_iald, U_iadd, U_iinc, U_goto, U_ireturn, UN_cc, UN_cn, UN_nc, UN_nn, UJ, lget, lset, lset2, entL, wsm, wcat, Option.toList_some, Option.toList_none, List.cons_append, List.nil_append, List.mem_cons, List.not_mem_nil, Prod.mk.injEq, or_false, false_or, or_true, true_or, and_true, true_and, and_false, false_and, and_self, ne_eq, not_false_eq_true, not_true_eq_false, forall_const, true_implies, false_implies, Nat.add_zero, Nat.zero_add, Nat.le_refl, Nat.zero_le, List.set_cons_zero, List.set_cons_succ, List.set_nil, ↓reduceIte, Nat.reduceAdd, Nat.reduceSub, Nat.reduceEqDiff, Nat.reduceLeDiff, Int.reduceEq, Int.reduceNe, Int.reduceNeg, reduceCtorEq]
    exact ⟨rr (by omega), fun e => absurd e (by omega), fun _ => hQ⟩
  | succ n ih =>
    intro k hk
    have e := h.1 k (by omega)
    refine WP.run [(55, 4)] [] 60 ?_
    simp only [bk55_0, bk55_4, bk55_10, bk55_25, U_iconst, U_istore_n, U_iload_n, U_bipush, U_icmp_ge, U_aload_n, U_getfield, U_iald, U_iadd, U_iinc, U_goto, U_ireturn, UN_cc, UN_cn, UN_nc, UN_nn, UJ, lget, lset, lset2, entL, wsm, wcat, Option.toList_some, Option.toList_none, List.cons_append, List.nil_append, List.mem_cons, List.not_mem_nil, Prod.mk.injEq, or_false, false_or, or_true, true_or, and_true, true_and, and_false, false_and, and_self, ne_eq, not_false_eq_true, not_true_eq_false, forall_const, true_implies, false_implies, Nat.add_zero, Nat.zero_add, Nat.le_refl, Nat.zero_le, List.set_cons_zero, List.set_cons_succ, List.set_nil, ↓reduceIte, Nat.reduceAdd, Nat.reduceSub, Nat.reduceEqDiff, Nat.reduceLeDiff, Int.reduceEq, Int.reduceNe, Int.reduceNeg, reduceCtorEq, kd188, kd189, ln189, z188_0 hz, e]
    refine ⟨rr (by omega), fun _ => ⟨by omega, by omega, ?_⟩, fun e => absurd (by omega) e⟩
    exact ih (k + 1) (by omega)
set_option maxHeartbeats 4000000 in
theorem c_coTotal {N : Mem} {Q : Post} {E : Nat → Nat} (hz : Fz N) (h : CoA N E) (hQ : Q (some (0, (nsum E 13 : Int))) NN N) : CL 55 [(2, 188), (9, 0), (9, 0)] NN N Q := by
  refine WP.run [(55, 4)] [] 60 ?_
  simp only [bk55_0, bk55_4, bk55_10, bk55_25, U_iconst, U_istore_n, U_iload_n, U_bipush, U_icmp_ge, U_aload_n, U_getfield, U_iald, U_iadd, U_iinc, U_goto, U_ireturn, UN_cc, UN_cn, UN_nc, UN_nn, UJ, lget, lset, lset2, entL, wsm, wcat, Option.toList_some, Option.toList_none, List.cons_append, List.nil_append, List.mem_cons, List.not_mem_nil, Prod.mk.injEq, or_false, false_or, or_true, true_or, and_true, true_and, and_false, false_and, and_self, ne_eq, not_false_eq_true, not_true_eq_false, forall_const, true_implies, false_implies, Nat.add_zero, Nat.zero_add, Nat.le_refl, Nat.zero_le, List.set_cons_zero, List.set_cons_succ, List.set_nil, ↓reduceIte, Nat.reduceAdd, Nat.reduceSub, Nat.reduceEqDiff, Nat.reduceLeDiff, Int.reduceEq, Int.reduceNe, Int.reduceNeg, reduceCtorEq]
  exact l_coTotal hz h hQ 13 0 (by omega)
set_option maxHeartbeats 4000000 in
theorem c_coAbove {N : Mem} {Q : Post} {n e : Nat} (hn : n ≤ 12) (he : e ≤ 400) (hQ : Q (some (0, ((Nat.gcd n e : Nat) : Int))) NN N) : CL 57 [(2, 188), (0, (n : Int)), (0, (e : Int))] NN N Q := by
  refine WP.run [] [] 60 ?_
  simp only [bk57_0, U_iload_n, U_invokestatic2, U_ireturn, UN_cc, UN_cn, UN_nc, UN_nn, UJ, lget, lset, lset2, entL, wsm, wcat, Option.toList_some, Option.toList_none, List.cons_append, List.nil_append, List.mem_cons, List.not_mem_nil, Prod.mk.injEq, or_false, false_or, or_true, true_or, and_true, true_and, and_false, false_and, and_self, ne_eq, not_false_eq_true, not_true_eq_false, forall_const, true_implies, false_implies, Nat.add_zero, Nat.zero_add, Nat.le_refl, Nat.zero_le, List.set_cons_zero, List.set_cons_succ, List.set_nil, ↓reduceIte, Nat.reduceAdd, Nat.reduceSub, Nat.reduceEqDiff, Nat.reduceLeDiff, Int.reduceEq, Int.reduceNe, Int.reduceNeg, reduceCtorEq]
  refine c_gp (by omega) (by omega) ?_
  simp only [bk57_0, U_iload_n, U_invokestatic2, U_ireturn, UN_cc, UN_cn, UN_nc, UN_nn, UJ, lget, lset, lset2, entL, wsm, wcat, Option.toList_some, Option.toList_none, List.cons_append, List.nil_append, List.mem_cons, List.not_mem_nil, Prod.mk.injEq, or_false, false_or, or_true, true_or, and_true, true_and, and_false, false_and, and_self, ne_eq, not_false_eq_true, not_true_eq_false, forall_const, true_implies, false_implies, Nat.add_zero, Nat.zero_add, Nat.le_refl, Nat.zero_le, List.set_cons_zero, List.set_cons_succ, List.set_nil, ↓reduceIte, Nat.reduceAdd, Nat.reduceSub, Nat.reduceEqDiff, Nat.reduceLeDiff, Int.reduceEq, Int.reduceNe, Int.reduceNeg, reduceCtorEq]
  exact hQ
theorem gcf_le (n : Nat) (E : Nat → Nat) (hn : 0 < n) : ∀ k, gcf n E k ≤ n ∧ 0 < gcf n E k
  | 0 => ⟨Nat.le_refl _, hn⟩
  | k + 1 => by
    obtain ⟨h1, h2⟩ := gcf_le n E hn k
    have h3 := Nat.gcd_le_left (E k) h2
    have h4 := Nat.gcd_pos_of_pos_left (E k) h2
    exact ⟨Nat.le_trans h3 h1, h4⟩
set_option maxHeartbeats 4000000 in
theorem l_coWhole {N : Mem} {Q : Post} {E : Nat → Nat} {n : Nat} (hz : Fz N) (h : CoA N E) (hn : 0 < n ∧ n ≤ 12) (hQ : Q (some (0, if gcf n E 13 = 1 then 1 else 0)) NN N) : ∀ (m k : Nat), k + m = 13 → WP 58 (0, 0) 4 [(2, 188), (0, (n : Int)), (0, (gcf n E k : Int)), (0, (k : Int))] [] NN N Q := by
  intro m
  induction m with
  | zero =>
    intro k hk
    obtain rfl : k = 13 := by omega
    have hl := (gcf_le n E hn.1 13).1
    refine WP.run [(58, 4)] [] 60 ?_
    simp only [bk58_0, bk58_4, bk58_10, bk58_27, bk58_32, bk58_36, bk58_37, U_iload_n, U_istore_n, U_iconst, U_bipush, U_icmp_ge, U_aload_n, U_getfield, U_iald, U_invokestatic2, U_iinc, U_goto, U_icmp_ne, U_ireturn, UN_cc, UN_cn, UN_nc, UN_nn, UJ, lget, lset, lset2, entL, wsm, wcat, Option.toList_some, Option.toList_none, List.cons_append, List.nil_append, List.mem_cons, List.not_mem_nil, Prod.mk.injEq, or_false, false_or, or_true, true_or, and_true, true_and, and_false, false_and, and_self, ne_eq, not_false_eq_true, not_true_eq_false, forall_const, true_implies, false_implies, Nat.add_zero, Nat.zero_add, Nat.le_refl, Nat.zero_le, List.set_cons_zero, List.set_cons_succ, List.set_nil, ↓reduceIte, Nat.reduceAdd, Nat.reduceSub, Nat.reduceEqDiff, Nat.reduceLeDiff, Int.reduceEq, Int.reduceNe, Int.reduceNeg, reduceCtorEq]
    refine ⟨rr (by omega), fun e => absurd e (by omega), fun _ => ⟨rr (by omega), fun e => ?_, fun e => ?_⟩⟩
    · rw [if_pos (by omega)] at hQ; exact hQ
    · rw [if_neg (by omega)] at hQ; exact hQ
  | succ m ih =>
    intro k hk
    have e := h.1 k (by omega)
    have hl := (gcf_le n E hn.1 k).1
    have h20 := h.2 k
    refine WP.run [(58, 4)] [] 60 ?_
    simp only [bk58_0, bk58_4, bk58_10, bk58_27, bk58_32, bk58_36, bk58_37, U_iload_n, U_istore_n, U_iconst, U_bipush, U_icmp_ge, U_aload_n, U_getfield, U_iald, U_invokestatic2, U_iinc, U_goto, U_icmp_ne, U_ireturn, UN_cc, UN_cn, UN_nc, UN_nn, UJ, lget, lset, lset2, entL, wsm, wcat, Option.toList_some, Option.toList_none, List.cons_append, List.nil_append, List.mem_cons, List.not_mem_nil, Prod.mk.injEq, or_false, false_or, or_true, true_or, and_true, true_and, and_false, false_and, and_self, ne_eq, not_false_eq_true, not_true_eq_false, forall_const, true_implies, false_implies, Nat.add_zero, Nat.zero_add, Nat.le_refl, Nat.zero_le, List.set_cons_zero, List.set_cons_succ, List.set_nil, ↓reduceIte, Nat.reduceAdd, Nat.reduceSub, Nat.reduceEqDiff, Nat.reduceLeDiff, Int.reduceEq, Int.reduceNe, Int.reduceNeg, reduceCtorEq, kd188, kd189, ln189, z188_0 hz, e]
    refine ⟨rr (by omega), fun _ => ⟨by omega, by omega, c_gp (by omega) (by omega) ?_⟩, fun e => absurd (by omega) e⟩
    simp only [bk58_0, bk58_4, bk58_10, bk58_27, bk58_32, bk58_36, bk58_37, U_iload_n, U_istore_n, U_iconst, U_bipush, U_icmp_ge, U_aload_n, U_getfield, U_iald, U_invokestatic2, U_iinc, U_goto, U_icmp_ne, U_ireturn, UN_cc, UN_cn, UN_nc, UN_nn, UJ, lget, lset, lset2, entL, wsm, wcat, Option.toList_some, Option.toList_none, List.cons_append, List.nil_append, List.mem_cons, List.not_mem_nil, Prod.mk.injEq, or_false, false_or, or_true, true_or, and_true, true_and, and_false, false_and, and_self, ne_eq, not_false_eq_true, not_true_eq_false, forall_const, true_implies, false_implies, Nat.add_zero, Nat.zero_add, Nat.le_refl, Nat.zero_le, List.set_cons_zero, List.set_cons_succ, List.set_nil, ↓reduceIte, Nat.reduceAdd, Nat.reduceSub, Nat.reduceEqDiff, Nat.reduceLeDiff, Int.reduceEq, Int.reduceNe, Int.reduceNeg, reduceCtorEq]
    exact ih (k + 1) (by omega)
set_option maxHeartbeats 4000000 in
theorem c_coWhole {N : Mem} {Q : Post} {E : Nat → Nat} {n : Nat} (hz : Fz N) (h : CoA N E) (hn : 0 < n ∧ n ≤ 12) (hQ : Q (some (0, if gcf n E 13 = 1 then 1 else 0)) NN N) : CL 58 [(2, 188), (0, (n : Int)), (9, 0), (9, 0)] NN N Q := by
  refine WP.run [(58, 4)] [] 60 ?_
  simp only [bk58_0, bk58_4, bk58_10, bk58_27, bk58_32, bk58_36, bk58_37, U_iload_n, U_istore_n, U_iconst, U_bipush, U_icmp_ge, U_aload_n, U_getfield, U_iald, U_invokestatic2, U_iinc, U_goto, U_icmp_ne, U_ireturn, UN_cc, UN_cn, UN_nc, UN_nn, UJ, lget, lset, lset2, entL, wsm, wcat, Option.toList_some, Option.toList_none, List.cons_append, List.nil_append, List.mem_cons, List.not_mem_nil, Prod.mk.injEq, or_false, false_or, or_true, true_or, and_true, true_and, and_false, false_and, and_self, ne_eq, not_false_eq_true, not_true_eq_false, forall_const, true_implies, false_implies, Nat.add_zero, Nat.zero_add, Nat.le_refl, Nat.zero_le, List.set_cons_zero, List.set_cons_succ, List.set_nil, ↓reduceIte, Nat.reduceAdd, Nat.reduceSub, Nat.reduceEqDiff, Nat.reduceLeDiff, Int.reduceEq, Int.reduceNe, Int.reduceNeg, reduceCtorEq]
  exact l_coWhole hz h hn hQ 13 0 (by omega)
def wis (n : Nat) (E : Nat → Nat) (k : Nat) : Int := isum (fun a => (n : Int) - ((Nat.gcd n (E a) : Nat) : Int)) k
theorem wis_rg {n : Nat} (E : Nat → Nat) (hn : 0 < n ∧ n ≤ 12) (k : Nat) : 0 ≤ wis n E k ∧ wis n E k ≤ k * 12 := by
  refine isum_rg (B := 12) (fun a => ?_) k
  have := Nat.gcd_le_left (E a) hn.1
  omega
set_option maxHeartbeats 4000000 in
theorem l_coGenus {N : Mem} {Q : Post} {E : Nat → Nat} {n : Nat} {b : Int} (hz : Fz N) (h : CoA N E) (hn : 0 < n ∧ n ≤ 12) (hb : -100 ≤ b ∧ b ≤ 100) (hQ : Q (some (0, (b + wis n E 13).tdiv 2)) NN N) : ∀ (m k : Nat), k + m = 13 → WP 59 (0, 0) 19 [(2, 188), (0, (n : Int)), (0, b + wis n E k), (0, (k : Int))] [] NN N Q := by
  intro m
  induction m with
  | zero =>
    intro k hk
    obtain rfl : k = 13 := by omega
    have hl := wis_rg E hn 13
    refine WP.run [(59, 19)] [] 60 ?_
    simp only [bk59_0, bk59_19, bk59_25, bk59_46, U_iconst, U_iload_n, U_imul, U_isub, U_iadd, U_aload_n, U_invokevirtual0, U_invokestatic2, U_istore_n, U_bipush, U_icmp_ge, U_getfield, U_iald, U_iinc, U_goto, U_idiv, U_ireturn, UN_cc, UN_cn, UN_nc, UN_nn, UJ, lget, lset, lset2, entL, wsm, wcat, Option.toList_some, Option.toList_none, List.cons_append, List.nil_append, List.mem_cons, List.not_mem_nil, Prod.mk.injEq, or_false, false_or, or_true, true_or, and_true, true_and, and_false, false_and, and_self, ne_eq, not_false_eq_true, not_true_eq_false, forall_const, true_implies, false_implies, Nat.add_zero, Nat.zero_add, Nat.le_refl, Nat.zero_le, List.set_cons_zero, List.set_cons_succ, List.set_nil, ↓reduceIte, Nat.reduceAdd, Nat.reduceSub, Nat.reduceEqDiff, Nat.reduceLeDiff, Int.reduceEq, Int.reduceNe, Int.reduceNeg, reduceCtorEq]
    exact ⟨rr (by omega), fun e => absurd e (by omega), fun _ => ⟨r3 (by omega), r3 (by omega), hQ⟩⟩
  | succ m ih =>
    intro k hk
    have e := h.1 k (by omega)
    have h20 := h.2 k
    refine WP.run [(59, 19)] [] 60 ?_
    simp only [bk59_0, bk59_19, bk59_25, bk59_46, U_iconst, U_iload_n, U_imul, U_isub, U_iadd, U_aload_n, U_invokevirtual0, U_invokestatic2, U_istore_n, U_bipush, U_icmp_ge, U_getfield, U_iald, U_iinc, U_goto, U_idiv, U_ireturn, UN_cc, UN_cn, UN_nc, UN_nn, UJ, lget, lset, lset2, entL, wsm, wcat, Option.toList_some, Option.toList_none, List.cons_append, List.nil_append, List.mem_cons, List.not_mem_nil, Prod.mk.injEq, or_false, false_or, or_true, true_or, and_true, true_and, and_false, false_and, and_self, ne_eq, not_false_eq_true, not_true_eq_false, forall_const, true_implies, false_implies, Nat.add_zero, Nat.zero_add, Nat.le_refl, Nat.zero_le, List.set_cons_zero, List.set_cons_succ, List.set_nil, ↓reduceIte, Nat.reduceAdd, Nat.reduceSub, Nat.reduceEqDiff, Nat.reduceLeDiff, Int.reduceEq, Int.reduceNe, Int.reduceNeg, reduceCtorEq, kd188, kd189, ln189, z188_0 hz, e]
    refine ⟨rr (by omega), fun _ => ⟨by omega, by omega, c_gp (by omega) (by omega) ?_⟩, fun e => absurd (by omega) e⟩
    simp only [bk59_0, bk59_19, bk59_25, bk59_46, U_iconst, U_iload_n, U_imul, U_isub, U_iadd, U_aload_n, U_invokevirtual0, U_invokestatic2, U_istore_n, U_bipush, U_icmp_ge, U_getfield, U_iald, U_iinc, U_goto, U_idiv, U_ireturn, UN_cc, UN_cn, UN_nc, UN_nn, UJ, lget, lset, lset2, entL, wsm, wcat, Option.toList_some, Option.toList_none, List.cons_append, List.nil_append, List.mem_cons, List.not_mem_nil, Prod.mk.injEq, or_false, false_or, or_true, true_or, and_true, true_and, and_false, false_and, and_self, ne_eq, not_false_eq_true, not_true_eq_false, forall_const, true_implies, false_implies, Nat.add_zero, Nat.zero_add, Nat.le_refl, Nat.zero_le, List.set_cons_zero, List.set_cons_succ, List.set_nil, ↓reduceIte, Nat.reduceAdd, Nat.reduceSub, Nat.reduceEqDiff, Nat.reduceLeDiff, Int.reduceEq, Int.reduceNe, Int.reduceNeg, reduceCtorEq]
    have e2 : b + wis n E k + ((n : Int) - ((Nat.gcd n (E k) : Nat) : Int)) = b + wis n E (k + 1) := by
      show _ = b + (wis n E k + ((n : Int) - ((Nat.gcd n (E k) : Nat) : Int)))
      omega
    rw [e2]
    exact ih (k + 1) (by omega)
set_option maxHeartbeats 4000000 in
theorem c_coGenus {N : Mem} {Q : Post} {E : Nat → Nat} {n : Nat} (hz : Fz N) (h : CoA N E) (hn : 0 < n ∧ n ≤ 12) (hQ : Q (some (0, ((2 : Int) - 2 * n + n - ((Nat.gcd n (nsum E 13) : Nat) : Int) + wis n E 13).tdiv 2)) NN N) : CL 59 [(2, 188), (0, (n : Int)), (9, 0), (9, 0)] NN N Q := by
  have ht := nsum_le h.2 13
  have hl := Nat.gcd_le_left (nsum E 13) hn.1
  refine WP.run [(59, 19)] [] 60 ?_
  simp only [bk59_0, bk59_19, bk59_25, bk59_46, U_iconst, U_iload_n, U_imul, U_isub, U_iadd, U_aload_n, U_invokevirtual0, U_invokestatic2, U_istore_n, U_bipush, U_icmp_ge, U_getfield, U_iald, U_iinc, U_goto, U_idiv, U_ireturn, UN_cc, UN_cn, UN_nc, UN_nn, UJ, lget, lset, lset2, entL, wsm, wcat, Option.toList_some, Option.toList_none, List.cons_append, List.nil_append, List.mem_cons, List.not_mem_nil, Prod.mk.injEq, or_false, false_or, or_true, true_or, and_true, true_and, and_false, false_and, and_self, ne_eq, not_false_eq_true, not_true_eq_false, forall_const, true_implies, false_implies, Nat.add_zero, Nat.zero_add, Nat.le_refl, Nat.zero_le, List.set_cons_zero, List.set_cons_succ, List.set_nil, ↓reduceIte, Nat.reduceAdd, Nat.reduceSub, Nat.reduceEqDiff, Nat.reduceLeDiff, Int.reduceEq, Int.reduceNe, Int.reduceNeg, reduceCtorEq, kd188]
  refine c_coTotal hz h ?_
  simp only [bk59_0, bk59_19, bk59_25, bk59_46, U_iconst, U_iload_n, U_imul, U_isub, U_iadd, U_aload_n, U_invokevirtual0, U_invokestatic2, U_istore_n, U_bipush, U_icmp_ge, U_getfield, U_iald, U_iinc, U_goto, U_idiv, U_ireturn, UN_cc, UN_cn, UN_nc, UN_nn, UJ, lget, lset, lset2, entL, wsm, wcat, Option.toList_some, Option.toList_none, List.cons_append, List.nil_append, List.mem_cons, List.not_mem_nil, Prod.mk.injEq, or_false, false_or, or_true, true_or, and_true, true_and, and_false, false_and, and_self, ne_eq, not_false_eq_true, not_true_eq_false, forall_const, true_implies, false_implies, Nat.add_zero, Nat.zero_add, Nat.le_refl, Nat.zero_le, List.set_cons_zero, List.set_cons_succ, List.set_nil, ↓reduceIte, Nat.reduceAdd, Nat.reduceSub, Nat.reduceEqDiff, Nat.reduceLeDiff, Int.reduceEq, Int.reduceNe, Int.reduceNeg, reduceCtorEq]
  refine c_gp (by omega) (by omega) ?_
  simp only [bk59_0, bk59_19, bk59_25, bk59_46, U_iconst, U_iload_n, U_imul, U_isub, U_iadd, U_aload_n, U_invokevirtual0, U_invokestatic2, U_istore_n, U_bipush, U_icmp_ge, U_getfield, U_iald, U_iinc, U_goto, U_idiv, U_ireturn, UN_cc, UN_cn, UN_nc, UN_nn, UJ, lget, lset, lset2, entL, wsm, wcat, Option.toList_some, Option.toList_none, List.cons_append, List.nil_append, List.mem_cons, List.not_mem_nil, Prod.mk.injEq, or_false, false_or, or_true, true_or, and_true, true_and, and_false, false_and, and_self, ne_eq, not_false_eq_true, not_true_eq_false, forall_const, true_implies, false_implies, Nat.add_zero, Nat.zero_add, Nat.le_refl, Nat.zero_le, List.set_cons_zero, List.set_cons_succ, List.set_nil, ↓reduceIte, Nat.reduceAdd, Nat.reduceSub, Nat.reduceEqDiff, Nat.reduceLeDiff, Int.reduceEq, Int.reduceNe, Int.reduceNeg, reduceCtorEq]
  have := l_coGenus (b := (2 : Int) - 2 * n + n - ((Nat.gcd n (nsum E 13) : Nat) : Int)) hz h hn (by omega) hQ 13 0 (by omega)
  have e0 : wis n E 0 = 0 := rfl
  rw [e0, Int.add_zero] at this
  exact this
