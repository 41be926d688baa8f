/-! THE LIST OF CLASSES: the token of a pair, a class looked for by its token, a class fetched -/
set_option maxHeartbeats 8000000 in
theorem l_tk2 {p : Int} {N : Mem} {ρ : Int → Option (Pz p)} {Q : Post} {q d : Int} {a : Pz p × Pz p} (h : ST p N ρ) (hq : KD q = 16) (ha : PH ρ q a) :
    ∀ (k : Nat) (x : Int), k ≤ 8 → WP 84 (0, 0) 82 [(2, 88), (2, q), (0, d), (0, dgs p a.2.1 k x), (0, -1)] [] NN N Q → WP 84 (0, 0) 51 [(2, 88), (2, q), (0, d), (0, x), (0, (k : Int) - 1)] [] NN N Q := by
  obtain ⟨z1, z2, ku, kv, l, -⟩ := zpr h.1.1 hq
  have n1 : ¬ q + 3 = 0 := by omega
  intro k
  induction k with
  | zero =>
    intro x _ hQ
    refine WP.run [(84, 51), (84, 82)] [] 60 ?_
    simp only [bk84_0, bk84_15, bk84_20, bk84_46, bk84_51, bk84_56, bk84_82, U_aload_n, U_getfield, U_istore_n, U_iconst, U_iload_n, U_isub, U_istore, U_iload, U_if_lt, U_imul, U_invokevirtual1, U_iadd, U_iinc, U_goto, U_invokevirtual0, U_ireturn, UN_cc, UN_cn, UN_nc, UN_nn, UJ, lget, lset, lset2, entL, wsm, wcat, Option.toList_some, Option.toList_none, List.cons_append, List.nil_append, List.mem_cons, List.not_mem_nil, Prod.mk.injEq, or_false, false_or, or_true, true_or, and_true, true_and, and_false, false_and, and_self, ne_eq, not_false_eq_true, not_true_eq_false, forall_const, true_implies, false_implies, Nat.add_zero, Nat.zero_add, Nat.le_refl, Nat.zero_le, List.set_cons_zero, List.set_cons_succ, List.set_nil, ↓reduceIte, Nat.reduceAdd, Nat.reduceSub, Nat.reduceEqDiff, Nat.reduceLeDiff, Int.reduceEq, Int.reduceNe, Int.reduceNeg, reduceCtorEq]
    exact ⟨r3 (by omega), fun _ => hQ, fun e => absurd e (by omega)⟩
  | succ k ih =>
    intro x hk hQ
    have hu := h.rp kv ha.2
    refine WP.run [(84, 51), (84, 82)] [] 60 ?_
    simp only [bk84_0, bk84_15, bk84_20, bk84_46, bk84_51, bk84_56, bk84_82, U_aload_n, U_getfield, U_istore_n, U_iconst, U_iload_n, U_isub, U_istore, U_iload, U_if_lt, U_imul, U_invokevirtual1, U_iadd, U_iinc, U_goto, U_invokevirtual0, U_ireturn, UN_cc, UN_cn, UN_nc, UN_nn, UJ, lget, lset, lset2, entL, wsm, wcat, Option.toList_some, Option.toList_none, List.cons_append, List.nil_append, List.mem_cons, List.not_mem_nil, Prod.mk.injEq, or_false, false_or, or_true, true_or, and_true, true_and, and_false, false_and, and_self, ne_eq, not_false_eq_true, not_true_eq_false, forall_const, true_implies, false_implies, Nat.add_zero, Nat.zero_add, Nat.le_refl, Nat.zero_le, List.set_cons_zero, List.set_cons_succ, List.set_nil, ↓reduceIte, Nat.reduceAdd, Nat.reduceSub, Nat.reduceEqDiff, Nat.reduceLeDiff, Int.reduceEq, Int.reduceNe, Int.reduceNeg, reduceCtorEq, kd88, kd2, kd_of hq (by decide), kd_of kv (by decide), z2, n1, z88_0 h.1.1, h.1.2.2.1]
    refine ⟨r3 (by omega), fun e => absurd e (by omega), fun _ => ?_⟩
    refine c_get hu (r3 (by omega)) ?_
    rw [if_pos (by omega), show (((k + 1 : Nat) : Int) - 1).toNat = k by omega, show ((k + 1 : Nat) : Int) - 1 = (k : Int) by omega]
    simp only [bk84_0, bk84_15, bk84_20, bk84_46, bk84_51, bk84_56, bk84_82, U_aload_n, U_getfield, U_istore_n, U_iconst, U_iload_n, U_isub, U_istore, U_iload, U_if_lt, U_imul, U_invokevirtual1, U_iadd, U_iinc, U_goto, U_invokevirtual0, U_ireturn, UN_cc, UN_cn, UN_nc, UN_nn, UJ, lget, lset, lset2, entL, wsm, wcat, Option.toList_some, Option.toList_none, List.cons_append, List.nil_append, List.mem_cons, List.not_mem_nil, Prod.mk.injEq, or_false, false_or, or_true, true_or, and_true, true_and, and_false, false_and, and_self, ne_eq, not_false_eq_true, not_true_eq_false, forall_const, true_implies, false_implies, Nat.add_zero, Nat.zero_add, Nat.le_refl, Nat.zero_le, List.set_cons_zero, List.set_cons_succ, List.set_nil, ↓reduceIte, Nat.reduceAdd, Nat.reduceSub, Nat.reduceEqDiff, Nat.reduceLeDiff, Int.reduceEq, Int.reduceNe, Int.reduceNeg, reduceCtorEq]
    exact ih (x * p + a.2.1 k) (by omega) hQ
set_option maxHeartbeats 8000000 in
theorem s_token {p : Int} {N : Mem} {ρ : Int → Option (Pz p)} {Q : Post} {q : Int} {a : Pz p × Pz p} (h : ST p N ρ) (hq : KD q = 16) (ha : PH ρ q a) (h1 : dg a.1 ≠ 0) (hQ : Q (some (0, tkn a)) NN N) : CL 84 [(2, 88), (2, q), (9, 0), (9, 0), (9, 0)] NN N Q := by
  obtain ⟨z1, z2, ku, kv, l, -⟩ := zpr h.1.1 hq
  have n1 : ¬ q + 1 = 0 := by omega
  have hu := h.rp ku ha.1
  have d8 := hu.2.2.1
  have ek : (dg a.1 : Int) - 1 = ((dg a.1 - 1 : Nat) : Int) := by omega
  refine WP.run [(84, 15)] [] 60 ?_
  simp only [bk84_0, bk84_15, bk84_20, bk84_46, bk84_51, bk84_56, bk84_82, U_aload_n, U_getfield, U_istore_n, U_iconst, U_iload_n, U_isub, U_istore, U_iload, U_if_lt, U_imul, U_invokevirtual1, U_iadd, U_iinc, U_goto, U_invokevirtual0, U_ireturn, UN_cc, UN_cn, UN_nc, UN_nn, UJ, lget, lset, lset2, entL, wsm, wcat, Option.toList_some, Option.toList_none, List.cons_append, List.nil_append, List.mem_cons, List.not_mem_nil, Prod.mk.injEq, or_false, false_or, or_true, true_or, and_true, true_and, and_false, false_and, and_self, ne_eq, not_false_eq_true, not_true_eq_false, forall_const, true_implies, false_implies, Nat.add_zero, Nat.zero_add, Nat.le_refl, Nat.zero_le, List.set_cons_zero, List.set_cons_succ, List.set_nil, ↓reduceIte, Nat.reduceAdd, Nat.reduceSub, Nat.reduceEqDiff, Nat.reduceLeDiff, Int.reduceEq, Int.reduceNe, Int.reduceNeg, reduceCtorEq, kd_of hq (by decide), kd_of ku (by decide), z1, n1, hu.2.2.2]
  rw [ek]
  refine l_tk1 h hq ha (dg a.1 - 1) 0 (by omega) ?_
  refine WP.run [(84, 51)] [] 60 ?_
  simp only [bk84_0, bk84_15, bk84_20, bk84_46, bk84_51, bk84_56, bk84_82, U_aload_n, U_getfield, U_istore_n, U_iconst, U_iload_n, U_isub, U_istore, U_iload, U_if_lt, U_imul, U_invokevirtual1, U_iadd, U_iinc, U_goto, U_invokevirtual0, U_ireturn, UN_cc, UN_cn, UN_nc, UN_nn, UJ, lget, lset, lset2, entL, wsm, wcat, Option.toList_some, Option.toList_none, List.cons_append, List.nil_append, List.mem_cons, List.not_mem_nil, Prod.mk.injEq, or_false, false_or, or_true, true_or, and_true, true_and, and_false, false_and, and_self, ne_eq, not_false_eq_true, not_true_eq_false, forall_const, true_implies, false_implies, Nat.add_zero, Nat.zero_add, Nat.le_refl, Nat.zero_le, List.set_cons_zero, List.set_cons_succ, List.set_nil, ↓reduceIte, Nat.reduceAdd, Nat.reduceSub, Nat.reduceEqDiff, Nat.reduceLeDiff, Int.reduceEq, Int.reduceNe, Int.reduceNeg, reduceCtorEq]
  refine l_tk2 h hq ha (dg a.1 - 1) _ (by omega) ?_
  refine WP.run [] [] 60 ?_
  simp only [bk84_0, bk84_15, bk84_20, bk84_46, bk84_51, bk84_56, bk84_82, U_aload_n, U_getfield, U_istore_n, U_iconst, U_iload_n, U_isub, U_istore, U_iload, U_if_lt, U_imul, U_invokevirtual1, U_iadd, U_iinc, U_goto, U_invokevirtual0, U_ireturn, UN_cc, UN_cn, UN_nc, UN_nn, UJ, lget, lset, lset2, entL, wsm, wcat, Option.toList_some, Option.toList_none, List.cons_append, List.nil_append, List.mem_cons, List.not_mem_nil, Prod.mk.injEq, or_false, false_or, or_true, true_or, and_true, true_and, and_false, false_and, and_self, ne_eq, not_false_eq_true, not_true_eq_false, forall_const, true_implies, false_implies, Nat.add_zero, Nat.zero_add, Nat.le_refl, Nat.zero_le, List.set_cons_zero, List.set_cons_succ, List.set_nil, ↓reduceIte, Nat.reduceAdd, Nat.reduceSub, Nat.reduceEqDiff, Nat.reduceLeDiff, Int.reduceEq, Int.reduceNe, Int.reduceNeg, reduceCtorEq, kd88]
  refine c_degreeWeight h.1 ?_
  simp only [bk84_0, bk84_15, bk84_20, bk84_46, bk84_51, bk84_56, bk84_82, U_aload_n, U_getfield, U_istore_n, U_iconst, U_iload_n, U_isub, U_istore, U_iload, U_if_lt, U_imul, U_invokevirtual1, U_iadd, U_iinc, U_goto, U_invokevirtual0, U_ireturn, UN_cc, UN_cn, UN_nc, UN_nn, UJ, lget, lset, lset2, entL, wsm, wcat, Option.toList_some, Option.toList_none, List.cons_append, List.nil_append, List.mem_cons, List.not_mem_nil, Prod.mk.injEq, or_false, false_or, or_true, true_or, and_true, true_and, and_false, false_and, and_self, ne_eq, not_false_eq_true, not_true_eq_false, forall_const, true_implies, false_implies, Nat.add_zero, Nat.zero_add, Nat.le_refl, Nat.zero_le, List.set_cons_zero, List.set_cons_succ, List.set_nil, ↓reduceIte, Nat.reduceAdd, Nat.reduceSub, Nat.reduceEqDiff, Nat.reduceLeDiff, Int.reduceEq, Int.reduceNe, Int.reduceNeg, reduceCtorEq]
  exact hQ
/-- ever greater -/
def Asc (L : List Int) : Prop := ∀ (i j : Nat) (s t : Int), i < j → L[i]? = some s → L[j]? = some t → s < t
set_option maxHeartbeats 8000000 in
theorem l_find2 {N : Mem} {Q : Post} {L : List Int} {q t : Int} {i0 : Nat} (hz : Fz N) (hA : TkA N L) (hl : L.length ≤ 450) (hs : Asc L) (ht : L[i0]? = some t) (hr : ∀ x ∈ L, 0 ≤ x ∧ x ≤ 1000000) (hQ : Q (some (0, (i0 : Int))) NN N) :
    ∀ (k lo hi st : Nat) (v : V), lo ≤ i0 → i0 ≤ hi → hi < L.length → hi - lo < 2 ^ k → st + k ≤ 30 → WP 85 (0, 0) 25 [(2, 88), (2, q), (0, t), (0, (lo : Int)), (0, (hi : Int)), (0, (st : Int)), v] [] NN N Q := by
  have hrt := hr t (List.mem_of_getElem? ht)
  have fin : ∀ (lo st : Nat) (v : V), lo = i0 → st ≤ 31 → lo < 450 → WP 85 (0, 0) 25 [(2, 88), (2, q), (0, t), (0, (lo : Int)), (0, (lo : Int)), (0, (st : Int)), v] [] NN N Q := fun lo st v h1 h2 h3 => by
    subst h1
    refine WP.run [] [] 60 ?_
    simp only [bk85_0, bk85_25, bk85_32, bk85_38, bk85_57, bk85_65, bk85_69, bk85_75, U_aload_n, U_invokevirtual1, U_istore_n, U_iconst, U_getfield, U_sipush, U_min, U_isub, U_istore, U_iload, U_bipush, U_icmp_ge, U_iload_n, U_iadd, U_idiv, U_iald, U_goto, U_iinc, U_ireturn, UN_cc, UN_cn, UN_nc, UN_nn, UJ, lget, lset, lset2, entL, wsm, wcat, Option.toList_some, Option.toList_none, List.cons_append, List.nil_append, List.mem_cons, List.not_mem_nil, Prod.mk.injEq, or_false, false_or, or_true, true_or, and_true, true_and, and_false, false_and, and_self, ne_eq, not_false_eq_true, not_true_eq_false, forall_const, true_implies, false_implies, Nat.add_zero, Nat.zero_add, Nat.le_refl, Nat.zero_le, List.set_cons_zero, List.set_cons_succ, List.set_nil, ↓reduceIte, Nat.reduceAdd, Nat.reduceSub, Nat.reduceEqDiff, Nat.reduceLeDiff, Int.reduceEq, Int.reduceNe, Int.reduceNeg, reduceCtorEq]
    exact ⟨rr (by omega), fun _ => ⟨rr (by omega), fun e => absurd e (by omega), fun _ => hQ⟩, fun e => absurd e (by omega)⟩
  intro k
  induction k with
  | zero =>
    intro lo hi st v h1 h2 h3 h4 h5
    have e : hi = lo := by have : hi - lo < 1 := h4; omega
    subst e
    exact fin hi st v (by omega) (by omega) (by omega)
  | succ k ih =>
    intro lo hi st v h1 h2 h3 h4 h5
    by_cases e : hi = lo
    · subst e; exact fin hi st v (by omega) (by omega) (by omega)
    · have hp2 : hi - lo < 2 * 2 ^ k := by rw [Nat.pow_succ] at h4; omega
      obtain ⟨m, hm⟩ : ∃ m, (lo + hi) / 2 = m := ⟨_, rfl⟩
      obtain ⟨x, hx⟩ : ∃ x, L[m]? = some x := ⟨_, List.getElem?_eq_getElem (by omega)⟩
      have ex := hA.2 m x (by omega) hx
      have hrx := hr x (List.mem_of_getElem? hx)
      have em : ((lo : Int) + (hi : Int)).tdiv 2 = (m : Int) := by rw [Int.tdiv_eq_ediv_of_nonneg (by omega)]; omega
      refine WP.run [(85, 25)] [] 60 ?_
      simp only [bk85_0, bk85_25, bk85_32, bk85_38, bk85_57, bk85_65, bk85_69, bk85_75, U_aload_n, U_invokevirtual1, U_istore_n, U_iconst, U_getfield, U_sipush, U_min, U_isub, U_istore, U_iload, U_bipush, U_icmp_ge, U_iload_n, U_iadd, U_idiv, U_iald, U_goto, U_iinc, U_ireturn, UN_cc, UN_cn, UN_nc, UN_nn, UJ, lget, lset, lset2, entL, wsm, wcat, Option.toList_some, Option.toList_none, List.cons_append, List.nil_append, List.mem_cons, List.not_mem_nil, Prod.mk.injEq, or_false, false_or, or_true, true_or, and_true, true_and, and_false, false_and, and_self, ne_eq, not_false_eq_true, not_true_eq_false, forall_const, true_implies, false_implies, Nat.add_zero, Nat.zero_add, Nat.le_refl, Nat.zero_le, List.set_cons_zero, List.set_cons_succ, List.set_nil, ↓reduceIte, Nat.reduceAdd, Nat.reduceSub, Nat.reduceEqDiff, Nat.reduceLeDiff, Int.reduceEq, Int.reduceNe, Int.reduceNeg, reduceCtorEq, kd88, kd89, ln89, z88_2 hz, em, ex]
      refine ⟨rr (by omega), fun _ => ⟨rr (by omega), fun _ => ⟨r3 (by omega), r3 (by omega), by omega, by omega, rr (by omega), fun e1 => ?_, fun e1 => ?_⟩, fun e => absurd (by omega) e⟩, fun e => absurd e (by omega)⟩
      · have hmi : m < i0 := by
          rcases Nat.lt_trichotomy m i0 with g | g | g
          · exact g
          · subst g; rw [ht] at hx; cases hx; omega
          · have := hs i0 m t x g ht hx; omega
        exact ih (m + 1) hi (st + 1) _ (by omega) h2 h3 (by omega) (by omega)
      · have hmi : i0 ≤ m := by
          rcases Nat.lt_or_ge m i0 with g | g
          · have := hs m i0 x t g hx ht; omega
          · exact g
        exact ih lo m (st + 1) _ h1 hmi (by omega) (by omega) (by omega)
set_option maxHeartbeats 8000000 in
theorem s_find {p : Int} {N : Mem} {ρ : Int → Option (Pz p)} {Q : Post} {L : List Int} {q : Int} {a : Pz p × Pz p} {i0 : Nat} (h : ST p N ρ) (hq : KD q = 16) (ha : PH ρ q a) (h1 : dg a.1 ≠ 0) (hA : TkA N L) (hl : L.length ≤ 450) (hs : Asc L) (ht : L[i0]? = some (tkn a)) (hr : ∀ x ∈ L, 0 ≤ x ∧ x ≤ 1000000) (hQ : Q (some (0, (i0 : Int))) NN N) : CL 85 [(2, 88), (2, q), (9, 0), (9, 0), (9, 0), (9, 0), (9, 0)] NN N Q := by
  have hi := (List.getElem?_eq_some_iff.mp ht).1
  have e3 := hA.1
  rw [show min (L.length : Int) 450 = (L.length : Int) by omega] at e3
  have em : min (L.length : Int) 450 - 1 = ((L.length - 1 : Nat) : Int) := by omega
  refine WP.run [(85, 25)] [] 60 ?_
  simp only [bk85_0, bk85_25, bk85_32, bk85_38, bk85_57, bk85_65, bk85_69, bk85_75, U_aload_n, U_invokevirtual1, U_istore_n, U_iconst, U_getfield, U_sipush, U_min, U_isub, U_istore, U_iload, U_bipush, U_icmp_ge, U_iload_n, U_iadd, U_idiv, U_iald, U_goto, U_iinc, U_ireturn, UN_cc, UN_cn, UN_nc, UN_nn, UJ, lget, lset, lset2, entL, wsm, wcat, Option.toList_some, Option.toList_none, List.cons_append, List.nil_append, List.mem_cons, List.not_mem_nil, Prod.mk.injEq, or_false, false_or, or_true, true_or, and_true, true_and, and_false, false_and, and_self, ne_eq, not_false_eq_true, not_true_eq_false, forall_const, true_implies, false_implies, Nat.add_zero, Nat.zero_add, Nat.le_refl, Nat.zero_le, List.set_cons_zero, List.set_cons_succ, List.set_nil, ↓reduceIte, Nat.reduceAdd, Nat.reduceSub, Nat.reduceEqDiff, Nat.reduceLeDiff, Int.reduceEq, Int.reduceNe, Int.reduceNeg, reduceCtorEq, kd88]
  refine s_token h hq ha h1 ?_
  simp only [bk85_0, bk85_25, bk85_32, bk85_38, bk85_57, bk85_65, bk85_69, bk85_75, U_aload_n, U_invokevirtual1, U_istore_n, U_iconst, U_getfield, U_sipush, U_min, U_isub, U_istore, U_iload, U_bipush, U_icmp_ge, U_iload_n, U_iadd, U_idiv, U_iald, U_goto, U_iinc, U_ireturn, UN_cc, UN_cn, UN_nc, UN_nn, UJ, lget, lset, lset2, entL, wsm, wcat, Option.toList_some, Option.toList_none, List.cons_append, List.nil_append, List.mem_cons, List.not_mem_nil, Prod.mk.injEq, or_false, false_or, or_true, true_or, and_true, true_and, and_false, false_and, and_self, ne_eq, not_false_eq_true, not_true_eq_false, forall_const, true_implies, false_implies, Nat.add_zero, Nat.zero_add, Nat.le_refl, Nat.zero_le, List.set_cons_zero, List.set_cons_succ, List.set_nil, ↓reduceIte, Nat.reduceAdd, Nat.reduceSub, Nat.reduceEqDiff, Nat.reduceLeDiff, Int.reduceEq, Int.reduceNe, Int.reduceNeg, reduceCtorEq, kd88, e3, em]
  refine ⟨r3 (by omega), r3 (by omega), ?_⟩
  exact l_find2 h.1.1 hA hl hs ht hr hQ 9 0 (L.length - 1) 0 _ (by omega) (by omega) (by omega) (by omega) (by omega)
set_option maxHeartbeats 8000000 in
theorem s_fetch0 {p : Int} {N : Mem} {ρ : Int → Option (Pz p)} {Q : Post} {q : Int} (h : ST p N ρ) (hq : KD q = 16) (hQ : ∀ N', ST p N' (upq (upq ρ (q + 1) (pC p 1)) (q + 3) (pC p 0)) → FR N N' → Q none NN N') : CL 83 [(2, 88), (0, 0), (2, q), (9, 0), (9, 0), (9, 0), (9, 0)] NN N Q := by
  refine WP.run [] [] 60 ?_
  simp only [bk83_0, bk83_9, bk83_17, bk83_24, bk83_25, bk83_72, bk83_79, bk83_104, bk83_107, bk83_114, bk83_139, U_aload_n, U_invokevirtual0, U_iload_n, U_iconst, U_icmp_lt, U_getfield, U_icmp_ge, U_sipush, U_return, U_istore_n, U_iald, U_idiv, U_istore, U_irem, U_iload, U_invokevirtual2, U_iinc, U_goto, UN_cc, UN_cn, UN_nc, UN_nn, UJ, lget, lset, lset2, entL, wsm, wcat, Option.toList_some, Option.toList_none, List.cons_append, List.nil_append, List.mem_cons, List.not_mem_nil, Prod.mk.injEq, or_false, false_or, or_true, true_or, and_true, true_and, and_false, false_and, and_self, ne_eq, not_false_eq_true, not_true_eq_false, forall_const, true_implies, false_implies, Nat.add_zero, Nat.zero_add, Nat.le_refl, Nat.zero_le, List.set_cons_zero, List.set_cons_succ, List.set_nil, ↓reduceIte, Nat.reduceAdd, Nat.reduceSub, Nat.reduceEqDiff, Nat.reduceLeDiff, Int.reduceEq, Int.reduceNe, Int.reduceNeg, reduceCtorEq, kd_of hq (by decide)]
  refine s_makeNought h hq fun N1 S1 F1 => ?_
  simp only [bk83_0, bk83_9, bk83_17, bk83_24, bk83_25, bk83_72, bk83_79, bk83_104, bk83_107, bk83_114, bk83_139, U_aload_n, U_invokevirtual0, U_iload_n, U_iconst, U_icmp_lt, U_getfield, U_icmp_ge, U_sipush, U_return, U_istore_n, U_iald, U_idiv, U_istore, U_irem, U_iload, U_invokevirtual2, U_iinc, U_goto, UN_cc, UN_cn, UN_nc, UN_nn, UJ, lget, lset, lset2, entL, wsm, wcat, Option.toList_some, Option.toList_none, List.cons_append, List.nil_append, List.mem_cons, List.not_mem_nil, Prod.mk.injEq, or_false, false_or, or_true, true_or, and_true, true_and, and_false, false_and, and_self, ne_eq, not_false_eq_true, not_true_eq_false, forall_const, true_implies, false_implies, Nat.add_zero, Nat.zero_add, Nat.le_refl, Nat.zero_le, List.set_cons_zero, List.set_cons_succ, List.set_nil, ↓reduceIte, Nat.reduceAdd, Nat.reduceSub, Nat.reduceEqDiff, Nat.reduceLeDiff, Int.reduceEq, Int.reduceNe, Int.reduceNeg, reduceCtorEq]
  exact ⟨rr (by omega), fun _ => hQ N1 S1 F1, fun e => absurd (by omega) e⟩
theorem upq_2 {p : Int} (ρ : Int → Option (Pz p)) {r s : Int} (h : r ≠ s) (a b c : Pz p) : upq (upq (upq ρ r a) s b) r c = upq (upq ρ r c) s b := by
  rw [upq_c _ _ _ (Ne.symm h), upq_u]
theorem dmod {p D : Int} (h : 0 < p) : (D % p) % p = D % p := Int.emod_emod_of_dvd D (Int.dvd_refl p)
set_option maxHeartbeats 16000000 in
theorem s_fetch1 {p : Int} {N : Mem} {ρ : Int → Option (Pz p)} {Q : Post} {L : List Int} {q D : Int} {i : Nat} (h : ST p N ρ) (hq : KD q = 16) (hA : TkA N L) (hi : 1 ≤ i ∧ i < 450) (ht : L[i]? = some (p * p * p * p + D)) (hD : 0 ≤ D ∧ D < p * p)
    (hQ : ∀ N', ST p N' (upq (upq ρ (q + 1) (pput (pput (pC p 1) 1 1) 0 (D / p % p))) (q + 3) (pput (pC p 0) 0 (D % p))) → FR N N' → Q none NN N') : CL 83 [(2, 88), (0, (i : Int)), (2, q), (9, 0), (9, 0), (9, 0), (9, 0)] NN N Q := by
  have hp := h.1.2.1
  have hpp := hp.pos
  have h4 := p4_le hp
  have h169 := pp_le hp
  obtain ⟨z1, z2, ku, kv, l, -⟩ := zpr h.1.1 hq
  have n1 : ¬ q + 1 = 0 := by omega
  have n3 : ¬ q + 3 = 0 := by omega
  have hil := (List.getElem?_eq_some_iff.mp ht).1
  have e3 := hA.1
  have et := hA.2 i _ hi.2 ht
  have td : (p * p * p * p + D).tdiv (p * p * p * p) = 1 := by
    rw [Int.tdiv_eq_ediv_of_nonneg (by omega)]
    have := Int.add_mul_ediv_left D 1 (show p * p * p * p ≠ 0 by omega)
    rw [Int.mul_one, Int.add_comm D] at this
    rw [this, Int.ediv_eq_zero_of_lt hD.1 (by rcases hp with rfl | rfl | rfl | rfl | rfl <;> omega)]; rfl
  have tm : (p * p * p * p + D).tmod (p * p * p * p) = D := by
    rw [tm_nn (by omega)]
    have := Int.add_mul_emod_self_left D (p * p * p * p) 1
    rw [Int.mul_one, Int.add_comm D] at this
    rw [this, Int.emod_eq_of_lt hD.1 (by rcases hp with rfl | rfl | rfl | rfl | rfl <;> omega)]
  have hD1 : 0 ≤ D / p := Int.ediv_nonneg hD.1 (by omega)
  have hD2 : D / p ≤ D := Int.ediv_le_self _ hD.1
  have tD : D.tdiv p = D / p := Int.tdiv_eq_ediv_of_nonneg hD.1
  have mD : D.tmod p = D % p := tm_nn hD.1
  have mD1 : (D / p).tmod p = D / p % p := tm_nn hD1
  refine WP.run [] [] 150 ?_
  simp only [bk83_0, bk83_9, bk83_17, bk83_24, bk83_25, bk83_72, bk83_79, bk83_104, bk83_107, bk83_114, bk83_139, U_aload_n, U_invokevirtual0, U_iload_n, U_iconst, U_icmp_lt, U_getfield, U_icmp_ge, U_sipush, U_return, U_istore_n, U_iald, U_idiv, U_istore, U_irem, U_iload, U_invokevirtual2, U_iinc, U_goto, UN_cc, UN_cn, UN_nc, UN_nn, UJ, lget, lset, lset2, entL, wsm, wcat, Option.toList_some, Option.toList_none, List.cons_append, List.nil_append, List.mem_cons, List.not_mem_nil, Prod.mk.injEq, or_false, false_or, or_true, true_or, and_true, true_and, and_false, false_and, and_self, ne_eq, not_false_eq_true, not_true_eq_false, forall_const, true_implies, false_implies, Nat.add_zero, Nat.zero_add, Nat.le_refl, Nat.zero_le, List.set_cons_zero, List.set_cons_succ, List.set_nil, ↓reduceIte, Nat.reduceAdd, Nat.reduceSub, Nat.reduceEqDiff, Nat.reduceLeDiff, Int.reduceEq, Int.reduceNe, Int.reduceNeg, reduceCtorEq, kd_of hq (by decide)]
  refine s_makeNought h hq fun N1 S1 F1 => ?_
  have a3 : N1 88 3 = min (L.length : Int) 450 := by rw [F1 88 (by decide)]; exact e3
  have at1 : N1 89 (i : Int) = p * p * p * p + D := by rw [F1 89 (by decide)]; exact et
  simp only [bk83_0, bk83_9, bk83_17, bk83_24, bk83_25, bk83_72, bk83_79, bk83_104, bk83_107, bk83_114, bk83_139, U_aload_n, U_invokevirtual0, U_iload_n, U_iconst, U_icmp_lt, U_getfield, U_icmp_ge, U_sipush, U_return, U_istore_n, U_iald, U_idiv, U_istore, U_irem, U_iload, U_invokevirtual2, U_iinc, U_goto, UN_cc, UN_cn, UN_nc, UN_nn, UJ, lget, lset, lset2, entL, wsm, wcat, Option.toList_some, Option.toList_none, List.cons_append, List.nil_append, List.mem_cons, List.not_mem_nil, Prod.mk.injEq, or_false, false_or, or_true, true_or, and_true, true_and, and_false, false_and, and_self, ne_eq, not_false_eq_true, not_true_eq_false, forall_const, true_implies, false_implies, Nat.add_zero, Nat.zero_add, Nat.le_refl, Nat.zero_le, List.set_cons_zero, List.set_cons_succ, List.set_nil, ↓reduceIte, Nat.reduceAdd, Nat.reduceSub, Nat.reduceEqDiff, Nat.reduceLeDiff, Int.reduceEq, Int.reduceNe, Int.reduceNeg, reduceCtorEq, kd88, kd2, kd89, ln89, z88_0 S1.1.1, z88_2 S1.1.1, S1.1.2.2.1, a3, at1]
  refine ⟨rr (by omega), fun e => absurd e (by omega), fun _ => ⟨rr (by omega), fun _ => ⟨rr (by omega), fun _ => ⟨by omega, by omega, c_degreeWeight S1.1 ?_⟩, fun e => absurd (by omega) e⟩, fun e => absurd (by omega) e⟩⟩
  simp only [bk83_0, bk83_9, bk83_17, bk83_24, bk83_25, bk83_72, bk83_79, bk83_104, bk83_107, bk83_114, bk83_139, U_aload_n, U_invokevirtual0, U_iload_n, U_iconst, U_icmp_lt, U_getfield, U_icmp_ge, U_sipush, U_return, U_istore_n, U_iald, U_idiv, U_istore, U_irem, U_iload, U_invokevirtual2, U_iinc, U_goto, UN_cc, UN_cn, UN_nc, UN_nn, UJ, lget, lset, lset2, entL, wsm, wcat, Option.toList_some, Option.toList_none, List.cons_append, List.nil_append, List.mem_cons, List.not_mem_nil, Prod.mk.injEq, or_false, false_or, or_true, true_or, and_true, true_and, and_false, false_and, and_self, ne_eq, not_false_eq_true, not_true_eq_false, forall_const, true_implies, false_implies, Nat.add_zero, Nat.zero_add, Nat.le_refl, Nat.zero_le, List.set_cons_zero, List.set_cons_succ, List.set_nil, ↓reduceIte, Nat.reduceAdd, Nat.reduceSub, Nat.reduceEqDiff, Nat.reduceLeDiff, Int.reduceEq, Int.reduceNe, Int.reduceNeg, reduceCtorEq, kd88, kd2, kd89, ln89, z88_0 S1.1.1, z88_2 S1.1.1, S1.1.2.2.1, a3, at1, td]
  refine ⟨r3 (by omega), r3 (by omega), by omega, by omega, by omega, c_degreeWeight S1.1 ?_⟩
  simp only [bk83_0, bk83_9, bk83_17, bk83_24, bk83_25, bk83_72, bk83_79, bk83_104, bk83_107, bk83_114, bk83_139, U_aload_n, U_invokevirtual0, U_iload_n, U_iconst, U_icmp_lt, U_getfield, U_icmp_ge, U_sipush, U_return, U_istore_n, U_iald, U_idiv, U_istore, U_irem, U_iload, U_invokevirtual2, U_iinc, U_goto, UN_cc, UN_cn, UN_nc, UN_nn, UJ, lget, lset, lset2, entL, wsm, wcat, Option.toList_some, Option.toList_none, List.cons_append, List.nil_append, List.mem_cons, List.not_mem_nil, Prod.mk.injEq, or_false, false_or, or_true, true_or, and_true, true_and, and_false, false_and, and_self, ne_eq, not_false_eq_true, not_true_eq_false, forall_const, true_implies, false_implies, Nat.add_zero, Nat.zero_add, Nat.le_refl, Nat.zero_le, List.set_cons_zero, List.set_cons_succ, List.set_nil, ↓reduceIte, Nat.reduceAdd, Nat.reduceSub, Nat.reduceEqDiff, Nat.reduceLeDiff, Int.reduceEq, Int.reduceNe, Int.reduceNeg, reduceCtorEq, tm, kd_of hq (by decide), kd_of ku (by decide), (zpr S1.1.1 hq).1, n1]
  refine ⟨r3 (by omega), r3 (by omega), by omega, ?_⟩
  refine s_put S1 ku (a := pC p 1) (by rw [upq_n (by omega)]; exact upq_e _ _ _) 1 (by omega) (Int.emod_eq_of_lt (by omega) (by omega)) fun N2 S2 F2 => ?_
  simp only [bk83_0, bk83_9, bk83_17, bk83_24, bk83_25, bk83_72, bk83_79, bk83_104, bk83_107, bk83_114, bk83_139, U_aload_n, U_invokevirtual0, U_iload_n, U_iconst, U_icmp_lt, U_getfield, U_icmp_ge, U_sipush, U_return, U_istore_n, U_iald, U_idiv, U_istore, U_irem, U_iload, U_invokevirtual2, U_iinc, U_goto, UN_cc, UN_cn, UN_nc, UN_nn, UJ, lget, lset, lset2, entL, wsm, wcat, Option.toList_some, Option.toList_none, List.cons_append, List.nil_append, List.mem_cons, List.not_mem_nil, Prod.mk.injEq, or_false, false_or, or_true, true_or, and_true, true_and, and_false, false_and, and_self, ne_eq, not_false_eq_true, not_true_eq_false, forall_const, true_implies, false_implies, Nat.add_zero, Nat.zero_add, Nat.le_refl, Nat.zero_le, List.set_cons_zero, List.set_cons_succ, List.set_nil, ↓reduceIte, Nat.reduceAdd, Nat.reduceSub, Nat.reduceEqDiff, Nat.reduceLeDiff, Int.reduceEq, Int.reduceNe, Int.reduceNeg, reduceCtorEq, kd_of hq (by decide), kd_of kv (by decide), (zpr S2.1.1 hq).2.1, n3, mD]
  refine ⟨rr (by omega), fun _ => ⟨r3 (by omega), r3 (by omega), by omega, ?_⟩, fun e => absurd (by omega) e⟩
  refine s_put S2 kv (a := pC p 0) (by rw [upq_n (by omega)]; exact upq_e _ _ _) 0 (by omega) (dmod (by omega)) fun N3 S3 F3 => ?_
  simp only [bk83_0, bk83_9, bk83_17, bk83_24, bk83_25, bk83_72, bk83_79, bk83_104, bk83_107, bk83_114, bk83_139, U_aload_n, U_invokevirtual0, U_iload_n, U_iconst, U_icmp_lt, U_getfield, U_icmp_ge, U_sipush, U_return, U_istore_n, U_iald, U_idiv, U_istore, U_irem, U_iload, U_invokevirtual2, U_iinc, U_goto, UN_cc, UN_cn, UN_nc, UN_nn, UJ, lget, lset, lset2, entL, wsm, wcat, Option.toList_some, Option.toList_none, List.cons_append, List.nil_append, List.mem_cons, List.not_mem_nil, Prod.mk.injEq, or_false, false_or, or_true, true_or, and_true, true_and, and_false, false_and, and_self, ne_eq, not_false_eq_true, not_true_eq_false, forall_const, true_implies, false_implies, Nat.add_zero, Nat.zero_add, Nat.le_refl, Nat.zero_le, List.set_cons_zero, List.set_cons_succ, List.set_nil, ↓reduceIte, Nat.reduceAdd, Nat.reduceSub, Nat.reduceEqDiff, Nat.reduceLeDiff, Int.reduceEq, Int.reduceNe, Int.reduceNeg, reduceCtorEq, tD]
  refine ⟨r3 (by omega), r3 (by omega), by omega, rr (by omega), fun e => absurd e (by omega), fun _ => ⟨rr (by omega), fun _ => ?_, fun e => absurd (by omega) e⟩⟩
  simp only [kd_of hq (by decide), kd_of ku (by decide), (zpr S3.1.1 hq).1, n1, mD1, true_and, ne_eq, not_false_eq_true, forall_const]
  refine ⟨r3 (by omega), r3 (by omega), by omega, ?_⟩
  refine s_put S3 ku (a := pput (pC p 1) 1 1) (by rw [upq_n (by omega)]; exact upq_e _ _ _) 0 (by omega) (dmod (by omega)) fun N4 S4 F4 => ?_
  simp only [bk83_0, bk83_9, bk83_17, bk83_24, bk83_25, bk83_72, bk83_79, bk83_104, bk83_107, bk83_114, bk83_139, U_aload_n, U_invokevirtual0, U_iload_n, U_iconst, U_icmp_lt, U_getfield, U_icmp_ge, U_sipush, U_return, U_istore_n, U_iald, U_idiv, U_istore, U_irem, U_iload, U_invokevirtual2, U_iinc, U_goto, UN_cc, UN_cn, UN_nc, UN_nn, UJ, lget, lset, lset2, entL, wsm, wcat, Option.toList_some, Option.toList_none, List.cons_append, List.nil_append, List.mem_cons, List.not_mem_nil, Prod.mk.injEq, or_false, false_or, or_true, true_or, and_true, true_and, and_false, false_and, and_self, ne_eq, not_false_eq_true, not_true_eq_false, forall_const, true_implies, false_implies, Nat.add_zero, Nat.zero_add, Nat.le_refl, Nat.zero_le, List.set_cons_zero, List.set_cons_succ, List.set_nil, ↓reduceIte, Nat.reduceAdd, Nat.reduceSub, Nat.reduceEqDiff, Nat.reduceLeDiff, Int.reduceEq, Int.reduceNe, Int.reduceNeg, reduceCtorEq]
  refine ⟨r3 (by omega), r3 (by omega), by omega, rr (by omega), fun e => absurd e (by omega), fun _ => ?_⟩
  refine hQ N4 ?_ (((F1.tr F2).tr F3).tr F4)
  have nn : q + 1 ≠ q + 3 := by omega
  refine S4.w (fun r a _ e => ?_)
  revert e
  unfold upq
  by_cases e1 : r = q + 3
  · simp [e1]
  · by_cases e2 : r = q + 1
    · simp [e2]
    · simp [e1, e2]
set_option maxHeartbeats 16000000 in
theorem s_fetch2 {p : Int} {N : Mem} {ρ : Int → Option (Pz p)} {Q : Post} {L : List Int} {q D : Int} {i : Nat} (h : ST p N ρ) (hq : KD q = 16) (hA : TkA N L) (hi : 1 ≤ i ∧ i < 450) (ht : L[i]? = some (2 * (p * p * p * p) + D)) (hD : 0 ≤ D ∧ D < p * p * p * p)
    (hQ : ∀ N', ST p N' (upq (upq ρ (q + 1) (pput (pput (pput (pC p 1) 2 1) 0 (D / p / p % p)) 1 (D / p / p / p % p))) (q + 3) (pput (pput (pC p 0) 0 (D % p)) 1 (D / p % p))) → FR N N' → Q none NN N') : CL 83 [(2, 88), (0, (i : Int)), (2, q), (9, 0), (9, 0), (9, 0), (9, 0)] NN N Q := by
  have hp := h.1.2.1
  have hpp := hp.pos
  have h4 := p4_le hp
  obtain ⟨z1, z2, ku, kv, l, -⟩ := zpr h.1.1 hq
  have n1 : ¬ q + 1 = 0 := by omega
  have n3 : ¬ q + 3 = 0 := by omega
  have hil := (List.getElem?_eq_some_iff.mp ht).1
  have e3 := hA.1
  have et := hA.2 i _ hi.2 ht
  have td : (2 * (p * p * p * p) + D).tdiv (p * p * p * p) = 2 := by
    rw [Int.tdiv_eq_ediv_of_nonneg (by omega)]
    have := Int.add_mul_ediv_left D 2 (show p * p * p * p ≠ 0 by omega)
    rw [Int.mul_comm _ 2, Int.add_comm D] at this
    rw [this, Int.ediv_eq_zero_of_lt hD.1 hD.2]; rfl
  have tm : (2 * (p * p * p * p) + D).tmod (p * p * p * p) = D := by
    rw [tm_nn (by omega)]
    have := Int.add_mul_emod_self_left D (p * p * p * p) 2
    rw [Int.mul_comm _ 2, Int.add_comm D] at this
    rw [this, Int.emod_eq_of_lt hD.1 hD.2]
  obtain ⟨D1, hD1⟩ : ∃ D1, D / p = D1 := ⟨_, rfl⟩
  obtain ⟨D2, hD2⟩ : ∃ D2, D1 / p = D2 := ⟨_, rfl⟩
  obtain ⟨D3, hD3⟩ : ∃ D3, D2 / p = D3 := ⟨_, rfl⟩
  rw [hD1, hD2, hD3] at hQ
  have b1 : 0 ≤ D1 ∧ D1 ≤ D := by rw [← hD1]; exact ⟨Int.ediv_nonneg hD.1 (by omega), Int.ediv_le_self _ hD.1⟩
  have b2 : 0 ≤ D2 ∧ D2 ≤ D1 := by rw [← hD2]; exact ⟨Int.ediv_nonneg b1.1 (by omega), Int.ediv_le_self _ b1.1⟩
  have b3 : 0 ≤ D3 ∧ D3 ≤ D2 := by rw [← hD3]; exact ⟨Int.ediv_nonneg b2.1 (by omega), Int.ediv_le_self _ b2.1⟩
  have t0 : D.tdiv p = D1 := by rw [Int.tdiv_eq_ediv_of_nonneg hD.1, hD1]
  have t1 : D1.tdiv p = D2 := by rw [Int.tdiv_eq_ediv_of_nonneg b1.1, hD2]
  have t2 : D2.tdiv p = D3 := by rw [Int.tdiv_eq_ediv_of_nonneg b2.1, hD3]
  have m0 : D.tmod p = D % p := tm_nn hD.1
  have m1 : D1.tmod p = D1 % p := tm_nn b1.1
  have m2 : D2.tmod p = D2 % p := tm_nn b2.1
  have m3 : D3.tmod p = D3 % p := tm_nn b3.1
  refine WP.run [] [] 200 ?_
  simp only [bk83_0, bk83_9, bk83_17, bk83_24, bk83_25, bk83_72, bk83_79, bk83_104, bk83_107, bk83_114, bk83_139, U_aload_n, U_invokevirtual0, U_iload_n, U_iconst, U_icmp_lt, U_getfield, U_icmp_ge, U_sipush, U_return, U_istore_n, U_iald, U_idiv, U_istore, U_irem, U_iload, U_invokevirtual2, U_iinc, U_goto, UN_cc, UN_cn, UN_nc, UN_nn, UJ, lget, lset, lset2, entL, wsm, wcat, Option.toList_some, Option.toList_none, List.cons_append, List.nil_append, List.mem_cons, List.not_mem_nil, Prod.mk.injEq, or_false, false_or, or_true, true_or, and_true, true_and, and_false, false_and, and_self, ne_eq, not_false_eq_true, not_true_eq_false, forall_const, true_implies, false_implies, Nat.add_zero, Nat.zero_add, Nat.le_refl, Nat.zero_le, List.set_cons_zero, List.set_cons_succ, List.set_nil, ↓reduceIte, Nat.reduceAdd, Nat.reduceSub, Nat.reduceEqDiff, Nat.reduceLeDiff, Int.reduceEq, Int.reduceNe, Int.reduceNeg, reduceCtorEq, kd_of hq (by decide)]
  refine s_makeNought h hq fun N1 S1 F1 => ?_
  have a3 : N1 88 3 = min (L.length : Int) 450 := by rw [F1 88 (by decide)]; exact e3
  have at1 : N1 89 (i : Int) = 2 * (p * p * p * p) + D := by rw [F1 89 (by decide)]; exact et
  simp only [bk83_0, bk83_9, bk83_17, bk83_24, bk83_25, bk83_72, bk83_79, bk83_104, bk83_107, bk83_114, bk83_139, U_aload_n, U_invokevirtual0, U_iload_n, U_iconst, U_icmp_lt, U_getfield, U_icmp_ge, U_sipush, U_return, U_istore_n, U_iald, U_idiv, U_istore, U_irem, U_iload, U_invokevirtual2, U_iinc, U_goto, UN_cc, UN_cn, UN_nc, UN_nn, UJ, lget, lset, lset2, entL, wsm, wcat, Option.toList_some, Option.toList_none, List.cons_append, List.nil_append, List.mem_cons, List.not_mem_nil, Prod.mk.injEq, or_false, false_or, or_true, true_or, and_true, true_and, and_false, false_and, and_self, ne_eq, not_false_eq_true, not_true_eq_false, forall_const, true_implies, false_implies, Nat.add_zero, Nat.zero_add, Nat.le_refl, Nat.zero_le, List.set_cons_zero, List.set_cons_succ, List.set_nil, ↓reduceIte, Nat.reduceAdd, Nat.reduceSub, Nat.reduceEqDiff, Nat.reduceLeDiff, Int.reduceEq, Int.reduceNe, Int.reduceNeg, reduceCtorEq, kd88, kd2, kd89, ln89, z88_0 S1.1.1, z88_2 S1.1.1, S1.1.2.2.1, a3, at1]
  refine ⟨rr (by omega), fun e => absurd e (by omega), fun _ => ⟨rr (by omega), fun _ => ⟨rr (by omega), fun _ => ⟨by omega, by omega, c_degreeWeight S1.1 ?_⟩, fun e => absurd (by omega) e⟩, fun e => absurd (by omega) e⟩⟩
  simp only [bk83_0, bk83_9, bk83_17, bk83_24, bk83_25, bk83_72, bk83_79, bk83_104, bk83_107, bk83_114, bk83_139, U_aload_n, U_invokevirtual0, U_iload_n, U_iconst, U_icmp_lt, U_getfield, U_icmp_ge, U_sipush, U_return, U_istore_n, U_iald, U_idiv, U_istore, U_irem, U_iload, U_invokevirtual2, U_iinc, U_goto, UN_cc, UN_cn, UN_nc, UN_nn, UJ, lget, lset, lset2, entL, wsm, wcat, Option.toList_some, Option.toList_none, List.cons_append, List.nil_append, List.mem_cons, List.not_mem_nil, Prod.mk.injEq, or_false, false_or, or_true, true_or, and_true, true_and, and_false, false_and, and_self, ne_eq, not_false_eq_true, not_true_eq_false, forall_const, true_implies, false_implies, Nat.add_zero, Nat.zero_add, Nat.le_refl, Nat.zero_le, List.set_cons_zero, List.set_cons_succ, List.set_nil, ↓reduceIte, Nat.reduceAdd, Nat.reduceSub, Nat.reduceEqDiff, Nat.reduceLeDiff, Int.reduceEq, Int.reduceNe, Int.reduceNeg, reduceCtorEq, kd88, kd2, kd89, ln89, z88_0 S1.1.1, z88_2 S1.1.1, S1.1.2.2.1, a3, at1, td]
  refine ⟨r3 (by omega), r3 (by omega), by omega, by omega, by omega, c_degreeWeight S1.1 ?_⟩
  simp only [bk83_0, bk83_9, bk83_17, bk83_24, bk83_25, bk83_72, bk83_79, bk83_104, bk83_107, bk83_114, bk83_139, U_aload_n, U_invokevirtual0, U_iload_n, U_iconst, U_icmp_lt, U_getfield, U_icmp_ge, U_sipush, U_return, U_istore_n, U_iald, U_idiv, U_istore, U_irem, U_iload, U_invokevirtual2, U_iinc, U_goto, UN_cc, UN_cn, UN_nc, UN_nn, UJ, lget, lset, lset2, entL, wsm, wcat, Option.toList_some, Option.toList_none, List.cons_append, List.nil_append, List.mem_cons, List.not_mem_nil, Prod.mk.injEq, or_false, false_or, or_true, true_or, and_true, true_and, and_false, false_and, and_self, ne_eq, not_false_eq_true, not_true_eq_false, forall_const, true_implies, false_implies, Nat.add_zero, Nat.zero_add, Nat.le_refl, Nat.zero_le, List.set_cons_zero, List.set_cons_succ, List.set_nil, ↓reduceIte, Nat.reduceAdd, Nat.reduceSub, Nat.reduceEqDiff, Nat.reduceLeDiff, Int.reduceEq, Int.reduceNe, Int.reduceNeg, reduceCtorEq, tm, kd_of hq (by decide), kd_of ku (by decide), (zpr S1.1.1 hq).1, n1]
  refine ⟨r3 (by omega), r3 (by omega), by omega, ?_⟩
  refine s_put S1 ku (a := pC p 1) (by rw [upq_n (by omega)]; exact upq_e _ _ _) 2 (by omega) (Int.emod_eq_of_lt (by omega) (by omega)) fun N2 S2 F2 => ?_
  simp only [bk83_0, bk83_9, bk83_17, bk83_24, bk83_25, bk83_72, bk83_79, bk83_104, bk83_107, bk83_114, bk83_139, U_aload_n, U_invokevirtual0, U_iload_n, U_iconst, U_icmp_lt, U_getfield, U_icmp_ge, U_sipush, U_return, U_istore_n, U_iald, U_idiv, U_istore, U_irem, U_iload, U_invokevirtual2, U_iinc, U_goto, UN_cc, UN_cn, UN_nc, UN_nn, UJ, lget, lset, lset2, entL, wsm, wcat, Option.toList_some, Option.toList_none, List.cons_append, List.nil_append, List.mem_cons, List.not_mem_nil, Prod.mk.injEq, or_false, false_or, or_true, true_or, and_true, true_and, and_false, false_and, and_self, ne_eq, not_false_eq_true, not_true_eq_false, forall_const, true_implies, false_implies, Nat.add_zero, Nat.zero_add, Nat.le_refl, Nat.zero_le, List.set_cons_zero, List.set_cons_succ, List.set_nil, ↓reduceIte, Nat.reduceAdd, Nat.reduceSub, Nat.reduceEqDiff, Nat.reduceLeDiff, Int.reduceEq, Int.reduceNe, Int.reduceNeg, reduceCtorEq, kd_of hq (by decide), kd_of kv (by decide), (zpr S2.1.1 hq).2.1, n3, m0]
  refine ⟨rr (by omega), fun _ => ⟨r3 (by omega), r3 (by omega), by omega, ?_⟩, fun e => absurd (by omega) e⟩
  refine s_put S2 kv (a := pC p 0) (by rw [upq_n (by omega)]; exact upq_e _ _ _) 0 (by omega) (dmod (by omega)) fun N3 S3 F3 => ?_
  simp only [bk83_0, bk83_9, bk83_17, bk83_24, bk83_25, bk83_72, bk83_79, bk83_104, bk83_107, bk83_114, bk83_139, U_aload_n, U_invokevirtual0, U_iload_n, U_iconst, U_icmp_lt, U_getfield, U_icmp_ge, U_sipush, U_return, U_istore_n, U_iald, U_idiv, U_istore, U_irem, U_iload, U_invokevirtual2, U_iinc, U_goto, UN_cc, UN_cn, UN_nc, UN_nn, UJ, lget, lset, lset2, entL, wsm, wcat, Option.toList_some, Option.toList_none, List.cons_append, List.nil_append, List.mem_cons, List.not_mem_nil, Prod.mk.injEq, or_false, false_or, or_true, true_or, and_true, true_and, and_false, false_and, and_self, ne_eq, not_false_eq_true, not_true_eq_false, forall_const, true_implies, false_implies, Nat.add_zero, Nat.zero_add, Nat.le_refl, Nat.zero_le, List.set_cons_zero, List.set_cons_succ, List.set_nil, ↓reduceIte, Nat.reduceAdd, Nat.reduceSub, Nat.reduceEqDiff, Nat.reduceLeDiff, Int.reduceEq, Int.reduceNe, Int.reduceNeg, reduceCtorEq, t0, m1, kd_of hq (by decide), kd_of kv (by decide), (zpr S3.1.1 hq).2.1, n3]
  refine ⟨r3 (by omega), r3 (by omega), by omega, rr (by omega), fun _ => ⟨r3 (by omega), r3 (by omega), by omega, ?_⟩, fun e => absurd (by omega) e⟩
  refine s_put S3 kv (upq_e _ _ _) 1 (by omega) (dmod (by omega)) fun N4 S4 F4 => ?_
  simp only [bk83_0, bk83_9, bk83_17, bk83_24, bk83_25, bk83_72, bk83_79, bk83_104, bk83_107, bk83_114, bk83_139, U_aload_n, U_invokevirtual0, U_iload_n, U_iconst, U_icmp_lt, U_getfield, U_icmp_ge, U_sipush, U_return, U_istore_n, U_iald, U_idiv, U_istore, U_irem, U_iload, U_invokevirtual2, U_iinc, U_goto, UN_cc, UN_cn, UN_nc, UN_nn, UJ, lget, lset, lset2, entL, wsm, wcat, Option.toList_some, Option.toList_none, List.cons_append, List.nil_append, List.mem_cons, List.not_mem_nil, Prod.mk.injEq, or_false, false_or, or_true, true_or, and_true, true_and, and_false, false_and, and_self, ne_eq, not_false_eq_true, not_true_eq_false, forall_const, true_implies, false_implies, Nat.add_zero, Nat.zero_add, Nat.le_refl, Nat.zero_le, List.set_cons_zero, List.set_cons_succ, List.set_nil, ↓reduceIte, Nat.reduceAdd, Nat.reduceSub, Nat.reduceEqDiff, Nat.reduceLeDiff, Int.reduceEq, Int.reduceNe, Int.reduceNeg, reduceCtorEq, t1, m2, kd_of hq (by decide), kd_of ku (by decide), (zpr S4.1.1 hq).1, n1]
  refine ⟨r3 (by omega), r3 (by omega), by omega, rr (by omega), fun e => absurd e (by omega), fun _ => ⟨rr (by omega), fun _ => ⟨r3 (by omega), r3 (by omega), by omega, ?_⟩, fun e => absurd (by omega) e⟩⟩
  refine s_put S4 ku (a := pput (pC p 1) 2 1) (by rw [upq_n (by omega), upq_n (by omega)]; exact upq_e _ _ _) 0 (by omega) (dmod (by omega)) fun N5 S5 F5 => ?_
  simp only [bk83_0, bk83_9, bk83_17, bk83_24, bk83_25, bk83_72, bk83_79, bk83_104, bk83_107, bk83_114, bk83_139, U_aload_n, U_invokevirtual0, U_iload_n, U_iconst, U_icmp_lt, U_getfield, U_icmp_ge, U_sipush, U_return, U_istore_n, U_iald, U_idiv, U_istore, U_irem, U_iload, U_invokevirtual2, U_iinc, U_goto, UN_cc, UN_cn, UN_nc, UN_nn, UJ, lget, lset, lset2, entL, wsm, wcat, Option.toList_some, Option.toList_none, List.cons_append, List.nil_append, List.mem_cons, List.not_mem_nil, Prod.mk.injEq, or_false, false_or, or_true, true_or, and_true, true_and, and_false, false_and, and_self, ne_eq, not_false_eq_true, not_true_eq_false, forall_const, true_implies, false_implies, Nat.add_zero, Nat.zero_add, Nat.le_refl, Nat.zero_le, List.set_cons_zero, List.set_cons_succ, List.set_nil, ↓reduceIte, Nat.reduceAdd, Nat.reduceSub, Nat.reduceEqDiff, Nat.reduceLeDiff, Int.reduceEq, Int.reduceNe, Int.reduceNeg, reduceCtorEq, t2, m3, kd_of hq (by decide), kd_of ku (by decide), (zpr S5.1.1 hq).1, n1]
  refine ⟨r3 (by omega), r3 (by omega), by omega, rr (by omega), fun _ => ⟨r3 (by omega), r3 (by omega), by omega, ?_⟩, fun e => absurd (by omega) e⟩
  refine s_put S5 ku (upq_e _ _ _) 1 (by omega) (dmod (by omega)) fun N6 S6 F6 => ?_
  simp only [bk83_0, bk83_9, bk83_17, bk83_24, bk83_25, bk83_72, bk83_79, bk83_104, bk83_107, bk83_114, bk83_139, U_aload_n, U_invokevirtual0, U_iload_n, U_iconst, U_icmp_lt, U_getfield, U_icmp_ge, U_sipush, U_return, U_istore_n, U_iald, U_idiv, U_istore, U_irem, U_iload, U_invokevirtual2, U_iinc, U_goto, UN_cc, UN_cn, UN_nc, UN_nn, UJ, lget, lset, lset2, entL, wsm, wcat, Option.toList_some, Option.toList_none, List.cons_append, List.nil_append, List.mem_cons, List.not_mem_nil, Prod.mk.injEq, or_false, false_or, or_true, true_or, and_true, true_and, and_false, false_and, and_self, ne_eq, not_false_eq_true, not_true_eq_false, forall_const, true_implies, false_implies, Nat.add_zero, Nat.zero_add, Nat.le_refl, Nat.zero_le, List.set_cons_zero, List.set_cons_succ, List.set_nil, ↓reduceIte, Nat.reduceAdd, Nat.reduceSub, Nat.reduceEqDiff, Nat.reduceLeDiff, Int.reduceEq, Int.reduceNe, Int.reduceNeg, reduceCtorEq]
  refine ⟨r3 (by omega), r3 (by omega), by omega, rr (by omega), fun e => absurd e (by omega), fun _ => ?_⟩
  refine hQ N6 ?_ (((((F1.tr F2).tr F3).tr F4).tr F5).tr F6)
  have nn : q + 1 ≠ q + 3 := by omega
  refine S6.w (fun r a _ e => ?_)
  revert e
  unfold upq
  by_cases e1 : r = q + 3
  · simp [e1]
  · by_cases e2 : r = q + 1
    · simp [e2]
    · simp [e1, e2]
