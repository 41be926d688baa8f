/-! ROWS IN CELLS: clear, settle, put, get, copy .. -/
def fil (M : Mem) (a n v : Int) : Mem := fun b j => if b = a ∧ 0 ≤ j ∧ j < n then v else M b j
theorem fil_0 (M : Mem) (a v : Int) : fil M a 0 v = M := by
  funext b j; unfold fil; rw [if_neg (by omega)]
theorem fil_s (M : Mem) (a v : Int) {i : Int} (h : 0 ≤ i) : ust (fil M a i v) a i v = fil M a (i + 1) v := by
  funext b j
  unfold ust fil
  by_cases e : b = a
  · by_cases e2 : j = i
    · rw [if_pos ⟨e, e2⟩, if_pos ⟨e, by omega, by omega⟩]
    · rw [if_neg (fun q => e2 q.2)]
      by_cases e3 : 0 ≤ j ∧ j < i
      · rw [if_pos ⟨e, e3⟩, if_pos ⟨e, by omega, by omega⟩]
      · rw [if_neg (fun q => e3 q.2), if_neg (fun q => e3 ⟨q.2.1, by omega⟩)]
  · rw [if_neg (fun q => e q.1), if_neg (fun q => e q.1), if_neg (fun q => e q.1)]
theorem fil_ne {M : Mem} {a n v b : Int} (h : b ≠ a) : fil M a n v b = M b := by
  funext j; unfold fil; rw [if_neg (fun q => h q.1)]
theorem fil_in {M : Mem} {a n v j : Int} (h0 : 0 ≤ j) (h1 : j < n) : fil M a n v a j = v := by unfold fil; rw [if_pos ⟨rfl, h0, h1⟩]
theorem kd_ne0 {a z : Int} (h : kd NN a = z) (hz : z ≠ 0) : a ≠ 0 := by have := (kd_spec h hz).1; omega
set_option maxHeartbeats 4000000 in
theorem l_fill {N : Mem} {Q : Post} {a v : Int} (ha : kd NN a = 1) (hQ : Q none NN (fil N a (LN a) v)) : ∀ (n : Nat) (i : Int), i + n = LN a → 0 ≤ i → WP 1 (0, 0) 5 [(2, a), (0, v), (0, i), (0, LN a)] [] NN (fil N a i v) Q := by
  have hln := LN_le a
  intro n
  induction n with
  | zero =>
    intro i h1 h2
    refine WP.run [(1, 5)] [] 30 ?_
    simp only [bk1_0, bk1_5, bk1_10, bk1_20, U_iconst, U_istore_n, U_aload_n, U_alen, U_iload_n, U_icmp_ge, U_iast, U_iinc, U_goto, U_return, UN_cc, UN_cn, UN_nc, UN_nn, UJ, lget, lset, lset2, entL, wsm, wcat, Option.toList_some, Option.toList_none, List.cons_append, List.nil_append, List.mem_cons, List.not_mem_nil, Prod.mk.injEq, or_false, false_or, or_true, true_or, and_true, true_and, and_false, false_and, and_self, ne_eq, not_false_eq_true, not_true_eq_false, forall_const, true_implies, false_implies, Nat.add_zero, Nat.zero_add, Nat.le_refl, Nat.zero_le, ↓reduceIte, Nat.reduceAdd, Nat.reduceSub, Nat.reduceEqDiff, Nat.reduceLeDiff, Int.reduceEq, Int.reduceNe, Int.reduceNeg, reduceCtorEq, ha]
    refine ⟨rr (by omega), fun h => absurd h (by omega), fun _ => ?_⟩
    have e : i = LN a := by omega
    rw [e]; exact hQ
  | succ n ih =>
    intro i h1 h2
    refine WP.run [(1, 5)] [] 30 ?_
    simp only [bk1_0, bk1_5, bk1_10, bk1_20, U_iconst, U_istore_n, U_aload_n, U_alen, U_iload_n, U_icmp_ge, U_iast, U_iinc, U_goto, U_return, UN_cc, UN_cn, UN_nc, UN_nn, UJ, lget, lset, lset2, entL, wsm, wcat, Option.toList_some, Option.toList_none, List.cons_append, List.nil_append, List.mem_cons, List.not_mem_nil, Prod.mk.injEq, or_false, false_or, or_true, true_or, and_true, true_and, and_false, false_and, and_self, ne_eq, not_false_eq_true, not_true_eq_false, forall_const, true_implies, false_implies, Nat.add_zero, Nat.zero_add, Nat.le_refl, Nat.zero_le, ↓reduceIte, Nat.reduceAdd, Nat.reduceSub, Nat.reduceEqDiff, Nat.reduceLeDiff, Int.reduceEq, Int.reduceNe, Int.reduceNeg, reduceCtorEq, ha]
    refine ⟨rr (by omega), fun h => ⟨h2, h, ?_⟩, fun h => absurd h (by omega)⟩
    rw [fil_s N a v h2]
    exact ih (i + 1) (by omega) (by omega)
set_option maxHeartbeats 4000000 in
theorem c_fill {N : Mem} {Q : Post} {a v : Int} (ha : kd NN a = 1) (hQ : Q none NN (fil N a (LN a) v)) : CL 1 [(2, a), (0, v), (9, 0), (9, 0)] NN N Q := by
  have hln := LN_le a
  refine WP.run [(1, 5)] [] 30 ?_
  simp only [bk1_0, bk1_5, bk1_10, bk1_20, U_iconst, U_istore_n, U_aload_n, U_alen, U_iload_n, U_icmp_ge, U_iast, U_iinc, U_goto, U_return, UN_cc, UN_cn, UN_nc, UN_nn, UJ, lget, lset, lset2, entL, wsm, wcat, Option.toList_some, Option.toList_none, List.cons_append, List.nil_append, List.mem_cons, List.not_mem_nil, Prod.mk.injEq, or_false, false_or, or_true, true_or, and_true, true_and, and_false, false_and, and_self, ne_eq, not_false_eq_true, not_true_eq_false, forall_const, true_implies, false_implies, Nat.add_zero, Nat.zero_add, Nat.le_refl, Nat.zero_le, ↓reduceIte, Nat.reduceAdd, Nat.reduceSub, Nat.reduceEqDiff, Nat.reduceLeDiff, Int.reduceEq, Int.reduceNe, Int.reduceNeg, reduceCtorEq, ha]
  have := l_fill (N := N) (v := v) ha hQ (LN a).toNat 0 (by omega) (by omega)
  rw [fil_0] at this
  exact this
/-- a row object and its cells -/
def IsRow (r c : Int) : Prop := kd NN r = 18 ∧ kd NN c = 1 ∧ LN c = 8
def RS (N : Mem) (r c : Int) : Prop := IsRow r c ∧ N r 0 = c
def RP {p : Int} (N : Mem) (r c : Int) (a : Pz p) : Prop := RS N r c ∧ (∀ j : Nat, j < 8 → N c (j : Int) = a.1 j) ∧ dg a ≤ 8 ∧ N r 1 = (dg a : Int) - 1
theorem IsRow.ne {r c : Int} (h : IsRow r c) : r ≠ c := fun e => by
  have h1 := kdN h.1 (by decide); have h2 := kdN h.2.1 (by decide)
  rw [e] at h1; omega
theorem IsRow.c0 {r c : Int} (h : IsRow r c) : c ≠ 0 := kd_ne0 h.2.1 (by decide)
theorem fz_rw1 : (List.range 218).all (fun a => !decide (KD (a : Int) = 18) || ((fzL.lookup (a : Int)).getD []).all (fun q => q.1 == 0)) = true := by decide +kernel
theorem lookup_in {i v : Int} : ∀ L : List (Int × Int), L.lookup i = some v → (i, v) ∈ L
  | [], h => by cases h
  | (q1, q2) :: L, hl => by
    rw [List.lookup_cons] at hl
    by_cases e : i = q1
    · subst e; simp at hl; subst hl; exact List.mem_cons_self
    · have : (i == q1) = false := by simpa using e
      rw [this] at hl
      exact List.mem_cons_of_mem _ (lookup_in L hl)
theorem fz_r0 {r i v : Int} (h : KD r = 18) (e : fz r i = some v) : i = 0 := by
  obtain ⟨n, hn, rfl⟩ := KD_lt (a := r) (by omega)
  have := List.all_eq_true.mp fz_rw1 n (List.mem_range.mpr hn)
  have h2 : ((fzL.lookup (n : Int)).getD []).all (fun q => q.1 == 0) = true := by simpa [h] using this
  have := List.all_eq_true.mp h2 _ (lookup_in _ e)
  simpa using this
theorem Fz.row {N N' : Mem} {r c : Int} (h : Fz N) (hr : IsRow r c) (hF : Fr [r, c] N N') (h0 : N' r 0 = N r 0) : Fz N' := h.of fun a i v e => by
  by_cases e1 : a = r
  · subst e1; rw [fz_r0 (kdN hr.1 (by decide)) e, h0]
  · by_cases e2 : a = c
    · subst e2; rw [fz_arr (Or.inl (kdN hr.2.1 (by decide)))] at e; cases e
    · rw [hF a (by simp [e1, e2])]
theorem RP.far {p : Int} {N : Mem} {r c : Int} {a : Pz p} (h : RP N r c a) {k : Nat} (hk : 8 ≤ k) : a.1 k = 0 := dg_far a (by have := h.2.2.1; omega)
theorem RP.fr {p : Int} {N N' : Mem} {r c : Int} {a : Pz p} {K : List Int} (h : RP N r c a) (hF : Fr K N N') (h1 : r ∉ K) (h2 : c ∉ K) : RP N' r c a :=
  ⟨⟨h.1.1, by rw [hF r h1]; exact h.1.2⟩, fun j hj => by rw [hF c h2]; exact h.2.1 j hj, h.2.2.1, by rw [hF r h1]; exact h.2.2.2⟩
theorem RS.fr {N N' : Mem} {r c : Int} {K : List Int} (h : RS N r c) (hF : Fr K N N') (h1 : r ∉ K) : RS N' r c := ⟨h.1, by rw [hF r h1]; exact h.2⟩
theorem Pr.r32 {p : Int} (hp : Pr p) (a : Pz p) (k : Nat) : 0 ≤ a.1 k ∧ a.1 k < 13 := by
  have h1 := hp.lt (a.2.1 k); have := hp.pos; omega
theorem RP.r32 {p : Int} (hp : Pr p) {N : Mem} {r c : Int} {a : Pz p} (h : RP N r c a) (j : Int) (h0 : 0 ≤ j) (h1 : j < 8) : 0 ≤ N c j ∧ N c j < 13 := by
  have e := h.2.1 j.toNat (by omega)
  rw [Int.toNat_of_nonneg h0] at e
  rw [e]; exact hp.r32 a _
theorem dg_int {p : Int} {a : Pz p} {d : Int} (h : -1 ≤ d) (h1 : ∀ k : Nat, d < k → a.1 k = 0) (h2 : 0 ≤ d → a.1 d.toNat ≠ 0) : (dg a : Int) - 1 = d := by
  by_cases h0 : 0 ≤ d
  · rw [dg_eq (n := d.toNat) (fun k hk => h1 k (by omega)) (h2 h0)]; omega
  · have e : dg a = 0 := Nat.le_zero.mp (dg_le fun k _ => h1 k (by omega))
    rw [e]; omega
set_option maxHeartbeats 4000000 in
theorem c_clear {p : Int} {N : Mem} {Q : Post} {r c : Int} (hr : RS N r c) (hQ : ∀ N', Fr [r, c] N N' → RP N' r c (pC p 0) → Q none NN N') : CL 2 [(2, r)] NN N Q := by
  refine WP.run [] [] 30 ?_
  simp only [bk2_0, U_aload_n, U_getfield, U_iconst, U_invokestatic2, U_putfield, U_return, UN_cc, UN_cn, UN_nc, UN_nn, UJ, lget, lset, lset2, entL, wsm, wcat, Option.toList_some, Option.toList_none, List.cons_append, List.nil_append, List.mem_cons, List.not_mem_nil, Prod.mk.injEq, or_false, false_or, or_true, true_or, and_true, true_and, and_false, false_and, and_self, ne_eq, not_false_eq_true, not_true_eq_false, forall_const, true_implies, false_implies, Nat.add_zero, Nat.zero_add, Nat.le_refl, Nat.zero_le, ↓reduceIte, Nat.reduceAdd, Nat.reduceSub, Nat.reduceEqDiff, Nat.reduceLeDiff, Int.reduceEq, Int.reduceNe, Int.reduceNeg, reduceCtorEq, hr.1.1, hr.2, hr.1.c0]
  refine ?_
  refine c_fill hr.1.2.1 ?_
  simp only [bk2_0, U_aload_n, U_getfield, U_iconst, U_invokestatic2, U_putfield, U_return, UN_cc, UN_cn, UN_nc, UN_nn, UJ, lget, lset, lset2, entL, wsm, wcat, Option.toList_some, Option.toList_none, List.cons_append, List.nil_append, List.mem_cons, List.not_mem_nil, Prod.mk.injEq, or_false, false_or, or_true, true_or, and_true, true_and, and_false, false_and, and_self, ne_eq, not_false_eq_true, not_true_eq_false, forall_const, true_implies, false_implies, Nat.add_zero, Nat.zero_add, Nat.le_refl, Nat.zero_le, ↓reduceIte, Nat.reduceAdd, Nat.reduceSub, Nat.reduceEqDiff, Nat.reduceLeDiff, Int.reduceEq, Int.reduceNe, Int.reduceNeg, reduceCtorEq, hr.1.1, hr.2, hr.1.c0]
  refine hQ _ (fun b hb => ?_) ⟨⟨hr.1, ?_⟩, fun j hj => ?_, ?_, ?_⟩
  · rw [ust_ne (by intro e; exact hb (by simp [e])), fil_ne (by intro e; exact hb (by simp [e]))]
  · rw [ust_r, if_neg (by omega), fil_ne hr.1.ne]; exact hr.2
  · have h2 := hr.1.2.2
    rw [ust_r, if_neg (by intro q; exact hr.1.ne q.1.symm), fil_in (by omega) (by omega), pC_c]
    symm; split <;> exact Int.zero_emod _
  · rw [dg_zero.mpr rfl]; omega
  · rw [dg_zero.mpr rfl, ust_r, if_pos ⟨rfl, rfl⟩]; rfl
set_option maxHeartbeats 4000000 in
theorem l_settle {N : Mem} {Q : Post} {r c top : Int} (hr : RS N r c) (h32 : ∀ j, 0 ≤ j → j < 8 → R32 (N c j)) : ∀ (n : Nat) (i : Int), i + 1 = n → i < 8 → (∀ d, -1 ≤ d → d ≤ i → (∀ j, d < j → j ≤ i → N c j = 0) → (0 ≤ d → N c d ≠ 0) → Q none NN (ust N r 1 d)) → WP 3 (0, 0) 13 [(2, r), (0, top), (0, i)] [] NN N Q := by
  intro n
  induction n with
  | zero =>
    intro i h1 h2 hQ
    refine WP.run [(3, 13)] [] 30 ?_
    simp only [bk3_0, bk3_6, bk3_10, bk3_12, bk3_13, bk3_17, bk3_26, bk3_32, U_iload_n, U_bipush, U_icmp_ge, U_goto, U_istore_n, U_if_lt, U_aload_n, U_getfield, U_iald, U_if_ne, U_iinc, U_putfield, U_return, UN_cc, UN_cn, UN_nc, UN_nn, UJ, lget, lset, lset2, entL, wsm, wcat, Option.toList_some, Option.toList_none, List.cons_append, List.nil_append, List.mem_cons, List.not_mem_nil, Prod.mk.injEq, or_false, false_or, or_true, true_or, and_true, true_and, and_false, false_and, and_self, ne_eq, not_false_eq_true, not_true_eq_false, forall_const, true_implies, false_implies, Nat.add_zero, Nat.zero_add, Nat.le_refl, Nat.zero_le, ↓reduceIte, Nat.reduceAdd, Nat.reduceSub, Nat.reduceEqDiff, Nat.reduceLeDiff, Int.reduceEq, Int.reduceNe, Int.reduceNeg, reduceCtorEq, hr.1.1, hr.1.2.1, hr.1.2.2, hr.2, hr.1.c0]
    exact ⟨r3 (by omega), fun _ => hQ i (by omega) (Int.le_refl i) (fun j a b => by omega) (fun h => by omega), fun h => by omega⟩
  | succ n ih =>
    intro i h1 h2 hQ
    refine WP.run [(3, 13)] [] 30 ?_
    simp only [bk3_0, bk3_6, bk3_10, bk3_12, bk3_13, bk3_17, bk3_26, bk3_32, U_iload_n, U_bipush, U_icmp_ge, U_goto, U_istore_n, U_if_lt, U_aload_n, U_getfield, U_iald, U_if_ne, U_iinc, U_putfield, U_return, UN_cc, UN_cn, UN_nc, UN_nn, UJ, lget, lset, lset2, entL, wsm, wcat, Option.toList_some, Option.toList_none, List.cons_append, List.nil_append, List.mem_cons, List.not_mem_nil, Prod.mk.injEq, or_false, false_or, or_true, true_or, and_true, true_and, and_false, false_and, and_self, ne_eq, not_false_eq_true, not_true_eq_false, forall_const, true_implies, false_implies, Nat.add_zero, Nat.zero_add, Nat.le_refl, Nat.zero_le, ↓reduceIte, Nat.reduceAdd, Nat.reduceSub, Nat.reduceEqDiff, Nat.reduceLeDiff, Int.reduceEq, Int.reduceNe, Int.reduceNeg, reduceCtorEq, hr.1.1, hr.1.2.1, hr.1.2.2, hr.2, hr.1.c0]
    refine ⟨r3 (by omega), fun h => by omega, fun h => ⟨by omega, h2, h32 i (by omega) h2, fun h0 => ?_, fun h0 => ?_⟩⟩
    · refine ih (i + -1) (by omega) (by omega) (fun d d1 d2 d3 d4 => hQ d d1 (by omega) (fun j j1 j2 => ?_) d4)
      by_cases e : j = i
      · rw [e]; exact h0
      · exact d3 j j1 (by omega)
    · exact hQ i (by omega) (Int.le_refl i) (fun j a b => by omega) (fun _ => h0)
set_option maxHeartbeats 4000000 in
theorem c_settle {N : Mem} {Q : Post} {r c top : Int} (hr : RS N r c) (h32 : ∀ j, 0 ≤ j → j < 8 → R32 (N c j)) (ht : R32 top) (h1 : -1 ≤ top) (hQ : ∀ d, -1 ≤ d → d ≤ top → d < 8 → (∀ j, d < j → j ≤ top → j < 8 → N c j = 0) → (0 ≤ d → N c d ≠ 0) → Q none NN (ust N r 1 d)) : CL 3 [(2, r), (0, top), (9, 0)] NN N Q := by
  refine WP.run [(3, 13)] [] 30 ?_
  simp only [bk3_0, bk3_6, bk3_10, bk3_12, bk3_13, bk3_17, bk3_26, bk3_32, U_iload_n, U_bipush, U_icmp_ge, U_goto, U_istore_n, U_if_lt, U_aload_n, U_getfield, U_iald, U_if_ne, U_iinc, U_putfield, U_return, UN_cc, UN_cn, UN_nc, UN_nn, UJ, lget, lset, lset2, entL, wsm, wcat, Option.toList_some, Option.toList_none, List.cons_append, List.nil_append, List.mem_cons, List.not_mem_nil, Prod.mk.injEq, or_false, false_or, or_true, true_or, and_true, true_and, and_false, false_and, and_self, ne_eq, not_false_eq_true, not_true_eq_false, forall_const, true_implies, false_implies, Nat.add_zero, Nat.zero_add, Nat.le_refl, Nat.zero_le, ↓reduceIte, Nat.reduceAdd, Nat.reduceSub, Nat.reduceEqDiff, Nat.reduceLeDiff, Int.reduceEq, Int.reduceNe, Int.reduceNeg, reduceCtorEq, hr.1.1, hr.1.2.1, hr.1.2.2, hr.2, hr.1.c0]
  refine ⟨Or.inr ⟨ht, by unfold R32; omega⟩, fun h => ?_, fun h => ?_⟩
  · exact l_settle hr h32 (top + 1).toNat top (by omega) h (fun d d1 d2 d3 d4 => hQ d d1 d2 (by omega) (fun j j1 j2 _ => d3 j j1 j2) d4)
  · exact l_settle hr h32 8 7 (by omega) (by omega) (fun d d1 d2 d3 d4 => hQ d d1 (by omega) (by omega) (fun j j1 _ j3 => d3 j j1 (by omega)) d4)
set_option maxHeartbeats 4000000 in
theorem c_get {p : Int} {N : Mem} {Q : Post} {r c i : Int} {a : Pz p} (hr : RP N r c a) (hi : R32 i) (hQ : Q (some (0, if 0 ≤ i then a.1 i.toNat else 0)) NN N) : CL 17 [(2, r), (0, i)] NN N Q := by
  refine WP.run [] [] 30 ?_
  simp only [bk17_0, bk17_4, bk17_10, bk17_14, bk17_20, U_iload_n, U_if_lt, U_bipush, U_icmp_lt, U_iconst, U_goto, U_aload_n, U_getfield, U_iald, U_ireturn, UN_cc, UN_cn, UN_nc, UN_nn, UJ, lget, lset, lset2, entL, wsm, wcat, Option.toList_some, Option.toList_none, List.cons_append, List.nil_append, List.mem_cons, List.not_mem_nil, Prod.mk.injEq, or_false, false_or, or_true, true_or, and_true, true_and, and_false, false_and, and_self, ne_eq, not_false_eq_true, not_true_eq_false, forall_const, true_implies, false_implies, Nat.add_zero, Nat.zero_add, Nat.le_refl, Nat.zero_le, ↓reduceIte, Nat.reduceAdd, Nat.reduceSub, Nat.reduceEqDiff, Nat.reduceLeDiff, Int.reduceEq, Int.reduceNe, Int.reduceNeg, reduceCtorEq, hr.1.1.1, hr.1.1.2.1, hr.1.1.2.2, hr.1.2, hr.1.1.c0]
  refine ⟨hi, fun h => ?_, fun h => ⟨Or.inr ⟨hi, by unfold R32; omega⟩, fun h2 => ⟨by omega, h2, ?_⟩, fun h2 => ?_⟩⟩
  · rw [if_neg (by omega)] at hQ; exact hQ
  · rw [if_pos (by omega), ← hr.2.1 i.toNat (by omega), Int.toNat_of_nonneg (by omega)] at hQ; exact hQ
  · rw [if_pos (by omega), hr.far (by omega)] at hQ; exact hQ
/-- one coefficient anew -/
def pput {p : Int} (a : Pz p) (i : Nat) (v : Int) : Pz p := pmk p (fun k => if k = i then v else a.1 k) (a.2.2.elim fun n h => ⟨n + i + 1, fun k hk => by rw [if_neg (by omega)]; exact h k (by omega)⟩)
theorem pput_c {p : Int} (a : Pz p) (i : Nat) (v : Int) (k : Nat) : (pput a i v).1 k = (if k = i then v else a.1 k) % p := rfl
theorem pput_n {p : Int} {a : Pz p} {i : Nat} {v : Int} {k : Nat} (h : k ≠ i) : (pput a i v).1 k = a.1 k := by rw [pput_c, if_neg h]; exact a.2.1 k
set_option maxHeartbeats 4000000 in
theorem c_put {p : Int} (hp : Pr p) {N : Mem} {Q : Post} {r c : Int} {a : Pz p} (i : Nat) (hi : i < 8) {v : Int} (hv : v % p = v) (hr : RP N r c a) (hQ : ∀ N', Fr [r, c] N N' → RP N' r c (pput a i v) → Q none NN N') : CL 4 [(2, r), (0, (i : Int)), (0, v)] NN N Q := by
  have hvp := hp.lt hv
  have hpp := hp.pos
  refine WP.run [] [] 30 ?_
  simp only [bk4_0, bk4_4, bk4_10, bk4_11, U_iload_n, U_if_lt, U_bipush, U_icmp_lt, U_return, U_aload_n, U_getfield, U_iast, U_max, U_invokevirtual1, UN_cc, UN_cn, UN_nc, UN_nn, UJ, lget, lset, lset2, entL, wsm, wcat, Option.toList_some, Option.toList_none, List.cons_append, List.nil_append, List.mem_cons, List.not_mem_nil, Prod.mk.injEq, or_false, false_or, or_true, true_or, and_true, true_and, and_false, false_and, and_self, ne_eq, not_false_eq_true, not_true_eq_false, forall_const, true_implies, false_implies, Nat.add_zero, Nat.zero_add, Nat.le_refl, Nat.zero_le, ↓reduceIte, Nat.reduceAdd, Nat.reduceSub, Nat.reduceEqDiff, Nat.reduceLeDiff, Int.reduceEq, Int.reduceNe, Int.reduceNeg, reduceCtorEq, hr.1.1.1, hr.1.1.2.1, hr.1.1.2.2, hr.1.2, hr.1.1.c0]
  have hdg := hr.2.2.1
  have hd : ust N c (i : Int) v r 1 = (dg a : Int) - 1 := by rw [ust_r, if_neg (fun q => hr.1.1.ne q.1)]; exact hr.2.2.2
  rw [hd]
  refine ⟨r3 (by omega), fun h => by omega, fun _ => ⟨rr (by omega), fun _ => ⟨by omega, by omega, r3 (by omega), r3 (by omega), ?_⟩, fun h => by omega⟩⟩
  have hRS : RS (ust N c (i : Int) v) r c := ⟨hr.1.1, by rw [ust_r, if_neg (fun q => hr.1.1.ne q.1)]; exact hr.1.2⟩
  have hcf : ∀ j : Nat, j < 8 → ust N c (i : Int) v c (j : Int) = (pput a i v).1 j := fun j hj => by
    rw [ust_at]
    by_cases e : j = i
    · subst e; rw [if_pos rfl, pput_c, if_pos rfl, hv]
    · rw [if_neg (by omega), pput_n e]; exact hr.2.1 j hj
  refine c_settle hRS (fun j j0 j1 => ?_) (r3 (by omega)) (by omega) (fun d d1 d2 d3 d4 d5 => ?_)
  · have := hcf j.toNat (by omega)
    rw [Int.toNat_of_nonneg j0] at this
    rw [this]
    have := hp.r32 (pput a i v) j.toNat
    exact r3 (by omega)
  · simp only [bk4_0, bk4_4, bk4_10, bk4_11, U_iload_n, U_if_lt, U_bipush, U_icmp_lt, U_return, U_aload_n, U_getfield, U_iast, U_max, U_invokevirtual1, UN_cc, UN_cn, UN_nc, UN_nn, UJ, lget, lset, lset2, entL, wsm, wcat, Option.toList_some, Option.toList_none, List.cons_append, List.nil_append, List.mem_cons, List.not_mem_nil, Prod.mk.injEq, or_false, false_or, or_true, true_or, and_true, true_and, and_false, false_and, and_self, ne_eq, not_false_eq_true, not_true_eq_false, forall_const, true_implies, false_implies, Nat.add_zero, Nat.zero_add, Nat.le_refl, Nat.zero_le, ↓reduceIte, Nat.reduceAdd, Nat.reduceSub, Nat.reduceEqDiff, Nat.reduceLeDiff, Int.reduceEq, Int.reduceNe, Int.reduceNeg, reduceCtorEq]
    have hdd : (dg (pput a i v) : Int) - 1 = d := dg_int d1 (fun k hk => by
      by_cases h8 : k < 8
      · rw [← hcf k h8]
        by_cases hm : (k : Int) ≤ max ((dg a : Int) - 1) (i : Int)
        · exact d4 k hk hm (by omega)
        · rw [hcf k h8, pput_n (by omega)]; exact dg_far a (by omega)
      · rw [pput_n (by omega)]; exact hr.far (by omega)) (fun h0 => by
      rw [← hcf d.toNat (by omega), Int.toNat_of_nonneg h0]; exact d5 h0)
    refine hQ _ (fun b hb => ?_) ⟨⟨hr.1.1, ?_⟩, fun j hj => ?_, by omega, ?_⟩
    · rw [ust_ne (by intro e; exact hb (by simp [e])), ust_ne (by intro e; exact hb (by simp [e]))]
    · rw [ust_r, if_neg (by omega)]; exact hRS.2
    · rw [ust_r, if_neg (by intro q; exact hr.1.1.ne q.1.symm)]; exact hcf j hj
    · rw [hdd, ust_at, if_pos rfl]
set_option maxHeartbeats 4000000 in
theorem c_makeOne {p : Int} (hp : Pr p) {N : Mem} {Q : Post} {r c : Int} (hr : RS N r c) (hQ : ∀ N', Fr [r, c] N N' → RP N' r c (pC p 1) → Q none NN N') : CL 5 [(2, r)] NN N Q := by
  refine WP.run [] [] 30 ?_
  simp only [bk5_0, U_aload_n, U_invokevirtual0, U_iconst, U_invokevirtual2, U_return, UN_cc, UN_cn, UN_nc, UN_nn, UJ, lget, lset, lset2, entL, wsm, wcat, Option.toList_some, Option.toList_none, List.cons_append, List.nil_append, List.mem_cons, List.not_mem_nil, Prod.mk.injEq, or_false, false_or, or_true, true_or, and_true, true_and, and_false, false_and, and_self, ne_eq, not_false_eq_true, not_true_eq_false, forall_const, true_implies, false_implies, Nat.add_zero, Nat.zero_add, Nat.le_refl, Nat.zero_le, ↓reduceIte, Nat.reduceAdd, Nat.reduceSub, Nat.reduceEqDiff, Nat.reduceLeDiff, Int.reduceEq, Int.reduceNe, Int.reduceNeg, reduceCtorEq, hr.1.1]
  refine c_clear (p := p) hr fun N1 hF h1 => ?_
  simp only [bk5_0, U_aload_n, U_invokevirtual0, U_iconst, U_invokevirtual2, U_return, UN_cc, UN_cn, UN_nc, UN_nn, UJ, lget, lset, lset2, entL, wsm, wcat, Option.toList_some, Option.toList_none, List.cons_append, List.nil_append, List.mem_cons, List.not_mem_nil, Prod.mk.injEq, or_false, false_or, or_true, true_or, and_true, true_and, and_false, false_and, and_self, ne_eq, not_false_eq_true, not_true_eq_false, forall_const, true_implies, false_implies, Nat.add_zero, Nat.zero_add, Nat.le_refl, Nat.zero_le, ↓reduceIte, Nat.reduceAdd, Nat.reduceSub, Nat.reduceEqDiff, Nat.reduceLeDiff, Int.reduceEq, Int.reduceNe, Int.reduceNeg, reduceCtorEq, hr.1.1]
  refine c_put hp 0 (by omega) (by have := hp.pos; exact Int.emod_eq_of_lt (by omega) (by omega)) h1 fun N2 hF2 h2 => ?_
  simp only [bk5_0, U_aload_n, U_invokevirtual0, U_iconst, U_invokevirtual2, U_return, UN_cc, UN_cn, UN_nc, UN_nn, UJ, lget, lset, lset2, entL, wsm, wcat, Option.toList_some, Option.toList_none, List.cons_append, List.nil_append, List.mem_cons, List.not_mem_nil, Prod.mk.injEq, or_false, false_or, or_true, true_or, and_true, true_and, and_false, false_and, and_self, ne_eq, not_false_eq_true, not_true_eq_false, forall_const, true_implies, false_implies, Nat.add_zero, Nat.zero_add, Nat.le_refl, Nat.zero_le, ↓reduceIte, Nat.reduceAdd, Nat.reduceSub, Nat.reduceEqDiff, Nat.reduceLeDiff, Int.reduceEq, Int.reduceNe, Int.reduceNeg, reduceCtorEq]
  refine hQ N2 (hF.tr hF2) ?_
  have e : pput (pC p 0) 0 1 = pC p 1 := Pz.ext fun k => by
    rw [pput_c, pC_c, pC_c]
    by_cases e : k = 0
    · rw [if_pos e, if_pos e]
    · rw [if_neg e, if_neg e, if_neg e, Int.zero_emod, Int.zero_emod]
  rw [← e]; exact h2
