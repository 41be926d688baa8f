/-! THE MODEL'S LIFTS -/
def ndN (a y : Int) : Nat := if y = 0 then ((a + 1) / 2).toNat else a.toNat
def lfF (L : List (Int × Int)) (B : Nat → Int) : Nat → Nat → Nat
  | 0, _ => 0
  | n + 1, x => match L[n]? with
    | none => lfF L B n x
    | some q => if q.1 = (x : Int) ∧ 0 < B (n + 1) then max (lfF L B n x) (ndN (B (n + 1)) q.2) else lfF L B n x
theorem lfF_s {L : List (Int × Int)} {B : Nat → Int} {n : Nat} {q : Int × Int} (h : L[n]? = some q) (x : Nat) : lfF L B (n + 1) x = if q.1 = (x : Int) ∧ 0 < B (n + 1) then max (lfF L B n x) (ndN (B (n + 1)) q.2) else lfF L B n x := by
  show (match L[n]? with
    | none => lfF L B n x
    | some q => if q.1 = (x : Int) ∧ 0 < B (n + 1) then max (lfF L B n x) (ndN (B (n + 1)) q.2) else lfF L B n x) = _
  rw [h]
theorem lfF_n {L : List (Int × Int)} {B : Nat → Int} {n : Nat} (h : L[n]? = none) (x : Nat) : lfF L B (n + 1) x = lfF L B n x := by
  show (match L[n]? with
    | none => lfF L B n x
    | some q => if q.1 = (x : Int) ∧ 0 < B (n + 1) then max (lfF L B n x) (ndN (B (n + 1)) q.2) else lfF L B n x) = _
  rw [h]
theorem ndN_le {a y : Int} (h : a ≤ 4) : ndN a y ≤ 4 := by unfold ndN; split <;> omega
theorem lfF_le {L : List (Int × Int)} {B : Nat → Int} (h : ∀ i, i ≠ 0 → B i ≤ 4) (x : Nat) : ∀ n, lfF L B n x ≤ 4
  | 0 => by show 0 ≤ 4; omega
  | n + 1 => by
    have ih := lfF_le (L := L) h x n
    cases e : L[n]? with
    | none => rw [lfF_n e]; exact ih
    | some q =>
      rw [lfF_s e]
      have := ndN_le (y := q.2) (h (n + 1) (by omega))
      split <;> omega
theorem lfF_up {L : List (Int × Int)} {B : Nat → Int} (x : Nat) (n : Nat) : lfF L B n x ≤ lfF L B (n + 1) x := by
  cases e : L[n]? with
  | none => rw [lfF_n e]; exact Nat.le_refl _
  | some q => rw [lfF_s e]; split <;> omega
theorem lfF_nd {L : List (Int × Int)} {B : Nat → Int} {i : Nat} {q : Int × Int} (hq : L[i]? = some q) (h0 : 0 ≤ q.1) : ∀ n, i < n → B (i + 1) ≤ (lq (lfF L B n) q : Int)
  | 0, h => absurd h (Nat.not_lt_zero i)
  | n + 1, h => by
    by_cases e : i = n
    · subst e
      have e := lfF_s (B := B) hq q.1.toNat
      by_cases c : 0 < B (i + 1)
      · rw [if_pos ⟨by omega, c⟩] at e
        unfold lq ndN at *
        by_cases y : q.2 = 0
        · rw [if_pos y] at e ⊢; omega
        · rw [if_neg y] at e ⊢; omega
      · have : 0 ≤ (lq (lfF L B (i + 1)) q : Int) := Int.natCast_nonneg _
        omega
    · have ih := lfF_nd (B := B) hq h0 n (by omega)
      have := lfF_up (L := L) (B := B) q.1.toNat n
      unfold lq at ih ⊢
      by_cases c : q.2 = 0
      · rw [if_pos c] at ih ⊢; omega
      · rw [if_neg c] at ih ⊢; omega
theorem lfF_0 {L : List (Int × Int)} {B : Nat → Int} {x : Nat} (h : ∀ q ∈ L, q.1 ≠ (x : Int)) : ∀ n, lfF L B n x = 0
  | 0 => rfl
  | n + 1 => by
    have ih := lfF_0 (B := B) h n
    cases e : L[n]? with
    | none => rw [lfF_n e]; exact ih
    | some q => rw [lfF_s e, if_neg (fun c => h q (List.mem_of_getElem? e) c.1)]; exact ih
set_option maxHeartbeats 16000000 in
theorem l_li2 {p : Int} {N : Mem} {Q : Post} {f : Pz p} {g : Nat} {B : Nat → Int} (hG : MG f g N) (hPt : PtA N 192 193 (ptl f p.toNat)) (hp : Pr p) (hB : ∀ i : Nat, 1 ≤ i → i ≤ (ptl f p.toNat).length → N 207 (i : Int) = B i) (hr : ∀ i, i ≠ 0 → -4 ≤ B i ∧ B i ≤ 4)
    (hQ : ∀ N', FM [208] [] N N' → (∀ x : Nat, (x : Int) < p → N' 208 (x : Int) = (lfF (ptl f p.toNat) B (ptl f p.toNat).length x : Int)) → Q none NN N') :
    ∀ (n j : Nat) (a : V) (Ni : Mem), j + n = (ptl f p.toNat).length → FM [208] [] N Ni → (∀ x : Nat, (x : Int) < p → Ni 208 (x : Int) = (lfF (ptl f p.toNat) B j x : Int)) → WP 217 (0, 0) 25 [(2, 190), (0, (j : Int) + 1), a] [] NN Ni Q := by
  have hpp := hp.pos
  have h26 := ptl_26 hp f
  intro n
  induction n with
  | zero =>
    intro j a Ni hj hF hA
    obtain rfl : j = (ptl f p.toNat).length := by omega
    have G := hG.fm hF (fzk rfl rfl) (by decide) (by decide) (by simp) (by simp) (by simp) (by simp)
    refine WP.run [(217, 25)] [] 60 ?_
    simp only [bk217_0, bk217_2, bk217_10, bk217_23, bk217_25, bk217_33, bk217_42, bk217_55, bk217_61, bk217_81, bk217_96, bk217_100, bk217_111, bk217_118, U_iconst, U_istore_n, U_iload_n, U_aload_n, U_getfield, U_icmp_ge, U_iast, U_iinc, U_goto, U_iald, U_if_ne, U_iadd, U_idiv, U_if_le, U_icmp_le, U_return, UN_cc, UN_cn, UN_nc, UN_nn, UJ, lget, lset, lset2, entL, wsm, wcat, Option.toList_some, Option.toList_none, List.cons_append, List.nil_append, List.mem_cons, List.not_mem_nil, Prod.mk.injEq, or_false, false_or, or_true, true_or, and_true, true_and, and_false, false_and, and_self, ne_eq, not_false_eq_true, not_true_eq_false, forall_const, true_implies, false_implies, Nat.add_zero, Nat.zero_add, Nat.le_refl, Nat.zero_le, List.set_cons_zero, List.set_cons_succ, List.set_nil, ↓reduceIte, Nat.reduceAdd, Nat.reduceSub, Nat.reduceEqDiff, Nat.reduceLeDiff, Int.reduceEq, Int.reduceNe, Int.reduceNeg, reduceCtorEq, kd190, G.2.2.2]
    exact ⟨rr (by omega), fun e => absurd e (by omega), fun _ => hQ Ni hF hA⟩
  | succ n ih =>
    intro j a Ni hj hF hA
    have G := hG.fm hF (fzk rfl rfl) (by decide) (by decide) (by simp) (by simp) (by simp) (by simp)
    have hz := G.mt.1
    have hjl : j < (ptl f p.toNat).length := by omega
    have eq := List.getElem?_eq_getElem hjl
    generalize (ptl f p.toNat)[j] = q at eq
    have hq := ptl_rg hp f p.toNat (by omega) q (List.mem_of_getElem? eq)
    have hP : PtA Ni 192 193 (ptl f p.toNat) := by unfold PtA; rw [hF.1 192 (by decide) (by decide), hF.1 193 (by decide) (by decide)]; exact hPt
    obtain ⟨a1, a2⟩ := hP j q eq
    have a3 : Ni 207 ((j : Int) + 1) = B (j + 1) := by
      rw [hF.1 207 (by decide) (by decide)]
      exact hB (j + 1) (by omega) (by omega)
    have hb := hr (j + 1) (by omega)
    have a4 := hA q.1.toNat (by omega)
    rw [show ((q.1.toNat : Nat) : Int) = q.1 by omega] at a4
    have l4 := lfF_le (L := ptl f p.toNat) (fun i hi => (hr i hi).2) q.1.toNat j
    have n4 := ndN_le (y := q.2) hb.2
    have nx : ∀ v a, v = (lfF (ptl f p.toNat) B (j + 1) q.1.toNat : Int) → WP 217 (0, 0) 25 [(2, 190), (0, ((j + 1 : Nat) : Int) + 1), a] [] NN (ust Ni 208 q.1 v) Q := fun v a hv => by
      refine ih (j + 1) a _ (by omega) (hF.us _ _ (by simp) (by decide)) (fun x hx => ?_)
      rw [ust_at]
      by_cases c : (x : Int) = q.1
      · rw [if_pos c, hv, show q.1.toNat = x by omega]
      · rw [if_neg c, hA x hx, lfF_s eq, if_neg (fun e => c e.1.symm)]
    rw [lfF_s eq] at nx
    have e9 : (j : Int) + 1 + 1 = ((j + 1 : Nat) : Int) + 1 := by omega
    refine WP.run [(217, 25)] [] 90 ?_
    simp only [bk217_0, bk217_2, bk217_10, bk217_23, bk217_25, bk217_33, bk217_42, bk217_55, bk217_61, bk217_81, bk217_96, bk217_100, bk217_111, bk217_118, U_iconst, U_istore_n, U_iload_n, U_aload_n, U_getfield, U_icmp_ge, U_iast, U_iinc, U_goto, U_iald, U_if_ne, U_iadd, U_idiv, U_if_le, U_icmp_le, U_return, UN_cc, UN_cn, UN_nc, UN_nn, UJ, lget, lset, lset2, entL, wsm, wcat, Option.toList_some, Option.toList_none, List.cons_append, List.nil_append, List.mem_cons, List.not_mem_nil, Prod.mk.injEq, or_false, false_or, or_true, true_or, and_true, true_and, and_false, false_and, and_self, ne_eq, not_false_eq_true, not_true_eq_false, forall_const, true_implies, false_implies, Nat.add_zero, Nat.zero_add, Nat.le_refl, Nat.zero_le, List.set_cons_zero, List.set_cons_succ, List.set_nil, ↓reduceIte, Nat.reduceAdd, Nat.reduceSub, Nat.reduceEqDiff, Nat.reduceLeDiff, Int.reduceEq, Int.reduceNe, Int.reduceNeg, reduceCtorEq, kd190, kd192, kd193, kd207, kd208, ln192, ln193, ln207, ln208, z190_6 hz, z190_7 hz, z190_24 hz, z190_25 hz, a1, a2, a3, a4, G.2.2.2]
    rw [e9]
    by_cases cB : 0 < B (j + 1)
    · rw [if_pos ⟨by omega, cB⟩] at nx
      have td : (B (j + 1) + 1).tdiv 2 = (B (j + 1) + 1) / 2 := Int.tdiv_eq_ediv_of_nonneg (by omega)
      rw [td]
      unfold ndN at nx n4
      by_cases y : q.2 = 0
      · rw [if_pos y] at nx n4
        repeat' (first | refine And.intro (by omega) ?_ | refine And.intro (rr (by omega)) ?_ | refine And.intro (r3 (by omega)) ?_ | refine And.intro (r6 (by omega)) ?_ | ((fail_if_success (show WP _ _ _ _ _ _ _ _)); (first | refine And.intro ?_ ?_ | intro _)))
        all_goals first | (exfalso; omega) | exact nx _ _ (by omega)
      · rw [if_neg y] at nx n4
        repeat' (first | refine And.intro (by omega) ?_ | refine And.intro (rr (by omega)) ?_ | refine And.intro (r3 (by omega)) ?_ | refine And.intro (r6 (by omega)) ?_ | ((fail_if_success (show WP _ _ _ _ _ _ _ _)); (first | refine And.intro ?_ ?_ | intro _)))
        all_goals first | (exfalso; omega) | exact nx _ _ (by omega)
    · rw [if_neg (fun e => cB e.2)] at nx
      repeat' (first | refine And.intro (by omega) ?_ | refine And.intro (rr (by omega)) ?_ | refine And.intro (r3 (by omega)) ?_ | refine And.intro (r6 (by omega)) ?_ | ((fail_if_success (show WP _ _ _ _ _ _ _ _)); (first | refine And.intro ?_ ?_ | intro _)))
      all_goals first | (exfalso; omega) | exact nx _ _ rfl
set_option maxHeartbeats 16000000 in
theorem m_findLifts {p : Int} {N : Mem} {Q : Post} {f : Pz p} {g : Nat} {B : Nat → Int} (hG : MG f g N) (hPt : PtA N 192 193 (ptl f p.toNat)) (hp : Pr p) (hB : ∀ i : Nat, 1 ≤ i → i ≤ (ptl f p.toNat).length → N 207 (i : Int) = B i) (hr : ∀ i, i ≠ 0 → -4 ≤ B i ∧ B i ≤ 4)
    (hQ : ∀ N', FM [208] [] N N' → (∀ x : Nat, (x : Int) < p → N' 208 (x : Int) = (lfF (ptl f p.toNat) B (ptl f p.toNat).length x : Int)) → Q none NN N') : CL 217 [(2, 190), (9, 0), (9, 0)] NN N Q := by
  have hpp := hp.pos
  have l1 : ∀ (n j : Nat) (a : V) (Ni : Mem), (j : Int) + n = p → FM [208] [] N Ni → (∀ x : Nat, x < j → Ni 208 (x : Int) = 0) → WP 217 (0, 0) 2 [(2, 190), (0, (j : Int)), a] [] NN Ni Q := by
    intro n
    induction n with
    | zero =>
      intro j a Ni hj hF hA
      have G := hG.fm hF (fzk rfl rfl) (by decide) (by decide) (by simp) (by simp) (by simp) (by simp)
      have hP : PtA Ni 192 193 (ptl f p.toNat) := by unfold PtA; rw [hF.1 192 (by decide) (by decide), hF.1 193 (by decide) (by decide)]; exact hPt
      have nx := l_li2 (Q := Q) G hP hp (B := B) (fun i h1 h2 => by rw [hF.1 207 (by decide) (by decide)]; exact hB i h1 h2) hr (fun N' h1 h2 => hQ N' (hF.tr h1) h2) _ 0 a Ni (Nat.zero_add _) (FM.rf _ _ _) (fun x hx => hA x (by omega))
      refine WP.run [(217, 2), (217, 25)] [] 60 ?_
      simp only [bk217_0, bk217_2, bk217_10, bk217_23, bk217_25, bk217_33, bk217_42, bk217_55, bk217_61, bk217_81, bk217_96, bk217_100, bk217_111, bk217_118, U_iconst, U_istore_n, U_iload_n, U_aload_n, U_getfield, U_icmp_ge, U_iast, U_iinc, U_goto, U_iald, U_if_ne, U_iadd, U_idiv, U_if_le, U_icmp_le, U_return, UN_cc, UN_cn, UN_nc, UN_nn, UJ, lget, lset, lset2, entL, wsm, wcat, Option.toList_some, Option.toList_none, List.cons_append, List.nil_append, List.mem_cons, List.not_mem_nil, Prod.mk.injEq, or_false, false_or, or_true, true_or, and_true, true_and, and_false, false_and, and_self, ne_eq, not_false_eq_true, not_true_eq_false, forall_const, true_implies, false_implies, Nat.add_zero, Nat.zero_add, Nat.le_refl, Nat.zero_le, List.set_cons_zero, List.set_cons_succ, List.set_nil, ↓reduceIte, Nat.reduceAdd, Nat.reduceSub, Nat.reduceEqDiff, Nat.reduceLeDiff, Int.reduceEq, Int.reduceNe, Int.reduceNeg, reduceCtorEq, kd190, G.mt.2]
      exact ⟨rr (by omega), fun e => absurd e (by omega), fun _ => nx⟩
    | succ n ih =>
      intro j a Ni hj hF hA
      have G := hG.fm hF (fzk rfl rfl) (by decide) (by decide) (by simp) (by simp) (by simp) (by simp)
      have hz := G.mt.1
      have nx : WP 217 (0, 0) 2 [(2, 190), (0, ((j + 1 : Nat) : Int)), a] [] NN (ust Ni 208 (j : Int) 0) Q := ih (j + 1) a _ (by omega) (hF.us _ _ (by simp) (by decide)) (fun x hx => by
        rw [ust_at]
        by_cases c : x = j
        · rw [if_pos (by omega)]
        · rw [if_neg (by omega)]; exact hA x (by omega))
      refine WP.run [(217, 2), (217, 25)] [] 60 ?_
      simp only [bk217_0, bk217_2, bk217_10, bk217_23, bk217_25, bk217_33, bk217_42, bk217_55, bk217_61, bk217_81, bk217_96, bk217_100, bk217_111, bk217_118, U_iconst, U_istore_n, U_iload_n, U_aload_n, U_getfield, U_icmp_ge, U_iast, U_iinc, U_goto, U_iald, U_if_ne, U_iadd, U_idiv, U_if_le, U_icmp_le, U_return, UN_cc, UN_cn, UN_nc, UN_nn, UJ, lget, lset, lset2, entL, wsm, wcat, Option.toList_some, Option.toList_none, List.cons_append, List.nil_append, List.mem_cons, List.not_mem_nil, Prod.mk.injEq, or_false, false_or, or_true, true_or, and_true, true_and, and_false, false_and, and_self, ne_eq, not_false_eq_true, not_true_eq_false, forall_const, true_implies, false_implies, Nat.add_zero, Nat.zero_add, Nat.le_refl, Nat.zero_le, List.set_cons_zero, List.set_cons_succ, List.set_nil, ↓reduceIte, Nat.reduceAdd, Nat.reduceSub, Nat.reduceEqDiff, Nat.reduceLeDiff, Int.reduceEq, Int.reduceNe, Int.reduceNeg, reduceCtorEq, kd190, kd208, ln208, z190_25 hz, G.mt.2]
      repeat' (first | refine And.intro (by omega) ?_ | refine And.intro (rr (by omega)) ?_ | refine And.intro (r3 (by omega)) ?_ | refine And.intro (r6 (by omega)) ?_ | ((fail_if_success (show WP _ _ _ _ _ _ _ _)); (first | refine And.intro ?_ ?_ | intro _)))
      all_goals first | (exfalso; omega) | exact nx
  have := l1 p.toNat 0 (9, 0) N (by omega) (FM.rf _ _ _) (fun x hx => absurd hx (Nat.not_lt_zero x))
  refine WP.run [(217, 2)] [] 60 ?_
  simp only [bk217_0, bk217_2, bk217_10, bk217_23, bk217_25, bk217_33, bk217_42, bk217_55, bk217_61, bk217_81, bk217_96, bk217_100, bk217_111, bk217_118, U_iconst, U_istore_n, U_iload_n, U_aload_n, U_getfield, U_icmp_ge, U_iast, U_iinc, U_goto, U_iald, U_if_ne, U_iadd, U_idiv, U_if_le, U_icmp_le, U_return, UN_cc, UN_cn, UN_nc, UN_nn, UJ, lget, lset, lset2, entL, wsm, wcat, Option.toList_some, Option.toList_none, List.cons_append, List.nil_append, List.mem_cons, List.not_mem_nil, Prod.mk.injEq, or_false, false_or, or_true, true_or, and_true, true_and, and_false, false_and, and_self, ne_eq, not_false_eq_true, not_true_eq_false, forall_const, true_implies, false_implies, Nat.add_zero, Nat.zero_add, Nat.le_refl, Nat.zero_le, List.set_cons_zero, List.set_cons_succ, List.set_nil, ↓reduceIte, Nat.reduceAdd, Nat.reduceSub, Nat.reduceEqDiff, Nat.reduceLeDiff, Int.reduceEq, Int.reduceNe, Int.reduceNeg, reduceCtorEq]
  exact this
