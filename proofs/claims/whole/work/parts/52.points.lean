/-! POINTS, listed by x, then y -/
def rowY (p s : Int) (n : Nat) : List Nat := (List.range n).filter (fun (y : Nat) => decide ((y : Int) * y % p = s))
def rowP (p s : Int) (x n : Nat) : List (Int × Int) := (rowY p s n).map (fun (y : Nat) => ((x : Int), (y : Int)))
noncomputable def ptl {p : Int} (f : Pz p) (n : Nat) : List (Int × Int) := (List.range n).flatMap (fun (x : Nat) => rowP p (pev f x) x p.toNat)
theorem rowY2a : ([3, 5, 7, 11, 13] : List Nat).all (fun p => (List.range p).all (fun s => decide ((rowY (p : Int) (s : Int) p).length ≤ 2))) = true := by decide +kernel
theorem Pr.nat {p : Int} (hp : Pr p) : ∃ n : Nat, p = n ∧ n ∈ ([3, 5, 7, 11, 13] : List Nat) := by
  rcases hp with rfl | rfl | rfl | rfl | rfl
  · exact ⟨3, rfl, by decide⟩
  · exact ⟨5, rfl, by decide⟩
  · exact ⟨7, rfl, by decide⟩
  · exact ⟨11, rfl, by decide⟩
  · exact ⟨13, rfl, by decide⟩
theorem rowY2 {p s : Int} (hp : Pr p) (h0 : 0 ≤ s) (h1 : s < p) : (rowY p s p.toNat).length ≤ 2 := by
  obtain ⟨n, rfl, hn⟩ := hp.nat
  have := List.all_eq_true.mp (List.all_eq_true.mp rowY2a n hn) s.toNat (List.mem_range.mpr (by omega))
  rw [Int.toNat_of_nonneg h0] at this
  exact of_decide_eq_true this
theorem rowY_s (p s : Int) (n : Nat) : rowY p s (n + 1) = rowY p s n ++ (if (n : Int) * n % p = s then [n] else []) := by
  unfold rowY
  rw [List.range_succ, List.filter_append]
  congr 1
  by_cases h : (n : Int) * n % p = s <;> simp [h]
theorem rowP_s (p s : Int) (x n : Nat) : rowP p s x (n + 1) = rowP p s x n ++ (if (n : Int) * n % p = s then [((x : Int), (n : Int))] else []) := by
  unfold rowP
  rw [rowY_s, List.map_append]
  congr 1
  split <;> rfl
theorem rowY_le (p s : Int) {m n : Nat} (h : m ≤ n) : (rowY p s m).length ≤ (rowY p s n).length := by
  induction n with
  | zero => obtain rfl : m = 0 := by omega
            exact Nat.le_refl _
  | succ n ih =>
    by_cases e : m = n + 1
    · subst e; exact Nat.le_refl _
    · rw [rowY_s, List.length_append]
      have := ih (by omega); omega
theorem ptl_s {p : Int} (f : Pz p) (n : Nat) : ptl f (n + 1) = ptl f n ++ rowP p (pev f n) n p.toNat := by
  unfold ptl
  rw [List.range_succ, List.flatMap_append]
  simp
theorem pev_rg {p : Int} (hp : Pr p) (f : Pz p) (x : Int) : 0 ≤ pev f x ∧ pev f x < p := by
  have := hp.pos
  exact ⟨Int.emod_nonneg _ (by omega), Int.emod_lt_of_pos _ (by omega)⟩
theorem ptl_le {p : Int} (hp : Pr p) (f : Pz p) (n : Nat) : (ptl f n).length ≤ 2 * n := by
  induction n with
  | zero => exact Nat.le_refl _
  | succ n ih =>
    rw [ptl_s, List.length_append]
    have := rowY2 hp (pev_rg hp f n).1 (pev_rg hp f n).2
    have e : (rowP p (pev f n) n p.toNat).length = (rowY p (pev f n) p.toNat).length := List.length_map ..
    omega
/-- the points in the cells: how many, x and y from 1 on -/
def PtA (N : Mem) (ca cb : Int) (L : List (Int × Int)) : Prop := ∀ (i : Nat) (q : Int × Int), L[i]? = some q → N ca ((i : Int) + 1) = q.1 ∧ N cb ((i : Int) + 1) = q.2
theorem PtA.push {N N' : Mem} {ca cb : Int} {L : List (Int × Int)} {x y : Int} (h : PtA N ca cb L) (h1 : ∀ j : Int, j ≠ (L.length : Int) + 1 → N' ca j = N ca j ∧ N' cb j = N cb j) (h2 : N' ca ((L.length : Int) + 1) = x) (h3 : N' cb ((L.length : Int) + 1) = y) : PtA N' ca cb (L ++ [(x, y)]) := by
  intro i q e
  by_cases hi : i < L.length
  · rw [List.getElem?_append_left hi] at e
    obtain ⟨g1, g2⟩ := h1 ((i : Int) + 1) (by omega)
    rw [g1, g2]; exact h i q e
  · rw [List.getElem?_append_right (by omega)] at e
    by_cases e2 : i = L.length
    · subst e2
      simp at e
      rw [← e]; exact ⟨h2, h3⟩
    · rw [List.getElem?_eq_none (by simp; omega)] at e; cases e
theorem fz21_4 : fz 21 4 = none := rfl
set_option maxHeartbeats 16000000 in
theorem l_ptsY {p : Int} {N : Mem} {ρ : Int → Option (Pz p)} {Q : Post} {f : Pz p} {x : Nat} {L : List (Int × Int)} (hp : Pr p) (hx : (x : Int) < p) (hL : L = ptl f x)
    (hQ : ∀ N', ST p N' ρ → FX [21, 26, 27] N N' → (∀ i, i ≠ 4 → N' 21 i = N 21 i) → N' 21 4 = ((ptl f (x + 1)).length : Int) + 1 → PtA N' 26 27 (ptl f (x + 1)) → WP 65 (0, 0) 107 [(2, 21), (0, (x : Int)), (0, pev f x), (0, p)] [] NN N' Q ∧ ∀ y : Int, WP 65 (0, 0) 107 [(2, 21), (0, (x : Int)), (0, pev f x), (0, y)] [] NN N' Q) :
    ∀ (n y : Nat) (Ni : Mem), (y : Int) + n = p → ST p Ni ρ → FX [21, 26, 27] N Ni → (∀ i, i ≠ 4 → Ni 21 i = N 21 i) → Ni 21 4 = ((L ++ rowP p (pev f x) x y).length : Int) + 1 → PtA Ni 26 27 (L ++ rowP p (pev f x) x y) → WP 65 (0, 0) 33 [(2, 21), (0, (x : Int)), (0, pev f x), (0, (y : Int))] [] NN Ni Q := by
  have hpp := hp.pos
  intro n
  induction n with
  | zero =>
    intro y Ni hy hS hF h21 hm hA
    have e : p.toNat = y := by omega
    have e2 : L ++ rowP p (pev f x) x y = ptl f (x + 1) := by rw [ptl_s, ← hL, e]
    rw [e2] at hm hA
    refine WP.run [(65, 33), (65, 107)] [] 60 ?_
    simp only [bk65_0, bk65_7, bk65_18, bk65_33, bk65_44, bk65_53, bk65_68, bk65_71, bk65_101, bk65_107, bk65_113, U_aload_n, U_iconst, U_putfield, U_istore_n, U_iload_n, U_getfield, U_icmp_ge, U_invokevirtual2, U_bipush, U_imul, U_irem, U_icmp_eq, U_goto, U_iast, U_dup, U_iadd, U_iinc, U_return, UN_cc, UN_cn, UN_nc, UN_nn, UJ, lget, lset, lset2, entL, wsm, wcat, Option.toList_some, Option.toList_none, List.cons_append, List.nil_append, List.mem_cons, List.not_mem_nil, Prod.mk.injEq, or_false, false_or, or_true, true_or, and_true, true_and, and_false, false_and, and_self, ne_eq, not_false_eq_true, not_true_eq_false, forall_const, true_implies, false_implies, Nat.add_zero, Nat.zero_add, Nat.le_refl, Nat.zero_le, ↓reduceIte, Nat.reduceAdd, Nat.reduceSub, Nat.reduceEqDiff, Nat.reduceLeDiff, Int.reduceEq, Int.reduceNe, Int.reduceNeg, reduceCtorEq, kd21, kd2, z21_0 hS.1.1, hS.1.2.2.1]
    exact ⟨rr (by omega), fun h => absurd h (by omega), fun _ => (hQ Ni hS hF h21 hm hA).2 _⟩
  | succ n ih =>
    intro y Ni hy hS hF h21 hm hA
    have hev := pev_rg hp f x
    have hlen : (L ++ rowP p (pev f x) x y).length ≤ 26 := by
      rw [List.length_append, hL]
      have a1 := ptl_le hp f x
      have a2 := rowY2 hp hev.1 hev.2
      have a3 := rowY_le p (pev f x) (show y ≤ p.toNat by omega)
      have a4 : (rowP p (pev f x) x y).length = (rowY p (pev f x) y).length := List.length_map ..
      omega
    have m1 : 0 ≤ (y : Int) * y := Int.mul_nonneg (by omega) (by omega)
    have m2 : (y : Int) * y ≤ 13 * 13 := Int.mul_le_mul (by omega) (by omega) (by omega) (by omega)
    have m3 := Int.emod_nonneg ((y : Int) * y) (b := p) (by omega)
    have m4 := Int.emod_lt_of_pos ((y : Int) * y) (b := p) (by omega)
    refine WP.run [(65, 33), (65, 107), (65, 101)] [] 60 ?_
    simp only [bk65_0, bk65_7, bk65_18, bk65_33, bk65_44, bk65_53, bk65_68, bk65_71, bk65_101, bk65_107, bk65_113, U_aload_n, U_iconst, U_putfield, U_istore_n, U_iload_n, U_getfield, U_icmp_ge, U_invokevirtual2, U_bipush, U_imul, U_irem, U_icmp_eq, U_goto, U_iast, U_dup, U_iadd, U_iinc, U_return, UN_cc, UN_cn, UN_nc, UN_nn, UJ, lget, lset, lset2, entL, wsm, wcat, Option.toList_some, Option.toList_none, List.cons_append, List.nil_append, List.mem_cons, List.not_mem_nil, Prod.mk.injEq, or_false, false_or, or_true, true_or, and_true, true_and, and_false, false_and, and_self, ne_eq, not_false_eq_true, not_true_eq_false, forall_const, true_implies, false_implies, Nat.add_zero, Nat.zero_add, Nat.le_refl, Nat.zero_le, ↓reduceIte, Nat.reduceAdd, Nat.reduceSub, Nat.reduceEqDiff, Nat.reduceLeDiff, Int.reduceEq, Int.reduceNe, Int.reduceNeg, reduceCtorEq, kd21, kd2, kd26, kd27, ln26, ln27, z21_0 hS.1.1, z21_5 hS.1.1, z21_6 hS.1.1, hS.1.2.2.1, hm]
    rw [tm_nn m1]
    -- the next y
    have nxt : ∀ Nj : Mem, ST p Nj ρ → FX [21, 26, 27] N Nj → (∀ i, i ≠ 4 → Nj 21 i = N 21 i) → Nj 21 4 = ((L ++ rowP p (pev f x) x (y + 1)).length : Int) + 1 → PtA Nj 26 27 (L ++ rowP p (pev f x) x (y + 1)) → WP 65 (0, 0) 101 [(2, 21), (0, (x : Int)), (0, pev f x), (0, (y : Int))] [] NN Nj Q := fun Nj g1 g2 g3 g4 g5 => by
      refine WP.run [(65, 33)] [] 60 ?_
      simp only [bk65_0, bk65_7, bk65_18, bk65_33, bk65_44, bk65_53, bk65_68, bk65_71, bk65_101, bk65_107, bk65_113, U_aload_n, U_iconst, U_putfield, U_istore_n, U_iload_n, U_getfield, U_icmp_ge, U_invokevirtual2, U_bipush, U_imul, U_irem, U_icmp_eq, U_goto, U_iast, U_dup, U_iadd, U_iinc, U_return, UN_cc, UN_cn, UN_nc, UN_nn, UJ, lget, lset, lset2, entL, wsm, wcat, Option.toList_some, Option.toList_none, List.cons_append, List.nil_append, List.mem_cons, List.not_mem_nil, Prod.mk.injEq, or_false, false_or, or_true, true_or, and_true, true_and, and_false, false_and, and_self, ne_eq, not_false_eq_true, not_true_eq_false, forall_const, true_implies, false_implies, Nat.add_zero, Nat.zero_add, Nat.le_refl, Nat.zero_le, ↓reduceIte, Nat.reduceAdd, Nat.reduceSub, Nat.reduceEqDiff, Nat.reduceLeDiff, Int.reduceEq, Int.reduceNe, Int.reduceNeg, reduceCtorEq]
      exact ih (y + 1) Nj (by omega) g1 g2 g3 g4 g5
    refine ⟨rr (by omega), fun _ => ⟨rr (by omega), fun h27 => ⟨r3 (by omega), r3 (by omega), by omega, rr (by omega), fun he => ?_, fun hne => ?_⟩, fun h27 => ?_⟩, fun h => absurd h (by omega)⟩
    · refine ⟨by omega, by omega, ?_⟩
      have hS1 : ST p (ust Ni 26 (((L ++ rowP p (pev f x) x y).length : Int) + 1) x) ρ := hS.ust _ _ (fz_arr (Or.inl rfl) _) (by decide) (by decide) (by decide)
      simp only [bk65_0, bk65_7, bk65_18, bk65_33, bk65_44, bk65_53, bk65_68, bk65_71, bk65_101, bk65_107, bk65_113, U_aload_n, U_iconst, U_putfield, U_istore_n, U_iload_n, U_getfield, U_icmp_ge, U_invokevirtual2, U_bipush, U_imul, U_irem, U_icmp_eq, U_goto, U_iast, U_dup, U_iadd, U_iinc, U_return, UN_cc, UN_cn, UN_nc, UN_nn, UJ, lget, lset, lset2, entL, wsm, wcat, Option.toList_some, Option.toList_none, List.cons_append, List.nil_append, List.mem_cons, List.not_mem_nil, Prod.mk.injEq, or_false, false_or, or_true, true_or, and_true, true_and, and_false, false_and, and_self, ne_eq, not_false_eq_true, not_true_eq_false, forall_const, true_implies, false_implies, Nat.add_zero, Nat.zero_add, Nat.le_refl, Nat.zero_le, ↓reduceIte, Nat.reduceAdd, Nat.reduceSub, Nat.reduceEqDiff, Nat.reduceLeDiff, Int.reduceEq, Int.reduceNe, Int.reduceNeg, reduceCtorEq, kd21, kd27, ln27, z21_6 hS1.1.1, ust_r, hm, Int.reduceEq, false_and, ↓reduceIte]
      refine ⟨by omega, by omega, ?_⟩
      have hS2 : ST p (ust (ust Ni 26 (((L ++ rowP p (pev f x) x y).length : Int) + 1) x) 27 (((L ++ rowP p (pev f x) x y).length : Int) + 1) y) ρ := hS1.ust _ _ (fz_arr (Or.inl rfl) _) (by decide) (by decide) (by decide)
      have hS3 := hS2.ust 4 (((L ++ rowP p (pev f x) x y).length : Int) + 1 + 1) fz21_4 (by decide) (by decide) (by decide)
      refine nxt _ hS3 ?_ (fun i hi => ?_) ?_ ?_
      · exact ((hF.us _ _ (by simp)).us _ _ (by simp)).us _ _ (by simp)
      · simp only [ust_r, Int.reduceEq, false_and, true_and, hi, ↓reduceIte]; exact h21 i hi
      · rw [ust_at, if_pos rfl, rowP_s, if_pos he, ← List.append_assoc]
        generalize L ++ rowP p (pev f x) x y = LL
        simp
      · rw [rowP_s, if_pos he, ← List.append_assoc]
        refine hA.push (fun j hj => ?_) ?_ ?_
        · simp only [ust_r, Int.reduceEq, false_and, true_and, hj, ↓reduceIte, and_self]
        · simp only [ust_r, Int.reduceEq, false_and, and_self, ↓reduceIte]
        · simp only [ust_r, Int.reduceEq, false_and, and_self, ↓reduceIte]
    · refine nxt Ni hS hF h21 ?_ ?_
      · rw [rowP_s, if_neg hne, List.append_nil]; exact hm
      · rw [rowP_s, if_neg hne, List.append_nil]; exact hA
    · -- all are found: what is left adds none
      have hfull : L ++ rowP p (pev f x) x y = ptl f (x + 1) := by
        have a1 := ptl_le hp f (x + 1)
        have e1 : rowP p (pev f x) x p.toNat = rowP p (pev f x) x y := by
          have key : ∀ m : Nat, y ≤ m → m ≤ p.toNat → rowP p (pev f x) x m = rowP p (pev f x) x y := by
            intro m
            induction m with
            | zero => intro a b; obtain rfl : y = 0 := by omega
                      rfl
            | succ m ihm =>
              intro a b
              by_cases e3 : y = m + 1
              · rw [e3]
              · have e4 := ihm (by omega) (by omega)
                have e5 : (rowY p (pev f x) (m + 1)).length ≤ (rowY p (pev f x) p.toNat).length := rowY_le _ _ b
                have e6 : (ptl f (x + 1)).length = L.length + (rowY p (pev f x) p.toNat).length := by
                  rw [ptl_s, List.length_append, ← hL]; congr 1; exact List.length_map ..
                have e7 : (rowP p (pev f x) x y).length = (rowY p (pev f x) m).length := by rw [← e4]; exact List.length_map ..
                rw [List.length_append] at h27 hlen
                rw [rowY_s, List.length_append] at e5
                have e8 : ¬ (m : Int) * m % p = pev f x := fun e9 => by
                  rw [if_pos e9] at e5
                  simp at e5
                  omega
                rw [rowP_s, if_neg e8, List.append_nil]; exact e4
          exact key p.toNat (by omega) (Nat.le_refl _)
        rw [ptl_s, ← hL, e1]
      rw [hfull] at hm hA
      exact (hQ Ni hS hF h21 hm hA).2 _
