/-! THE MODEL'S CALLS: the curve -/
theorem rwU_c (p : Int) (pu : List Int) : ∀ (n k : Nat), (rwU p pu n).1 k = if k < n then pu.getD k 0 % p else 0
  | 0, k => by
    rw [if_neg (by omega)]
    show (pC p 0).1 k = 0
    rw [pC_c]; split <;> exact Int.zero_emod _
  | n + 1, k => by
    show (pput (rwU p pu n) n (pu.getD n 0)).1 k = _
    rw [pput_c]
    by_cases c : k = n
    · rw [if_pos c, if_pos (by omega), c]
    · rw [if_neg c, rwU_c p pu n k]
      by_cases e : k < n
      · rw [if_pos e, if_pos (by omega), md_md]
      · rw [if_neg e, if_neg (by omega), Int.zero_emod]
theorem pzU_at {p : Int} (_hp : Pr p) {pu : List Int} (h : ∀ v ∈ pu, 0 ≤ v ∧ v < p) (k : Nat) : (pzU p pu).1 k = pu.getD k 0 := by
  show (rwU p pu pu.length).1 k = _
  rw [rwU_c]
  by_cases c : k < pu.length
  · rw [if_pos c, List.getD_eq_getElem?_getD, List.getElem?_eq_getElem c]
    have := h _ (List.getElem_mem c)
    exact Int.emod_eq_of_lt this.1 this.2
  · rw [if_neg c, List.getD_eq_getElem?_getD, List.getElem?_eq_none (by omega)]; rfl
/-- the row pushed used up -/
theorem MS.nil {p : Int} {g : Nat} {f : Pz p} {pu : List Int} {rg : Nat → Pz p × Pz p} {A tl : Nat → Int} {E : Nat → Nat} {N N' : Mem} (h : MS g f pu rg A tl E N) (e : FM [198, 199] [4] N N') (m : MRw N' f g) (h4 : N' 190 4 = 0) : MS g f [] rg A tl E N' := by
  obtain ⟨a0, a1, a2, a3, a4, a5, a6, a7, a8⟩ := h
  refine ⟨m, a1.fx (e.2 _ (by decide)) (e.2 _ (by decide)) (e.2 _ (by decide)) (e.1 _ (by decide) (by decide)) (e.1 _ (by decide) (by decide)), ⟨h4, fun i v q => by cases q⟩, fun r hr => (a3 r hr).fx (e.1 _ (by decide) (by decide)), ?_, ?_, ?_, a7.fx (e.2 _ (by decide)) (e.1 _ (by decide) (by decide)), a8.fx (e.2 _ (by decide)) (e.1 _ (by decide) (by decide))⟩
  · rw [e.1 194 (by decide) (by decide)]; exact a4
  · rw [e.1 196 (by decide) (by decide)]; exact a5
  · rw [e.1 197 (by decide) (by decide)]; exact a6
theorem ok_pt : FZK [192, 193] [5] := fzk rfl rfl
set_option maxHeartbeats 16000000 in
theorem l_cpY {p : Int} {N : Mem} {μ : Int → Option (Pz p)} {Q : Post} {f : Pz p} {x : Nat} (hM : MT p N μ) (h0 : μ 0 = some f) (hx : (x : Int) < p) (hQ : ∀ N', FM [192, 193] [5] N N' → N' 190 5 = ((ptl f (x + 1)).length : Int) + 1 → PtA N' 192 193 (ptl f (x + 1)) → ∀ y : Int, WP 175 (0, 0) 200 [(2, 190), (0, (x : Int) + 1), (0, y)] [] NN N' Q) :
    ∀ (n y : Nat) (Ni : Mem), (y : Int) + n = p → FM [192, 193] [5] N Ni → Ni 190 5 = ((ptl f x ++ rowP p (pev f x) x y).length : Int) + 1 → PtA Ni 192 193 (ptl f x ++ rowP p (pev f x) x y) → WP 175 (0, 0) 210 [(2, 190), (0, (x : Int)), (0, (y : Int))] [] NN Ni Q := by
  have hp := hM.2.1
  have hpp := hp.pos
  intro n
  induction n with
  | zero =>
    intro y Ni hy hF hm hA
    have e : p.toNat = y := by omega
    have e2 : ptl f x ++ rowP p (pev f x) x y = ptl f (x + 1) := by rw [ptl_s, e]
    rw [e2] at hm hA
    have hMi := hM.fm hF ok_pt (by decide) (by decide) (by decide)
    refine WP.run [(175, 200), (175, 210)] [] 60 ?_
    simp only [bk175_0, bk175_2, bk175_10, bk175_31, bk175_57, bk175_67, bk175_82, bk175_85, bk175_87, bk175_97, bk175_129, bk175_158, bk175_161, bk175_200, bk175_208, bk175_210, bk175_218, bk175_235, bk175_265, bk175_271, bk175_277, U_iconst, U_istore_n, U_iload_n, U_aload_n, U_getfield, U_icmp_ge, U_bipush, U_iadd, U_iald, U_iast, U_iinc, U_goto, U_isub, U_invokevirtual2, U_putfield, U_icmp_eq, U_icmp_ne, U_ireturn, U_imul, U_irem, U_if_le, U_idiv, U_invokevirtual0, U_dup, UN_cc, UN_cn, UN_nc, UN_nn, UJ, lget, lset, lset2, entL, wsm, wcat, Option.toList_some, Option.toList_none, List.cons_append, List.nil_append, List.mem_cons, List.not_mem_nil, Prod.mk.injEq, or_false, false_or, or_true, true_or, and_true, true_and, and_false, false_and, and_self, ne_eq, not_false_eq_true, not_true_eq_false, forall_const, true_implies, false_implies, Nat.add_zero, Nat.zero_add, Nat.le_refl, Nat.zero_le, List.set_cons_zero, List.set_cons_succ, List.set_nil, ↓reduceIte, Nat.reduceAdd, Nat.reduceSub, Nat.reduceEqDiff, Nat.reduceLeDiff, Int.reduceEq, Int.reduceNe, Int.reduceNeg, reduceCtorEq, kd190, hMi.2.2.1]
    exact ⟨rr (by omega), fun h => absurd h (by omega), fun _ => hQ Ni hF hm hA _⟩
  | succ n ih =>
    intro y Ni hy hF hm hA
    have hMi := hM.fm hF ok_pt (by decide) (by decide) (by decide)
    have hev := pev_rg hp f x
    have hlen : (ptl f x ++ rowP p (pev f x) x y).length ≤ 26 := by
      rw [List.length_append]
      have a1 := ptl_le hp f x
      have a2 := rowY2 hp hev.1 hev.2
      have a3 := rowY_le p (pev f x) (show y ≤ p.toNat by omega)
      have a4 : (rowP p (pev f x) x y).length = (rowY p (pev f x) y).length := List.length_map ..
      omega
    have hyy := sq_le hp (v := (y : Int)) (by omega)
    have m3 := Int.emod_nonneg ((y : Int) * y) (b := p) (by omega)
    have m4 := Int.emod_lt_of_pos ((y : Int) * y) (b := p) (by omega)
    have es := rowP_s p (pev f x) x y
    generalize hLL : ptl f x ++ rowP p (pev f x) x y = LL at *
    refine WP.run [(175, 200), (175, 210)] [] 90 ?_
    simp only [bk175_0, bk175_2, bk175_10, bk175_31, bk175_57, bk175_67, bk175_82, bk175_85, bk175_87, bk175_97, bk175_129, bk175_158, bk175_161, bk175_200, bk175_208, bk175_210, bk175_218, bk175_235, bk175_265, bk175_271, bk175_277, U_iconst, U_istore_n, U_iload_n, U_aload_n, U_getfield, U_icmp_ge, U_bipush, U_iadd, U_iald, U_iast, U_iinc, U_goto, U_isub, U_invokevirtual2, U_putfield, U_icmp_eq, U_icmp_ne, U_ireturn, U_imul, U_irem, U_if_le, U_idiv, U_invokevirtual0, U_dup, UN_cc, UN_cn, UN_nc, UN_nn, UJ, lget, lset, lset2, entL, wsm, wcat, Option.toList_some, Option.toList_none, List.cons_append, List.nil_append, List.mem_cons, List.not_mem_nil, Prod.mk.injEq, or_false, false_or, or_true, true_or, and_true, true_and, and_false, false_and, and_self, ne_eq, not_false_eq_true, not_true_eq_false, forall_const, true_implies, false_implies, Nat.add_zero, Nat.zero_add, Nat.le_refl, Nat.zero_le, List.set_cons_zero, List.set_cons_succ, List.set_nil, ↓reduceIte, Nat.reduceAdd, Nat.reduceSub, Nat.reduceEqDiff, Nat.reduceLeDiff, Int.reduceEq, Int.reduceNe, Int.reduceNeg, reduceCtorEq, kd190, hMi.2.2.1]
    rw [tm_nn hyy.1]
    refine ⟨rr (by omega), fun _ => ⟨r3 (by omega), r3 (by omega), by omega, ?_⟩, fun h => absurd (by omega) h⟩
    refine m_val hMi h0 (by omega) (by omega) ?_
    simp only [bk175_0, bk175_2, bk175_10, bk175_31, bk175_57, bk175_67, bk175_82, bk175_85, bk175_87, bk175_97, bk175_129, bk175_158, bk175_161, bk175_200, bk175_208, bk175_210, bk175_218, bk175_235, bk175_265, bk175_271, bk175_277, U_iconst, U_istore_n, U_iload_n, U_aload_n, U_getfield, U_icmp_ge, U_bipush, U_iadd, U_iald, U_iast, U_iinc, U_goto, U_isub, U_invokevirtual2, U_putfield, U_icmp_eq, U_icmp_ne, U_ireturn, U_imul, U_irem, U_if_le, U_idiv, U_invokevirtual0, U_dup, UN_cc, UN_cn, UN_nc, UN_nn, UJ, lget, lset, lset2, entL, wsm, wcat, Option.toList_some, Option.toList_none, List.cons_append, List.nil_append, List.mem_cons, List.not_mem_nil, Prod.mk.injEq, or_false, false_or, or_true, true_or, and_true, true_and, and_false, false_and, and_self, ne_eq, not_false_eq_true, not_true_eq_false, forall_const, true_implies, false_implies, Nat.add_zero, Nat.zero_add, Nat.le_refl, Nat.zero_le, List.set_cons_zero, List.set_cons_succ, List.set_nil, ↓reduceIte, Nat.reduceAdd, Nat.reduceSub, Nat.reduceEqDiff, Nat.reduceLeDiff, Int.reduceEq, Int.reduceNe, Int.reduceNeg, reduceCtorEq, kd190, kd192, kd193, ln192, ln193, ust_r, z190_6 hMi.1, z190_7 hMi.1, hm]
    refine ⟨rr (by omega), fun e => ?_, fun e => ?_⟩
    · repeat (first | refine And.intro (by first | omega | exact not_false) ?_ | refine And.intro (rr (by omega)) ?_ | refine And.intro (r3 (by omega)) ?_ | refine And.intro (r6 (by omega)) ?_)
      have e2 : LL ++ [((x : Int), (y : Int))] = ptl f x ++ rowP p (pev f x) x (y + 1) := by
        rw [es, if_pos e, ← List.append_assoc, hLL]
      have F2 := ((hF.us (b := 192) ((LL.length : Int) + 1) (x : Int) (by simp) (by decide)).us (b := 193) ((LL.length : Int) + 1) (y : Int) (by simp) (by decide)).uf (i := 5) ((LL.length : Int) + 1 + 1) (by simp)
      refine ih (y + 1) _ (by omega) F2 ?_ ?_
      · rw [ust_at, if_pos rfl, ← e2, List.length_append]; simp
      · rw [← e2]
        refine PtA.push hA (fun j hj => ⟨?_, ?_⟩) ?_ ?_
        · rw [ust_ne (by decide), ust_ne (by decide), ust_at, if_neg hj]
        · rw [ust_ne (by decide), ust_at, if_neg hj, ust_ne (by decide)]
        · rw [ust_ne (by decide), ust_ne (by decide), ust_at, if_pos rfl]
        · rw [ust_ne (by decide), ust_at, if_pos rfl]
    · have e2 : LL = ptl f x ++ rowP p (pev f x) x (y + 1) := by
        rw [es, if_neg e, List.append_nil, hLL]
      rw [e2] at hm hA
      exact ih (y + 1) Ni (by omega) hF hm hA
set_option maxHeartbeats 16000000 in
theorem l_cpX {p : Int} {N : Mem} {μ : Int → Option (Pz p)} {Q : Post} {f : Pz p} (hM : MT p N μ) (h0 : μ 0 = some f) (hQ : ∀ N', FM [192, 193] [5] N N' → N' 190 5 = ((ptl f p.toNat).length : Int) + 1 → PtA N' 192 193 (ptl f p.toNat) → Q (some (0, N' 190 2)) NN N') :
    ∀ (n x : Nat) (y : V) (Ni : Mem), (x : Int) + n = p → FM [192, 193] [5] N Ni → Ni 190 5 = ((ptl f x).length : Int) + 1 → PtA Ni 192 193 (ptl f x) → WP 175 (0, 0) 200 [(2, 190), (0, (x : Int)), y] [] NN Ni Q := by
  have hp := hM.2.1
  have hpp := hp.pos
  intro n
  induction n with
  | zero =>
    intro x y Ni hx hF hm hA
    have e : x = p.toNat := by omega
    subst e
    have hMi := hM.fm hF ok_pt (by decide) (by decide) (by decide)
    refine WP.run [(175, 200), (175, 210)] [] 60 ?_
    simp only [bk175_0, bk175_2, bk175_10, bk175_31, bk175_57, bk175_67, bk175_82, bk175_85, bk175_87, bk175_97, bk175_129, bk175_158, bk175_161, bk175_200, bk175_208, bk175_210, bk175_218, bk175_235, bk175_265, bk175_271, bk175_277, U_iconst, U_istore_n, U_iload_n, U_aload_n, U_getfield, U_icmp_ge, U_bipush, U_iadd, U_iald, U_iast, U_iinc, U_goto, U_isub, U_invokevirtual2, U_putfield, U_icmp_eq, U_icmp_ne, U_ireturn, U_imul, U_irem, U_if_le, U_idiv, U_invokevirtual0, U_dup, UN_cc, UN_cn, UN_nc, UN_nn, UJ, lget, lset, lset2, entL, wsm, wcat, Option.toList_some, Option.toList_none, List.cons_append, List.nil_append, List.mem_cons, List.not_mem_nil, Prod.mk.injEq, or_false, false_or, or_true, true_or, and_true, true_and, and_false, false_and, and_self, ne_eq, not_false_eq_true, not_true_eq_false, forall_const, true_implies, false_implies, Nat.add_zero, Nat.zero_add, Nat.le_refl, Nat.zero_le, List.set_cons_zero, List.set_cons_succ, List.set_nil, ↓reduceIte, Nat.reduceAdd, Nat.reduceSub, Nat.reduceEqDiff, Nat.reduceLeDiff, Int.reduceEq, Int.reduceNe, Int.reduceNeg, reduceCtorEq, kd190, hMi.2.2.1]
    exact ⟨rr (by omega), fun h => absurd h (by omega), fun _ => hQ Ni hF hm hA⟩
  | succ n ih =>
    intro x y Ni hx hF hm hA
    have hMi := hM.fm hF ok_pt (by decide) (by decide) (by decide)
    refine WP.run [(175, 200), (175, 210)] [] 60 ?_
    simp only [bk175_0, bk175_2, bk175_10, bk175_31, bk175_57, bk175_67, bk175_82, bk175_85, bk175_87, bk175_97, bk175_129, bk175_158, bk175_161, bk175_200, bk175_208, bk175_210, bk175_218, bk175_235, bk175_265, bk175_271, bk175_277, U_iconst, U_istore_n, U_iload_n, U_aload_n, U_getfield, U_icmp_ge, U_bipush, U_iadd, U_iald, U_iast, U_iinc, U_goto, U_isub, U_invokevirtual2, U_putfield, U_icmp_eq, U_icmp_ne, U_ireturn, U_imul, U_irem, U_if_le, U_idiv, U_invokevirtual0, U_dup, UN_cc, UN_cn, UN_nc, UN_nn, UJ, lget, lset, lset2, entL, wsm, wcat, Option.toList_some, Option.toList_none, List.cons_append, List.nil_append, List.mem_cons, List.not_mem_nil, Prod.mk.injEq, or_false, false_or, or_true, true_or, and_true, true_and, and_false, false_and, and_self, ne_eq, not_false_eq_true, not_true_eq_false, forall_const, true_implies, false_implies, Nat.add_zero, Nat.zero_add, Nat.le_refl, Nat.zero_le, List.set_cons_zero, List.set_cons_succ, List.set_nil, ↓reduceIte, Nat.reduceAdd, Nat.reduceSub, Nat.reduceEqDiff, Nat.reduceLeDiff, Int.reduceEq, Int.reduceNe, Int.reduceNeg, reduceCtorEq, kd190, hMi.2.2.1]
    refine ⟨rr (by omega), fun _ => ?_, fun h => absurd (by omega) h⟩
    exact l_cpY (N := N) (f := f) (x := x) hM h0 (by omega) (fun N' k1 k2 k3 y => ih (x + 1) _ N' (by omega) k1 k2 k3) p.toNat 0 Ni (by omega) hF (by show _ = ((ptl f x ++ []).length : Int) + 1; rw [List.append_nil]; exact hm) (by show PtA Ni 192 193 (ptl f x ++ []); rw [List.append_nil]; exact hA)
set_option maxHeartbeats 16000000 in
/-- the row laid into the pool -/
theorem l_cuR {p : Int} {N : Mem} {μ : Int → Option (Pz p)} {Q : Post} {pu : List Int} (hM : MT p N μ) (hpu : pu.length ≤ 6 ∧ ∀ v ∈ pu, 0 ≤ v ∧ v < p) (h4 : N 190 4 = (pu.length : Int)) (hr : ∀ (i : Nat) (v : Int), pu[i]? = some v → N 191 (i : Int) = v) (hQ : ∀ N', MT p N' (fgt μ 1) → FM [198] [] N N' → (∀ j : Nat, j < pu.length → N' 198 (24 + (j : Int)) = pu.getD j 0) → WP 175 (0, 0) 31 [(2, 190), (0, (pu.length : Int)), (9, 0)] [] NN N' Q) :
    ∀ (n k : Nat) (Ni : Mem), k + n = pu.length → MT p Ni (fgt μ 1) → FM [198] [] N Ni → (∀ j : Nat, j < k → Ni 198 (24 + (j : Int)) = pu.getD j 0) → WP 175 (0, 0) 2 [(2, 190), (0, (k : Int)), (9, 0)] [] NN Ni Q := by
  have hp := hM.2.1
  have hpp := hp.pos
  have hat := pzU_at hp hpu.2
  intro n
  induction n with
  | zero =>
    intro k Ni hk hMi hF hA
    obtain rfl : k = pu.length := by omega
    have e4 : Ni 190 4 = (pu.length : Int) := by rw [hF.2 4 (by decide)]; exact h4
    refine WP.run [(175, 2), (175, 31)] [] 60 ?_
    simp only [bk175_0, bk175_2, bk175_10, bk175_31, bk175_57, bk175_67, bk175_82, bk175_85, bk175_87, bk175_97, bk175_129, bk175_158, bk175_161, bk175_200, bk175_208, bk175_210, bk175_218, bk175_235, bk175_265, bk175_271, bk175_277, U_iconst, U_istore_n, U_iload_n, U_aload_n, U_getfield, U_icmp_ge, U_bipush, U_iadd, U_iald, U_iast, U_iinc, U_goto, U_isub, U_invokevirtual2, U_putfield, U_icmp_eq, U_icmp_ne, U_ireturn, U_imul, U_irem, U_if_le, U_idiv, U_invokevirtual0, U_dup, UN_cc, UN_cn, UN_nc, UN_nn, UJ, lget, lset, lset2, entL, wsm, wcat, Option.toList_some, Option.toList_none, List.cons_append, List.nil_append, List.mem_cons, List.not_mem_nil, Prod.mk.injEq, or_false, false_or, or_true, true_or, and_true, true_and, and_false, false_and, and_self, ne_eq, not_false_eq_true, not_true_eq_false, forall_const, true_implies, false_implies, Nat.add_zero, Nat.zero_add, Nat.le_refl, Nat.zero_le, List.set_cons_zero, List.set_cons_succ, List.set_nil, ↓reduceIte, Nat.reduceAdd, Nat.reduceSub, Nat.reduceEqDiff, Nat.reduceLeDiff, Int.reduceEq, Int.reduceNe, Int.reduceNeg, reduceCtorEq, kd190, e4]
    exact ⟨rr (by omega), fun e => absurd e (by omega), fun _ => hQ Ni hMi hF hA⟩
  | succ n ih =>
    intro k Ni hk hMi hF hA
    have e4 : Ni 190 4 = (pu.length : Int) := by rw [hF.2 4 (by decide)]; exact h4
    have hkl : k < pu.length := by omega
    have hv : Ni 191 (k : Int) = pu.getD k 0 := by
      rw [hF.1 191 (by decide) (by decide), List.getD_eq_getElem?_getD]
      rw [List.getElem?_eq_getElem hkl]
      exact hr k _ (List.getElem?_eq_getElem hkl)
    refine WP.run [(175, 2), (175, 31)] [] 60 ?_
    simp only [bk175_0, bk175_2, bk175_10, bk175_31, bk175_57, bk175_67, bk175_82, bk175_85, bk175_87, bk175_97, bk175_129, bk175_158, bk175_161, bk175_200, bk175_208, bk175_210, bk175_218, bk175_235, bk175_265, bk175_271, bk175_277, U_iconst, U_istore_n, U_iload_n, U_aload_n, U_getfield, U_icmp_ge, U_bipush, U_iadd, U_iald, U_iast, U_iinc, U_goto, U_isub, U_invokevirtual2, U_putfield, U_icmp_eq, U_icmp_ne, U_ireturn, U_imul, U_irem, U_if_le, U_idiv, U_invokevirtual0, U_dup, UN_cc, UN_cn, UN_nc, UN_nn, UJ, lget, lset, lset2, entL, wsm, wcat, Option.toList_some, Option.toList_none, List.cons_append, List.nil_append, List.mem_cons, List.not_mem_nil, Prod.mk.injEq, or_false, false_or, or_true, true_or, and_true, true_and, and_false, false_and, and_self, ne_eq, not_false_eq_true, not_true_eq_false, forall_const, true_implies, false_implies, Nat.add_zero, Nat.zero_add, Nat.le_refl, Nat.zero_le, List.set_cons_zero, List.set_cons_succ, List.set_nil, ↓reduceIte, Nat.reduceAdd, Nat.reduceSub, Nat.reduceEqDiff, Nat.reduceLeDiff, Int.reduceEq, Int.reduceNe, Int.reduceNeg, reduceCtorEq, kd190, kd191, kd198, ln191, ln198, z190_3 hMi.1, z190_12 hMi.1, e4, hv]
    refine ⟨rr (by omega), fun _ => ?_, fun e => absurd (by omega) e⟩
    repeat (first | refine And.intro (by first | omega | exact not_false) ?_ | refine And.intro (rr (by omega)) ?_ | refine And.intro (r3 (by omega)) ?_ | refine And.intro (r6 (by omega)) ?_)
    refine ih (k + 1) _ (by omega) (hMi.us (fgt_e μ 1) (k := (k : Int)) (by omega) (by omega) (by omega)) (hF.us _ _ (by simp) (by decide)) (fun j hj => ?_)
    rw [ust_at]
    by_cases c : j = k
    · rw [if_pos (by omega), c]
    · rw [if_neg (by omega)]; exact hA j (by omega)
set_option maxHeartbeats 16000000 in
/-- what comes of it by deriving -/
theorem l_cuD {p : Int} {N : Mem} {μ : Int → Option (Pz p)} {Q : Post} {A : Pz p} {y : V} (hM : MT p N μ) (h1 : μ 1 = some A) (hd : dg A = 4 ∨ dg A = 6) (hQ : ∀ N' k, MT p N' (fgt μ 2) → FM [198] [] N N' → (∀ j : Nat, j < dg A - 1 → N' 198 (48 + (j : Int)) = (pder A).1 j) → WP 175 (0, 0) 129 [(2, 190), (0, k), y] [] NN N' Q) :
    ∀ (n k : Nat) (Ni : Mem), k + n = dg A - 1 → MT p Ni (fgt μ 2) → FM [198] [] N Ni → (∀ j : Nat, j < k → Ni 198 (48 + (j : Int)) = (pder A).1 j) → WP 175 (0, 0) 87 [(2, 190), (0, (k : Int)), y] [] NN Ni Q := by
  have hp := hM.2.1
  have hpp := hp.pos
  have hdd := dg_der A
  intro n
  induction n with
  | zero =>
    intro k Ni hk hMi hF hA
    obtain rfl : k = dg A - 1 := by omega
    have f1 : fgt μ 2 1 = some A := by rw [fgt_n (by omega)]; exact h1
    obtain ⟨p1, p2, p3, p4, p5⟩ := hMi.2.2.2.2 1 A f1
    refine WP.run [(175, 87), (175, 129)] [] 60 ?_
    simp only [bk175_0, bk175_2, bk175_10, bk175_31, bk175_57, bk175_67, bk175_82, bk175_85, bk175_87, bk175_97, bk175_129, bk175_158, bk175_161, bk175_200, bk175_208, bk175_210, bk175_218, bk175_235, bk175_265, bk175_271, bk175_277, U_iconst, U_istore_n, U_iload_n, U_aload_n, U_getfield, U_icmp_ge, U_bipush, U_iadd, U_iald, U_iast, U_iinc, U_goto, U_isub, U_invokevirtual2, U_putfield, U_icmp_eq, U_icmp_ne, U_ireturn, U_imul, U_irem, U_if_le, U_idiv, U_invokevirtual0, U_dup, UN_cc, UN_cn, UN_nc, UN_nn, UJ, lget, lset, lset2, entL, wsm, wcat, Option.toList_some, Option.toList_none, List.cons_append, List.nil_append, List.mem_cons, List.not_mem_nil, Prod.mk.injEq, or_false, false_or, or_true, true_or, and_true, true_and, and_false, false_and, and_self, ne_eq, not_false_eq_true, not_true_eq_false, forall_const, true_implies, false_implies, Nat.add_zero, Nat.zero_add, Nat.le_refl, Nat.zero_le, List.set_cons_zero, List.set_cons_succ, List.set_nil, ↓reduceIte, Nat.reduceAdd, Nat.reduceSub, Nat.reduceEqDiff, Nat.reduceLeDiff, Int.reduceEq, Int.reduceNe, Int.reduceNeg, reduceCtorEq, kd190, kd199, ln199, z190_13 hMi.1, p4]
    exact ⟨by omega, by omega, rr (by omega), fun e => absurd e (by omega), fun _ => hQ Ni _ hMi hF hA⟩
  | succ n ih =>
    intro k Ni hk hMi hF hA
    have f1 : fgt μ 2 1 = some A := by rw [fgt_n (by omega)]; exact h1
    obtain ⟨p1, p2, p3, p4, p5⟩ := hMi.2.2.2.2 1 A f1
    have ha := pz_rg hp A (k + 1)
    have b := ab_mul (A := 13) (B := 6) (a := A.1 (k + 1)) (b := (k : Int) + 1) (by omega) (by omega)
    have b0 : 0 ≤ A.1 (k + 1) * ((k : Int) + 1) := Int.mul_nonneg ha.1 (by omega)
    have ed : (pder A).1 k = A.1 (k + 1) * ((k : Int) + 1) % p := by rw [pder_c, Int.mul_comm]
    refine WP.run [(175, 87), (175, 129)] [] 60 ?_
    simp only [bk175_0, bk175_2, bk175_10, bk175_31, bk175_57, bk175_67, bk175_82, bk175_85, bk175_87, bk175_97, bk175_129, bk175_158, bk175_161, bk175_200, bk175_208, bk175_210, bk175_218, bk175_235, bk175_265, bk175_271, bk175_277, U_iconst, U_istore_n, U_iload_n, U_aload_n, U_getfield, U_icmp_ge, U_bipush, U_iadd, U_iald, U_iast, U_iinc, U_goto, U_isub, U_invokevirtual2, U_putfield, U_icmp_eq, U_icmp_ne, U_ireturn, U_imul, U_irem, U_if_le, U_idiv, U_invokevirtual0, U_dup, UN_cc, UN_cn, UN_nc, UN_nn, UJ, lget, lset, lset2, entL, wsm, wcat, Option.toList_some, Option.toList_none, List.cons_append, List.nil_append, List.mem_cons, List.not_mem_nil, Prod.mk.injEq, or_false, false_or, or_true, true_or, and_true, true_and, and_false, false_and, and_self, ne_eq, not_false_eq_true, not_true_eq_false, forall_const, true_implies, false_implies, Nat.add_zero, Nat.zero_add, Nat.le_refl, Nat.zero_le, List.set_cons_zero, List.set_cons_succ, List.set_nil, ↓reduceIte, Nat.reduceAdd, Nat.reduceSub, Nat.reduceEqDiff, Nat.reduceLeDiff, Int.reduceEq, Int.reduceNe, Int.reduceNeg, reduceCtorEq, kd190, kd198, kd199, ln198, ln199, z190_12 hMi.1, z190_13 hMi.1, p4, hMi.2.2.1]
    refine ⟨by omega, by omega, rr (by omega), fun _ => ?_, fun e => absurd (by omega) e⟩
    refine m_get hMi f1 (r3 (by omega)) ?_
    rw [if_pos (by omega), show ((k : Int) + 1).toNat = k + 1 by omega]
    simp only [bk175_0, bk175_2, bk175_10, bk175_31, bk175_57, bk175_67, bk175_82, bk175_85, bk175_87, bk175_97, bk175_129, bk175_158, bk175_161, bk175_200, bk175_208, bk175_210, bk175_218, bk175_235, bk175_265, bk175_271, bk175_277, U_iconst, U_istore_n, U_iload_n, U_aload_n, U_getfield, U_icmp_ge, U_bipush, U_iadd, U_iald, U_iast, U_iinc, U_goto, U_isub, U_invokevirtual2, U_putfield, U_icmp_eq, U_icmp_ne, U_ireturn, U_imul, U_irem, U_if_le, U_idiv, U_invokevirtual0, U_dup, UN_cc, UN_cn, UN_nc, UN_nn, UJ, lget, lset, lset2, entL, wsm, wcat, Option.toList_some, Option.toList_none, List.cons_append, List.nil_append, List.mem_cons, List.not_mem_nil, Prod.mk.injEq, or_false, false_or, or_true, true_or, and_true, true_and, and_false, false_and, and_self, ne_eq, not_false_eq_true, not_true_eq_false, forall_const, true_implies, false_implies, Nat.add_zero, Nat.zero_add, Nat.le_refl, Nat.zero_le, List.set_cons_zero, List.set_cons_succ, List.set_nil, ↓reduceIte, Nat.reduceAdd, Nat.reduceSub, Nat.reduceEqDiff, Nat.reduceLeDiff, Int.reduceEq, Int.reduceNe, Int.reduceNeg, reduceCtorEq, kd190, kd198, ln198, hMi.2.2.1]
    rw [tm_nn b0]
    repeat (first | refine And.intro (by first | omega | exact not_false) ?_ | refine And.intro (rr (by omega)) ?_ | refine And.intro (r3 (by omega)) ?_ | refine And.intro (r6 (by omega)) ?_)
    refine ih (k + 1) _ (by omega) (hMi.us (fgt_e μ 2) (k := (k : Int)) (by omega) (by omega) (by omega)) (hF.us _ _ (by simp) (by decide)) (fun j hj => ?_)
    rw [ust_at]
    by_cases c : j = k
    · rw [if_pos (by omega), c, ed]
    · rw [if_neg (by omega)]; exact hA j (by omega)
set_option maxHeartbeats 16000000 in
theorem q_curve {p : Int} {g : Nat} {f : Pz p} {pu : List Int} {rg : Nat → Pz p × Pz p} {A tl : Nat → Int} {E : Nat → Nat} {N : Mem} {Q : Post} (h : MS g f pu rg A tl E N) (V : VS g f pu rg A tl E) (hQ0 : ¬ Fit (pzU p pu) → ∀ N', MS g f [] rg A tl E N' → clF N N' → Q (some (0, -3)) NN N')
    (hQ1 : Fit (pzU p pu) → ∀ N', MS (dg (pzU p pu) / 2 - 1) (pzU p pu) [] (fun _ => (pC p 1, pC p 0)) (fun _ => 0) tl E N' → clF N N' → Q (some (0, ((dg (pzU p pu) / 2 - 1 : Nat) : Int))) NN N') : CL 175 [(2, 190), (9, 0), (9, 0)] NN N Q := by
  have hp := V.1
  have hpp := hp.pos
  have hpu := V.2.2.1
  have hS := h
  obtain ⟨⟨μ, hM, h0⟩, a1, ⟨h4, hr⟩, a3, a4, a5, a6, a7, a8⟩ := h
  generalize hAA : pzU p pu = U at *
  have U6 : dg U ≤ 6 := by
    rw [← hAA]
    refine dg_le fun k hk => ?_
    rw [pzU_at hp hpu.2, List.getD_eq_getElem?_getD, List.getElem?_eq_none (by omega)]; rfl
  -- no curve
  have no : ¬ Fit U → ∀ (Nj : Mem) (μj : Int → Option (Pz p)), MT p Nj μj → FM [198, 199] [4] N Nj → (∀ r, r = 0 → μj r = μ r) → Nj 190 4 = 0 → Q (some (0, -3)) NN Nj := fun hf Nj μj Mj Fj ej e4 =>
    hQ0 hf Nj (hS.nil Fj ⟨μj, Mj, fun hg => by rw [ej 0 rfl]; exact h0 hg⟩ e4) (Fj.cl rfl)
  have hat := pzU_at hp hpu.2
  rw [hAA] at hat
  refine WP.run [(175, 2)] [] 60 ?_
  simp only [bk175_0, bk175_2, bk175_10, bk175_31, bk175_57, bk175_67, bk175_82, bk175_85, bk175_87, bk175_97, bk175_129, bk175_158, bk175_161, bk175_200, bk175_208, bk175_210, bk175_218, bk175_235, bk175_265, bk175_271, bk175_277, U_iconst, U_istore_n, U_iload_n, U_aload_n, U_getfield, U_icmp_ge, U_bipush, U_iadd, U_iald, U_iast, U_iinc, U_goto, U_isub, U_invokevirtual2, U_putfield, U_icmp_eq, U_icmp_ne, U_ireturn, U_imul, U_irem, U_if_le, U_idiv, U_invokevirtual0, U_dup, UN_cc, UN_cn, UN_nc, UN_nn, UJ, lget, lset, lset2, entL, wsm, wcat, Option.toList_some, Option.toList_none, List.cons_append, List.nil_append, List.mem_cons, List.not_mem_nil, Prod.mk.injEq, or_false, false_or, or_true, true_or, and_true, true_and, and_false, false_and, and_self, ne_eq, not_false_eq_true, not_true_eq_false, forall_const, true_implies, false_implies, Nat.add_zero, Nat.zero_add, Nat.le_refl, Nat.zero_le, List.set_cons_zero, List.set_cons_succ, List.set_nil, ↓reduceIte, Nat.reduceAdd, Nat.reduceSub, Nat.reduceEqDiff, Nat.reduceLeDiff, Int.reduceEq, Int.reduceNe, Int.reduceNeg, reduceCtorEq]
  refine l_cuR (N := N) (pu := pu) hM hpu h4 hr (fun N0 M0 F0 A0 => ?_) pu.length 0 N (by omega) (hM.fg 1) (FM.rf _ _ _) (fun j hj => by omega)
  have e4 : N0 190 4 = (pu.length : Int) := by rw [F0.2 4 (by decide)]; exact h4
  refine WP.run [(175, 67), (175, 85)] [] 90 ?_
  simp only [bk175_0, bk175_2, bk175_10, bk175_31, bk175_57, bk175_67, bk175_82, bk175_85, bk175_87, bk175_97, bk175_129, bk175_158, bk175_161, bk175_200, bk175_208, bk175_210, bk175_218, bk175_235, bk175_265, bk175_271, bk175_277, U_iconst, U_istore_n, U_iload_n, U_aload_n, U_getfield, U_icmp_ge, U_bipush, U_iadd, U_iald, U_iast, U_iinc, U_goto, U_isub, U_invokevirtual2, U_putfield, U_icmp_eq, U_icmp_ne, U_ireturn, U_imul, U_irem, U_if_le, U_idiv, U_invokevirtual0, U_dup, UN_cc, UN_cn, UN_nc, UN_nn, UJ, lget, lset, lset2, entL, wsm, wcat, Option.toList_some, Option.toList_none, List.cons_append, List.nil_append, List.mem_cons, List.not_mem_nil, Prod.mk.injEq, or_false, false_or, or_true, true_or, and_true, true_and, and_false, false_and, and_self, ne_eq, not_false_eq_true, not_true_eq_false, forall_const, true_implies, false_implies, Nat.add_zero, Nat.zero_add, Nat.le_refl, Nat.zero_le, List.set_cons_zero, List.set_cons_succ, List.set_nil, ↓reduceIte, Nat.reduceAdd, Nat.reduceSub, Nat.reduceEqDiff, Nat.reduceLeDiff, Int.reduceEq, Int.reduceNe, Int.reduceNeg, reduceCtorEq, kd190, e4]
  refine m_trim (a := 1) (b := (pu.length : Int) - 1) (A := U) M0 (by omega) (by omega) (by omega) (by omega) (fun k hk => ?_) (fun k hk => ?_) fun N1 M1 F1 _ => ?_
  · rw [show 24 * (1 : Int) + (k : Int) = 24 + (k : Int) by omega, A0 k (by omega), hat]
  · rw [hat, List.getD_eq_getElem?_getD, List.getElem?_eq_none (by omega)]; rfl
  rw [upq_fgt] at M1
  obtain ⟨μ1, M1, u1, u0⟩ := M1.op1
  have F2 : FM [] [4] N1 (ust N1 190 4 0) := (FM.rf _ _ _).uf _ (by simp)
  have M2 := M1.fm F2 (fzk rfl rfl) (by simp) (by simp) (by decide)
  have FF : FM [198, 199] [4] N (ust N1 190 4 0) := (F0.mo rfl rfl).tr ((F1.fm.mo rfl rfl).tr (F2.mo rfl rfl))
  have g4 : ust N1 190 4 0 190 4 = 0 := by rw [ust_at, if_pos rfl]
  simp only [bk175_0, bk175_2, bk175_10, bk175_31, bk175_57, bk175_67, bk175_82, bk175_85, bk175_87, bk175_97, bk175_129, bk175_158, bk175_161, bk175_200, bk175_208, bk175_210, bk175_218, bk175_235, bk175_265, bk175_271, bk175_277, U_iconst, U_istore_n, U_iload_n, U_aload_n, U_getfield, U_icmp_ge, U_bipush, U_iadd, U_iald, U_iast, U_iinc, U_goto, U_isub, U_invokevirtual2, U_putfield, U_icmp_eq, U_icmp_ne, U_ireturn, U_imul, U_irem, U_if_le, U_idiv, U_invokevirtual0, U_dup, UN_cc, UN_cn, UN_nc, UN_nn, UJ, lget, lset, lset2, entL, wsm, wcat, Option.toList_some, Option.toList_none, List.cons_append, List.nil_append, List.mem_cons, List.not_mem_nil, Prod.mk.injEq, or_false, false_or, or_true, true_or, and_true, true_and, and_false, false_and, and_self, ne_eq, not_false_eq_true, not_true_eq_false, forall_const, true_implies, false_implies, Nat.add_zero, Nat.zero_add, Nat.le_refl, Nat.zero_le, List.set_cons_zero, List.set_cons_succ, List.set_nil, ↓reduceIte, Nat.reduceAdd, Nat.reduceSub, Nat.reduceEqDiff, Nat.reduceLeDiff, Int.reduceEq, Int.reduceNe, Int.reduceNeg, reduceCtorEq, kd190]
  generalize ust N1 190 4 0 = N2 at M2 FF g4 ⊢
  obtain ⟨p1, p2, p3, p4, p5⟩ := M2.2.2.2.2 1 U u1
  -- behind the tests of the degree
  have go : (dg U = 4 ∨ dg U = 6) → U.1 (dg U - 1) = 1 → ∀ k y, WP 175 (0, 0) 85 [(2, 190), (0, k), y] [] NN N2 Q := fun hd htop k y => by
    refine WP.run [(175, 87)] [] 60 ?_
    simp only [bk175_0, bk175_2, bk175_10, bk175_31, bk175_57, bk175_67, bk175_82, bk175_85, bk175_87, bk175_97, bk175_129, bk175_158, bk175_161, bk175_200, bk175_208, bk175_210, bk175_218, bk175_235, bk175_265, bk175_271, bk175_277, U_iconst, U_istore_n, U_iload_n, U_aload_n, U_getfield, U_icmp_ge, U_bipush, U_iadd, U_iald, U_iast, U_iinc, U_goto, U_isub, U_invokevirtual2, U_putfield, U_icmp_eq, U_icmp_ne, U_ireturn, U_imul, U_irem, U_if_le, U_idiv, U_invokevirtual0, U_dup, UN_cc, UN_cn, UN_nc, UN_nn, UJ, lget, lset, lset2, entL, wsm, wcat, Option.toList_some, Option.toList_none, List.cons_append, List.nil_append, List.mem_cons, List.not_mem_nil, Prod.mk.injEq, or_false, false_or, or_true, true_or, and_true, true_and, and_false, false_and, and_self, ne_eq, not_false_eq_true, not_true_eq_false, forall_const, true_implies, false_implies, Nat.add_zero, Nat.zero_add, Nat.le_refl, Nat.zero_le, List.set_cons_zero, List.set_cons_succ, List.set_nil, ↓reduceIte, Nat.reduceAdd, Nat.reduceSub, Nat.reduceEqDiff, Nat.reduceLeDiff, Int.reduceEq, Int.reduceNe, Int.reduceNeg, reduceCtorEq]
    refine l_cuD (N := N2) (A := U) M2 u1 hd (fun N3 k M3 F3 A3 => ?_) (dg U - 1) 0 N2 (by omega) (M2.fg 2) (FM.rf _ _ _) (fun j hj => by omega)
    have hdd := dg_der U
    have f1 : fgt μ1 2 1 = some U := by rw [fgt_n (by omega)]; exact u1
    obtain ⟨q1, q2, q3, q4, q5⟩ := M3.2.2.2.2 1 U f1
    refine WP.run [(175, 200)] [] 120 ?_
    simp only [bk175_0, bk175_2, bk175_10, bk175_31, bk175_57, bk175_67, bk175_82, bk175_85, bk175_87, bk175_97, bk175_129, bk175_158, bk175_161, bk175_200, bk175_208, bk175_210, bk175_218, bk175_235, bk175_265, bk175_271, bk175_277, U_iconst, U_istore_n, U_iload_n, U_aload_n, U_getfield, U_icmp_ge, U_bipush, U_iadd, U_iald, U_iast, U_iinc, U_goto, U_isub, U_invokevirtual2, U_putfield, U_icmp_eq, U_icmp_ne, U_ireturn, U_imul, U_irem, U_if_le, U_idiv, U_invokevirtual0, U_dup, UN_cc, UN_cn, UN_nc, UN_nn, UJ, lget, lset, lset2, entL, wsm, wcat, Option.toList_some, Option.toList_none, List.cons_append, List.nil_append, List.mem_cons, List.not_mem_nil, Prod.mk.injEq, or_false, false_or, or_true, true_or, and_true, true_and, and_false, false_and, and_self, ne_eq, not_false_eq_true, not_true_eq_false, forall_const, true_implies, false_implies, Nat.add_zero, Nat.zero_add, Nat.le_refl, Nat.zero_le, List.set_cons_zero, List.set_cons_succ, List.set_nil, ↓reduceIte, Nat.reduceAdd, Nat.reduceSub, Nat.reduceEqDiff, Nat.reduceLeDiff, Int.reduceEq, Int.reduceNe, Int.reduceNeg, reduceCtorEq, kd190, kd199, ln199, z190_13 M3.1, q4]
    repeat (first | refine And.intro (by first | omega | exact not_false) ?_ | refine And.intro (rr (by omega)) ?_ | refine And.intro (r3 (by omega)) ?_ | refine And.intro (r6 (by omega)) ?_)
    refine m_trim (a := 2) (b := (dg U : Int) - 1 - 1) (A := pder U) M3 (by omega) (by omega) (by omega) (by omega) (fun k hk => ?_) (fun k hk => ?_) fun N4 M4 F4 _ => ?_
    · rw [show 24 * (2 : Int) + (k : Int) = 48 + (k : Int) by omega, A3 k (by omega)]
    · exact dg_far _ (by omega)
    rw [upq_fgt] at M4
    obtain ⟨μ4, M4, v2, v0⟩ := M4.op1
    have v1 : μ4 1 = some U := by rw [v0 1 (by omega)]; exact u1
    simp only [bk175_0, bk175_2, bk175_10, bk175_31, bk175_57, bk175_67, bk175_82, bk175_85, bk175_87, bk175_97, bk175_129, bk175_158, bk175_161, bk175_200, bk175_208, bk175_210, bk175_218, bk175_235, bk175_265, bk175_271, bk175_277, U_iconst, U_istore_n, U_iload_n, U_aload_n, U_getfield, U_icmp_ge, U_bipush, U_iadd, U_iald, U_iast, U_iinc, U_goto, U_isub, U_invokevirtual2, U_putfield, U_icmp_eq, U_icmp_ne, U_ireturn, U_imul, U_irem, U_if_le, U_idiv, U_invokevirtual0, U_dup, UN_cc, UN_cn, UN_nc, UN_nn, UJ, lget, lset, lset2, entL, wsm, wcat, Option.toList_some, Option.toList_none, List.cons_append, List.nil_append, List.mem_cons, List.not_mem_nil, Prod.mk.injEq, or_false, false_or, or_true, true_or, and_true, true_and, and_false, false_and, and_self, ne_eq, not_false_eq_true, not_true_eq_false, forall_const, true_implies, false_implies, Nat.add_zero, Nat.zero_add, Nat.le_refl, Nat.zero_le, List.set_cons_zero, List.set_cons_succ, List.set_nil, ↓reduceIte, Nat.reduceAdd, Nat.reduceSub, Nat.reduceEqDiff, Nat.reduceLeDiff, Int.reduceEq, Int.reduceNe, Int.reduceNeg, reduceCtorEq, kd190]
    refine m_common (ra := 1) (rb := 2) M4 (by unfold mtm; omega) (by unfold mtm; omega) v1 v2 (by omega) (by omega) (by omega) fun N5 μ5 d s t M5 F5 w0 wd ws wt hb => ?_
    have hfit := fit_of hd htop hb
    have hd0 := hb.2.2.2.1.1
    obtain ⟨y1, y2, y3, y4, y5⟩ := M5.2.2.2.2 20 d wd
    have F6 : FM [198, 199] [4] N N5 := FF.tr ((F3.mo rfl rfl).tr ((F4.fm.mo rfl rfl).tr (F5.fm.mo rfl rfl)))
    have g44 : N5 190 4 = 0 := by rw [F5 190 (by decide) (by decide), F4 190 (by decide) (by decide), F3.2 4 (by simp)]; exact g4
    have e0 : ∀ r, r = 0 → μ5 r = μ r := fun r hr0 => by
      subst hr0
      rw [w0 0 (by unfold mtm; omega), v0 0 (by omega), u0 0 (by omega)]
    have e1 : μ5 1 = some U := by rw [w0 1 (by unfold mtm; omega)]; exact v1
    simp only [bk175_0, bk175_2, bk175_10, bk175_31, bk175_57, bk175_67, bk175_82, bk175_85, bk175_87, bk175_97, bk175_129, bk175_158, bk175_161, bk175_200, bk175_208, bk175_210, bk175_218, bk175_235, bk175_265, bk175_271, bk175_277, U_iconst, U_istore_n, U_iload_n, U_aload_n, U_getfield, U_icmp_ge, U_bipush, U_iadd, U_iald, U_iast, U_iinc, U_goto, U_isub, U_invokevirtual2, U_putfield, U_icmp_eq, U_icmp_ne, U_ireturn, U_imul, U_irem, U_if_le, U_idiv, U_invokevirtual0, U_dup, UN_cc, UN_cn, UN_nc, UN_nn, UJ, lget, lset, lset2, entL, wsm, wcat, Option.toList_some, Option.toList_none, List.cons_append, List.nil_append, List.mem_cons, List.not_mem_nil, Prod.mk.injEq, or_false, false_or, or_true, true_or, and_true, true_and, and_false, false_and, and_self, ne_eq, not_false_eq_true, not_true_eq_false, forall_const, true_implies, false_implies, Nat.add_zero, Nat.zero_add, Nat.le_refl, Nat.zero_le, List.set_cons_zero, List.set_cons_succ, List.set_nil, ↓reduceIte, Nat.reduceAdd, Nat.reduceSub, Nat.reduceEqDiff, Nat.reduceLeDiff, Int.reduceEq, Int.reduceNe, Int.reduceNeg, reduceCtorEq, kd190, kd199, ln199, z190_13 M5.1, y4]
    refine ⟨by omega, by omega, r3 (by omega), fun e => no (fun w => by have := hfit.mp w; omega) N5 μ5 M5 F6 e0 g44, fun e => ?_⟩
    have hF : Fit U := hfit.mpr (by omega)
    refine m_copy (t := 0) (a := 1) M5 (by omega) (by omega) (by omega) e1 fun N6 M6 F7 => ?_
    obtain ⟨μ6, M6, b0, b1⟩ := M6.op1
    obtain ⟨x1, x2, x3, x4, x5⟩ := M6.2.2.2.2 0 U b0
    have F8 : FM [198, 199] [4] N N6 := F6.tr (F7.fm.mo rfl rfl)
    have et : ((dg U : Int) - 1 - 1).tdiv 2 = ((dg U / 2 - 1 : Nat) : Int) := by rcases hd with e | e <;> rw [e] <;> rfl
    have F9 : FM [] [1, 2] N6 (ust (ust N6 190 1 ((dg U : Int) - 1)) 190 2 ((dg U / 2 - 1 : Nat) : Int)) := ((FM.rf _ _ _).uf _ (by simp)).uf _ (by simp)
    have z9 := F9.fz (fzk rfl rfl) M6.1
    simp only [bk175_0, bk175_2, bk175_10, bk175_31, bk175_57, bk175_67, bk175_82, bk175_85, bk175_87, bk175_97, bk175_129, bk175_158, bk175_161, bk175_200, bk175_208, bk175_210, bk175_218, bk175_235, bk175_265, bk175_271, bk175_277, U_iconst, U_istore_n, U_iload_n, U_aload_n, U_getfield, U_icmp_ge, U_bipush, U_iadd, U_iald, U_iast, U_iinc, U_goto, U_isub, U_invokevirtual2, U_putfield, U_icmp_eq, U_icmp_ne, U_ireturn, U_imul, U_irem, U_if_le, U_idiv, U_invokevirtual0, U_dup, UN_cc, UN_cn, UN_nc, UN_nn, UJ, lget, lset, lset2, entL, wsm, wcat, Option.toList_some, Option.toList_none, List.cons_append, List.nil_append, List.mem_cons, List.not_mem_nil, Prod.mk.injEq, or_false, false_or, or_true, true_or, and_true, true_and, and_false, false_and, and_self, ne_eq, not_false_eq_true, not_true_eq_false, forall_const, true_implies, false_implies, Nat.add_zero, Nat.zero_add, Nat.le_refl, Nat.zero_le, List.set_cons_zero, List.set_cons_succ, List.set_nil, ↓reduceIte, Nat.reduceAdd, Nat.reduceSub, Nat.reduceEqDiff, Nat.reduceLeDiff, Int.reduceEq, Int.reduceNe, Int.reduceNeg, reduceCtorEq, kd190, kd199, ln199, ust_r, z190_13 M6.1, x4, Int.reduceEq, and_false, and_true, true_and, false_and, ↓reduceIte, et]
    repeat (first | refine And.intro (by first | omega | exact not_false) ?_ | refine And.intro (rr (by omega)) ?_ | refine And.intro (r3 (by omega)) ?_ | refine And.intro (r6 (by omega)) ?_)
    refine m_clear z9 fun N7 c1 c2 c3 c4 c5 => ?_
    have FA : FM [] [5] N7 (ust N7 190 5 1) := (FM.rf _ _ _).uf _ (by simp)
    have FB : FM [194, 195] [1, 2, 5, 19, 22] N6 (ust N7 190 5 1) := (F9.mo rfl rfl).tr ((c1.mo rfl rfl).tr (FA.mo rfl rfl))
    have MA := M6.fm FB (fzk rfl rfl) (by decide) (by decide) (by decide)
    have d1 : ust N7 190 5 1 190 1 = (dg U : Int) - 1 := by rw [ust_at, if_neg (by decide), c1.2 1 (by decide), ust_at, if_neg (by decide), ust_at, if_pos rfl]
    have d2 : ust N7 190 5 1 190 2 = ((dg U / 2 - 1 : Nat) : Int) := by rw [ust_at, if_neg (by decide), c1.2 2 (by decide), ust_at, if_pos rfl]
    have d4 : ust N7 190 5 1 190 4 = 0 := by rw [FB.2 4 (by decide), F7 190 (by decide) (by decide)]; exact g44
    have d19 : ust N7 190 5 1 190 19 = 0 := by rw [ust_at, if_neg (by decide)]; exact c4
    have d22 : ust N7 190 5 1 190 22 = -1 := by rw [ust_at, if_neg (by decide)]; exact c5
    have d95 : ust N7 190 5 1 195 = N7 195 := ust_ne (by decide)
    have d94 : ust N7 190 5 1 194 = N7 194 := ust_ne (by decide)
    have d5 : ust N7 190 5 1 190 5 = 1 := by rw [ust_at, if_pos rfl]
    simp only [bk175_0, bk175_2, bk175_10, bk175_31, bk175_57, bk175_67, bk175_82, bk175_85, bk175_87, bk175_97, bk175_129, bk175_158, bk175_161, bk175_200, bk175_208, bk175_210, bk175_218, bk175_235, bk175_265, bk175_271, bk175_277, U_iconst, U_istore_n, U_iload_n, U_aload_n, U_getfield, U_icmp_ge, U_bipush, U_iadd, U_iald, U_iast, U_iinc, U_goto, U_isub, U_invokevirtual2, U_putfield, U_icmp_eq, U_icmp_ne, U_ireturn, U_imul, U_irem, U_if_le, U_idiv, U_invokevirtual0, U_dup, UN_cc, UN_cn, UN_nc, UN_nn, UJ, lget, lset, lset2, entL, wsm, wcat, Option.toList_some, Option.toList_none, List.cons_append, List.nil_append, List.mem_cons, List.not_mem_nil, Prod.mk.injEq, or_false, false_or, or_true, true_or, and_true, true_and, and_false, false_and, and_self, ne_eq, not_false_eq_true, not_true_eq_false, forall_const, true_implies, false_implies, Nat.add_zero, Nat.zero_add, Nat.le_refl, Nat.zero_le, List.set_cons_zero, List.set_cons_succ, List.set_nil, ↓reduceIte, Nat.reduceAdd, Nat.reduceSub, Nat.reduceEqDiff, Nat.reduceLeDiff, Int.reduceEq, Int.reduceNe, Int.reduceNeg, reduceCtorEq, kd190]
    generalize ust N7 190 5 1 = NA at *
    refine l_cpX (N := NA) (f := U) MA b0 (fun NB q1 q2 q3 => ?_) p.toNat 0 _ NA (by omega) (FM.rf _ _ _) (by rw [d5]; rfl) (fun i q e => by cases e)
    have FC : FM [192, 193, 194, 195, 198, 199] [1, 2, 4, 5, 19, 22] N NB := (F8.mo rfl rfl).tr ((FB.mo rfl rfl).tr (q1.mo rfl rfl))
    have MB' := MA.fm q1 ok_pt (by decide) (by decide) (by decide)
    have r2 : NB 190 2 = ((dg U / 2 - 1 : Nat) : Int) := by rw [q1.2 2 (by decide)]; exact d2
    rw [r2]
    refine hQ1 hF NB ⟨⟨μ6, MB', fun _ => b0⟩, Or.inr ⟨by omega, by rw [q1.2 1 (by decide)]; exact d1, r2, q2, q3⟩, ⟨by rw [q1.2 4 (by decide)]; exact d4, fun i v e => by cases e⟩, fun r hr6 => wk_nought hp (fun i hi => by rw [q1.1 195 (by decide) (by decide), d95]; exact c2 i hi) r hr6, fun i hi => by rw [q1.1 194 (by decide) (by decide), d94]; exact c3 i hi, ?_, ?_, Or.inl (by rw [q1.2 19 (by decide)]; exact d19), Or.inl (by rw [q1.2 22 (by decide)]; exact d22)⟩ (FC.cl rfl)
    · rw [FC.1 196 (by decide) (by decide)]; exact a5
    · rw [FC.1 197 (by decide) (by decide)]; exact a6
  have go67 : (dg U = 4 ∨ dg U = 6) → ∀ k y, WP 175 (0, 0) 67 [(2, 190), (0, k), y] [] NN N2 Q := fun hd k y => by
    have ht := pz_rg hp U (dg U - 1)
    refine WP.run [(175, 85)] [] 60 ?_
    simp only [bk175_0, bk175_2, bk175_10, bk175_31, bk175_57, bk175_67, bk175_82, bk175_85, bk175_87, bk175_97, bk175_129, bk175_158, bk175_161, bk175_200, bk175_208, bk175_210, bk175_218, bk175_235, bk175_265, bk175_271, bk175_277, U_iconst, U_istore_n, U_iload_n, U_aload_n, U_getfield, U_icmp_ge, U_bipush, U_iadd, U_iald, U_iast, U_iinc, U_goto, U_isub, U_invokevirtual2, U_putfield, U_icmp_eq, U_icmp_ne, U_ireturn, U_imul, U_irem, U_if_le, U_idiv, U_invokevirtual0, U_dup, UN_cc, UN_cn, UN_nc, UN_nn, UJ, lget, lset, lset2, entL, wsm, wcat, Option.toList_some, Option.toList_none, List.cons_append, List.nil_append, List.mem_cons, List.not_mem_nil, Prod.mk.injEq, or_false, false_or, or_true, true_or, and_true, true_and, and_false, false_and, and_self, ne_eq, not_false_eq_true, not_true_eq_false, forall_const, true_implies, false_implies, Nat.add_zero, Nat.zero_add, Nat.le_refl, Nat.zero_le, List.set_cons_zero, List.set_cons_succ, List.set_nil, ↓reduceIte, Nat.reduceAdd, Nat.reduceSub, Nat.reduceEqDiff, Nat.reduceLeDiff, Int.reduceEq, Int.reduceNe, Int.reduceNeg, reduceCtorEq, kd190, kd199, ln199, z190_13 M2.1, p4]
    repeat (first | refine And.intro (by first | omega | exact not_false) ?_ | refine And.intro (rr (by omega)) ?_ | refine And.intro (r3 (by omega)) ?_ | refine And.intro (r6 (by omega)) ?_)
    refine m_get M2 u1 (r3 (by omega)) ?_
    rw [if_pos (by omega), show ((dg U : Int) - 1).toNat = dg U - 1 by omega]
    simp only [bk175_0, bk175_2, bk175_10, bk175_31, bk175_57, bk175_67, bk175_82, bk175_85, bk175_87, bk175_97, bk175_129, bk175_158, bk175_161, bk175_200, bk175_208, bk175_210, bk175_218, bk175_235, bk175_265, bk175_271, bk175_277, U_iconst, U_istore_n, U_iload_n, U_aload_n, U_getfield, U_icmp_ge, U_bipush, U_iadd, U_iald, U_iast, U_iinc, U_goto, U_isub, U_invokevirtual2, U_putfield, U_icmp_eq, U_icmp_ne, U_ireturn, U_imul, U_irem, U_if_le, U_idiv, U_invokevirtual0, U_dup, UN_cc, UN_cn, UN_nc, UN_nn, UJ, lget, lset, lset2, entL, wsm, wcat, Option.toList_some, Option.toList_none, List.cons_append, List.nil_append, List.mem_cons, List.not_mem_nil, Prod.mk.injEq, or_false, false_or, or_true, true_or, and_true, true_and, and_false, false_and, and_self, ne_eq, not_false_eq_true, not_true_eq_false, forall_const, true_implies, false_implies, Nat.add_zero, Nat.zero_add, Nat.le_refl, Nat.zero_le, List.set_cons_zero, List.set_cons_succ, List.set_nil, ↓reduceIte, Nat.reduceAdd, Nat.reduceSub, Nat.reduceEqDiff, Nat.reduceLeDiff, Int.reduceEq, Int.reduceNe, Int.reduceNeg, reduceCtorEq]
    exact ⟨rr (by omega), fun e => go hd e _ _, fun e => no (fun w => e w.2.1) N2 μ1 M2 FF (fun r hr0 => by rw [hr0]; exact u0 0 (by omega)) g4⟩
  simp only [kd199, ln199, z190_13 M2.1, p4, Int.reduceEq, not_false_eq_true, true_and]
  have nof : ¬ (dg U = 4 ∨ dg U = 6) → Q (some (0, -3)) NN N2 := fun e => no (fun w => e w.1) N2 μ1 M2 FF (fun r hr0 => by rw [hr0]; exact u0 0 (by omega)) g4
  repeat (first | refine And.intro (by first | omega | exact not_false) ?_ | refine And.intro (rr (by omega)) ?_ | refine And.intro (r3 (by omega)) ?_ | refine And.intro (r6 (by omega)) ?_)
  refine ⟨fun e => go67 (Or.inl (by omega)) _ _, fun e => ?_⟩
  repeat (first | refine And.intro (by first | omega | exact not_false) ?_ | refine And.intro (rr (by omega)) ?_ | refine And.intro (r3 (by omega)) ?_ | refine And.intro (r6 (by omega)) ?_)
  exact ⟨fun e5 => go67 (Or.inr (by omega)) _ _, fun e5 => nof (by omega)⟩
