/-! POINTS: the whole list, looking a point up, the class of a point -/
set_option maxHeartbeats 16000000 in
theorem l_ptsX {p : Int} {N : Mem} {ρ : Int → Option (Pz p)} {Q : Post} {f : Pz p} (hp : Pr p) (hf : ρ 22 = some f)
    (hQ : ∀ N', ST p N' ρ → FX [21, 26, 27] N N' → (∀ i, i ≠ 4 → N' 21 i = N 21 i) → N' 21 4 = ((ptl f p.toNat).length : Int) + 1 → PtA N' 26 27 (ptl f p.toNat) → Q none NN N') :
    ∀ (n x : Nat) (Ni : Mem) (v2 v3 : V), (x : Int) + n = p → ST p Ni ρ → FX [21, 26, 27] N Ni → (∀ i, i ≠ 4 → Ni 21 i = N 21 i) → Ni 21 4 = ((ptl f x).length : Int) + 1 → PtA Ni 26 27 (ptl f x) → WP 65 (0, 0) 7 [(2, 21), (0, (x : Int)), v2, v3] [] NN Ni Q := by
  have hpp := hp.pos
  have k22 : KD 22 = 18 := rfl
  intro n
  induction n with
  | zero =>
    intro x Ni v2 v3 hx hS hF h21 hm hA
    have e : p.toNat = x := by omega
    rw [e] at hQ
    refine WP.run [(65, 7)] [] 60 ?_
    simp only [bk65_0, bk65_7, bk65_18, bk65_33, bk65_44, bk65_53, bk65_68, bk65_71, bk65_101, bk65_107, bk65_113, U_aload_n, U_iconst, U_putfield, U_istore_n, U_iload_n, U_getfield, U_icmp_ge, U_invokevirtual2, U_bipush, U_imul, U_irem, U_icmp_eq, U_goto, U_iast, U_dup, U_iadd, U_iinc, U_return, UN_cc, UN_cn, UN_nc, UN_nn, UJ, lget, lset, lset2, entL, wsm, wcat, Option.toList_some, Option.toList_none, List.cons_append, List.nil_append, List.mem_cons, List.not_mem_nil, Prod.mk.injEq, or_false, false_or, or_true, true_or, and_true, true_and, and_false, false_and, and_self, ne_eq, not_false_eq_true, not_true_eq_false, forall_const, true_implies, false_implies, Nat.add_zero, Nat.zero_add, Nat.le_refl, Nat.zero_le, ↓reduceIte, Nat.reduceAdd, Nat.reduceSub, Nat.reduceEqDiff, Nat.reduceLeDiff, Int.reduceEq, Int.reduceNe, Int.reduceNeg, reduceCtorEq, kd21, kd2, z21_0 hS.1.1, hS.1.2.2.1]
    exact ⟨rr (by omega), fun h => absurd h (by omega), fun _ => hQ Ni hS hF h21 hm hA⟩
  | succ n ih =>
    intro x Ni v2 v3 hx hS hF h21 hm hA
    refine WP.run [(65, 7), (65, 33)] [] 60 ?_
    simp only [bk65_0, bk65_7, bk65_18, bk65_33, bk65_44, bk65_53, bk65_68, bk65_71, bk65_101, bk65_107, bk65_113, U_aload_n, U_iconst, U_putfield, U_istore_n, U_iload_n, U_getfield, U_icmp_ge, U_invokevirtual2, U_bipush, U_imul, U_irem, U_icmp_eq, U_goto, U_iast, U_dup, U_iadd, U_iinc, U_return, UN_cc, UN_cn, UN_nc, UN_nn, UJ, lget, lset, lset2, entL, wsm, wcat, Option.toList_some, Option.toList_none, List.cons_append, List.nil_append, List.mem_cons, List.not_mem_nil, Prod.mk.injEq, or_false, false_or, or_true, true_or, and_true, true_and, and_false, false_and, and_self, ne_eq, not_false_eq_true, not_true_eq_false, forall_const, true_implies, false_implies, Nat.add_zero, Nat.zero_add, Nat.le_refl, Nat.zero_le, ↓reduceIte, Nat.reduceAdd, Nat.reduceSub, Nat.reduceEqDiff, Nat.reduceLeDiff, Int.reduceEq, Int.reduceNe, Int.reduceNeg, reduceCtorEq, kd21, kd2, z21_0 hS.1.1, z21_1 hS.1.1, hS.1.2.2.1]
    refine ⟨rr (by omega), fun _ => c_valueAt hS.1 (hS.rp k22 hf) (by omega) (by omega) ?_, fun h => absurd h (by omega)⟩
    simp only [bk65_0, bk65_7, bk65_18, bk65_33, bk65_44, bk65_53, bk65_68, bk65_71, bk65_101, bk65_107, bk65_113, U_aload_n, U_iconst, U_putfield, U_istore_n, U_iload_n, U_getfield, U_icmp_ge, U_invokevirtual2, U_bipush, U_imul, U_irem, U_icmp_eq, U_goto, U_iast, U_dup, U_iadd, U_iinc, U_return, UN_cc, UN_cn, UN_nc, UN_nn, UJ, lget, lset, lset2, entL, wsm, wcat, Option.toList_some, Option.toList_none, List.cons_append, List.nil_append, List.mem_cons, List.not_mem_nil, Prod.mk.injEq, or_false, false_or, or_true, true_or, and_true, true_and, and_false, false_and, and_self, ne_eq, not_false_eq_true, not_true_eq_false, forall_const, true_implies, false_implies, Nat.add_zero, Nat.zero_add, Nat.le_refl, Nat.zero_le, ↓reduceIte, Nat.reduceAdd, Nat.reduceSub, Nat.reduceEqDiff, Nat.reduceLeDiff, Int.reduceEq, Int.reduceNe, Int.reduceNeg, reduceCtorEq]
    have nxt : ∀ (N' : Mem) (w : V), ST p N' ρ → FX [21, 26, 27] N N' → (∀ i, i ≠ 4 → N' 21 i = N 21 i) → N' 21 4 = ((ptl f (x + 1)).length : Int) + 1 → PtA N' 26 27 (ptl f (x + 1)) → WP 65 (0, 0) 107 [(2, 21), (0, (x : Int)), (0, pev f x), w] [] NN N' Q := fun N' w g1 g2 g3 g4 g5 => by
      refine WP.run [(65, 7)] [] 60 ?_
      simp only [bk65_0, bk65_7, bk65_18, bk65_33, bk65_44, bk65_53, bk65_68, bk65_71, bk65_101, bk65_107, bk65_113, U_aload_n, U_iconst, U_putfield, U_istore_n, U_iload_n, U_getfield, U_icmp_ge, U_invokevirtual2, U_bipush, U_imul, U_irem, U_icmp_eq, U_goto, U_iast, U_dup, U_iadd, U_iinc, U_return, UN_cc, UN_cn, UN_nc, UN_nn, UJ, lget, lset, lset2, entL, wsm, wcat, Option.toList_some, Option.toList_none, List.cons_append, List.nil_append, List.mem_cons, List.not_mem_nil, Prod.mk.injEq, or_false, false_or, or_true, true_or, and_true, true_and, and_false, false_and, and_self, ne_eq, not_false_eq_true, not_true_eq_false, forall_const, true_implies, false_implies, Nat.add_zero, Nat.zero_add, Nat.le_refl, Nat.zero_le, ↓reduceIte, Nat.reduceAdd, Nat.reduceSub, Nat.reduceEqDiff, Nat.reduceLeDiff, Int.reduceEq, Int.reduceNe, Int.reduceNeg, reduceCtorEq]
      exact ih (x + 1) N' _ _ (by omega) g1 g2 g3 g4 g5
    have e0 : rowP p (pev f x) x 0 = [] := rfl
    exact l_ptsY (L := ptl f x) hp (by omega) rfl (fun N' g1 g2 g3 g4 g5 => ⟨nxt N' _ g1 g2 g3 g4 g5, fun y => nxt N' _ g1 g2 g3 g4 g5⟩) p.toNat 0 Ni (by omega) hS hF h21 (by rw [e0, List.append_nil]; exact hm) (by rw [e0, List.append_nil]; exact hA)
set_option maxHeartbeats 8000000 in
theorem s_listPoints {p : Int} {N : Mem} {ρ : Int → Option (Pz p)} {Q : Post} {f : Pz p} (h : ST p N ρ) (hf : ρ 22 = some f)
    (hQ : ∀ N', ST p N' ρ → FX [21, 26, 27] N N' → (∀ i, i ≠ 4 → N' 21 i = N 21 i) → N' 21 4 = ((ptl f p.toNat).length : Int) + 1 → PtA N' 26 27 (ptl f p.toNat) → Q none NN N') : CL 65 [(2, 21), (9, 0), (9, 0), (9, 0)] NN N Q := by
  have hpp := h.1.2.1.pos
  refine WP.run [(65, 7)] [] 60 ?_
  simp only [bk65_0, bk65_7, bk65_18, bk65_33, bk65_44, bk65_53, bk65_68, bk65_71, bk65_101, bk65_107, bk65_113, U_aload_n, U_iconst, U_putfield, U_istore_n, U_iload_n, U_getfield, U_icmp_ge, U_invokevirtual2, U_bipush, U_imul, U_irem, U_icmp_eq, U_goto, U_iast, U_dup, U_iadd, U_iinc, U_return, UN_cc, UN_cn, UN_nc, UN_nn, UJ, lget, lset, lset2, entL, wsm, wcat, Option.toList_some, Option.toList_none, List.cons_append, List.nil_append, List.mem_cons, List.not_mem_nil, Prod.mk.injEq, or_false, false_or, or_true, true_or, and_true, true_and, and_false, false_and, and_self, ne_eq, not_false_eq_true, not_true_eq_false, forall_const, true_implies, false_implies, Nat.add_zero, Nat.zero_add, Nat.le_refl, Nat.zero_le, ↓reduceIte, Nat.reduceAdd, Nat.reduceSub, Nat.reduceEqDiff, Nat.reduceLeDiff, Int.reduceEq, Int.reduceNe, Int.reduceNeg, reduceCtorEq, kd21]
  refine l_ptsX (f := f) h.1.2.1 hf (fun N' g1 g2 g3 g4 g5 => hQ N' g1 ?_ (fun i hi => ?_) g4 g5) p.toNat 0 _ _ _ (by omega) (h.ust _ _ fz21_4 (by decide) (by decide) (by decide)) (FX.rf _ _) (fun _ _ => rfl) (by rw [ust_at, if_pos rfl]; rfl) (fun i q e => by cases e)
  · exact ((FX.rf _ N).us 4 1 (by simp)).tr g2
  · rw [g3 i hi, ust_at, if_neg hi]
/-- the curve's points stand in the curve object -/
def PTS {p : Int} (N : Mem) (f : Pz p) : Prop := N 21 4 = ((ptl f p.toNat).length : Int) + 1 ∧ PtA N 26 27 (ptl f p.toNat)
theorem PTS.fx {p : Int} {N N' : Mem} {f : Pz p} (h : PTS N f) (h1 : N' 21 = N 21) (h2 : N' 26 = N 26) (h3 : N' 27 = N 27) : PTS N' f := by
  refine ⟨by rw [h1]; exact h.1, fun i q e => ?_⟩
  rw [h2, h3]; exact h.2 i q e
theorem ptl_rg {p : Int} (hp : Pr p) (f : Pz p) (n : Nat) (hn : (n : Int) ≤ p) : ∀ q ∈ ptl f n, 0 ≤ q.1 ∧ q.1 < p ∧ 0 ≤ q.2 ∧ q.2 < p ∧ q.2 * q.2 % p = pev f q.1 := by
  intro q hq
  unfold ptl at hq
  obtain ⟨x, hx, h⟩ := List.mem_flatMap.mp hq
  have hx2 := List.mem_range.mp hx
  obtain ⟨y, hy, rfl⟩ := List.mem_map.mp h
  obtain ⟨hy1, hy2⟩ := List.mem_filter.mp hy
  have hy3 := List.mem_range.mp hy1
  have hpp := hp.pos
  refine ⟨by show (0 : Int) ≤ (x : Int); omega, by show (x : Int) < p; omega, by show (0 : Int) ≤ (y : Int); omega, by show (y : Int) < p; omega, of_decide_eq_true hy2⟩
theorem ptl_26 {p : Int} (hp : Pr p) (f : Pz p) : (ptl f p.toNat).length ≤ 26 := by
  have := ptl_le hp f p.toNat
  have := hp.pos; omega
set_option maxHeartbeats 8000000 in
theorem c_xOf {p : Int} {N : Mem} {Q : Post} {f : Pz p} (hz : Fz N) (hp : Pr p) (h : PTS N f) (i : Nat) {q : Int × Int} (hq : (ptl f p.toNat)[i]? = some q) (hQ : Q (some (0, q.1)) NN N) : CL 9 [(2, 21), (0, ((i : Int) + 1))] NN N Q := by
  have h26 := ptl_26 hp f
  have hi := (List.getElem?_eq_some_iff.mp hq).1
  have hv := (h.2 i q hq).1
  refine WP.run [] [] 30 ?_
  simp only [bk9_0, bk9_5, bk9_11, bk9_15, bk9_21, U_iload_n, U_iconst, U_icmp_lt, U_bipush, U_goto, U_aload_n, U_getfield, U_iald, U_ireturn, UN_cc, UN_cn, UN_nc, UN_nn, UJ, lget, lset, lset2, entL, wsm, wcat, Option.toList_some, Option.toList_none, List.cons_append, List.nil_append, List.mem_cons, List.not_mem_nil, Prod.mk.injEq, or_false, false_or, or_true, true_or, and_true, true_and, and_false, false_and, and_self, ne_eq, not_false_eq_true, not_true_eq_false, forall_const, true_implies, false_implies, Nat.add_zero, Nat.zero_add, Nat.le_refl, Nat.zero_le, ↓reduceIte, Nat.reduceAdd, Nat.reduceSub, Nat.reduceEqDiff, Nat.reduceLeDiff, Int.reduceEq, Int.reduceNe, Int.reduceNeg, reduceCtorEq, kd21, kd26, ln26, z21_5 hz, hv]
  exact ⟨rr (by omega), fun e => by omega, fun _ => ⟨rr (by omega), fun _ => ⟨by omega, by omega, by simpa using hQ⟩, fun e => by omega⟩⟩
set_option maxHeartbeats 8000000 in
theorem c_yOf {p : Int} {N : Mem} {Q : Post} {f : Pz p} (hz : Fz N) (hp : Pr p) (h : PTS N f) (i : Nat) {q : Int × Int} (hq : (ptl f p.toNat)[i]? = some q) (hQ : Q (some (0, q.2)) NN N) : CL 11 [(2, 21), (0, ((i : Int) + 1))] NN N Q := by
  have h26 := ptl_26 hp f
  have hi := (List.getElem?_eq_some_iff.mp hq).1
  have hv := (h.2 i q hq).2
  refine WP.run [] [] 30 ?_
  simp only [bk11_0, bk11_5, bk11_11, bk11_15, bk11_21, U_iload_n, U_iconst, U_icmp_lt, U_bipush, U_goto, U_aload_n, U_getfield, U_iald, U_ireturn, UN_cc, UN_cn, UN_nc, UN_nn, UJ, lget, lset, lset2, entL, wsm, wcat, Option.toList_some, Option.toList_none, List.cons_append, List.nil_append, List.mem_cons, List.not_mem_nil, Prod.mk.injEq, or_false, false_or, or_true, true_or, and_true, true_and, and_false, false_and, and_self, ne_eq, not_false_eq_true, not_true_eq_false, forall_const, true_implies, false_implies, Nat.add_zero, Nat.zero_add, Nat.le_refl, Nat.zero_le, ↓reduceIte, Nat.reduceAdd, Nat.reduceSub, Nat.reduceEqDiff, Nat.reduceLeDiff, Int.reduceEq, Int.reduceNe, Int.reduceNeg, reduceCtorEq, kd21, kd27, ln27, z21_6 hz, hv]
  exact ⟨rr (by omega), fun e => by omega, fun _ => ⟨rr (by omega), fun _ => ⟨by omega, by omega, by simpa using hQ⟩, fun e => by omega⟩⟩
/-- the number of a point, 0 where there is none -/
def idxOf (L : List (Int × Int)) (x y : Int) : Nat → Nat → Nat
  | _, 0 => 0
  | i, n + 1 => match L[i]? with
    | none => 0
    | some q => if q.1 = x ∧ q.2 = y then i + 1 else idxOf L x y (i + 1) n
set_option maxHeartbeats 8000000 in
theorem l_numberOf {p : Int} {N : Mem} {Q : Post} {f : Pz p} {x y : Int} (hz : Fz N) (hp : Pr p) (h : PTS N f) (hx : 0 ≤ x ∧ x < 13) (hy : 0 ≤ y ∧ y < 13) :
    ∀ (n i : Nat), i + n = (ptl f p.toNat).length → Q (some (0, (idxOf (ptl f p.toNat) x y i n : Int))) NN N → WP 77 (0, 0) 2 [(2, 21), (0, x), (0, y), (0, (i : Int) + 1)] [] NN N Q := by
  have h26 := ptl_26 hp f
  intro n
  induction n with
  | zero =>
    intro i hi hQ
    refine WP.run [(77, 2)] [] 60 ?_
    simp only [bk77_0, bk77_2, bk77_10, bk77_16, bk77_26, bk77_36, bk77_38, bk77_44, U_iconst, U_istore_n, U_iload_n, U_aload_n, U_getfield, U_icmp_ge, U_bipush, U_iald, U_icmp_ne, U_ireturn, U_iinc, U_goto, UN_cc, UN_cn, UN_nc, UN_nn, UJ, lget, lset, lset2, entL, wsm, wcat, Option.toList_some, Option.toList_none, List.cons_append, List.nil_append, List.mem_cons, List.not_mem_nil, Prod.mk.injEq, or_false, false_or, or_true, true_or, and_true, true_and, and_false, false_and, and_self, ne_eq, not_false_eq_true, not_true_eq_false, forall_const, true_implies, false_implies, Nat.add_zero, Nat.zero_add, Nat.le_refl, Nat.zero_le, ↓reduceIte, Nat.reduceAdd, Nat.reduceSub, Nat.reduceEqDiff, Nat.reduceLeDiff, Int.reduceEq, Int.reduceNe, Int.reduceNeg, reduceCtorEq, kd21, h.1]
    exact ⟨rr (by omega), fun e => absurd e (by omega), fun _ => by simpa [idxOf] using hQ⟩
  | succ n ih =>
    intro i hi hQ
    obtain ⟨q, hq⟩ : ∃ q, (ptl f p.toNat)[i]? = some q := ⟨_, List.getElem?_eq_getElem (by omega)⟩
    obtain ⟨v1, v2⟩ := h.2 i q hq
    have hr := ptl_rg hp f p.toNat (by have := hp.pos; omega) q (List.mem_of_getElem? hq)
    have hpp := hp.pos
    unfold idxOf at hQ
    rw [hq] at hQ
    simp only at hQ
    refine WP.run [(77, 2)] [] 60 ?_
    simp only [bk77_0, bk77_2, bk77_10, bk77_16, bk77_26, bk77_36, bk77_38, bk77_44, U_iconst, U_istore_n, U_iload_n, U_aload_n, U_getfield, U_icmp_ge, U_bipush, U_iald, U_icmp_ne, U_ireturn, U_iinc, U_goto, UN_cc, UN_cn, UN_nc, UN_nn, UJ, lget, lset, lset2, entL, wsm, wcat, Option.toList_some, Option.toList_none, List.cons_append, List.nil_append, List.mem_cons, List.not_mem_nil, Prod.mk.injEq, or_false, false_or, or_true, true_or, and_true, true_and, and_false, false_and, and_self, ne_eq, not_false_eq_true, not_true_eq_false, forall_const, true_implies, false_implies, Nat.add_zero, Nat.zero_add, Nat.le_refl, Nat.zero_le, ↓reduceIte, Nat.reduceAdd, Nat.reduceSub, Nat.reduceEqDiff, Nat.reduceLeDiff, Int.reduceEq, Int.reduceNe, Int.reduceNeg, reduceCtorEq, kd21, kd26, kd27, ln26, ln27, h.1, z21_5 hz, z21_6 hz, v1, v2]
    have nx : ¬ (q.1 = x ∧ q.2 = y) → WP 77 (0, 0) 2 [(2, 21), (0, x), (0, y), (0, (i : Int) + 1 + 1)] [] NN N Q := fun hn => by
      rw [if_neg hn] at hQ
      exact ih (i + 1) (by omega) hQ
    refine ⟨rr (by omega), fun _ => ⟨rr (by omega), fun _ => ⟨by omega, by omega, rr (by omega), fun e1 => ⟨by omega, by omega, rr (by omega), fun e2 => ?_, fun e2 => nx (fun q => e2 q.2)⟩, fun e1 => nx (fun q => e1 q.1)⟩, fun e => by omega⟩, fun e => absurd e (by omega)⟩
    rw [if_pos ⟨e1, e2⟩] at hQ
    simpa using hQ
set_option maxHeartbeats 8000000 in
theorem s_numberOf {p : Int} {N : Mem} {Q : Post} {f : Pz p} {x y : Int} (hz : Fz N) (hp : Pr p) (h : PTS N f) (hx : 0 ≤ x ∧ x < 13) (hy : 0 ≤ y ∧ y < 13) (hQ : Q (some (0, (idxOf (ptl f p.toNat) x y 0 (ptl f p.toNat).length : Int))) NN N) : CL 77 [(2, 21), (0, x), (0, y), (9, 0)] NN N Q := by
  refine WP.run [(77, 2)] [] 60 ?_
  simp only [bk77_0, bk77_2, bk77_10, bk77_16, bk77_26, bk77_36, bk77_38, bk77_44, U_iconst, U_istore_n, U_iload_n, U_aload_n, U_getfield, U_icmp_ge, U_bipush, U_iald, U_icmp_ne, U_ireturn, U_iinc, U_goto, UN_cc, UN_cn, UN_nc, UN_nn, UJ, lget, lset, lset2, entL, wsm, wcat, Option.toList_some, Option.toList_none, List.cons_append, List.nil_append, List.mem_cons, List.not_mem_nil, Prod.mk.injEq, or_false, false_or, or_true, true_or, and_true, true_and, and_false, false_and, and_self, ne_eq, not_false_eq_true, not_true_eq_false, forall_const, true_implies, false_implies, Nat.add_zero, Nat.zero_add, Nat.le_refl, Nat.zero_le, ↓reduceIte, Nat.reduceAdd, Nat.reduceSub, Nat.reduceEqDiff, Nat.reduceLeDiff, Int.reduceEq, Int.reduceNe, Int.reduceNeg, reduceCtorEq]
  exact l_numberOf hz hp h hx hy _ 0 (by omega) hQ
