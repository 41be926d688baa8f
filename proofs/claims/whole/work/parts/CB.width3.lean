/-! THE MODEL'S WIDTH, whole -/
theorem lfF_le2 {L : List (Int × Int)} {B : Nat → Int} (h : ∀ i, i ≠ 0 → B i ≤ 4) {x : Nat} (hx : ∀ r ∈ L, r.1 = (x : Int) → r.2 = 0) : ∀ n, lfF L B n x ≤ 2
  | 0 => by show 0 ≤ 2; omega
  | n + 1 => by
    have ih := lfF_le2 h hx n
    cases e : L[n]? with
    | none => rw [lfF_n e]; exact ih
    | some q =>
      rw [lfF_s e]
      by_cases c : q.1 = (x : Int) ∧ 0 < B (n + 1)
      · rw [if_pos c]
        have h2 := hx q (List.mem_of_getElem? e) c.1
        have h3 := h (n + 1) (by omega)
        unfold ndN
        rw [if_pos h2]; omega
      · rw [if_neg c]; exact ih
noncomputable def ndI {p : Int} (f : Pz p) (lf : Nat → Nat) (B : Nat → Int) (i : Nat) : Nat := match (ptl f p.toNat)[i]? with
  | none => 0
  | some q => ((lq lf q : Int) - B (i + 1)).toNat
theorem ndI_s {p : Int} {f : Pz p} {lf : Nat → Nat} {B : Nat → Int} {i : Nat} {q : Int × Int} (h : (ptl f p.toNat)[i]? = some q) : ndI f lf B i = ((lq lf q : Int) - B (i + 1)).toNat := by
  unfold ndI; rw [h]
theorem lq_rg {p : Int} (hp : Pr p) {f : Pz p} {B : Nat → Int} (hr : ∀ i, i ≠ 0 → -4 ≤ B i ∧ B i ≤ 4) {j : Nat} {q : Int × Int} (hj : (ptl f p.toNat)[j]? = some q) : B (j + 1) ≤ (lq (lfF (ptl f p.toNat) B (ptl f p.toNat).length) q : Int) ∧ lq (lfF (ptl f p.toNat) B (ptl f p.toNat).length) q ≤ 4 := by
  have hpp := hp.pos
  have hq := ptl_on hp (List.mem_of_getElem? hj)
  refine ⟨lfF_nd hj hq.1 _ (List.getElem?_eq_some_iff.mp hj).1, ?_⟩
  unfold lq
  by_cases y : q.2 = 0
  · rw [if_pos y]
    have := lfF_le2 (L := ptl f p.toNat) (fun i hi => (hr i hi).2) (x := q.1.toNat) (fun r hm hx => by
      have hr2 := ptl_on hp hm
      have e : r.1 = q.1 := by have := hq.1; omega
      have e1 := hr2.2.2.2.2
      rw [e, ← hq.2.2.2.2, y] at e1
      have e2 : (r.2 * r.2) % p = 0 := e1
      false_or_by_contra
      rename_i hn
      exact hp.mul_ne (by rw [Int.emod_eq_of_lt hr2.2.2.1 hr2.2.2.2.1]; exact hn) (by rw [Int.emod_eq_of_lt hr2.2.2.1 hr2.2.2.2.1]; exact hn) e2) (ptl f p.toNat).length
    omega
  · rw [if_neg y]
    exact lfF_le (fun i hi => (hr i hi).2) _ _
/-- what is held while the points are gone over -/
def WdI {p : Int} (f : Pz p) (nd : Nat → Nat) (n1 W j : Nat) (N : Mem) : Prop := ∃ R, Ech p W R ∧ MxA N W R ∧ ∀ w, VcP p W w → ((∀ r ∈ R, dt W r w % p = 0) ↔ ∀ i q, i < j → (ptl f p.toNat)[i]? = some q → @bpw (Pz p) (pring p) f (PI f q) (nd i) (vcA n1 w, vcB n1 (W - n1) w))
set_option maxHeartbeats 32000000 in
theorem l_w0 {p : Int} {N : Mem} {Q : Post} {f : Pz p} {g : Nat} {B : Nat → Int} {n1 n2 : Nat} {mt : Int} (hp : Pr p) (hG : MG f g N) (hcv : Cv f g) (hPt : PtA N 192 193 (ptl f p.toNat)) (hB : ∀ i : Nat, 1 ≤ i → i ≤ (ptl f p.toNat).length → N 207 (i : Int) = B i) (hr : ∀ i, i ≠ 0 → -4 ≤ B i ∧ B i ≤ 4) (hL : ∀ x : Nat, (x : Int) < p → N 208 (x : Int) = (lfF (ptl f p.toNat) B (ptl f p.toNat).length x : Int)) (h1 : 1 ≤ n1) (hW : n1 + n2 ≤ 180)
    (hQ : ∀ N' R, FM [209, 210, 211, 212, 213, 214, 215, 216] [32] N N' → Ech p (n1 + n2) R → (∀ w, VcP p (n1 + n2) w → ((∀ r ∈ R, dt (n1 + n2) r w % p = 0) ↔ ∀ i q, (ptl f p.toNat)[i]? = some q → @bpw (Pz p) (pring p) f (PI f q) (ndI f (lfF (ptl f p.toNat) B (ptl f p.toNat).length) B i) (vcA n1 w, vcB n1 n2 w))) → Q (some (0, ((n1 + n2 : Nat) : Int) - (R.length : Int))) NN N') :
    ∀ (n j : Nat) (a b c d : V) (Ni : Mem), j + n = (ptl f p.toNat).length → FM [209, 210, 211, 212, 213, 214, 215, 216] [32] N Ni → WdI f (ndI f (lfF (ptl f p.toNat) B (ptl f p.toNat).length) B) n1 (n1 + n2) j Ni → WP 222 (0, 0) 83 [(2, 190), (0, mt), (0, (n1 : Int)), (0, ((n1 + n2 : Nat) : Int)), (0, (j : Int) + 1), a, b, c, d] [] NN Ni Q := by
  have hpp := hp.pos
  have h26 := ptl_26 hp f
  intro n
  induction n with
  | zero =>
    intro j a b c d Ni hj hF hI
    obtain rfl : j = (ptl f p.toNat).length := by omega
    obtain ⟨R, hE, hM, hS⟩ := hI
    have G := hG.fm hF (fzk rfl rfl) (by decide) (by decide) (by simp) (by simp) (by simp) (by simp)
    have el := hE.len.1
    rw [show n1 + n2 - n1 = n2 by omega] at hS
    have nx := hQ Ni R hF hE (fun w hw => (hS w hw).trans ⟨fun h i q hq => h i q (List.getElem?_eq_some_iff.mp hq).1 hq, fun h i q _ hq => h i q hq⟩)
    refine WP.run [(222, 83)] [] 60 ?_
    simp only [bk222_0, bk222_13, bk222_21, bk222_38, bk222_42, bk222_44, bk222_59, bk222_72, bk222_73, bk222_83, bk222_92, bk222_102, bk222_119, bk222_131, bk222_150, bk222_159, bk222_166, bk222_177, bk222_181, bk222_182, bk222_189, bk222_192, bk222_198, bk222_214, bk222_217, bk222_224, bk222_229, bk222_254, bk222_259, bk222_265, bk222_281, bk222_284, bk222_291, bk222_294, bk222_300, bk222_333, bk222_344, bk222_350, U_aload_n, U_invokevirtual0, U_getfield, U_iconst, U_iald, U_istore_n, U_iload_n, U_icmp_ge, U_imul, U_iadd, U_iinc, U_goto, U_if_ge, U_ireturn, U_idiv, U_icmp_lt, U_isub, U_putfield, U_istore, U_iload, U_if_ne, U_if_le, U_invokevirtual1, U_bipush, U_iast, U_invokevirtual2, U_icmp_le, UN_cc, UN_cn, UN_nc, UN_nn, UJ, lget, lset, lset2, entL, wsm, wcat, Option.toList_some, Option.toList_none, List.cons_append, List.nil_append, List.mem_cons, List.not_mem_nil, Prod.mk.injEq, or_false, false_or, or_true, true_or, and_true, true_and, and_false, false_and, and_self, ne_eq, not_false_eq_true, not_true_eq_false, forall_const, true_implies, false_implies, Nat.add_zero, Nat.zero_add, Nat.le_refl, Nat.zero_le, List.set_cons_zero, List.set_cons_succ, List.set_nil, ↓reduceIte, Nat.reduceAdd, Nat.reduceSub, Nat.reduceEqDiff, Nat.reduceLeDiff, Int.reduceEq, Int.reduceNe, Int.reduceNeg, reduceCtorEq, kd190, G.2.2.2, hM.1]
    repeat' (first | refine And.intro (by omega) ?_ | refine And.intro (rr (by omega)) ?_ | refine And.intro (r3 (by omega)) ?_ | refine And.intro (r6 (by omega)) ?_ | ((fail_if_success (show WP _ _ _ _ _ _ _ _)); (first | refine And.intro ?_ ?_ | intro _)))
    all_goals first | (exfalso; omega) | exact nx
  | succ n ih =>
    intro j a b c d Ni hj hF hI
    have G := hG.fm hF (fzk rfl rfl) (by decide) (by decide) (by simp) (by simp) (by simp) (by simp)
    have hz := G.mt.1
    have hP0 := G.mt.2
    have hjl : j < (ptl f p.toNat).length := by omega
    have eq := List.getElem?_eq_getElem hjl
    generalize (ptl f p.toNat)[j] = q at eq
    have hq := ptl_on hp (List.mem_of_getElem? eq)
    have hqq := hq
    obtain ⟨q1, q2, q3, q4, q5⟩ := hqq
    have hP : PtA Ni 192 193 (ptl f p.toNat) := by unfold PtA; rw [hF.1 192 (by decide) (by decide), hF.1 193 (by decide) (by decide)]; exact hPt
    obtain ⟨a1, a2⟩ := hP j q eq
    have a3 : Ni 207 ((j : Int) + 1) = B (j + 1) := by
      rw [hF.1 207 (by decide) (by decide)]
      exact hB (j + 1) (by omega) (by omega)
    have hb := hr (j + 1) (by omega)
    have a4 := hL q.1.toNat (by omega)
    rw [← hF.1 208 (by decide) (by decide), show ((q.1.toNat : Nat) : Int) = q.1 by omega] at a4
    obtain ⟨lr1, lr2⟩ := lq_rg hp hr eq
    have end_ := ndI_s (lf := lfF (ptl f p.toNat) B (ptl f p.toNat).length) (B := B) eq
    generalize hnd : ndI f (lfF (ptl f p.toNat) B (ptl f p.toNat).length) B = nd at *
    have e9 : (j : Int) + 1 + 1 = ((j + 1 : Nat) : Int) + 1 := by omega
    -- behind the point
    have k344 : ∀ (N2 : Mem) (l : Int) (x y : V), FM [209, 210, 211, 212, 213, 214, 215, 216] [32] N N2 → WdI f nd n1 (n1 + n2) (j + 1) N2 → WP 222 (0, 0) 344 [(2, 190), (0, mt), (0, (n1 : Int)), (0, ((n1 + n2 : Nat) : Int)), (0, (j : Int) + 1), (0, l), (0, (nd j : Int)), x, y] [] NN N2 Q := fun N2 l x y F2 I2 => by
      have nx := ih (j + 1) (0, l) (0, (nd j : Int)) x y N2 (by omega) F2 I2
      rw [← e9] at nx
      refine WP.run [(222, 83)] [] 60 ?_
      simp only [bk222_0, bk222_13, bk222_21, bk222_38, bk222_42, bk222_44, bk222_59, bk222_72, bk222_73, bk222_83, bk222_92, bk222_102, bk222_119, bk222_131, bk222_150, bk222_159, bk222_166, bk222_177, bk222_181, bk222_182, bk222_189, bk222_192, bk222_198, bk222_214, bk222_217, bk222_224, bk222_229, bk222_254, bk222_259, bk222_265, bk222_281, bk222_284, bk222_291, bk222_294, bk222_300, bk222_333, bk222_344, bk222_350, U_aload_n, U_invokevirtual0, U_getfield, U_iconst, U_iald, U_istore_n, U_iload_n, U_icmp_ge, U_imul, U_iadd, U_iinc, U_goto, U_if_ge, U_ireturn, U_idiv, U_icmp_lt, U_isub, U_putfield, U_istore, U_iload, U_if_ne, U_if_le, U_invokevirtual1, U_bipush, U_iast, U_invokevirtual2, U_icmp_le, UN_cc, UN_cn, UN_nc, UN_nn, UJ, lget, lset, lset2, entL, wsm, wcat, Option.toList_some, Option.toList_none, List.cons_append, List.nil_append, List.mem_cons, List.not_mem_nil, Prod.mk.injEq, or_false, false_or, or_true, true_or, and_true, true_and, and_false, false_and, and_self, ne_eq, not_false_eq_true, not_true_eq_false, forall_const, true_implies, false_implies, Nat.add_zero, Nat.zero_add, Nat.le_refl, Nat.zero_le, List.set_cons_zero, List.set_cons_succ, List.set_nil, ↓reduceIte, Nat.reduceAdd, Nat.reduceSub, Nat.reduceEqDiff, Nat.reduceLeDiff, Int.reduceEq, Int.reduceNe, Int.reduceNeg, reduceCtorEq]
      repeat' (first | refine And.intro (by omega) ?_ | refine And.intro (rr (by omega)) ?_ | refine And.intro (r3 (by omega)) ?_ | refine And.intro (r6 (by omega)) ?_ | ((fail_if_success (show WP _ _ _ _ _ _ _ _)); (first | refine And.intro ?_ ?_ | intro _)))
      all_goals first | (exfalso; omega) | exact nx
    -- the rows of the point
    have kx : ∀ l : Int, nd j ≠ 0 → ∀ N1 X (Y : Sz p), FM [209, 210, 211, 212, 215, 216] [] Ni N1 → ExA f q N1 X Y → WP 222 (0, 0) 159 [(2, 190), (0, mt), (0, (n1 : Int)), (0, ((n1 + n2 : Nat) : Int)), (0, (j : Int) + 1), (0, l), (0, (nd j : Int)), (0, ((0 : Nat) : Int)), d] [] NN N1 Q := by
      intro l n0 N1 X Y F1 hX
      have hO := hX.ord hp hcv hq
      obtain ⟨hX1, -, -⟩ := hX
      have FN1 : FM [209, 210, 211, 212, 213, 214, 215, 216] [32] N N1 := hF.tr (F1.mo rfl rfl)
      have hz1 := FN1.fz (fzk rfl rfl) hG.mt.1
      have p1 := FN1.2 0 (by simp)
      rw [hG.mt.2] at p1
      refine l_w1 (p := p) hz1 (fun N2 F2 g2 x => ?_) 8 0 N1 (by omega) (FM.rf _ _ _) (fun l hl => absurd hl (Nat.not_lt_zero l))
      have FN2 : FM [209, 210, 211, 212, 213, 214, 215, 216] [32] N N2 := FN1.tr (F2.mo rfl rfl)
      have hz2 := FN2.fz (fzk rfl rfl) hG.mt.1
      have p2 := FN2.2 0 (by simp)
      rw [hG.mt.2] at p2
      have hX2 : ∀ k : Nat, k < 8 → N2 209 (k : Int) = X k ∧ 0 ≤ X k ∧ X k < p := fun k hk => by
        rw [F2.1 209 (by decide) (by decide)]
        exact ⟨(hX1 k hk).1, (hX1 k hk).2.1, (hX1 k hk).2.2.1⟩
      refine WP.run [(222, 192)] [] 60 ?_
      simp only [bk222_0, bk222_13, bk222_21, bk222_38, bk222_42, bk222_44, bk222_59, bk222_72, bk222_73, bk222_83, bk222_92, bk222_102, bk222_119, bk222_131, bk222_150, bk222_159, bk222_166, bk222_177, bk222_181, bk222_182, bk222_189, bk222_192, bk222_198, bk222_214, bk222_217, bk222_224, bk222_229, bk222_254, bk222_259, bk222_265, bk222_281, bk222_284, bk222_291, bk222_294, bk222_300, bk222_333, bk222_344, bk222_350, U_aload_n, U_invokevirtual0, U_getfield, U_iconst, U_iald, U_istore_n, U_iload_n, U_icmp_ge, U_imul, U_iadd, U_iinc, U_goto, U_if_ge, U_ireturn, U_idiv, U_icmp_lt, U_isub, U_putfield, U_istore, U_iload, U_if_ne, U_if_le, U_invokevirtual1, U_bipush, U_iast, U_invokevirtual2, U_icmp_le, UN_cc, UN_cn, UN_nc, UN_nn, UJ, lget, lset, lset2, entL, wsm, wcat, Option.toList_some, Option.toList_none, List.cons_append, List.nil_append, List.mem_cons, List.not_mem_nil, Prod.mk.injEq, or_false, false_or, or_true, true_or, and_true, true_and, and_false, false_and, and_self, ne_eq, not_false_eq_true, not_true_eq_false, forall_const, true_implies, false_implies, Nat.add_zero, Nat.zero_add, Nat.le_refl, Nat.zero_le, List.set_cons_zero, List.set_cons_succ, List.set_nil, ↓reduceIte, Nat.reduceAdd, Nat.reduceSub, Nat.reduceEqDiff, Nat.reduceLeDiff, Int.reduceEq, Int.reduceNe, Int.reduceNeg, reduceCtorEq]
      refine l_w2 (X := X) hp hz2 p2 hX2 (by omega) (fun N3 F3 g3 x3 => ?_) (n1 - 1) 1 N2 (by omega) (by omega) (FM.rf _ _ _) (fun m hm => by
        obtain rfl : m = 0 := by omega
        exact g2)
      have FN3 : FM [209, 210, 211, 212, 213, 214, 215, 216] [32] N N3 := FN2.tr (F3.mo rfl rfl)
      have hz3 := FN3.fz (fzk rfl rfl) hG.mt.1
      have p3 := FN3.2 0 (by simp)
      rw [hG.mt.2] at p3
      refine WP.run [(222, 217)] [] 60 ?_
      simp only [bk222_0, bk222_13, bk222_21, bk222_38, bk222_42, bk222_44, bk222_59, bk222_72, bk222_73, bk222_83, bk222_92, bk222_102, bk222_119, bk222_131, bk222_150, bk222_159, bk222_166, bk222_177, bk222_181, bk222_182, bk222_189, bk222_192, bk222_198, bk222_214, bk222_217, bk222_224, bk222_229, bk222_254, bk222_259, bk222_265, bk222_281, bk222_284, bk222_291, bk222_294, bk222_300, bk222_333, bk222_344, bk222_350, U_aload_n, U_invokevirtual0, U_getfield, U_iconst, U_iald, U_istore_n, U_iload_n, U_icmp_ge, U_imul, U_iadd, U_iinc, U_goto, U_if_ge, U_ireturn, U_idiv, U_icmp_lt, U_isub, U_putfield, U_istore, U_iload, U_if_ne, U_if_le, U_invokevirtual1, U_bipush, U_iast, U_invokevirtual2, U_icmp_le, UN_cc, UN_cn, UN_nc, UN_nn, UJ, lget, lset, lset2, entL, wsm, wcat, Option.toList_some, Option.toList_none, List.cons_append, List.nil_append, List.mem_cons, List.not_mem_nil, Prod.mk.injEq, or_false, false_or, or_true, true_or, and_true, true_and, and_false, false_and, and_self, ne_eq, not_false_eq_true, not_true_eq_false, forall_const, true_implies, false_implies, Nat.add_zero, Nat.zero_add, Nat.le_refl, Nat.zero_le, List.set_cons_zero, List.set_cons_succ, List.set_nil, ↓reduceIte, Nat.reduceAdd, Nat.reduceSub, Nat.reduceEqDiff, Nat.reduceLeDiff, Int.reduceEq, Int.reduceNe, Int.reduceNeg, reduceCtorEq]
      refine l_w3 (Y := Y) hz3 (fun k hk => by rw [F3.1 210 (by decide) (by decide), F2.1 210 (by decide) (by decide)]; exact (hX1 k hk).2.2.2) (by omega) (fun N4 F4 g4 g4' x4 => ?_) 8 0 N3 (by omega) (FM.rf _ _ _) (fun l hl => absurd hl (Nat.not_lt_zero l)) (fun m hm l hl => rfl)
      have FN4 : FM [209, 210, 211, 212, 213, 214, 215, 216] [32] N N4 := FN3.tr (F4.mo rfl rfl)
      have hz4 := FN4.fz (fzk rfl rfl) hG.mt.1
      have p4 := FN4.2 0 (by simp)
      rw [hG.mt.2] at p4
      have nx4 : WP 222 (0, 0) 259 [(2, 190), (0, mt), (0, (n1 : Int)), (0, ((n1 + n2 : Nat) : Int)), (0, (j : Int) + 1), (0, l), (0, (nd j : Int)), (0, ((n1 + 1 : Nat) : Int)), d] [] NN N4 Q := by
        refine l_w4 (X := X) (r0 := Y.1) (n2 := n2) hp hz4 p4 (fun k hk => by rw [F4.1 209 (by decide) (by decide), F3.1 209 (by decide) (by decide)]; exact hX2 k hk) (Y.rg hp) (by omega) (fun N5 F5 g5 g5' x5 => ?_) (n2 - 1) 1 N4 (by omega) (by omega) (by omega) (FM.rf _ _ _) (fun m hm => by
          obtain rfl : m = 0 := by omega
          exact g4 (by omega)) (fun m hm l hl => rfl)
        have FN5 : FM [209, 210, 211, 212, 213, 214, 215, 216] [32] N N5 := FN4.tr (F5.mo rfl rfl)
        have hz5 := FN5.fz (fzk rfl rfl) hG.mt.1
        have p5 := FN5.2 0 (by simp)
        rw [hG.mt.2] at p5
        have F25 : FM [209, 210, 211, 212, 213, 215, 216] [] Ni N5 := ((((F1.mo rfl rfl).tr (F2.mo rfl rfl)).tr (F3.mo rfl rfl)).tr (F4.mo rfl rfl)).tr (F5.mo rfl rfl)
        obtain ⟨R, hE, hM, hS⟩ := hI
        have hM5 : MxA N5 (n1 + n2) R := by
          unfold MxA
          rw [F25.2 32 (by simp), F25.1 214 (by decide) (by decide)]; exact hM
        have hEx : ∀ n, n < n1 + n2 → RwX N5 n (exR p X Y.1 n1 n) := fun m hm => by
          unfold exR
          by_cases c : m < n1
          · rw [if_pos c]
            intro l hl
            rw [g5' m c l hl, g4' m c l hl]
            have := g3 m c
            rw [Nat.zero_add] at this
            exact this l hl
          · rw [if_neg c]
            have := g5 (m - n1) (by omega)
            rw [show n1 + (m - n1) = m by omega] at this
            exact this
        have nx5 : WP 222 (0, 0) 284 [(2, 190), (0, mt), (0, (n1 : Int)), (0, ((n1 + n2 : Nat) : Int)), (0, (j : Int) + 1), (0, l), (0, (nd j : Int)), (0, ((0 : Nat) : Int)), d] [] NN N5 Q := by
          refine l_w5 (X := X) (Y := Y) (n1 := n1) hp hz5 p5 hW (by omega) hEx hE (fun N6 R6 F6 E6 M6 S6 x6 y6 => ?_) (nd j) 0 d R N5 (by omega) (FM.rf _ _ _) hE hM5 (fun w => ⟨fun h => ⟨h, fun s hs => absurd hs (Nat.not_lt_zero s)⟩, fun h => h.1⟩)
          refine k344 N6 l x6 y6 (FN5.tr (F6.mo rfl rfl)) ⟨R6, E6, M6, fun w hw => ?_⟩
          rw [S6 w, hS w hw]
          have hpt : (∀ s, s < nd j → dt (n1 + n2) (rwT p X Y.1 n1 (n1 + n2) s) w % p = 0) ↔ @bpw (Pz p) (pring p) f (PI f q) (nd j) (vcA n1 w, vcB n1 n2 w) := by
            refine Iff.trans ?_ (hO (nd j) (by omega) (vcA n1 w, vcB n1 n2 w)).symm
            constructor
            · intro h s hs
              have := h s hs
              rw [dt_psi hp (f := f) X Y n1 n2 s hw] at this; exact this
            · intro h s hs
              rw [dt_psi hp (f := f) X Y n1 n2 s hw]; exact h s hs
          rw [hpt, show n1 + n2 - n1 = n2 by omega]
          constructor
          · rintro ⟨g1, g2⟩ i r hi hr2
            by_cases c : i = j
            · subst c
              rw [eq] at hr2
              cases hr2
              exact g2
            · exact g1 i r (by omega) hr2
          · intro g1
            exact ⟨fun i r hi hr2 => g1 i r (by omega) hr2, g1 j q (by omega) eq⟩
        refine WP.run [(222, 284)] [] 60 ?_
        simp only [bk222_0, bk222_13, bk222_21, bk222_38, bk222_42, bk222_44, bk222_59, bk222_72, bk222_73, bk222_83, bk222_92, bk222_102, bk222_119, bk222_131, bk222_150, bk222_159, bk222_166, bk222_177, bk222_181, bk222_182, bk222_189, bk222_192, bk222_198, bk222_214, bk222_217, bk222_224, bk222_229, bk222_254, bk222_259, bk222_265, bk222_281, bk222_284, bk222_291, bk222_294, bk222_300, bk222_333, bk222_344, bk222_350, U_aload_n, U_invokevirtual0, U_getfield, U_iconst, U_iald, U_istore_n, U_iload_n, U_icmp_ge, U_imul, U_iadd, U_iinc, U_goto, U_if_ge, U_ireturn, U_idiv, U_icmp_lt, U_isub, U_putfield, U_istore, U_iload, U_if_ne, U_if_le, U_invokevirtual1, U_bipush, U_iast, U_invokevirtual2, U_icmp_le, UN_cc, UN_cn, UN_nc, UN_nn, UJ, lget, lset, lset2, entL, wsm, wcat, Option.toList_some, Option.toList_none, List.cons_append, List.nil_append, List.mem_cons, List.not_mem_nil, Prod.mk.injEq, or_false, false_or, or_true, true_or, and_true, true_and, and_false, false_and, and_self, ne_eq, not_false_eq_true, not_true_eq_false, forall_const, true_implies, false_implies, Nat.add_zero, Nat.zero_add, Nat.le_refl, Nat.zero_le, List.set_cons_zero, List.set_cons_succ, List.set_nil, ↓reduceIte, Nat.reduceAdd, Nat.reduceSub, Nat.reduceEqDiff, Nat.reduceLeDiff, Int.reduceEq, Int.reduceNe, Int.reduceNeg, reduceCtorEq]
        exact nx5
      refine WP.run [(222, 259)] [] 60 ?_
      simp only [bk222_0, bk222_13, bk222_21, bk222_38, bk222_42, bk222_44, bk222_59, bk222_72, bk222_73, bk222_83, bk222_92, bk222_102, bk222_119, bk222_131, bk222_150, bk222_159, bk222_166, bk222_177, bk222_181, bk222_182, bk222_189, bk222_192, bk222_198, bk222_214, bk222_217, bk222_224, bk222_229, bk222_254, bk222_259, bk222_265, bk222_281, bk222_284, bk222_291, bk222_294, bk222_300, bk222_333, bk222_344, bk222_350, U_aload_n, U_invokevirtual0, U_getfield, U_iconst, U_iald, U_istore_n, U_iload_n, U_icmp_ge, U_imul, U_iadd, U_iinc, U_goto, U_if_ge, U_ireturn, U_idiv, U_icmp_lt, U_isub, U_putfield, U_istore, U_iload, U_if_ne, U_if_le, U_invokevirtual1, U_bipush, U_iast, U_invokevirtual2, U_icmp_le, UN_cc, UN_cn, UN_nc, UN_nn, UJ, lget, lset, lset2, entL, wsm, wcat, Option.toList_some, Option.toList_none, List.cons_append, List.nil_append, List.mem_cons, List.not_mem_nil, Prod.mk.injEq, or_false, false_or, or_true, true_or, and_true, true_and, and_false, false_and, and_self, ne_eq, not_false_eq_true, not_true_eq_false, forall_const, true_implies, false_implies, Nat.add_zero, Nat.zero_add, Nat.le_refl, Nat.zero_le, List.set_cons_zero, List.set_cons_succ, List.set_nil, ↓reduceIte, Nat.reduceAdd, Nat.reduceSub, Nat.reduceEqDiff, Nat.reduceLeDiff, Int.reduceEq, Int.reduceNe, Int.reduceNeg, reduceCtorEq, show (n1 : Int) + 1 = ((n1 + 1 : Nat) : Int) by omega]
      repeat' (first | refine And.intro (by omega) ?_ | refine And.intro (rr (by omega)) ?_ | refine And.intro (r3 (by omega)) ?_ | refine And.intro (r6 (by omega)) ?_ | ((fail_if_success (show WP _ _ _ _ _ _ _ _)); (first | refine And.intro ?_ ?_ | intro _)))
      all_goals first | (exfalso; omega) | exact nx4
    have ki : nd j = 0 → ∀ l : Int, WP 222 (0, 0) 344 [(2, 190), (0, mt), (0, (n1 : Int)), (0, ((n1 + n2 : Nat) : Int)), (0, (j : Int) + 1), (0, l), (0, (nd j : Int)), c, d] [] NN Ni Q := fun n0 l => by
      refine k344 Ni l c d hF ?_
      obtain ⟨R, hE, hM, hS⟩ := hI
      refine ⟨R, hE, hM, fun w hw => (hS w hw).trans ⟨fun h i r hi hr2 => ?_, fun h i r hi hr2 => h i r (by omega) hr2⟩⟩
      by_cases c : i = j
      · subst c
        rw [n0]; exact trivial
      · exact h i r (by omega) hr2
    have elq : lq (lfF (ptl f p.toNat) B (ptl f p.toNat).length) q = if q.2 = 0 then 2 * lfF (ptl f p.toNat) B (ptl f p.toNat).length q.1.toNat else lfF (ptl f p.toNat) B (ptl f p.toNat).length q.1.toNat := rfl
    generalize lfF (ptl f p.toNat) B (ptl f p.toNat).length q.1.toNat = lx at *
    generalize lq (lfF (ptl f p.toNat) B (ptl f p.toNat).length) q = lqq at *
    have e5 : (nd j : Int) = (lqq : Int) - B (j + 1) := by omega
    rw [e5] at ki kx
    refine WP.run [(222, 83), (222, 159), (222, 344)] [] 90 ?_
    simp only [bk222_0, bk222_13, bk222_21, bk222_38, bk222_42, bk222_44, bk222_59, bk222_72, bk222_73, bk222_83, bk222_92, bk222_102, bk222_119, bk222_131, bk222_150, bk222_159, bk222_166, bk222_177, bk222_181, bk222_182, bk222_189, bk222_192, bk222_198, bk222_214, bk222_217, bk222_224, bk222_229, bk222_254, bk222_259, bk222_265, bk222_281, bk222_284, bk222_291, bk222_294, bk222_300, bk222_333, bk222_344, bk222_350, U_aload_n, U_invokevirtual0, U_getfield, U_iconst, U_iald, U_istore_n, U_iload_n, U_icmp_ge, U_imul, U_iadd, U_iinc, U_goto, U_if_ge, U_ireturn, U_idiv, U_icmp_lt, U_isub, U_putfield, U_istore, U_iload, U_if_ne, U_if_le, U_invokevirtual1, U_bipush, U_iast, U_invokevirtual2, U_icmp_le, UN_cc, UN_cn, UN_nc, UN_nn, UJ, lget, lset, lset2, entL, wsm, wcat, Option.toList_some, Option.toList_none, List.cons_append, List.nil_append, List.mem_cons, List.not_mem_nil, Prod.mk.injEq, or_false, false_or, or_true, true_or, and_true, true_and, and_false, false_and, and_self, ne_eq, not_false_eq_true, not_true_eq_false, forall_const, true_implies, false_implies, Nat.add_zero, Nat.zero_add, Nat.le_refl, Nat.zero_le, List.set_cons_zero, List.set_cons_succ, List.set_nil, ↓reduceIte, Nat.reduceAdd, Nat.reduceSub, Nat.reduceEqDiff, Nat.reduceLeDiff, Int.reduceEq, Int.reduceNe, Int.reduceNeg, reduceCtorEq, kd190, kd192, kd193, kd207, kd208, ln192, ln193, ln207, ln208, z190_6 hz, z190_7 hz, z190_24 hz, z190_25 hz, a1, a2, a3, a4, G.2.2.2]
    by_cases y : q.2 = 0
    · rw [if_pos y] at elq
      have e6 : (lqq : Int) = 2 * (lx : Int) := by omega
      rw [e6] at kx ki
      repeat' (first | refine And.intro (by omega) ?_ | refine And.intro (rr (by omega)) ?_ | refine And.intro (r3 (by omega)) ?_ | refine And.intro (r6 (by omega)) ?_ | ((fail_if_success (show WP _ _ _ _ _ _ _ _)); (first | refine And.intro ?_ ?_ | intro _)))
      all_goals first
        | (exfalso; omega)
        | exact ki (by omega) _
        | (refine m_expand hp G hcv hP eq (fun N1 X Y F1 hX => ?_)
           simp only [bk222_0, bk222_13, bk222_21, bk222_38, bk222_42, bk222_44, bk222_59, bk222_72, bk222_73, bk222_83, bk222_92, bk222_102, bk222_119, bk222_131, bk222_150, bk222_159, bk222_166, bk222_177, bk222_181, bk222_182, bk222_189, bk222_192, bk222_198, bk222_214, bk222_217, bk222_224, bk222_229, bk222_254, bk222_259, bk222_265, bk222_281, bk222_284, bk222_291, bk222_294, bk222_300, bk222_333, bk222_344, bk222_350, U_aload_n, U_invokevirtual0, U_getfield, U_iconst, U_iald, U_istore_n, U_iload_n, U_icmp_ge, U_imul, U_iadd, U_iinc, U_goto, U_if_ge, U_ireturn, U_idiv, U_icmp_lt, U_isub, U_putfield, U_istore, U_iload, U_if_ne, U_if_le, U_invokevirtual1, U_bipush, U_iast, U_invokevirtual2, U_icmp_le, UN_cc, UN_cn, UN_nc, UN_nn, UJ, lget, lset, lset2, entL, wsm, wcat, Option.toList_some, Option.toList_none, List.cons_append, List.nil_append, List.mem_cons, List.not_mem_nil, Prod.mk.injEq, or_false, false_or, or_true, true_or, and_true, true_and, and_false, false_and, and_self, ne_eq, not_false_eq_true, not_true_eq_false, forall_const, true_implies, false_implies, Nat.add_zero, Nat.zero_add, Nat.le_refl, Nat.zero_le, List.set_cons_zero, List.set_cons_succ, List.set_nil, ↓reduceIte, Nat.reduceAdd, Nat.reduceSub, Nat.reduceEqDiff, Nat.reduceLeDiff, Int.reduceEq, Int.reduceNe, Int.reduceNeg, reduceCtorEq]
           exact kx _ (by omega) N1 X Y F1 hX)
    · rw [if_neg y] at elq
      have e6 : (lqq : Int) = (lx : Int) := by omega
      rw [e6] at kx ki
      repeat' (first | refine And.intro (by omega) ?_ | refine And.intro (rr (by omega)) ?_ | refine And.intro (r3 (by omega)) ?_ | refine And.intro (r6 (by omega)) ?_ | ((fail_if_success (show WP _ _ _ _ _ _ _ _)); (first | refine And.intro ?_ ?_ | intro _)))
      all_goals first
        | (exfalso; omega)
        | exact ki (by omega) _
        | (refine m_expand hp G hcv hP eq (fun N1 X Y F1 hX => ?_)
           simp only [bk222_0, bk222_13, bk222_21, bk222_38, bk222_42, bk222_44, bk222_59, bk222_72, bk222_73, bk222_83, bk222_92, bk222_102, bk222_119, bk222_131, bk222_150, bk222_159, bk222_166, bk222_177, bk222_181, bk222_182, bk222_189, bk222_192, bk222_198, bk222_214, bk222_217, bk222_224, bk222_229, bk222_254, bk222_259, bk222_265, bk222_281, bk222_284, bk222_291, bk222_294, bk222_300, bk222_333, bk222_344, bk222_350, U_aload_n, U_invokevirtual0, U_getfield, U_iconst, U_iald, U_istore_n, U_iload_n, U_icmp_ge, U_imul, U_iadd, U_iinc, U_goto, U_if_ge, U_ireturn, U_idiv, U_icmp_lt, U_isub, U_putfield, U_istore, U_iload, U_if_ne, U_if_le, U_invokevirtual1, U_bipush, U_iast, U_invokevirtual2, U_icmp_le, UN_cc, UN_cn, UN_nc, UN_nn, UJ, lget, lset, lset2, entL, wsm, wcat, Option.toList_some, Option.toList_none, List.cons_append, List.nil_append, List.mem_cons, List.not_mem_nil, Prod.mk.injEq, or_false, false_or, or_true, true_or, and_true, true_and, and_false, false_and, and_self, ne_eq, not_false_eq_true, not_true_eq_false, forall_const, true_implies, false_implies, Nat.add_zero, Nat.zero_add, Nat.le_refl, Nat.zero_le, List.set_cons_zero, List.set_cons_succ, List.set_nil, ↓reduceIte, Nat.reduceAdd, Nat.reduceSub, Nat.reduceEqDiff, Nat.reduceLeDiff, Int.reduceEq, Int.reduceNe, Int.reduceNeg, reduceCtorEq]
           exact kx _ (by omega) N1 X Y F1 hX)
