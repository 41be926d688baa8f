/-! THE MODEL'S GROUP -/
theorem ok_w : FZK [198, 199, 204] [] := fzk rfl rfl
theorem MG.w {p : Int} {f : Pz p} {g : Nat} {N N' : Mem} (h : MG f g N) (b : MB f g N') (e : FM [198, 199, 204] [] N N') : MG f g N' := b.mg h e (by decide) (by decide)
set_option maxHeartbeats 8000000 in
theorem l_kbI {N : Mem} {Q : Post} {i : Nat} {B M : Int} (hi : i < 520) (hQ : ∀ N', Mvd 204 203 1 i N N' → ∀ a : Int, WP 213 (0, 0) 53 [(2, 190), (0, B), (0, M), (0, (i : Int)), (0, a)] [] NN N' Q) : ∀ (n k : Nat) (Ni : Mem), k + n = 5 → Fz Ni → (∀ b, b ≠ 204 → Ni b = N b) → (∀ j : Nat, j < k → Ni 204 (5 * (1 : Int) + (j : Int)) = N 203 (5 * (i : Int) + (j : Int))) → (∀ j, ¬ (5 * (1 : Int) ≤ j ∧ j < 5 * (1 : Int) + k) → Ni 204 j = N 204 j) → WP 213 (0, 0) 21 [(2, 190), (0, B), (0, M), (0, (i : Int)), (0, (k : Int))] [] NN Ni Q := by
  intro n
  induction n with
  | zero =>
    intro k Ni hk hz h1 h2 h3
    obtain rfl : k = 5 := by omega
    refine WP.run [(213, 21), (213, 53)] [] 40 ?_
    simp only [bk213_0, bk213_10, bk213_18, bk213_21, bk213_27, bk213_53, bk213_72, bk213_76, bk213_77, bk213_85, U_iconst, U_istore_n, U_aload_n, U_bipush, U_invokevirtual1, U_iload_n, U_getfield, U_icmp_ge, U_istore, U_iload, U_iadd, U_imul, U_iald, U_iast, U_iinc, U_goto, U_i2l, U_invokevirtual3, U_invokevirtual2, U_if_eq, U_ireturn, UN_cc, UN_cn, UN_nc, UN_nn, UJ, lget, lset, lset2, entL, wsm, wcat, Option.toList_some, Option.toList_none, List.cons_append, List.nil_append, List.mem_cons, List.not_mem_nil, Prod.mk.injEq, or_false, false_or, or_true, true_or, and_true, true_and, and_false, false_and, and_self, ne_eq, not_false_eq_true, not_true_eq_false, forall_const, true_implies, false_implies, Nat.add_zero, Nat.zero_add, Nat.le_refl, Nat.zero_le, List.set_cons_zero, List.set_cons_succ, List.set_nil, ↓reduceIte, Nat.reduceAdd, Nat.reduceSub, Nat.reduceEqDiff, Nat.reduceLeDiff, Int.reduceEq, Int.reduceNe, Int.reduceNeg, reduceCtorEq]
    exact ⟨rr (by omega), fun e => absurd e (by omega), fun _ => hQ Ni ⟨h1, fun j hj => h2 j (by omega), fun j hj => h3 j (by omega)⟩ _⟩
  | succ n ih =>
    intro k Ni hk hz h1 h2 h3
    have e : Ni 203 (5 * (i : Int) + (k : Int)) = N 203 (5 * (i : Int) + (k : Int)) := by rw [h1 203 (by decide)]
    refine WP.run [(213, 21), (213, 53)] [] 40 ?_
    simp only [bk213_0, bk213_10, bk213_18, bk213_21, bk213_27, bk213_53, bk213_72, bk213_76, bk213_77, bk213_85, U_iconst, U_istore_n, U_aload_n, U_bipush, U_invokevirtual1, U_iload_n, U_getfield, U_icmp_ge, U_istore, U_iload, U_iadd, U_imul, U_iald, U_iast, U_iinc, U_goto, U_i2l, U_invokevirtual3, U_invokevirtual2, U_if_eq, U_ireturn, UN_cc, UN_cn, UN_nc, UN_nn, UJ, lget, lset, lset2, entL, wsm, wcat, Option.toList_some, Option.toList_none, List.cons_append, List.nil_append, List.mem_cons, List.not_mem_nil, Prod.mk.injEq, or_false, false_or, or_true, true_or, and_true, true_and, and_false, false_and, and_self, ne_eq, not_false_eq_true, not_true_eq_false, forall_const, true_implies, false_implies, Nat.add_zero, Nat.zero_add, Nat.le_refl, Nat.zero_le, List.set_cons_zero, List.set_cons_succ, List.set_nil, ↓reduceIte, Nat.reduceAdd, Nat.reduceSub, Nat.reduceEqDiff, Nat.reduceLeDiff, Int.reduceEq, Int.reduceNe, Int.reduceNeg, reduceCtorEq, kd190, kd203, ln203, kd204, ln204, z190_18 hz, z190_20 hz, e]
    refine ⟨rr (by omega), fun _ => ⟨by omega, by omega, by omega, by omega, ?_⟩, fun e => absurd (by omega) e⟩
    refine ih (k + 1) _ (by omega) (hz.ust (fz_arr (Or.inl rfl) _)) (fun b hb => by rw [ust_ne hb]; exact h1 b hb) (fun j hj => ?_) (fun j hj => ?_)
    · rw [ust_at]
      by_cases q : j = k
      · rw [if_pos (by omega), q]
      · rw [if_neg (by omega)]; exact h2 j (by omega)
    · rw [ust_at, if_neg (by omega)]; exact h3 j (by omega)
set_option maxHeartbeats 16000000 in
theorem m_killedBy {p : Int} {N : Mem} {Q : Post} {f : Pz p} {g B : Nat} {ad : Gq f g → Gq f g → Gq f g} {z : Gq f g} {ng : Gq f g → Gq f g} (hG : GG f g ad z ng) (h : MG f g N) (hA : MlA p N (tkl f g)) (hp : Pr p) (hcv : Cv f g) (hg2 : g ≤ 2) (hl : (tkl f g).length ≤ 450) (hB : B ≤ 1000000) (hQ : ∀ N', MG f g N' → MlA p N' (tkl f g) → FM [198, 199, 204] [] N N' → Q (some (0, (klN ad z (cll f g z) B : Int))) NN N') : CL 213 [(2, 190), (0, (B : Int)), (9, 0), (9, 0), (9, 0)] NN N Q := by
  have key : ∀ (n i : Nat) (a : V) (Ni : Mem), i + n = (tkl f g).length → MG f g Ni → MlA p Ni (tkl f g) → FM [198, 199, 204] [] N Ni → WK Ni 204 7 z.1 → WP 213 (0, 0) 10 [(2, 190), (0, (B : Int)), (0, (klN ad z ((cll f g z).take i) B : Int)), (0, (i : Int)), a] [] NN Ni Q := by
    intro n
    induction n with
    | zero =>
      intro i a Ni hi jG jA jF j7
      obtain rfl : i = (tkl f g).length := by omega
      rw [List.take_of_length_le (by rw [cll_len]; exact Nat.le_refl _)]
      refine WP.run [(213, 10)] [] 60 ?_
      simp only [bk213_0, bk213_10, bk213_18, bk213_21, bk213_27, bk213_53, bk213_72, bk213_76, bk213_77, bk213_85, U_iconst, U_istore_n, U_aload_n, U_bipush, U_invokevirtual1, U_iload_n, U_getfield, U_icmp_ge, U_istore, U_iload, U_iadd, U_imul, U_iald, U_iast, U_iinc, U_goto, U_i2l, U_invokevirtual3, U_invokevirtual2, U_if_eq, U_ireturn, UN_cc, UN_cn, UN_nc, UN_nn, UJ, lget, lset, lset2, entL, wsm, wcat, Option.toList_some, Option.toList_none, List.cons_append, List.nil_append, List.mem_cons, List.not_mem_nil, Prod.mk.injEq, or_false, false_or, or_true, true_or, and_true, true_and, and_false, false_and, and_self, ne_eq, not_false_eq_true, not_true_eq_false, forall_const, true_implies, false_implies, Nat.add_zero, Nat.zero_add, Nat.le_refl, Nat.zero_le, List.set_cons_zero, List.set_cons_succ, List.set_nil, ↓reduceIte, Nat.reduceAdd, Nat.reduceSub, Nat.reduceEqDiff, Nat.reduceLeDiff, Int.reduceEq, Int.reduceNe, Int.reduceNeg, reduceCtorEq, kd190, jA.1]
      exact ⟨rr (by omega), fun e => absurd e (by omega), fun _ => hQ Ni jG jA jF⟩
    | succ n ih =>
      intro i a Ni hi jG jA jF j7
      obtain ⟨x, hx⟩ : ∃ x, (cll f g z)[i]? = some x := ⟨_, List.getElem?_eq_getElem (by rw [cll_len]; omega)⟩
      have hk := klN_take ad z (cll f g z) B i hx
      refine WP.run [(213, 10), (213, 21)] [] 60 ?_
      simp only [bk213_0, bk213_10, bk213_18, bk213_21, bk213_27, bk213_53, bk213_72, bk213_76, bk213_77, bk213_85, U_iconst, U_istore_n, U_aload_n, U_bipush, U_invokevirtual1, U_iload_n, U_getfield, U_icmp_ge, U_istore, U_iload, U_iadd, U_imul, U_iald, U_iast, U_iinc, U_goto, U_i2l, U_invokevirtual3, U_invokevirtual2, U_if_eq, U_ireturn, UN_cc, UN_cn, UN_nc, UN_nn, UJ, lget, lset, lset2, entL, wsm, wcat, Option.toList_some, Option.toList_none, List.cons_append, List.nil_append, List.mem_cons, List.not_mem_nil, Prod.mk.injEq, or_false, false_or, or_true, true_or, and_true, true_and, and_false, false_and, and_self, ne_eq, not_false_eq_true, not_true_eq_false, forall_const, true_implies, false_implies, Nat.add_zero, Nat.zero_add, Nat.le_refl, Nat.zero_le, List.set_cons_zero, List.set_cons_succ, List.set_nil, ↓reduceIte, Nat.reduceAdd, Nat.reduceSub, Nat.reduceEqDiff, Nat.reduceLeDiff, Int.reduceEq, Int.reduceNe, Int.reduceNeg, reduceCtorEq, kd190, jA.1]
      refine ⟨rr (by omega), fun _ => ?_, fun e => absurd (by omega) e⟩
      refine l_kbI (N := Ni) (i := i) (by omega) (fun N1 s1 a => ?_) 5 0 Ni rfl jG.mt.1 (fun _ _ => rfl) (fun j hj => by omega) (fun _ _ => rfl)
      have w1 : WK N1 204 1 x.1 := (jA.wk hp hcv.1 hx).mv s1
      have w7 : WK N1 204 7 z.1 := j7.kp s1 (by omega)
      have G1 := jG.fm s1.f4 ok_4 (by decide) (by decide) (by decide) (by decide) (by decide) (by decide)
      refine WP.run [(213, 10)] [] 60 ?_
      simp only [bk213_0, bk213_10, bk213_18, bk213_21, bk213_27, bk213_53, bk213_72, bk213_76, bk213_77, bk213_85, U_iconst, U_istore_n, U_aload_n, U_bipush, U_invokevirtual1, U_iload_n, U_getfield, U_icmp_ge, U_istore, U_iload, U_iadd, U_imul, U_iald, U_iast, U_iinc, U_goto, U_i2l, U_invokevirtual3, U_invokevirtual2, U_if_eq, U_ireturn, UN_cc, UN_cn, UN_nc, UN_nn, UJ, lget, lset, lset2, entL, wsm, wcat, Option.toList_some, Option.toList_none, List.cons_append, List.nil_append, List.mem_cons, List.not_mem_nil, Prod.mk.injEq, or_false, false_or, or_true, true_or, and_true, true_and, and_false, false_and, and_self, ne_eq, not_false_eq_true, not_true_eq_false, forall_const, true_implies, false_implies, Nat.add_zero, Nat.zero_add, Nat.le_refl, Nat.zero_le, List.set_cons_zero, List.set_cons_succ, List.set_nil, ↓reduceIte, Nat.reduceAdd, Nat.reduceSub, Nat.reduceEqDiff, Nat.reduceLeDiff, Int.reduceEq, Int.reduceNe, Int.reduceNeg, reduceCtorEq, kd190]
      refine ⟨r3 (by omega), m_timesOf (to := 0) (ka := 1) (n := B) hG G1.mb hp hcv (by omega) (by omega) (by omega) (by omega) (by omega) w1 fun N2 t1 t2 t3 t4 => ?_⟩
      have F2 : FM [198, 199, 204] [] Ni N2 := (s1.f4.mo rfl rfl).tr t2.fm
      have G2 := jG.w t1 F2
      have A2 := jA.fm F2 (by decide) (by decide)
      have v7 : WK N2 204 7 z.1 := fun j hj => by rw [t4 _ (by omega) (by omega)]; exact w7 j hj
      have hlk := lkC_is hp hg2 t3 v7
      have elk : lkN N2 0 7 5 = lkC N2 204 204 0 7 5 := rfl
      have h01 := lkN_01 N2 0 7 5
      have nx := ih (i + 1) (0, a) N2 (by omega) G2 A2 (jF.tr F2) v7
      simp only [bk213_0, bk213_10, bk213_18, bk213_21, bk213_27, bk213_53, bk213_72, bk213_76, bk213_77, bk213_85, U_iconst, U_istore_n, U_aload_n, U_bipush, U_invokevirtual1, U_iload_n, U_getfield, U_icmp_ge, U_istore, U_iload, U_iadd, U_imul, U_iald, U_iast, U_iinc, U_goto, U_i2l, U_invokevirtual3, U_invokevirtual2, U_if_eq, U_ireturn, UN_cc, UN_cn, UN_nc, UN_nn, UJ, lget, lset, lset2, entL, wsm, wcat, Option.toList_some, Option.toList_none, List.cons_append, List.nil_append, List.mem_cons, List.not_mem_nil, Prod.mk.injEq, or_false, false_or, or_true, true_or, and_true, true_and, and_false, false_and, and_self, ne_eq, not_false_eq_true, not_true_eq_false, forall_const, true_implies, false_implies, Nat.add_zero, Nat.zero_add, Nat.le_refl, Nat.zero_le, List.set_cons_zero, List.set_cons_succ, List.set_nil, ↓reduceIte, Nat.reduceAdd, Nat.reduceSub, Nat.reduceEqDiff, Nat.reduceLeDiff, Int.reduceEq, Int.reduceNe, Int.reduceNeg, reduceCtorEq, kd190]
      refine m_isLike (t := 0) (a := 7) t1.fz (by omega) (by omega) (fun j hj => ⟨?_, ?_⟩) ?_
      · rw [t3 j hj]; have := gq_rg hp hg2 (nsm ad z B x) j; exact r3 (by omega)
      · rw [v7 j hj]; have := gq_rg hp hg2 z j; exact r3 (by omega)
      simp only [bk213_0, bk213_10, bk213_18, bk213_21, bk213_27, bk213_53, bk213_72, bk213_76, bk213_77, bk213_85, U_iconst, U_istore_n, U_aload_n, U_bipush, U_invokevirtual1, U_iload_n, U_getfield, U_icmp_ge, U_istore, U_iload, U_iadd, U_imul, U_iald, U_iast, U_iinc, U_goto, U_i2l, U_invokevirtual3, U_invokevirtual2, U_if_eq, U_ireturn, UN_cc, UN_cn, UN_nc, UN_nn, UJ, lget, lset, lset2, entL, wsm, wcat, Option.toList_some, Option.toList_none, List.cons_append, List.nil_append, List.mem_cons, List.not_mem_nil, Prod.mk.injEq, or_false, false_or, or_true, true_or, and_true, true_and, and_false, false_and, and_self, ne_eq, not_false_eq_true, not_true_eq_false, forall_const, true_implies, false_implies, Nat.add_zero, Nat.zero_add, Nat.le_refl, Nat.zero_le, List.set_cons_zero, List.set_cons_succ, List.set_nil, ↓reduceIte, Nat.reduceAdd, Nat.reduceSub, Nat.reduceEqDiff, Nat.reduceLeDiff, Int.reduceEq, Int.reduceNe, Int.reduceNeg, reduceCtorEq]
      refine ⟨r3 (by omega), fun e => ?_, fun e => ?_⟩
      · rw [hk, if_neg (fun w => by have := hlk.mpr w; omega), Nat.add_zero] at nx
        rw [Int.add_zero]; exact nx
      · rw [hk, if_pos (hlk.mp (by omega))] at nx
        exact nx
  refine WP.run [(213, 10)] [] 60 ?_
  simp only [bk213_0, bk213_10, bk213_18, bk213_21, bk213_27, bk213_53, bk213_72, bk213_76, bk213_77, bk213_85, U_iconst, U_istore_n, U_aload_n, U_bipush, U_invokevirtual1, U_iload_n, U_getfield, U_icmp_ge, U_istore, U_iload, U_iadd, U_imul, U_iald, U_iast, U_iinc, U_goto, U_i2l, U_invokevirtual3, U_invokevirtual2, U_if_eq, U_ireturn, UN_cc, UN_cn, UN_nc, UN_nn, UJ, lget, lset, lset2, entL, wsm, wcat, Option.toList_some, Option.toList_none, List.cons_append, List.nil_append, List.mem_cons, List.not_mem_nil, Prod.mk.injEq, or_false, false_or, or_true, true_or, and_true, true_and, and_false, false_and, and_self, ne_eq, not_false_eq_true, not_true_eq_false, forall_const, true_implies, false_implies, Nat.add_zero, Nat.zero_add, Nat.le_refl, Nat.zero_le, List.set_cons_zero, List.set_cons_succ, List.set_nil, ↓reduceIte, Nat.reduceAdd, Nat.reduceSub, Nat.reduceEqDiff, Nat.reduceLeDiff, Int.reduceEq, Int.reduceNe, Int.reduceNeg, reduceCtorEq, kd190]
  refine m_nought (t := 7) h.mt.1 (by omega) fun N1 t1 t2 t3 => ?_
  have F1 : FM [204] [] N N1 := ⟨fun c _ y => t1 c (fun w => y (by simp [w])), fun i _ => by rw [t1 190 (by decide)]⟩
  have G1 := h.fm F1 ok_4 (by decide) (by decide) (by decide) (by decide) (by decide) (by decide)
  have k7 : WK N1 204 7 z.1 := fun j hj => by rw [t2 j hj]; exact (wkD_z hp hG.2.2.1 j).symm
  simp only [bk213_0, bk213_10, bk213_18, bk213_21, bk213_27, bk213_53, bk213_72, bk213_76, bk213_77, bk213_85, U_iconst, U_istore_n, U_aload_n, U_bipush, U_invokevirtual1, U_iload_n, U_getfield, U_icmp_ge, U_istore, U_iload, U_iadd, U_imul, U_iald, U_iast, U_iinc, U_goto, U_i2l, U_invokevirtual3, U_invokevirtual2, U_if_eq, U_ireturn, UN_cc, UN_cn, UN_nc, UN_nn, UJ, lget, lset, lset2, entL, wsm, wcat, Option.toList_some, Option.toList_none, List.cons_append, List.nil_append, List.mem_cons, List.not_mem_nil, Prod.mk.injEq, or_false, false_or, or_true, true_or, and_true, true_and, and_false, false_and, and_self, ne_eq, not_false_eq_true, not_true_eq_false, forall_const, true_implies, false_implies, Nat.add_zero, Nat.zero_add, Nat.le_refl, Nat.zero_le, List.set_cons_zero, List.set_cons_succ, List.set_nil, ↓reduceIte, Nat.reduceAdd, Nat.reduceSub, Nat.reduceEqDiff, Nat.reduceLeDiff, Int.reduceEq, Int.reduceNe, Int.reduceNeg, reduceCtorEq]
  exact key (tkl f g).length 0 _ N1 (by omega) G1 (hA.fm F1 (by decide) (by decide)) (F1.mo rfl rfl) k7
/-- what the model has counted of the powers of q -/
def KiA {G : Type} (ad : G → G → G) (z : G) (L : List G) (q : Nat) (N : Mem) (v : Nat) : Prop := ∀ j : Nat, j ≤ v → N 206 (j : Int) = (klN ad z L (q ^ j) : Int)
theorem ok_p : FZK [198, 199, 204, 206] [] := fzk rfl rfl
theorem pw_b {q j l : Nat} (hq : 2 ≤ q) (hl : 0 < l) (h : q ^ j * l ≤ 450) : j ≤ 8 ∧ q ^ j ≤ 450 := by
  have h1 : 2 ^ j ≤ q ^ j := Nat.pow_le_pow_left hq j
  have h2 : q ^ j ≤ q ^ j * l := Nat.le_mul_of_pos_right _ hl
  refine ⟨?_, by omega⟩
  false_or_by_contra
  have h3 : 2 ^ 9 ≤ 2 ^ j := Nat.pow_le_pow_right (by omega) (by omega)
  omega
set_option maxHeartbeats 16000000 in
theorem l_pt1 {p : Int} {N : Mem} {Q : Post} {f : Pz p} {g q l0 : Nat} {ad : Gq f g → Gq f g → Gq f g} {z : Gq f g} {ng : Gq f g → Gq f g} {all : Int} (hG : GG f g ad z ng) (hp : Pr p) (hcv : Cv f g) (hg2 : g ≤ 2) (hl : (tkl f g).length ≤ 450) (hq : 2 ≤ q ∧ q ≤ 450) (h0 : l0 ≤ 450) (hQ : ∀ N', MG f g N' → MlA p N' (tkl f g) → FM [198, 199, 204, 206] [] N N' → KiA ad z (cll f g z) q N' (vqn q l0 l0) → ∀ pw : Int, WP 214 (0, 0) 50 [(2, 190), (0, (q : Int)), (0, all), (0, (stp q l0 l0 : Int)), (0, pw), (0, (vqn q l0 l0 : Int)), (9, 0), (9, 0), (9, 0)] [] NN N' Q) :
    ∀ (n l j : Nat) (Ni : Mem), 0 < l → l ≤ n → q ^ j * l = l0 → stp q n l = stp q l0 l0 → vqn q n l + j = vqn q l0 l0 → MG f g Ni → MlA p Ni (tkl f g) → FM [198, 199, 204, 206] [] N Ni → KiA ad z (cll f g z) q Ni j → WP 214 (0, 0) 15 [(2, 190), (0, (q : Int)), (0, all), (0, (l : Int)), (0, ((q ^ j : Nat) : Int)), (0, (j : Int)), (9, 0), (9, 0), (9, 0)] [] NN Ni Q := by
  intro n
  induction n with
  | zero => intro l j Ni a1 a2; omega
  | succ n ih =>
    intro l j Ni a1 a2 a3 a4 a5 jG jA jF jK
    have em : (l : Int).tmod (q : Int) = ((l % q : Nat) : Int) := by rw [tm_nn (by omega), Int.natCast_emod]
    have el : (l : Int).tdiv (q : Int) = ((l / q : Nat) : Int) := by rw [Int.tdiv_eq_ediv_of_nonneg (by omega), Int.natCast_ediv]
    have hmq : l % q < q := Nat.mod_lt _ (by omega)
    obtain ⟨b1, b2⟩ := pw_b hq.1 a1 (show q ^ j * l ≤ 450 by omega)
    have hz := jG.mt.1
    have hll : l ≤ 450 := by have : l ≤ q ^ j * l := Nat.le_mul_of_pos_left _ (Nat.pow_pos (by omega)); omega
    rw [show stp q (n + 1) l = if 1 < l ∧ l % q = 0 then stp q n (l / q) else l from rfl] at a4
    rw [show vqn q (n + 1) l = if 1 < l ∧ l % q = 0 then vqn q n (l / q) + 1 else 0 from rfl] at a5
    by_cases c : l % q = 0
    · have hl1 : 1 < l := by
        false_or_by_contra
        obtain rfl : l = 1 := by omega
        rw [Nat.mod_eq_of_lt (by omega)] at c; omega
      rw [if_pos ⟨hl1, c⟩] at a4 a5
      have hdv : q ∣ l := Nat.dvd_of_mod_eq_zero c
      have hl2 : l = q * (l / q) := (Nat.mul_div_cancel' hdv).symm
      have hlp : 0 < l / q := Nat.div_pos (Nat.le_of_dvd a1 hdv) (by omega)
      have hlt : l / q < l := Nat.div_lt_self a1 (by omega)
      have e3 : q ^ (j + 1) * (l / q) = l0 := by rw [Nat.pow_succ, Nat.mul_assoc, ← hl2]; exact a3
      obtain ⟨c1, c2⟩ := pw_b hq.1 hlp (show q ^ (j + 1) * (l / q) ≤ 450 by omega)
      have epw : ((q ^ j : Nat) : Int) * (q : Int) = ((q ^ (j + 1) : Nat) : Int) := by rw [Nat.pow_succ, Int.natCast_mul]
      refine WP.run [(214, 15), (214, 50)] [] 60 ?_
      simp only [bk214_0, bk214_15, bk214_21, bk214_50, bk214_53, bk214_60, bk214_82, bk214_88, bk214_112, bk214_118, U_iload_n, U_istore_n, U_iconst, U_istore, U_aload_n, U_getfield, U_iast, U_irem, U_if_ne, U_idiv, U_iinc, U_iload, U_imul, U_invokevirtual1, U_goto, U_icmp_gt, U_iald, U_isub, U_icmp_le, U_dup2, U_lald, U_i2l, U_lmul, U_last, U_ireturn, UN_cc, UN_cn, UN_nc, UN_nn, UJ, lget, lset, lset2, entL, wsm, wcat, Option.toList_some, Option.toList_none, List.cons_append, List.nil_append, List.mem_cons, List.not_mem_nil, Prod.mk.injEq, or_false, false_or, or_true, true_or, and_true, true_and, and_false, false_and, and_self, ne_eq, not_false_eq_true, not_true_eq_false, forall_const, true_implies, false_implies, Nat.add_zero, Nat.zero_add, Nat.le_refl, Nat.zero_le, List.set_cons_zero, List.set_cons_succ, List.set_nil, ↓reduceIte, Nat.reduceAdd, Nat.reduceSub, Nat.reduceEqDiff, Nat.reduceLeDiff, Int.reduceEq, Int.reduceNe, Int.reduceNeg, reduceCtorEq, em, el, epw, kd190, z190_23 hz]
      refine ⟨r3 (by omega), r3 (by omega), by omega, r3 (by omega), fun _ => ⟨r3 (by omega), r3 (by omega), by omega, ?_⟩, fun e => absurd (by omega) e⟩
      refine m_killedBy (B := q ^ (j + 1)) hG jG jA hp hcv hg2 hl (by omega) fun N1 s1 s2 s3 => ?_
      have F2 : FM [198, 199, 204, 206] [] Ni (ust N1 206 ((j + 1 : Nat) : Int) (klN ad z (cll f g z) (q ^ (j + 1)) : Int)) := (s3.mo rfl rfl).us _ _ (by simp) (by decide)
      have F3 : FM [206] [] N1 (ust N1 206 ((j + 1 : Nat) : Int) (klN ad z (cll f g z) (q ^ (j + 1)) : Int)) := (FM.rf _ _ _).us _ _ (by simp) (by decide)
      simp only [bk214_0, bk214_15, bk214_21, bk214_50, bk214_53, bk214_60, bk214_82, bk214_88, bk214_112, bk214_118, U_iload_n, U_istore_n, U_iconst, U_istore, U_aload_n, U_getfield, U_iast, U_irem, U_if_ne, U_idiv, U_iinc, U_iload, U_imul, U_invokevirtual1, U_goto, U_icmp_gt, U_iald, U_isub, U_icmp_le, U_dup2, U_lald, U_i2l, U_lmul, U_last, U_ireturn, UN_cc, UN_cn, UN_nc, UN_nn, UJ, lget, lset, lset2, entL, wsm, wcat, Option.toList_some, Option.toList_none, List.cons_append, List.nil_append, List.mem_cons, List.not_mem_nil, Prod.mk.injEq, or_false, false_or, or_true, true_or, and_true, true_and, and_false, false_and, and_self, ne_eq, not_false_eq_true, not_true_eq_false, forall_const, true_implies, false_implies, Nat.add_zero, Nat.zero_add, Nat.le_refl, Nat.zero_le, List.set_cons_zero, List.set_cons_succ, List.set_nil, ↓reduceIte, Nat.reduceAdd, Nat.reduceSub, Nat.reduceEqDiff, Nat.reduceLeDiff, Int.reduceEq, Int.reduceNe, Int.reduceNeg, reduceCtorEq, kd206, ln206]
      refine ⟨by omega, by omega, ?_⟩
      refine ih (l / q) (j + 1) _ hlp (by omega) e3 a4 (by omega) (s1.fm F3 (fzk rfl rfl) (by decide) (by decide) (by decide) (by decide) (by decide) (by decide)) (s2.fm F3 (by decide) (by decide)) (jF.tr F2) (fun i hi => ?_)
      rw [ust_at]
      by_cases e : i = j + 1
      · rw [if_pos (by omega), e]
      · rw [if_neg (by omega), s3.1 206 (by decide) (by decide)]; exact jK i (by omega)
    · rw [if_neg (fun w => c w.2)] at a4 a5
      refine WP.run [(214, 15), (214, 50)] [] 60 ?_
      simp only [bk214_0, bk214_15, bk214_21, bk214_50, bk214_53, bk214_60, bk214_82, bk214_88, bk214_112, bk214_118, U_iload_n, U_istore_n, U_iconst, U_istore, U_aload_n, U_getfield, U_iast, U_irem, U_if_ne, U_idiv, U_iinc, U_iload, U_imul, U_invokevirtual1, U_goto, U_icmp_gt, U_iald, U_isub, U_icmp_le, U_dup2, U_lald, U_i2l, U_lmul, U_last, U_ireturn, UN_cc, UN_cn, UN_nc, UN_nn, UJ, lget, lset, lset2, entL, wsm, wcat, Option.toList_some, Option.toList_none, List.cons_append, List.nil_append, List.mem_cons, List.not_mem_nil, Prod.mk.injEq, or_false, false_or, or_true, true_or, and_true, true_and, and_false, false_and, and_self, ne_eq, not_false_eq_true, not_true_eq_false, forall_const, true_implies, false_implies, Nat.add_zero, Nat.zero_add, Nat.le_refl, Nat.zero_le, List.set_cons_zero, List.set_cons_succ, List.set_nil, ↓reduceIte, Nat.reduceAdd, Nat.reduceSub, Nat.reduceEqDiff, Nat.reduceLeDiff, Int.reduceEq, Int.reduceNe, Int.reduceNeg, reduceCtorEq, em]
      refine ⟨r3 (by omega), r3 (by omega), by omega, r3 (by omega), fun e => absurd (by omega) c, fun _ => ?_⟩
      rw [Nat.zero_add] at a5
      subst a5
      rw [a4]
      exact hQ Ni jG jA jF jK _
def GpN (N : Mem) (nu : Nat → Nat) : Prop := ∀ k : Nat, k < 4 → N 205 (k : Int) = (nu k : Int)
theorem ok_g : FZK [198, 199, 204, 205, 206] [] := fzk rfl rfl
set_option maxHeartbeats 16000000 in
theorem l_pt3 {N : Mem} {Q : Post} {q t : Nat} {nu : Nat → Nat} {all l pw v j : Int} (hz : Fz N) (hq : 2 ≤ q ∧ q ≤ 450) (ht : t ≤ 4) (hqt : q ^ t ≤ 450) (hQ : ∀ N', FM [205] [] N N' → GpN N' (adP q t nu) → ∀ a b : Int, WP 214 (0, 0) 112 [(2, 190), (0, (q : Int)), (0, all), (0, l), (0, pw), (0, v), (0, j), (0, a), (0, b)] [] NN N' Q) :
    ∀ (n k : Nat) (Ni : Mem), k + n = t → FM [205] [] N Ni → GpN Ni (adP q k nu) → WP 214 (0, 0) 82 [(2, 190), (0, (q : Int)), (0, all), (0, l), (0, pw), (0, v), (0, j), (0, ((q ^ n : Nat) : Int)), (0, (k : Int))] [] NN Ni Q := by
  intro n
  induction n with
  | zero =>
    intro k Ni hk hF hA
    obtain rfl : k = t := by omega
    rw [Nat.pow_zero]
    refine WP.run [(214, 82), (214, 112)] [] 60 ?_
    simp only [bk214_0, bk214_15, bk214_21, bk214_50, bk214_53, bk214_60, bk214_82, bk214_88, bk214_112, bk214_118, U_iload_n, U_istore_n, U_iconst, U_istore, U_aload_n, U_getfield, U_iast, U_irem, U_if_ne, U_idiv, U_iinc, U_iload, U_imul, U_invokevirtual1, U_goto, U_icmp_gt, U_iald, U_isub, U_icmp_le, U_dup2, U_lald, U_i2l, U_lmul, U_last, U_ireturn, UN_cc, UN_cn, UN_nc, UN_nn, UJ, lget, lset, lset2, entL, wsm, wcat, Option.toList_some, Option.toList_none, List.cons_append, List.nil_append, List.mem_cons, List.not_mem_nil, Prod.mk.injEq, or_false, false_or, or_true, true_or, and_true, true_and, and_false, false_and, and_self, ne_eq, not_false_eq_true, not_true_eq_false, forall_const, true_implies, false_implies, Nat.add_zero, Nat.zero_add, Nat.le_refl, Nat.zero_le, List.set_cons_zero, List.set_cons_succ, List.set_nil, ↓reduceIte, Nat.reduceAdd, Nat.reduceSub, Nat.reduceEqDiff, Nat.reduceLeDiff, Int.reduceEq, Int.reduceNe, Int.reduceNeg, reduceCtorEq]
    exact ⟨rr (by omega), fun e => absurd e (by omega), fun _ => hQ Ni hF hA _ _⟩
  | succ n ih =>
    intro k Ni hk hF hA
    have hzi := hF.fz (fzk rfl rfl) hz
    have hle : q ^ (n + 1) ≤ q ^ t := Nat.pow_le_pow_right (by omega) (by omega)
    have hge : q ≤ q ^ (n + 1) := by
      have := Nat.pow_le_pow_right (show 0 < q by omega) (show 1 ≤ n + 1 by omega)
      rwa [Nat.pow_one] at this
    have ed : ((q ^ (n + 1) : Nat) : Int).tdiv (q : Int) = ((q ^ n : Nat) : Int) := by
      rw [Int.tdiv_eq_ediv_of_nonneg (by omega), ← Int.natCast_ediv, Nat.pow_succ, Nat.mul_div_cancel _ (by omega)]
    have e1 := hA k (by omega)
    have F2 := hF.us (b := 205) (k : Int) ((adP q k nu k : Int) * (q : Int)) (by simp) (by decide)
    refine WP.run [(214, 82), (214, 112)] [] 60 ?_
    simp only [bk214_0, bk214_15, bk214_21, bk214_50, bk214_53, bk214_60, bk214_82, bk214_88, bk214_112, bk214_118, U_iload_n, U_istore_n, U_iconst, U_istore, U_aload_n, U_getfield, U_iast, U_irem, U_if_ne, U_idiv, U_iinc, U_iload, U_imul, U_invokevirtual1, U_goto, U_icmp_gt, U_iald, U_isub, U_icmp_le, U_dup2, U_lald, U_i2l, U_lmul, U_last, U_ireturn, UN_cc, UN_cn, UN_nc, UN_nn, UJ, lget, lset, lset2, entL, wsm, wcat, Option.toList_some, Option.toList_none, List.cons_append, List.nil_append, List.mem_cons, List.not_mem_nil, Prod.mk.injEq, or_false, false_or, or_true, true_or, and_true, true_and, and_false, false_and, and_self, ne_eq, not_false_eq_true, not_true_eq_false, forall_const, true_implies, false_implies, Nat.add_zero, Nat.zero_add, Nat.le_refl, Nat.zero_le, List.set_cons_zero, List.set_cons_succ, List.set_nil, ↓reduceIte, Nat.reduceAdd, Nat.reduceSub, Nat.reduceEqDiff, Nat.reduceLeDiff, Int.reduceEq, Int.reduceNe, Int.reduceNeg, reduceCtorEq, kd190, kd205, ln205, z190_21 hzi, e1, ed]
    refine ⟨rr (by omega), fun _ => ⟨by omega, by omega, r3 (by omega), by omega, by omega, r3 (by omega), r3 (by omega), by omega, ?_⟩, fun e => absurd (by omega) e⟩
    refine ih (k + 1) _ (by omega) F2 (fun i hi => ?_)
    rw [ust_at]
    unfold adP
    by_cases e : i = k
    · rw [if_pos (by omega), if_neg (by omega), if_pos (by omega), Nat.mul_one, e, Int.natCast_mul]
    · rw [if_neg (by omega)]
      have := hA i hi
      unfold adP at this
      rw [this]
      by_cases c : i < k
      · rw [if_pos c, if_pos (by omega)]
      · rw [if_neg c, if_neg (by omega)]
set_option maxHeartbeats 16000000 in
theorem l_pt2 {p : Int} {N : Mem} {Q : Post} {f : Pz p} {g q v : Nat} {ad : Gq f g → Gq f g → Gq f g} {z : Gq f g} {ng : Gq f g → Gq f g} {nu : Nat → Nat} {all l pw : Int} (hG : GG f g ad z ng) (hp : Pr p) (hcv : Cv f g) (hl : (tkl f g).length ≤ 450) (hk : ∀ q, Prm q → klN ad z (cll f g z) q < q ^ 5) (hq : Prm q) (hq4 : q ≤ 450) (hz : Fz N) (hv : v ≤ 8) (hK : KiA ad z (cll f g z) q N v) (hQ : ∀ N', FM [205] [] N N' → GpN N' (nmT q (tqN ad z (cll f g z) q) v nu) → Q (some (0, l)) NN N') :
    ∀ (n j : Nat) (a b : V) (Ni : Mem), j + n = v → FM [205] [] N Ni → GpN Ni (nmT q (tqN ad z (cll f g z) q) j nu) → WP 214 (0, 0) 53 [(2, 190), (0, (q : Int)), (0, all), (0, l), (0, pw), (0, (v : Int)), (0, ((j + 1 : Nat) : Int)), a, b] [] NN Ni Q := by
  have hq2 := hq.1
  have hL := cll_is hp hcv.1 z
  have hlen := cll_len f g z
  intro n
  induction n with
  | zero =>
    intro j a b Ni hj hF hA
    obtain rfl : j = v := by omega
    refine WP.run [(214, 53)] [] 60 ?_
    simp only [bk214_0, bk214_15, bk214_21, bk214_50, bk214_53, bk214_60, bk214_82, bk214_88, bk214_112, bk214_118, U_iload_n, U_istore_n, U_iconst, U_istore, U_aload_n, U_getfield, U_iast, U_irem, U_if_ne, U_idiv, U_iinc, U_iload, U_imul, U_invokevirtual1, U_goto, U_icmp_gt, U_iald, U_isub, U_icmp_le, U_dup2, U_lald, U_i2l, U_lmul, U_last, U_ireturn, UN_cc, UN_cn, UN_nc, UN_nn, UJ, lget, lset, lset2, entL, wsm, wcat, Option.toList_some, Option.toList_none, List.cons_append, List.nil_append, List.mem_cons, List.not_mem_nil, Prod.mk.injEq, or_false, false_or, or_true, true_or, and_true, true_and, and_false, false_and, and_self, ne_eq, not_false_eq_true, not_true_eq_false, forall_const, true_implies, false_implies, Nat.add_zero, Nat.zero_add, Nat.le_refl, Nat.zero_le, List.set_cons_zero, List.set_cons_succ, List.set_nil, ↓reduceIte, Nat.reduceAdd, Nat.reduceSub, Nat.reduceEqDiff, Nat.reduceLeDiff, Int.reduceEq, Int.reduceNe, Int.reduceNeg, reduceCtorEq]
    exact ⟨rr (by omega), fun _ => hQ Ni hF hA, fun e => absurd (by omega) e⟩
  | succ n ih =>
    intro j a b Ni hj hF hA
    have hzi := hF.fz (fzk rfl rfl) hz
    have e1 : Ni 206 ((j + 1 : Nat) : Int) = (klN ad z (cll f g z) (q ^ (j + 1)) : Int) := by rw [hF.1 206 (by decide) (by decide)]; exact hK (j + 1) (by omega)
    have e2 : Ni 206 (j : Int) = (klN ad z (cll f g z) (q ^ j) : Int) := by rw [hF.1 206 (by decide) (by decide)]; exact hK j (by omega)
    have e3 : ((j + 1 : Nat) : Int) - 1 = (j : Int) := by omega
    obtain ⟨t1, t2⟩ := tqN_is hG.1 hL.1 hL.2 hq j
    have t4 := tqN_le hG.1 hL.1 hL.2 hk hq j
    have k0 := klN_pos hG.1 hL.1 hL.2 (q ^ j)
    have k1 := klN_le ad z (cll f g z) (q ^ j)
    have k2 := klN_le ad z (cll f g z) (q ^ (j + 1))
    have k3 := klN_le ad z (cll f g z) q
    have ed : ((klN ad z (cll f g z) (q ^ (j + 1)) : Nat) : Int).tdiv ((klN ad z (cll f g z) (q ^ j) : Nat) : Int) = ((q ^ tqN ad z (cll f g z) q j : Nat) : Int) := by
      rw [Int.tdiv_eq_ediv_of_nonneg (by omega), ← Int.natCast_ediv, t1, Nat.mul_div_cancel _ k0]
    refine WP.run [(214, 53), (214, 82)] [] 60 ?_
    simp only [bk214_0, bk214_15, bk214_21, bk214_50, bk214_53, bk214_60, bk214_82, bk214_88, bk214_112, bk214_118, U_iload_n, U_istore_n, U_iconst, U_istore, U_aload_n, U_getfield, U_iast, U_irem, U_if_ne, U_idiv, U_iinc, U_iload, U_imul, U_invokevirtual1, U_goto, U_icmp_gt, U_iald, U_isub, U_icmp_le, U_dup2, U_lald, U_i2l, U_lmul, U_last, U_ireturn, UN_cc, UN_cn, UN_nc, UN_nn, UJ, lget, lset, lset2, entL, wsm, wcat, Option.toList_some, Option.toList_none, List.cons_append, List.nil_append, List.mem_cons, List.not_mem_nil, Prod.mk.injEq, or_false, false_or, or_true, true_or, and_true, true_and, and_false, false_and, and_self, ne_eq, not_false_eq_true, not_true_eq_false, forall_const, true_implies, false_implies, Nat.add_zero, Nat.zero_add, Nat.le_refl, Nat.zero_le, List.set_cons_zero, List.set_cons_succ, List.set_nil, ↓reduceIte, Nat.reduceAdd, Nat.reduceSub, Nat.reduceEqDiff, Nat.reduceLeDiff, Int.reduceEq, Int.reduceNe, Int.reduceNeg, reduceCtorEq, kd190, kd206, ln206, z190_23 hzi, e3, e1, e2, ed]
    refine ⟨rr (by omega), fun e => absurd e (by omega), fun _ => ⟨by omega, by omega, by omega, by omega, r3 (by omega), r3 (by omega), by omega, ?_⟩⟩
    refine l_pt3 (N := Ni) (q := q) (t := tqN ad z (cll f g z) q j) (nu := nmT q (tqN ad z (cll f g z) q) j nu) hzi ⟨hq2, hq4⟩ t4 (by omega) (fun N1 s1 s2 a b => ?_) _ 0 Ni (Nat.zero_add _) (FM.rf _ _ _) (fun i hi => by unfold adP; rw [if_neg (by omega), Nat.mul_one]; exact hA i hi)
    refine WP.run [(214, 53)] [] 60 ?_
    simp only [bk214_0, bk214_15, bk214_21, bk214_50, bk214_53, bk214_60, bk214_82, bk214_88, bk214_112, bk214_118, U_iload_n, U_istore_n, U_iconst, U_istore, U_aload_n, U_getfield, U_iast, U_irem, U_if_ne, U_idiv, U_iinc, U_iload, U_imul, U_invokevirtual1, U_goto, U_icmp_gt, U_iald, U_isub, U_icmp_le, U_dup2, U_lald, U_i2l, U_lmul, U_last, U_ireturn, UN_cc, UN_cn, UN_nc, UN_nn, UJ, lget, lset, lset2, entL, wsm, wcat, Option.toList_some, Option.toList_none, List.cons_append, List.nil_append, List.mem_cons, List.not_mem_nil, Prod.mk.injEq, or_false, false_or, or_true, true_or, and_true, true_and, and_false, false_and, and_self, ne_eq, not_false_eq_true, not_true_eq_false, forall_const, true_implies, false_implies, Nat.add_zero, Nat.zero_add, Nat.le_refl, Nat.zero_le, List.set_cons_zero, List.set_cons_succ, List.set_nil, ↓reduceIte, Nat.reduceAdd, Nat.reduceSub, Nat.reduceEqDiff, Nat.reduceLeDiff, Int.reduceEq, Int.reduceNe, Int.reduceNeg, reduceCtorEq]
    exact ih (j + 1) _ _ N1 (by omega) (hF.tr s1) s2
set_option maxHeartbeats 16000000 in
theorem m_parts {p : Int} {N : Mem} {Q : Post} {f : Pz p} {g q l : Nat} {ad : Gq f g → Gq f g → Gq f g} {z : Gq f g} {ng : Gq f g → Gq f g} {nu : Nat → Nat} (hG : GG f g ad z ng) (h : MG f g N) (hA : MlA p N (tkl f g)) (hp : Pr p) (hcv : Cv f g) (hg2 : g ≤ 2) (hl : (tkl f g).length ≤ 450) (hk : ∀ q, Prm q → klN ad z (cll f g z) q < q ^ 5) (hq : Prm q) (hq4 : q ≤ 450) (h0 : 0 < l) (hl4 : l ≤ 450) (hN : GpN N nu) (hQ : ∀ N', MG f g N' → MlA p N' (tkl f g) → FM [198, 199, 204, 205, 206] [] N N' → GpN N' (nmT q (tqN ad z (cll f g z) q) (vqn q l l) nu) → Q (some (0, (stp q l l : Int))) NN N') : CL 214 [(2, 190), (0, (q : Int)), (0, (l : Int)), (9, 0), (9, 0), (9, 0), (9, 0), (9, 0), (9, 0)] NN N Q := by
  have hz := h.mt.1
  have hq2 := hq.1
  have hL := cll_is hp hcv.1 z
  have F1 : FM [206] [] N (ust N 206 0 1) := (FM.rf _ _ _).us _ _ (by simp) (by decide)
  have G1 := h.fm F1 (fzk rfl rfl) (by decide) (by decide) (by decide) (by decide) (by decide) (by decide)
  have A1 := hA.fm F1 (by decide) (by decide)
  obtain ⟨s1, s2, s3⟩ := stp_is hq2 l l h0 (Nat.le_refl _)
  obtain ⟨v1, v2⟩ := pw_b hq2 s3 (show q ^ vqn q l l * stp q l l ≤ 450 by omega)
  have P := l_pt1 (p := p) (N := ust N 206 0 1) (Q := Q) (f := f) (g := g) (q := q) (l0 := l) (all := (l : Int)) hG hp hcv hg2 hl ⟨hq2, hq4⟩ hl4 (fun N2 g2 a2 f2 k2 pw => ?_) l l 0 _ h0 (Nat.le_refl _) (by rw [Nat.pow_zero, Nat.one_mul]) rfl (Nat.add_zero _) G1 A1 (FM.rf _ _ _) (fun j hj => by
    obtain rfl : j = 0 := by omega
    rw [Nat.pow_zero, klN_1 hG.1 hL.1 hL.2]
    exact ust_s)
  · rw [Nat.pow_zero] at P
    refine WP.run [(214, 15)] [] 60 ?_
    simp only [bk214_0, bk214_15, bk214_21, bk214_50, bk214_53, bk214_60, bk214_82, bk214_88, bk214_112, bk214_118, U_iload_n, U_istore_n, U_iconst, U_istore, U_aload_n, U_getfield, U_iast, U_irem, U_if_ne, U_idiv, U_iinc, U_iload, U_imul, U_invokevirtual1, U_goto, U_icmp_gt, U_iald, U_isub, U_icmp_le, U_dup2, U_lald, U_i2l, U_lmul, U_last, U_ireturn, UN_cc, UN_cn, UN_nc, UN_nn, UJ, lget, lset, lset2, entL, wsm, wcat, Option.toList_some, Option.toList_none, List.cons_append, List.nil_append, List.mem_cons, List.not_mem_nil, Prod.mk.injEq, or_false, false_or, or_true, true_or, and_true, true_and, and_false, false_and, and_self, ne_eq, not_false_eq_true, not_true_eq_false, forall_const, true_implies, false_implies, Nat.add_zero, Nat.zero_add, Nat.le_refl, Nat.zero_le, List.set_cons_zero, List.set_cons_succ, List.set_nil, ↓reduceIte, Nat.reduceAdd, Nat.reduceSub, Nat.reduceEqDiff, Nat.reduceLeDiff, Int.reduceEq, Int.reduceNe, Int.reduceNeg, reduceCtorEq, kd190, kd206, ln206, z190_23 hz]
    exact ⟨by omega, by omega, P⟩
  · refine WP.run [(214, 53)] [] 60 ?_
    simp only [bk214_0, bk214_15, bk214_21, bk214_50, bk214_53, bk214_60, bk214_82, bk214_88, bk214_112, bk214_118, U_iload_n, U_istore_n, U_iconst, U_istore, U_aload_n, U_getfield, U_iast, U_irem, U_if_ne, U_idiv, U_iinc, U_iload, U_imul, U_invokevirtual1, U_goto, U_icmp_gt, U_iald, U_isub, U_icmp_le, U_dup2, U_lald, U_i2l, U_lmul, U_last, U_ireturn, UN_cc, UN_cn, UN_nc, UN_nn, UJ, lget, lset, lset2, entL, wsm, wcat, Option.toList_some, Option.toList_none, List.cons_append, List.nil_append, List.mem_cons, List.not_mem_nil, Prod.mk.injEq, or_false, false_or, or_true, true_or, and_true, true_and, and_false, false_and, and_self, ne_eq, not_false_eq_true, not_true_eq_false, forall_const, true_implies, false_implies, Nat.add_zero, Nat.zero_add, Nat.le_refl, Nat.zero_le, List.set_cons_zero, List.set_cons_succ, List.set_nil, ↓reduceIte, Nat.reduceAdd, Nat.reduceSub, Nat.reduceEqDiff, Nat.reduceLeDiff, Int.reduceEq, Int.reduceNe, Int.reduceNeg, reduceCtorEq]
    have F2 : FM [198, 199, 204, 205, 206] [] N N2 := (F1.mo rfl rfl).tr (f2.mo rfl rfl)
    refine l_pt2 (N := N2) (f := f) (g := g) (q := q) (v := vqn q l l) (nu := nu) hG hp hcv hl hk hq hq4 g2.mt.1 v1 k2 (fun N3 w1 w2 => ?_) (vqn q l l) 0 _ _ N2 (Nat.zero_add _) (FM.rf _ _ _) (fun k hk => by
      show N2 205 (k : Int) = (nu k : Int)
      rw [f2.1 205 (by decide) (by decide), ust_ne (by decide)]; exact hN k hk)
    exact hQ N3 (g2.fm w1 (fzk rfl rfl) (by decide) (by decide) (by decide) (by decide) (by decide) (by decide)) (a2.fm w1 (by decide) (by decide)) (F2.tr (w1.mo rfl rfl)) w2
