/-! THE MODEL'S GROUP: found; the call -/
theorem stp_vq {q l : Nat} (hq : 2 ≤ q) (hl : 0 < l) : q ^ vqn q l l * stp q l l = l := (stp_is hq l l hl (Nat.le_refl _)).1.symm
theorem nmT_le (q : Nat) (T : Nat → Nat) (nu : Nat → Nat) (k : Nat) (hq : 0 < q) : ∀ J, nmT q T J nu k ≤ nu k * q ^ J
  | 0 => by rw [Nat.pow_zero, Nat.mul_one]; exact Nat.le_refl _
  | J + 1 => by
    have ih := nmT_le q T nu k hq J
    show nmT q T J nu k * (if k < T J then q else 1) ≤ nu k * q ^ (J + 1)
    rw [Nat.pow_succ, ← Nat.mul_assoc]
    refine Nat.mul_le_mul ih ?_
    split <;> omega
theorem gFn_nu (TT : Nat → Nat → Nat) {h : Nat} (hh : 0 < h) (k : Nat) : ∀ n, (gFn TT h n).2.1 k * (gFn TT h n).1 ≤ h
  | 0 => by show 1 * h ≤ h; omega
  | n + 1 => by
    have ih := gFn_nu TT hh k n
    have i1 := (gIn_all TT hh n).1
    rw [gFn_s]
    split
    · show nmT (n + 2) (TT (n + 2)) (vqn (n + 2) (gFn TT h n).1 (gFn TT h n).1) (gFn TT h n).2.1 k * stp (n + 2) (gFn TT h n).1 (gFn TT h n).1 ≤ h
      have h1 := nmT_le (n + 2) (TT (n + 2)) (gFn TT h n).2.1 k (by omega) (vqn (n + 2) (gFn TT h n).1 (gFn TT h n).1)
      have h2 := stp_vq (q := n + 2) (by omega) i1
      have h3 := Nat.mul_le_mul_right (stp (n + 2) (gFn TT h n).1 (gFn TT h n).1) h1
      rw [Nat.mul_assoc, h2] at h3
      omega
    · exact ih
theorem ok_fg : FZK [198, 199, 203, 204, 205, 206] [19, 22] := fzk rfl rfl
set_option maxHeartbeats 16000000 in
theorem l_fg {p : Int} {N : Mem} {Q : Post} {f : Pz p} {g : Nat} {ad : Gq f g → Gq f g → Gq f g} {z : Gq f g} {ng : Gq f g → Gq f g} (hG : GG f g ad z ng) (hp : Pr p) (hcv : Cv f g) (hg2 : g ≤ 2) (hl : (tkl f g).length ≤ 450) (hk : ∀ q, Prm q → klN ad z (cll f g z) q < q ^ 5) (hQ : ∀ N', MG f g N' → MlA p N' (tkl f g) → FM [198, 199, 204, 205, 206] [] N N' → GpN N' (gNm ad z ((tkl f g).length - 1)).2.1 → ∀ a b : Int, WP 215 (0, 0) 63 [(2, 190), (0, a), (0, b)] [] NN N' Q) :
    ∀ (fu n : Nat) (Ni : Mem), n + fu = (tkl f g).length - 1 → MG f g Ni → MlA p Ni (tkl f g) → FM [198, 199, 204, 205, 206] [] N Ni → GpN Ni (gNm ad z n).2.1 → WP 215 (0, 0) 39 [(2, 190), (0, ((gNm (f := f) (g := g) ad z n).1 : Int)), (0, ((n + 2 : Nat) : Int))] [] NN Ni Q := by
  have hpos := tkl_pos f g
  have hL := cll_is hp hcv.1 z
  have hlen := cll_len f g z
  intro fu
  induction fu with
  | zero =>
    intro n Ni hn jG jA jF jN
    obtain rfl : n = (tkl f g).length - 1 := by omega
    have he := gFn_end (tqN ad z (cll f g z)) (h := (tkl f g).length) (by omega)
    have he' : (gNm (f := f) (g := g) ad z ((tkl f g).length - 1)).1 = 1 := he
    rw [he']
    refine WP.run [(215, 39), (215, 63)] [] 60 ?_
    simp only [bk215_0, bk215_7, bk215_8, bk215_14, bk215_19, bk215_32, bk215_39, bk215_44, bk215_50, bk215_57, bk215_63, bk215_68, bk215_76, bk215_90, bk215_103, U_aload_n, U_getfield, U_if_lt, U_return, U_invokevirtual0, U_iconst, U_istore_n, U_iload_n, U_icmp_ge, U_lconst, U_last, U_iinc, U_goto, U_icmp_le, U_irem, U_if_ne, U_invokevirtual2, U_putfield, U_lald, U_lcmp, U_if_le, U_dup, U_iadd, UN_cc, UN_cn, UN_nc, UN_nn, UJ, lget, lset, lset2, entL, wsm, wcat, Option.toList_some, Option.toList_none, List.cons_append, List.nil_append, List.mem_cons, List.not_mem_nil, Prod.mk.injEq, or_false, false_or, or_true, true_or, and_true, true_and, and_false, false_and, and_self, ne_eq, not_false_eq_true, not_true_eq_false, forall_const, true_implies, false_implies, Nat.add_zero, Nat.zero_add, Nat.le_refl, Nat.zero_le, List.set_cons_zero, List.set_cons_succ, List.set_nil, ↓reduceIte, Nat.reduceAdd, Nat.reduceSub, Nat.reduceEqDiff, Nat.reduceLeDiff, Int.reduceEq, Int.reduceNe, Int.reduceNeg, reduceCtorEq]
    exact ⟨rr (by omega), fun e => absurd e (by omega), fun _ => hQ Ni jG jA jF jN _ _⟩
  | succ fu ih =>
    intro n Ni hn jG jA jF jN
    have i0 := gIn_all (tqN ad z (cll f g z)) (h := (tkl f g).length) (by omega) n
    have i1 : 0 < (gNm (f := f) (g := g) ad z n).1 := i0.1
    have i2 : (gNm (f := f) (g := g) ad z n).1 ≤ (tkl f g).length := Nat.le_of_dvd (by omega) (by obtain ⟨c, hc, -⟩ := i0.2.1; exact ⟨c, hc⟩)
    have es := gFn_s (tqN ad z (cll f g z)) (tkl f g).length n
    by_cases c : (gNm (f := f) (g := g) ad z n).1 = 1
    · have h1 := gFn_one (TT := tqN ad z (cll f g z)) (h := (tkl f g).length) (n := n) c (fu + 1)
      rw [hn] at h1
      have h2 : gNm (f := f) (g := g) ad z ((tkl f g).length - 1) = gNm ad z n := h1
      rw [← h2] at jN
      rw [c]
      refine WP.run [(215, 39), (215, 63)] [] 60 ?_
      simp only [bk215_0, bk215_7, bk215_8, bk215_14, bk215_19, bk215_32, bk215_39, bk215_44, bk215_50, bk215_57, bk215_63, bk215_68, bk215_76, bk215_90, bk215_103, U_aload_n, U_getfield, U_if_lt, U_return, U_invokevirtual0, U_iconst, U_istore_n, U_iload_n, U_icmp_ge, U_lconst, U_last, U_iinc, U_goto, U_icmp_le, U_irem, U_if_ne, U_invokevirtual2, U_putfield, U_lald, U_lcmp, U_if_le, U_dup, U_iadd, UN_cc, UN_cn, UN_nc, UN_nn, UJ, lget, lset, lset2, entL, wsm, wcat, Option.toList_some, Option.toList_none, List.cons_append, List.nil_append, List.mem_cons, List.not_mem_nil, Prod.mk.injEq, or_false, false_or, or_true, true_or, and_true, true_and, and_false, false_and, and_self, ne_eq, not_false_eq_true, not_true_eq_false, forall_const, true_implies, false_implies, Nat.add_zero, Nat.zero_add, Nat.le_refl, Nat.zero_le, List.set_cons_zero, List.set_cons_succ, List.set_nil, ↓reduceIte, Nat.reduceAdd, Nat.reduceSub, Nat.reduceEqDiff, Nat.reduceLeDiff, Int.reduceEq, Int.reduceNe, Int.reduceNeg, reduceCtorEq]
      exact ⟨rr (by omega), fun e => absurd e (by omega), fun _ => hQ Ni jG jA jF jN _ _⟩
    · have em : ((gNm (f := f) (g := g) ad z n).1 : Int).tmod ((n + 2 : Nat) : Int) = (((gNm (f := f) (g := g) ad z n).1 % (n + 2) : Nat) : Int) := by rw [tm_nn (by omega), Int.natCast_emod]
      have hmq : (gNm (f := f) (g := g) ad z n).1 % (n + 2) < n + 2 := Nat.mod_lt _ (by omega)
      refine WP.run [(215, 39), (215, 63)] [] 60 ?_
      simp only [bk215_0, bk215_7, bk215_8, bk215_14, bk215_19, bk215_32, bk215_39, bk215_44, bk215_50, bk215_57, bk215_63, bk215_68, bk215_76, bk215_90, bk215_103, U_aload_n, U_getfield, U_if_lt, U_return, U_invokevirtual0, U_iconst, U_istore_n, U_iload_n, U_icmp_ge, U_lconst, U_last, U_iinc, U_goto, U_icmp_le, U_irem, U_if_ne, U_invokevirtual2, U_putfield, U_lald, U_lcmp, U_if_le, U_dup, U_iadd, UN_cc, UN_cn, UN_nc, UN_nn, UJ, lget, lset, lset2, entL, wsm, wcat, Option.toList_some, Option.toList_none, List.cons_append, List.nil_append, List.mem_cons, List.not_mem_nil, Prod.mk.injEq, or_false, false_or, or_true, true_or, and_true, true_and, and_false, false_and, and_self, ne_eq, not_false_eq_true, not_true_eq_false, forall_const, true_implies, false_implies, Nat.add_zero, Nat.zero_add, Nat.le_refl, Nat.zero_le, List.set_cons_zero, List.set_cons_succ, List.set_nil, ↓reduceIte, Nat.reduceAdd, Nat.reduceSub, Nat.reduceEqDiff, Nat.reduceLeDiff, Int.reduceEq, Int.reduceNe, Int.reduceNeg, reduceCtorEq, em, kd190]
      refine ⟨rr (by omega), fun _ => ⟨r3 (by omega), r3 (by omega), by omega, r3 (by omega), fun e => ?_, fun e => ?_⟩, fun e => absurd (by omega) e⟩
      · have h0 : (gNm (f := f) (g := g) ad z n).1 % (n + 2) = 0 := by omega
        have hpr := gIn_prm i0 h0
        have es2 : gNm (f := f) (g := g) ad z (n + 1) = (stp (n + 2) (gNm (f := f) (g := g) ad z n).1 (gNm (f := f) (g := g) ad z n).1, nmT (n + 2) (tqN ad z (cll f g z) (n + 2)) (vqn (n + 2) (gNm (f := f) (g := g) ad z n).1 (gNm (f := f) (g := g) ad z n).1) (gNm (f := f) (g := g) ad z n).2.1, mxT (tqN ad z (cll f g z) (n + 2)) (vqn (n + 2) (gNm (f := f) (g := g) ad z n).1 (gNm (f := f) (g := g) ad z n).1) (gNm (f := f) (g := g) ad z n).2.2) := es.trans (if_pos h0)
        refine m_parts (q := n + 2) (nu := (gNm (f := f) (g := g) ad z n).2.1) hG jG jA hp hcv hg2 hl hk hpr (by omega) i1 (by omega) jN fun N1 s1 s2 s3 s4 => ?_
        simp only [bk215_0, bk215_7, bk215_8, bk215_14, bk215_19, bk215_32, bk215_39, bk215_44, bk215_50, bk215_57, bk215_63, bk215_68, bk215_76, bk215_90, bk215_103, U_aload_n, U_getfield, U_if_lt, U_return, U_invokevirtual0, U_iconst, U_istore_n, U_iload_n, U_icmp_ge, U_lconst, U_last, U_iinc, U_goto, U_icmp_le, U_irem, U_if_ne, U_invokevirtual2, U_putfield, U_lald, U_lcmp, U_if_le, U_dup, U_iadd, UN_cc, UN_cn, UN_nc, UN_nn, UJ, lget, lset, lset2, entL, wsm, wcat, Option.toList_some, Option.toList_none, List.cons_append, List.nil_append, List.mem_cons, List.not_mem_nil, Prod.mk.injEq, or_false, false_or, or_true, true_or, and_true, true_and, and_false, false_and, and_self, ne_eq, not_false_eq_true, not_true_eq_false, forall_const, true_implies, false_implies, Nat.add_zero, Nat.zero_add, Nat.le_refl, Nat.zero_le, List.set_cons_zero, List.set_cons_succ, List.set_nil, ↓reduceIte, Nat.reduceAdd, Nat.reduceSub, Nat.reduceEqDiff, Nat.reduceLeDiff, Int.reduceEq, Int.reduceNe, Int.reduceNeg, reduceCtorEq]
        have nx := ih (n + 1) N1 (by omega) s1 s2 (jF.tr s3) (by rw [es2]; exact s4)
        rw [es2] at nx
        exact nx
      · have h0 : ¬ (gNm (f := f) (g := g) ad z n).1 % (n + 2) = 0 := by omega
        have es2 : gNm (f := f) (g := g) ad z (n + 1) = gNm ad z n := es.trans (if_neg h0)
        have nx := ih (n + 1) Ni (by omega) jG jA jF (by rw [es2]; exact jN)
        rw [es2] at nx
        exact nx
set_option maxHeartbeats 16000000 in
theorem m_findGroup {p : Int} {N : Mem} {Q : Post} {f : Pz p} {g : Nat} {ad : Gq f g → Gq f g → Gq f g} {z : Gq f g} {ng : Gq f g → Gq f g} (hG : GG f g ad z ng) (h : MG f g N) (hA : N 190 19 = 0 ∨ MlA p N (tkl f g)) (hp : Pr p) (hcv : Cv f g) (hg2 : g ≤ 2) (hl : (tkl f g).length ≤ 450) (hk : ∀ q, Prm q → klN ad z (cll f g z) q < q ^ 5) (hN : N 190 22 = -1) (hQ : ∀ N', MG f g N' → MlA p N' (tkl f g) → FM [198, 199, 203, 204, 205, 206] [19, 22] N N' → N' 190 22 = ((gNm ad z ((tkl f g).length - 1)).2.2 : Int) → GpN N' (gNm ad z ((tkl f g).length - 1)).2.1 → Q none NN N') : CL 215 [(2, 190), (9, 0), (9, 0)] NN N Q := by
  have hpos := tkl_pos f g
  have h4 := gNm_4 hp hcv.1 hG hk ((tkl f g).length - 1)
  have hmx := gFn_mx (tqN ad z (cll f g z)) (tkl f g).length ((tkl f g).length - 1)
  have hnu := fun k => gFn_nu (tqN ad z (cll f g z)) (h := (tkl f g).length) (by omega) k ((tkl f g).length - 1)
  have hend := gFn_end (tqN ad z (cll f g z)) (h := (tkl f g).length) (by omega)
  have hmx' : ∀ k, 0 < (gNm (f := f) (g := g) ad z ((tkl f g).length - 1)).2.1 k ∧ (1 < (gNm (f := f) (g := g) ad z ((tkl f g).length - 1)).2.1 k ↔ k < (gNm (f := f) (g := g) ad z ((tkl f g).length - 1)).2.2) := hmx
  have hnu' : ∀ k, (gNm (f := f) (g := g) ad z ((tkl f g).length - 1)).2.1 k ≤ (tkl f g).length := fun k => by
    have := hnu k
    rw [hend, Nat.mul_one] at this; exact this
  refine WP.run [(215, 14)] [] 60 ?_
  simp only [bk215_0, bk215_7, bk215_8, bk215_14, bk215_19, bk215_32, bk215_39, bk215_44, bk215_50, bk215_57, bk215_63, bk215_68, bk215_76, bk215_90, bk215_103, U_aload_n, U_getfield, U_if_lt, U_return, U_invokevirtual0, U_iconst, U_istore_n, U_iload_n, U_icmp_ge, U_lconst, U_last, U_iinc, U_goto, U_icmp_le, U_irem, U_if_ne, U_invokevirtual2, U_putfield, U_lald, U_lcmp, U_if_le, U_dup, U_iadd, UN_cc, UN_cn, UN_nc, UN_nn, UJ, lget, lset, lset2, entL, wsm, wcat, Option.toList_some, Option.toList_none, List.cons_append, List.nil_append, List.mem_cons, List.not_mem_nil, Prod.mk.injEq, or_false, false_or, or_true, true_or, and_true, true_and, and_false, false_and, and_self, ne_eq, not_false_eq_true, not_true_eq_false, forall_const, true_implies, false_implies, Nat.add_zero, Nat.zero_add, Nat.le_refl, Nat.zero_le, List.set_cons_zero, List.set_cons_succ, List.set_nil, ↓reduceIte, Nat.reduceAdd, Nat.reduceSub, Nat.reduceEqDiff, Nat.reduceLeDiff, Int.reduceEq, Int.reduceNe, Int.reduceNeg, reduceCtorEq, kd190, hN]
  refine ⟨r3 (by omega), fun _ => ?_, fun e => absurd (by omega) e⟩
  refine m_findList h hp hcv.1 hl hA fun N1 s1 s2 s3 => ?_
  have n22 : N1 190 22 = -1 := by rw [s2.2 22 (by decide)]; exact hN
  -- the numbers counted
  have cnt : ∀ (N4 : Mem), MG f g N4 → MlA p N4 (tkl f g) → FM [198, 199, 203, 204, 205, 206] [19, 22] N N4 → GpN N4 (gNm ad z ((tkl f g).length - 1)).2.1 → ∀ (n c : Nat), c + n = (gNm (f := f) (g := g) ad z ((tkl f g).length - 1)).2.2 → ∀ a b : V, WP 215 (0, 0) 68 [(2, 190), a, b] [] NN (ust N4 190 22 (c : Int)) Q := by
    intro N4 w1 w2 w3 w4 n
    induction n with
    | zero =>
      intro c hc a b
      obtain rfl : c = (gNm (f := f) (g := g) ad z ((tkl f g).length - 1)).2.2 := by omega
      have hz := w1.mt.1
      have F5 : FM [] [22] N4 (ust N4 190 22 ((gNm (f := f) (g := g) ad z ((tkl f g).length - 1)).2.2 : Int)) := (FM.rf _ _ _).uf _ (by simp)
      have fin := hQ _ (w1.fm F5 (fzk rfl rfl) (by decide) (by decide) (by decide) (by decide) (by decide) (by decide)) (w2.fm F5 (by decide) (by decide)) (w3.tr (F5.mo rfl rfl)) (by rw [ust_at, if_pos rfl]) (fun k hk => by rw [ust_ne (by decide)]; exact w4 k hk)
      by_cases e4 : (gNm (f := f) (g := g) ad z ((tkl f g).length - 1)).2.2 < 4
      · have e1 := w4 (gNm (f := f) (g := g) ad z ((tkl f g).length - 1)).2.2 e4
        have e2 := hmx' (gNm (f := f) (g := g) ad z ((tkl f g).length - 1)).2.2
        have L := lcm_lt (x := ((gNm (f := f) (g := g) ad z ((tkl f g).length - 1)).2.1 (gNm (f := f) (g := g) ad z ((tkl f g).length - 1)).2.2 : Int)) (y := 1)
        refine WP.run [(215, 68)] [] 60 ?_
        simp only [bk215_0, bk215_7, bk215_8, bk215_14, bk215_19, bk215_32, bk215_39, bk215_44, bk215_50, bk215_57, bk215_63, bk215_68, bk215_76, bk215_90, bk215_103, U_aload_n, U_getfield, U_if_lt, U_return, U_invokevirtual0, U_iconst, U_istore_n, U_iload_n, U_icmp_ge, U_lconst, U_last, U_iinc, U_goto, U_icmp_le, U_irem, U_if_ne, U_invokevirtual2, U_putfield, U_lald, U_lcmp, U_if_le, U_dup, U_iadd, UN_cc, UN_cn, UN_nc, UN_nn, UJ, lget, lset, lset2, entL, wsm, wcat, Option.toList_some, Option.toList_none, List.cons_append, List.nil_append, List.mem_cons, List.not_mem_nil, Prod.mk.injEq, or_false, false_or, or_true, true_or, and_true, true_and, and_false, false_and, and_self, ne_eq, not_false_eq_true, not_true_eq_false, forall_const, true_implies, false_implies, Nat.add_zero, Nat.zero_add, Nat.le_refl, Nat.zero_le, List.set_cons_zero, List.set_cons_succ, List.set_nil, ↓reduceIte, Nat.reduceAdd, Nat.reduceSub, Nat.reduceEqDiff, Nat.reduceLeDiff, Int.reduceEq, Int.reduceNe, Int.reduceNeg, reduceCtorEq, kd190, kd205, ln205, ust_r, z190_21 hz, e1]
        refine ⟨rr (by omega), fun _ => ⟨by omega, by omega, Or.inr ⟨r64 (by omega), r64 (by omega)⟩, lcm_r _ _, fun e => absurd e (by omega), fun _ => fin⟩, fun e => absurd (by omega) e⟩
      · refine WP.run [(215, 68)] [] 60 ?_
        simp only [bk215_0, bk215_7, bk215_8, bk215_14, bk215_19, bk215_32, bk215_39, bk215_44, bk215_50, bk215_57, bk215_63, bk215_68, bk215_76, bk215_90, bk215_103, U_aload_n, U_getfield, U_if_lt, U_return, U_invokevirtual0, U_iconst, U_istore_n, U_iload_n, U_icmp_ge, U_lconst, U_last, U_iinc, U_goto, U_icmp_le, U_irem, U_if_ne, U_invokevirtual2, U_putfield, U_lald, U_lcmp, U_if_le, U_dup, U_iadd, UN_cc, UN_cn, UN_nc, UN_nn, UJ, lget, lset, lset2, entL, wsm, wcat, Option.toList_some, Option.toList_none, List.cons_append, List.nil_append, List.mem_cons, List.not_mem_nil, Prod.mk.injEq, or_false, false_or, or_true, true_or, and_true, true_and, and_false, false_and, and_self, ne_eq, not_false_eq_true, not_true_eq_false, forall_const, true_implies, false_implies, Nat.add_zero, Nat.zero_add, Nat.le_refl, Nat.zero_le, List.set_cons_zero, List.set_cons_succ, List.set_nil, ↓reduceIte, Nat.reduceAdd, Nat.reduceSub, Nat.reduceEqDiff, Nat.reduceLeDiff, Int.reduceEq, Int.reduceNe, Int.reduceNeg, reduceCtorEq, kd190, ust_r]
        exact ⟨rr (by omega), fun e => absurd e (by omega), fun _ => fin⟩
    | succ n ih =>
      intro c hc a b
      have hz := w1.mt.1
      have e1 := w4 c (by omega)
      have e2 := hmx' c
      have e3 := hnu' c
      have L := lcm_lt (x := ((gNm (f := f) (g := g) ad z ((tkl f g).length - 1)).2.1 c : Int)) (y := 1)
      refine WP.run [(215, 68)] [] 60 ?_
      simp only [bk215_0, bk215_7, bk215_8, bk215_14, bk215_19, bk215_32, bk215_39, bk215_44, bk215_50, bk215_57, bk215_63, bk215_68, bk215_76, bk215_90, bk215_103, U_aload_n, U_getfield, U_if_lt, U_return, U_invokevirtual0, U_iconst, U_istore_n, U_iload_n, U_icmp_ge, U_lconst, U_last, U_iinc, U_goto, U_icmp_le, U_irem, U_if_ne, U_invokevirtual2, U_putfield, U_lald, U_lcmp, U_if_le, U_dup, U_iadd, UN_cc, UN_cn, UN_nc, UN_nn, UJ, lget, lset, lset2, entL, wsm, wcat, Option.toList_some, Option.toList_none, List.cons_append, List.nil_append, List.mem_cons, List.not_mem_nil, Prod.mk.injEq, or_false, false_or, or_true, true_or, and_true, true_and, and_false, false_and, and_self, ne_eq, not_false_eq_true, not_true_eq_false, forall_const, true_implies, false_implies, Nat.add_zero, Nat.zero_add, Nat.le_refl, Nat.zero_le, List.set_cons_zero, List.set_cons_succ, List.set_nil, ↓reduceIte, Nat.reduceAdd, Nat.reduceSub, Nat.reduceEqDiff, Nat.reduceLeDiff, Int.reduceEq, Int.reduceNe, Int.reduceNeg, reduceCtorEq, kd190, kd205, ln205, ust_r, z190_21 hz, e1]
      refine ⟨rr (by omega), fun _ => ⟨by omega, by omega, Or.inr ⟨r64 (by omega), r64 (by omega)⟩, lcm_r _ _, fun _ => ?_, fun e => absurd (by omega) e⟩, fun e => absurd (by omega) e⟩
      rw [ust_u]
      exact ih (c + 1) (by omega) a b
  -- the four ones
  have ones : ∀ (n k : Nat) (Ni : Mem), k + n = 4 → FM [205] [] N1 Ni → (∀ i : Nat, i < k → Ni 205 (i : Int) = 1) → WP 215 (0, 0) 14 [(2, 190), (0, (k : Int)), (9, 0)] [] NN Ni Q := by
    intro n
    induction n with
    | zero =>
      intro k Ni h4k hF hO
      obtain rfl : k = 4 := by omega
      have G2 := s1.fm hF (fzk rfl rfl) (by decide) (by decide) (by decide) (by decide) (by decide) (by decide)
      have A2 := s3.fm hF (by decide) (by decide)
      refine WP.run [(215, 14), (215, 39)] [] 60 ?_
      simp only [bk215_0, bk215_7, bk215_8, bk215_14, bk215_19, bk215_32, bk215_39, bk215_44, bk215_50, bk215_57, bk215_63, bk215_68, bk215_76, bk215_90, bk215_103, U_aload_n, U_getfield, U_if_lt, U_return, U_invokevirtual0, U_iconst, U_istore_n, U_iload_n, U_icmp_ge, U_lconst, U_last, U_iinc, U_goto, U_icmp_le, U_irem, U_if_ne, U_invokevirtual2, U_putfield, U_lald, U_lcmp, U_if_le, U_dup, U_iadd, UN_cc, UN_cn, UN_nc, UN_nn, UJ, lget, lset, lset2, entL, wsm, wcat, Option.toList_some, Option.toList_none, List.cons_append, List.nil_append, List.mem_cons, List.not_mem_nil, Prod.mk.injEq, or_false, false_or, or_true, true_or, and_true, true_and, and_false, false_and, and_self, ne_eq, not_false_eq_true, not_true_eq_false, forall_const, true_implies, false_implies, Nat.add_zero, Nat.zero_add, Nat.le_refl, Nat.zero_le, List.set_cons_zero, List.set_cons_succ, List.set_nil, ↓reduceIte, Nat.reduceAdd, Nat.reduceSub, Nat.reduceEqDiff, Nat.reduceLeDiff, Int.reduceEq, Int.reduceNe, Int.reduceNeg, reduceCtorEq, kd190, A2.1]
      refine ⟨rr (by omega), fun e => absurd e (by omega), fun _ => ?_⟩
      refine l_fg (N := Ni) hG hp hcv hg2 hl hk (fun N4 w1 w2 w3 w4 a b => ?_) ((tkl f g).length - 1) 0 Ni (Nat.zero_add _) G2 A2 (FM.rf _ _ _) (fun i hi => hO i hi)
      refine WP.run [(215, 68)] [] 60 ?_
      simp only [bk215_0, bk215_7, bk215_8, bk215_14, bk215_19, bk215_32, bk215_39, bk215_44, bk215_50, bk215_57, bk215_63, bk215_68, bk215_76, bk215_90, bk215_103, U_aload_n, U_getfield, U_if_lt, U_return, U_invokevirtual0, U_iconst, U_istore_n, U_iload_n, U_icmp_ge, U_lconst, U_last, U_iinc, U_goto, U_icmp_le, U_irem, U_if_ne, U_invokevirtual2, U_putfield, U_lald, U_lcmp, U_if_le, U_dup, U_iadd, UN_cc, UN_cn, UN_nc, UN_nn, UJ, lget, lset, lset2, entL, wsm, wcat, Option.toList_some, Option.toList_none, List.cons_append, List.nil_append, List.mem_cons, List.not_mem_nil, Prod.mk.injEq, or_false, false_or, or_true, true_or, and_true, true_and, and_false, false_and, and_self, ne_eq, not_false_eq_true, not_true_eq_false, forall_const, true_implies, false_implies, Nat.add_zero, Nat.zero_add, Nat.le_refl, Nat.zero_le, List.set_cons_zero, List.set_cons_succ, List.set_nil, ↓reduceIte, Nat.reduceAdd, Nat.reduceSub, Nat.reduceEqDiff, Nat.reduceLeDiff, Int.reduceEq, Int.reduceNe, Int.reduceNeg, reduceCtorEq, kd190]
      exact cnt N4 w1 w2 ((s2.mo rfl rfl).tr ((hF.mo rfl rfl).tr (w3.mo rfl rfl))) w4 _ 0 (Nat.zero_add _) _ _
    | succ n ih =>
      intro k Ni h4k hF hO
      have hz := (hF.fz (fzk rfl rfl) s1.mt.1)
      refine WP.run [(215, 14), (215, 39)] [] 60 ?_
      simp only [bk215_0, bk215_7, bk215_8, bk215_14, bk215_19, bk215_32, bk215_39, bk215_44, bk215_50, bk215_57, bk215_63, bk215_68, bk215_76, bk215_90, bk215_103, U_aload_n, U_getfield, U_if_lt, U_return, U_invokevirtual0, U_iconst, U_istore_n, U_iload_n, U_icmp_ge, U_lconst, U_last, U_iinc, U_goto, U_icmp_le, U_irem, U_if_ne, U_invokevirtual2, U_putfield, U_lald, U_lcmp, U_if_le, U_dup, U_iadd, UN_cc, UN_cn, UN_nc, UN_nn, UJ, lget, lset, lset2, entL, wsm, wcat, Option.toList_some, Option.toList_none, List.cons_append, List.nil_append, List.mem_cons, List.not_mem_nil, Prod.mk.injEq, or_false, false_or, or_true, true_or, and_true, true_and, and_false, false_and, and_self, ne_eq, not_false_eq_true, not_true_eq_false, forall_const, true_implies, false_implies, Nat.add_zero, Nat.zero_add, Nat.le_refl, Nat.zero_le, List.set_cons_zero, List.set_cons_succ, List.set_nil, ↓reduceIte, Nat.reduceAdd, Nat.reduceSub, Nat.reduceEqDiff, Nat.reduceLeDiff, Int.reduceEq, Int.reduceNe, Int.reduceNeg, reduceCtorEq, kd190, kd205, ln205, z190_21 hz]
      refine ⟨rr (by omega), fun _ => ⟨by omega, by omega, ?_⟩, fun e => absurd (by omega) e⟩
      refine ih (k + 1) _ (by omega) (hF.us _ _ (by simp) (by decide)) (fun i hi => ?_)
      rw [ust_at]
      by_cases e : i = k
      · rw [if_pos (by omega)]
      · rw [if_neg (by omega)]; exact hO i (by omega)
  simp only [bk215_0, bk215_7, bk215_8, bk215_14, bk215_19, bk215_32, bk215_39, bk215_44, bk215_50, bk215_57, bk215_63, bk215_68, bk215_76, bk215_90, bk215_103, U_aload_n, U_getfield, U_if_lt, U_return, U_invokevirtual0, U_iconst, U_istore_n, U_iload_n, U_icmp_ge, U_lconst, U_last, U_iinc, U_goto, U_icmp_le, U_irem, U_if_ne, U_invokevirtual2, U_putfield, U_lald, U_lcmp, U_if_le, U_dup, U_iadd, UN_cc, UN_cn, UN_nc, UN_nn, UJ, lget, lset, lset2, entL, wsm, wcat, Option.toList_some, Option.toList_none, List.cons_append, List.nil_append, List.mem_cons, List.not_mem_nil, Prod.mk.injEq, or_false, false_or, or_true, true_or, and_true, true_and, and_false, false_and, and_self, ne_eq, not_false_eq_true, not_true_eq_false, forall_const, true_implies, false_implies, Nat.add_zero, Nat.zero_add, Nat.le_refl, Nat.zero_le, List.set_cons_zero, List.set_cons_succ, List.set_nil, ↓reduceIte, Nat.reduceAdd, Nat.reduceSub, Nat.reduceEqDiff, Nat.reduceLeDiff, Int.reduceEq, Int.reduceNe, Int.reduceNeg, reduceCtorEq]
  exact ones 4 0 N1 rfl (FM.rf _ _ _) (fun i hi => by omega)
set_option maxHeartbeats 8000000 in
theorem q_group {p : Int} {g : Nat} {f : Pz p} {pu : List Int} {rg : Nat → Pz p × Pz p} {A tl : Nat → Int} {E : Nat → Nat} {N : Mem} {Q : Post} {ad : Gq f g → Gq f g → Gq f g} {z : Gq f g} {ng : Gq f g → Gq f g} {i : Int} (h : MS g f pu rg A tl E N) (V : VS g f pu rg A tl E) (hG : g ≠ 0 → GG f g ad z ng) (M : g ≠ 0 → mhP f g) (hi : R32 i)
    (hQ : ∀ N', MS g f pu rg A tl E N' → clF N N' → Q (some (0, oGroup ad z i)) NN N') : CL 216 [(2, 190), (0, i)] NN N Q := by
  unfold oGroup at hQ
  refine WP.run [] [] 90 ?_
  simp only [bk216_0, bk216_4, bk216_7, bk216_14, bk216_17, bk216_29, bk216_46, bk216_47, U_iload_n, U_if_ge, U_bipush, U_ireturn, U_aload_n, U_invokevirtual0, U_if_ne, U_getfield, U_icmp_ge, U_iconst, U_isub, U_lald, U_l2i, U_goto, UN_cc, UN_cn, UN_nc, UN_nn, UJ, lget, lset, lset2, entL, wsm, wcat, Option.toList_some, Option.toList_none, List.cons_append, List.nil_append, List.mem_cons, List.not_mem_nil, Prod.mk.injEq, or_false, false_or, or_true, true_or, and_true, true_and, and_false, false_and, and_self, ne_eq, not_false_eq_true, not_true_eq_false, forall_const, true_implies, false_implies, Nat.add_zero, Nat.zero_add, Nat.le_refl, Nat.zero_le, List.set_cons_zero, List.set_cons_succ, List.set_nil, ↓reduceIte, Nat.reduceAdd, Nat.reduceSub, Nat.reduceEqDiff, Nat.reduceLeDiff, Int.reduceEq, Int.reduceNe, Int.reduceNeg, reduceCtorEq, kd190]
  refine ⟨hi, fun e => ?_, fun e => m_std h V ?_⟩
  · rw [if_pos e] at hQ; exact hQ N h (clF.rf N)
  · rw [if_neg e] at hQ
    by_cases q0 : g = 0
    · rw [if_pos q0]
      rw [if_pos q0] at hQ
      simp only [bk216_0, bk216_4, bk216_7, bk216_14, bk216_17, bk216_29, bk216_46, bk216_47, U_iload_n, U_if_ge, U_bipush, U_ireturn, U_aload_n, U_invokevirtual0, U_if_ne, U_getfield, U_icmp_ge, U_iconst, U_isub, U_lald, U_l2i, U_goto, UN_cc, UN_cn, UN_nc, UN_nn, UJ, lget, lset, lset2, entL, wsm, wcat, Option.toList_some, Option.toList_none, List.cons_append, List.nil_append, List.mem_cons, List.not_mem_nil, Prod.mk.injEq, or_false, false_or, or_true, true_or, and_true, true_and, and_false, false_and, and_self, ne_eq, not_false_eq_true, not_true_eq_false, forall_const, true_implies, false_implies, Nat.add_zero, Nat.zero_add, Nat.le_refl, Nat.zero_le, List.set_cons_zero, List.set_cons_succ, List.set_nil, ↓reduceIte, Nat.reduceAdd, Nat.reduceSub, Nat.reduceEqDiff, Nat.reduceLeDiff, Int.reduceEq, Int.reduceNe, Int.reduceNeg, reduceCtorEq]
      exact ⟨r3 (by omega), hQ N h (clF.rf N)⟩
    · rw [if_neg q0]
      rw [if_neg q0] at hQ
      have cv := V.cv q0
      have m := M q0
      have hGG := hG q0
      have hk := m.2.2 ad z ng hGG
      have h4 := gNm_4 V.1 cv.2.2.1.1 hGG hk ((tkl f g).length - 1)
      have hi' := hi
      obtain ⟨i1, i2⟩ := hi'
      have fin : ∀ N1, MS g f pu rg A tl E N1 → clF N N1 → N1 190 22 = ((gNm ad z ((tkl f g).length - 1)).2.2 : Int) → GpN N1 (gNm ad z ((tkl f g).length - 1)).2.1 → (i < N1 190 22 → 0 ≤ N1 190 22 - 1 - i ∧ N1 190 22 - 1 - i < 4 ∧ Q (some (0, N1 205 (N1 190 22 - 1 - i))) NN N1) ∧ (¬ i < N1 190 22 → Q (some (0, -1)) NN N1) := fun N1 a b c d => by
        have hq := hQ N1 a b
        unfold gAt at hq
        rw [c]
        refine ⟨fun w => ?_, fun w => ?_⟩
        · rw [if_pos (by omega), ← d _ (by omega)] at hq
          refine ⟨by omega, by omega, ?_⟩
          rw [show (((gNm ad z ((tkl f g).length - 1)).2.2 - 1 - i.toNat : Nat) : Int) = ((gNm ad z ((tkl f g).length - 1)).2.2 : Int) - 1 - i by omega] at hq
          exact hq
        · rw [if_neg (by omega)] at hq
          exact hq
      rcases h.2.2.2.2.2.2.2.2 with e1 | ⟨-, e1⟩
      · simp only [bk216_0, bk216_4, bk216_7, bk216_14, bk216_17, bk216_29, bk216_46, bk216_47, U_iload_n, U_if_ge, U_bipush, U_ireturn, U_aload_n, U_invokevirtual0, U_if_ne, U_getfield, U_icmp_ge, U_iconst, U_isub, U_lald, U_l2i, U_goto, UN_cc, UN_cn, UN_nc, UN_nn, UJ, lget, lset, lset2, entL, wsm, wcat, Option.toList_some, Option.toList_none, List.cons_append, List.nil_append, List.mem_cons, List.not_mem_nil, Prod.mk.injEq, or_false, false_or, or_true, true_or, and_true, true_and, and_false, false_and, and_self, ne_eq, not_false_eq_true, not_true_eq_false, forall_const, true_implies, false_implies, Nat.add_zero, Nat.zero_add, Nat.le_refl, Nat.zero_le, List.set_cons_zero, List.set_cons_succ, List.set_nil, ↓reduceIte, Nat.reduceAdd, Nat.reduceSub, Nat.reduceEqDiff, Nat.reduceLeDiff, Int.reduceEq, Int.reduceNe, Int.reduceNeg, reduceCtorEq, kd190]
        refine ⟨r3 (by omega), m_findGroup hGG (h.mg q0).1 h.l0 V.1 cv.2.2.1 V.g2 m.2.1 hk e1 fun N1 s1 s2 s3 s4 s5 => ?_⟩
        have S1 : MS g f pu rg A tl E N1 := h.up (s3.mo rfl rfl) s1.rw (fun r hr => (h.2.2.2.1 r hr).fx (s3.1 195 (by decide) (by decide))) (Or.inr ⟨by omega, s2⟩) (Or.inr ⟨by omega, fun ad' z' ng' hG' => by
          obtain ⟨u1, u2, u3⟩ := GG_un hGG hG'
          subst u1; subst u2; exact ⟨s4, s5⟩⟩)
        obtain ⟨f1, f2⟩ := fin N1 S1 (s3.cl rfl) s4 s5
        simp only [bk216_0, bk216_4, bk216_7, bk216_14, bk216_17, bk216_29, bk216_46, bk216_47, U_iload_n, U_if_ge, U_bipush, U_ireturn, U_aload_n, U_invokevirtual0, U_if_ne, U_getfield, U_icmp_ge, U_iconst, U_isub, U_lald, U_l2i, U_goto, UN_cc, UN_cn, UN_nc, UN_nn, UJ, lget, lset, lset2, entL, wsm, wcat, Option.toList_some, Option.toList_none, List.cons_append, List.nil_append, List.mem_cons, List.not_mem_nil, Prod.mk.injEq, or_false, false_or, or_true, true_or, and_true, true_and, and_false, false_and, and_self, ne_eq, not_false_eq_true, not_true_eq_false, forall_const, true_implies, false_implies, Nat.add_zero, Nat.zero_add, Nat.le_refl, Nat.zero_le, List.set_cons_zero, List.set_cons_succ, List.set_nil, ↓reduceIte, Nat.reduceAdd, Nat.reduceSub, Nat.reduceEqDiff, Nat.reduceLeDiff, Int.reduceEq, Int.reduceNe, Int.reduceNeg, reduceCtorEq, kd190, kd205, ln205, z190_21 S1.fz]
        exact ⟨rr (by omega), f1, f2⟩
      · obtain ⟨e2, e3⟩ := e1 ad z ng hGG
        obtain ⟨f1, f2⟩ := fin N h (clF.rf N) e2 e3
        simp only [bk216_0, bk216_4, bk216_7, bk216_14, bk216_17, bk216_29, bk216_46, bk216_47, U_iload_n, U_if_ge, U_bipush, U_ireturn, U_aload_n, U_invokevirtual0, U_if_ne, U_getfield, U_icmp_ge, U_iconst, U_isub, U_lald, U_l2i, U_goto, UN_cc, UN_cn, UN_nc, UN_nn, UJ, lget, lset, lset2, entL, wsm, wcat, Option.toList_some, Option.toList_none, List.cons_append, List.nil_append, List.mem_cons, List.not_mem_nil, Prod.mk.injEq, or_false, false_or, or_true, true_or, and_true, true_and, and_false, false_and, and_self, ne_eq, not_false_eq_true, not_true_eq_false, forall_const, true_implies, false_implies, Nat.add_zero, Nat.zero_add, Nat.le_refl, Nat.zero_le, List.set_cons_zero, List.set_cons_succ, List.set_nil, ↓reduceIte, Nat.reduceAdd, Nat.reduceSub, Nat.reduceEqDiff, Nat.reduceLeDiff, Int.reduceEq, Int.reduceNe, Int.reduceNeg, reduceCtorEq, kd190]
        refine ⟨r3 (by omega), ?_⟩
        refine WP.run [] [] 90 ?_
        simp only [bk215_0, bk215_7, bk215_8, bk215_14, bk215_19, bk215_32, bk215_39, bk215_44, bk215_50, bk215_57, bk215_63, bk215_68, bk215_76, bk215_90, bk215_103, U_aload_n, U_getfield, U_if_lt, U_return, U_invokevirtual0, U_iconst, U_istore_n, U_iload_n, U_icmp_ge, U_lconst, U_last, U_iinc, U_goto, U_icmp_le, U_irem, U_if_ne, U_invokevirtual2, U_putfield, U_lald, U_lcmp, U_if_le, U_dup, U_iadd, UN_cc, UN_cn, UN_nc, UN_nn, UJ, lget, lset, lset2, entL, wsm, wcat, Option.toList_some, Option.toList_none, List.cons_append, List.nil_append, List.mem_cons, List.not_mem_nil, Prod.mk.injEq, or_false, false_or, or_true, true_or, and_true, true_and, and_false, false_and, and_self, ne_eq, not_false_eq_true, not_true_eq_false, forall_const, true_implies, false_implies, Nat.add_zero, Nat.zero_add, Nat.le_refl, Nat.zero_le, List.set_cons_zero, List.set_cons_succ, List.set_nil, ↓reduceIte, Nat.reduceAdd, Nat.reduceSub, Nat.reduceEqDiff, Nat.reduceLeDiff, Int.reduceEq, Int.reduceNe, Int.reduceNeg, reduceCtorEq, kd190]
        refine ⟨r3 (by omega), fun w => absurd w (by omega), fun _ => ?_⟩
        simp only [bk216_0, bk216_4, bk216_7, bk216_14, bk216_17, bk216_29, bk216_46, bk216_47, U_iload_n, U_if_ge, U_bipush, U_ireturn, U_aload_n, U_invokevirtual0, U_if_ne, U_getfield, U_icmp_ge, U_iconst, U_isub, U_lald, U_l2i, U_goto, UN_cc, UN_cn, UN_nc, UN_nn, UJ, lget, lset, lset2, entL, wsm, wcat, Option.toList_some, Option.toList_none, List.cons_append, List.nil_append, List.mem_cons, List.not_mem_nil, Prod.mk.injEq, or_false, false_or, or_true, true_or, and_true, true_and, and_false, false_and, and_self, ne_eq, not_false_eq_true, not_true_eq_false, forall_const, true_implies, false_implies, Nat.add_zero, Nat.zero_add, Nat.le_refl, Nat.zero_le, List.set_cons_zero, List.set_cons_succ, List.set_nil, ↓reduceIte, Nat.reduceAdd, Nat.reduceSub, Nat.reduceEqDiff, Nat.reduceLeDiff, Int.reduceEq, Int.reduceNe, Int.reduceNeg, reduceCtorEq, kd190, kd205, ln205, z190_21 h.fz]
        exact ⟨rr (by omega), f1, f2⟩
