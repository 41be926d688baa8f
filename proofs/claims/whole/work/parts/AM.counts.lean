/-! THE MODEL: what changes, by lists; counts -/
/-- only the cells of K and the model's own places of L change -/
def FM (K L : List Int) (N N' : Mem) : Prop := (∀ b, b ≠ 190 → b ∉ K → N' b = N b) ∧ ∀ i, i ∉ L → N' 190 i = N 190 i
theorem FM.rf (K L : List Int) (N : Mem) : FM K L N N := ⟨fun _ _ _ => rfl, fun _ _ => rfl⟩
theorem FM.tr {K L : List Int} {N N' N'' : Mem} (h1 : FM K L N N') (h2 : FM K L N' N'') : FM K L N N'' := ⟨fun b x y => (h2.1 b x y).trans (h1.1 b x y), fun i x => (h2.2 i x).trans (h1.2 i x)⟩
theorem FM.mo {K L K' L' : List Int} {N N' : Mem} (h : FM K L N N') (hK : K.all (fun b => K'.contains b) = true) (hL : L.all (fun b => L'.contains b) = true) : FM K' L' N N' := ⟨fun b x y => h.1 b x (fun q => y (List.contains_iff_mem.mp (List.all_eq_true.mp hK b q))), fun i x => h.2 i (fun q => x (List.contains_iff_mem.mp (List.all_eq_true.mp hL i q)))⟩
theorem FM.us {K L : List Int} {N N' : Mem} (h : FM K L N N') {b : Int} (i x : Int) (hb : b ∈ K) (h0 : b ≠ 190) : FM K L N (ust N' b i x) := ⟨fun c c0 c1 => by rw [ust_ne (fun q => c1 (by rw [q]; exact hb))]; exact h.1 c c0 c1, fun j hj => by rw [ust_ne (fun q => h0 q.symm)]; exact h.2 j hj⟩
theorem FM.uf {K L : List Int} {N N' : Mem} (h : FM K L N N') {i : Int} (x : Int) (hi : i ∈ L) : FM K L N (ust N' 190 i x) := ⟨fun c c0 c1 => by rw [ust_ne c0]; exact h.1 c c0 c1, fun j hj => by rw [ust_at, if_neg (fun q => hj (by rw [q]; exact hi))]; exact h.2 j hj⟩
theorem PF.fm {N N' : Mem} (h : PF N N') : FM [198, 199] [] N N' := ⟨fun b _ y => h b (fun q => y (by simp [q])) (fun q => y (by simp [q])), fun i _ => by rw [h 190 (by decide) (by decide)]⟩
theorem PW.fm {N N' : Mem} (h : PW N N') : FM [198, 199, 204] [] N N' := ⟨fun b _ y => h b (fun q => y (by simp [q])) (fun q => y (by simp [q])) (fun q => y (by simp [q])), fun i _ => by rw [h 190 (by decide) (by decide) (by decide)]⟩
theorem PQ.fm {N N' : Mem} (h : PQ N N') : FM [] [14] N N' := ⟨fun b x _ => h.1 b x, fun i x => h.2 i (fun q => x (by simp [q]))⟩
theorem PS.fm {N N' : Mem} (h : PS N N') : FM [200] [14] N N' := ⟨fun b x y => h.1 b x (fun q => y (by simp [q])), fun i x => h.2 i (fun q => x (by simp [q]))⟩
/-- nothing frozen is among them -/
def FZK (K L : List Int) : Prop := (∀ b ∈ K, KD b = 1 ∨ KD b = 2) ∧ ∀ i ∈ L, fz 190 i = none
theorem fzk {K L : List Int} (h1 : K.all (fun b => decide (KD b = 1) || decide (KD b = 2)) = true) (h2 : L.all (fun i => decide (fz 190 i = none)) = true) : FZK K L := ⟨fun b hb => by
  have := List.all_eq_true.mp h1 b hb
  rw [Bool.or_eq_true, decide_eq_true_eq, decide_eq_true_eq] at this; exact this, fun i hi => of_decide_eq_true (List.all_eq_true.mp h2 i hi)⟩
theorem FM.fz {K L : List Int} {N N' : Mem} (h : FM K L N N') (ok : FZK K L) (hz : Fz N) : Fz N' := hz.of fun b i v e => by
  by_cases c : b = 190
  · subst c
    by_cases c2 : i ∈ L
    · rw [ok.2 i c2] at e; cases e
    · exact h.2 i c2
  · by_cases c3 : b ∈ K
    · rw [fz_arr (ok.1 b c3)] at e; cases e
    · rw [h.1 b c c3]
/-- rows stand where neither the pool nor p is touched -/
theorem MT.fm {p : Int} {K L : List Int} {N N' : Mem} {μ : Int → Option (Pz p)} (h : MT p N μ) (e : FM K L N N') (ok : FZK K L) (h8 : 198 ∉ K) (h9 : 199 ∉ K) (h0 : 0 ∉ L) : MT p N' μ := ⟨e.fz ok h.1, h.2.1, by rw [e.2 0 h0]; exact h.2.2.1, h.2.2.2.1, fun a A q => by
  obtain ⟨p1, p2, p3, p4, p5⟩ := h.2.2.2.2 a A q
  exact ⟨p1, p2, p3, by rw [e.1 199 (by decide) h9]; exact p4, fun k hk => by rw [e.1 198 (by decide) h8]; exact p5 k hk⟩⟩
theorem MG.fm {p : Int} {f : Pz p} {g : Nat} {K L : List Int} {N N' : Mem} (h : MG f g N) (e : FM K L N N') (ok : FZK K L) (h8 : 198 ∉ K) (h9 : 199 ∉ K) (h0 : 0 ∉ L) (h1 : 1 ∉ L) (h2 : 2 ∉ L) (h5 : 5 ∉ L) : MG f g N' := by
  obtain ⟨⟨μ, hM, q⟩, a, b, c⟩ := h
  exact ⟨⟨μ, hM.fm e ok h8 h9 h0, q⟩, by rw [e.2 1 h1]; exact a, by rw [e.2 2 h2]; exact b, by rw [e.2 5 h5]; exact c⟩
theorem MB.mg {p : Int} {f : Pz p} {g : Nat} {K L : List Int} {N N' : Mem} (h : MB f g N') (h0 : MG f g N) (e : FM K L N N') (h1 : 1 ∉ L) (h5 : 5 ∉ L) : MG f g N' := ⟨h.1, by rw [e.2 1 h1]; exact h0.2.1, h.2, by rw [e.2 5 h5]; exact h0.2.2.2⟩
theorem ok_ps : FZK [200, 201] [14] := fzk rfl rfl
theorem shs_0 {p : Int} (f : Pz p) {g i : Nat} (hg : g = 1 ∨ g = 2) (hi : 2 * g < i) : shs f g i = 0 := by
  unfold shs shF
  rcases hg with rfl | rfl
  · rw [if_neg (by omega), if_neg (by omega), if_pos rfl, if_neg (by omega)]
  · rw [if_neg (by omega), if_neg (by omega), if_neg (by omega), if_neg (by omega), if_neg (by omega), if_neg (by omega)]
def PoA (N : Mem) (s : Nat → Int) (k : Nat) : Prop := ∀ j : Nat, 1 ≤ j → j ≤ k → N 201 (j : Int) = ovT s k j
set_option maxHeartbeats 8000000 in
theorem l_coI {p : Int} {N : Mem} {Q : Post} {f : Pz p} {g k : Nat} {K : Int} (hg : g = 1 ∨ g = 2) (hz : Fz N) (h2 : N 190 2 = (g : Int)) (hk : k + 1 ≤ 6) (hs : ∀ i : Nat, i ≤ 2 * g → N 200 (i : Int) = shs f g i) (hA : PoA N (shs f g) k) (hQ : WP 184 (0, 0) 91 [(2, 190), (0, K), (0, ((k + 1 : Nat) : Int)), (0, ((k + 1 : Nat) : Int))] [] NN (ust N 201 ((k + 1 : Nat) : Int) (ovT (shs f g) (k + 1) (k + 1))) Q) :
    ∀ (n i : Nat), i + n = k + 1 → 1 ≤ i → WP 184 (0, 0) 42 [(2, 190), (0, K), (0, ((k + 1 : Nat) : Int)), (0, (i : Int))] [] NN (ust N 201 ((k + 1 : Nat) : Int) (((k + 1 : Nat) : Int) * shs f g (k + 1) - isum (fun i => if i = 0 then 0 else shs f g i * ovT (shs f g) k (k + 1 - i)) i)) Q := by
  intro n
  induction n with
  | zero =>
    intro i hi h1
    obtain rfl : i = k + 1 := by omega
    refine WP.run [(184, 42), (184, 91)] [] 60 ?_
    simp only [bk184_0, bk184_6, bk184_11, bk184_26, bk184_38, bk184_39, bk184_42, bk184_47, bk184_64, bk184_82, bk184_83, bk184_91, bk184_97, U_aload_n, U_invokevirtual0, U_iconst, U_istore_n, U_iload_n, U_icmp_gt, U_getfield, U_imul, U_i2l, U_lald, U_lmul, U_goto, U_lconst, U_last, U_icmp_ge, U_dup2, U_isub, U_lsub, U_iinc, U_ladd, U_invokevirtual1, U_lreturn, UN_cc, UN_cn, UN_nc, UN_nn, UJ, lget, lset, lset2, entL, wsm, wcat, Option.toList_some, Option.toList_none, List.cons_append, List.nil_append, List.mem_cons, List.not_mem_nil, Prod.mk.injEq, or_false, false_or, or_true, true_or, and_true, true_and, and_false, false_and, and_self, ne_eq, not_false_eq_true, not_true_eq_false, forall_const, true_implies, false_implies, Nat.add_zero, Nat.zero_add, Nat.le_refl, Nat.zero_le, List.set_cons_zero, List.set_cons_succ, List.set_nil, ↓reduceIte, Nat.reduceAdd, Nat.reduceSub, Nat.reduceEqDiff, Nat.reduceLeDiff, Int.reduceEq, Int.reduceNe, Int.reduceNeg, reduceCtorEq]
    refine ⟨rr (by omega), fun e => absurd e (by omega), fun _ => ?_⟩
    have e : ovT (shs f g) (k + 1) (k + 1) = ((k + 1 : Nat) : Int) * shs f g (k + 1) - isum (fun i => if i = 0 then 0 else shs f g i * ovT (shs f g) k (k + 1 - i)) (k + 1) := if_pos rfl
    rw [e] at hQ; exact hQ
  | succ n ih =>
    intro i hi h1
    have nx := ih (i + 1) (by omega) (by omega)
    have e4 : isum (fun i => if i = 0 then 0 else shs f g i * ovT (shs f g) k (k + 1 - i)) (i + 1) = isum (fun i => if i = 0 then 0 else shs f g i * ovT (shs f g) k (k + 1 - i)) i + shs f g i * ovT (shs f g) k (k + 1 - i) := by
      show isum _ i + (if i = 0 then 0 else shs f g i * ovT (shs f g) k (k + 1 - i)) = _
      rw [if_neg (by omega)]
    rw [e4] at nx
    generalize isum (fun i => if i = 0 then 0 else shs f g i * ovT (shs f g) k (k + 1 - i)) i = S at nx ⊢
    have e2 := hA (k + 1 - i) (by omega) (by omega)
    have e3 : ((k + 1 : Nat) : Int) - (i : Int) = ((k + 1 - i : Nat) : Int) := by omega
    have n1 : ¬ (((k + 1 - i : Nat) : Int)) = ((k + 1 : Nat) : Int) := by omega
    refine WP.run [(184, 42), (184, 91)] [] 60 ?_
    simp only [bk184_0, bk184_6, bk184_11, bk184_26, bk184_38, bk184_39, bk184_42, bk184_47, bk184_64, bk184_82, bk184_83, bk184_91, bk184_97, U_aload_n, U_invokevirtual0, U_iconst, U_istore_n, U_iload_n, U_icmp_gt, U_getfield, U_imul, U_i2l, U_lald, U_lmul, U_goto, U_lconst, U_last, U_icmp_ge, U_dup2, U_isub, U_lsub, U_iinc, U_ladd, U_invokevirtual1, U_lreturn, UN_cc, UN_cn, UN_nc, UN_nn, UJ, lget, lset, lset2, entL, wsm, wcat, Option.toList_some, Option.toList_none, List.cons_append, List.nil_append, List.mem_cons, List.not_mem_nil, Prod.mk.injEq, or_false, false_or, or_true, true_or, and_true, true_and, and_false, false_and, and_self, ne_eq, not_false_eq_true, not_true_eq_false, forall_const, true_implies, false_implies, Nat.add_zero, Nat.zero_add, Nat.le_refl, Nat.zero_le, List.set_cons_zero, List.set_cons_succ, List.set_nil, ↓reduceIte, Nat.reduceAdd, Nat.reduceSub, Nat.reduceEqDiff, Nat.reduceLeDiff, Int.reduceEq, Int.reduceNe, Int.reduceNeg, reduceCtorEq, kd190, kd200, kd201, ln200, ln201, ust_r, z190_15 hz, z190_16 hz, h2]
    refine ⟨rr (by omega), fun _ => ⟨by omega, by omega, rr (by omega), fun e => ?_, fun e => ?_⟩, fun e => absurd e (by omega)⟩
    · have e1 := shs_0 f hg (i := i) (by omega)
      rw [e1, Int.zero_mul, Int.add_zero] at nx
      refine ⟨by omega, by omega, ?_⟩
      rw [ust_u, Int.sub_zero]
      exact nx
    · have e1 := hs i (by omega)
      simp only [e3, e2, n1, e1, false_and, and_false, ↓reduceIte]
      refine ⟨by omega, by omega, by omega, by omega, by omega, by omega, ?_⟩
      rw [ust_u, show ∀ a b c : Int, a - b - c = a - (b + c) by intros; omega]
      exact nx
set_option maxHeartbeats 8000000 in
theorem m_countOf {p : Int} {N : Mem} {Q : Post} {f : Pz p} {g k : Nat} (h : MG f g N) (hp : Pr p) (hg : g = 1 ∨ g = 2) (hk : 1 ≤ k ∧ k ≤ 6) (hQ : ∀ N', MG f g N' → FM [200, 201] [14] N N' → Q (some (1, ptO f g k)) NN N') : CL 184 [(2, 190), (0, (k : Int)), (9, 0), (9, 0)] NN N Q := by
  have hpp := hp.pos
  refine WP.run [(184, 6)] [] 60 ?_
  simp only [bk184_0, bk184_6, bk184_11, bk184_26, bk184_38, bk184_39, bk184_42, bk184_47, bk184_64, bk184_82, bk184_83, bk184_91, bk184_97, U_aload_n, U_invokevirtual0, U_iconst, U_istore_n, U_iload_n, U_icmp_gt, U_getfield, U_imul, U_i2l, U_lald, U_lmul, U_goto, U_lconst, U_last, U_icmp_ge, U_dup2, U_isub, U_lsub, U_iinc, U_ladd, U_invokevirtual1, U_lreturn, UN_cc, UN_cn, UN_nc, UN_nn, UJ, lget, lset, lset2, entL, wsm, wcat, Option.toList_some, Option.toList_none, List.cons_append, List.nil_append, List.mem_cons, List.not_mem_nil, Prod.mk.injEq, or_false, false_or, or_true, true_or, and_true, true_and, and_false, false_and, and_self, ne_eq, not_false_eq_true, not_true_eq_false, forall_const, true_implies, false_implies, Nat.add_zero, Nat.zero_add, Nat.le_refl, Nat.zero_le, List.set_cons_zero, List.set_cons_succ, List.set_nil, ↓reduceIte, Nat.reduceAdd, Nat.reduceSub, Nat.reduceEqDiff, Nat.reduceLeDiff, Int.reduceEq, Int.reduceNe, Int.reduceNeg, reduceCtorEq, kd190]
  refine m_shares h hp hg fun N1 s1 s2 => ?_
  have G1 := h.ps s1
  have F1 : FM [200, 201] [14] N N1 := s1.fm.mo rfl rfl
  clear s1
  have key : ∀ (n j : Nat) (v : V) (Ni : Mem), j + n = k → FM [200, 201] [14] N Ni → MG f g Ni → (∀ i : Nat, i ≤ 2 * g → Ni 200 (i : Int) = shs f g i) → PoA Ni (shs f g) j → WP 184 (0, 0) 6 [(2, 190), (0, (k : Int)), (0, ((j + 1 : Nat) : Int)), v] [] NN Ni Q := by
    intro n
    induction n with
    | zero =>
      intro j v Ni hj hF hG hs hA
      obtain rfl : j = k := by omega
      obtain ⟨hz, hP⟩ := hG.mt
      have e1 := hA j (by omega) (by omega)
      refine WP.run [(184, 6)] [] 60 ?_
      simp only [bk184_0, bk184_6, bk184_11, bk184_26, bk184_38, bk184_39, bk184_42, bk184_47, bk184_64, bk184_82, bk184_83, bk184_91, bk184_97, U_aload_n, U_invokevirtual0, U_iconst, U_istore_n, U_iload_n, U_icmp_gt, U_getfield, U_imul, U_i2l, U_lald, U_lmul, U_goto, U_lconst, U_last, U_icmp_ge, U_dup2, U_isub, U_lsub, U_iinc, U_ladd, U_invokevirtual1, U_lreturn, UN_cc, UN_cn, UN_nc, UN_nn, UJ, lget, lset, lset2, entL, wsm, wcat, Option.toList_some, Option.toList_none, List.cons_append, List.nil_append, List.mem_cons, List.not_mem_nil, Prod.mk.injEq, or_false, false_or, or_true, true_or, and_true, true_and, and_false, false_and, and_self, ne_eq, not_false_eq_true, not_true_eq_false, forall_const, true_implies, false_implies, Nat.add_zero, Nat.zero_add, Nat.le_refl, Nat.zero_le, List.set_cons_zero, List.set_cons_succ, List.set_nil, ↓reduceIte, Nat.reduceAdd, Nat.reduceSub, Nat.reduceEqDiff, Nat.reduceLeDiff, Int.reduceEq, Int.reduceNe, Int.reduceNeg, reduceCtorEq, kd190, kd201, ln201, z190_16 hz, e1]
      refine ⟨rr (by omega), fun _ => ⟨by omega, by omega, m_bigPow (m := j) hP hp (by omega) ?_⟩, fun e => absurd (by omega) e⟩
      simp only [bk184_0, bk184_6, bk184_11, bk184_26, bk184_38, bk184_39, bk184_42, bk184_47, bk184_64, bk184_82, bk184_83, bk184_91, bk184_97, U_aload_n, U_invokevirtual0, U_iconst, U_istore_n, U_iload_n, U_icmp_gt, U_getfield, U_imul, U_i2l, U_lald, U_lmul, U_goto, U_lconst, U_last, U_icmp_ge, U_dup2, U_isub, U_lsub, U_iinc, U_ladd, U_invokevirtual1, U_lreturn, UN_cc, UN_cn, UN_nc, UN_nn, UJ, lget, lset, lset2, entL, wsm, wcat, Option.toList_some, Option.toList_none, List.cons_append, List.nil_append, List.mem_cons, List.not_mem_nil, Prod.mk.injEq, or_false, false_or, or_true, true_or, and_true, true_and, and_false, false_and, and_self, ne_eq, not_false_eq_true, not_true_eq_false, forall_const, true_implies, false_implies, Nat.add_zero, Nat.zero_add, Nat.le_refl, Nat.zero_le, List.set_cons_zero, List.set_cons_succ, List.set_nil, ↓reduceIte, Nat.reduceAdd, Nat.reduceSub, Nat.reduceEqDiff, Nat.reduceLeDiff, Int.reduceEq, Int.reduceNe, Int.reduceNeg, reduceCtorEq]
      have := hQ Ni hG hF
      unfold ptO at this
      rw [ovT_le (shs f g) 6 j j (by omega) (by omega)] at this
      rw [show ovT (shs f g) j j + 1 + p ^ j = 1 + p ^ j + ovT (shs f g) j j by omega]
      exact this
    | succ n ih =>
      intro j v Ni hj hF hG hs hA
      obtain ⟨hz, hP⟩ := hG.mt
      have h2 := hG.2.2.1
      have hi1 : isum (fun i => if i = 0 then 0 else shs f g i * ovT (shs f g) j (j + 1 - i)) 1 = 0 := rfl
      have I := l_coI (p := p) (N := Ni) (Q := Q) (f := f) (g := g) (k := j) (K := (k : Int)) hg hz h2 (by omega) hs hA ?_ j 1 (by omega) (by omega)
      · rw [hi1, Int.sub_zero] at I
        refine WP.run [(184, 6), (184, 42)] [] 60 ?_
        simp only [bk184_0, bk184_6, bk184_11, bk184_26, bk184_38, bk184_39, bk184_42, bk184_47, bk184_64, bk184_82, bk184_83, bk184_91, bk184_97, U_aload_n, U_invokevirtual0, U_iconst, U_istore_n, U_iload_n, U_icmp_gt, U_getfield, U_imul, U_i2l, U_lald, U_lmul, U_goto, U_lconst, U_last, U_icmp_ge, U_dup2, U_isub, U_lsub, U_iinc, U_ladd, U_invokevirtual1, U_lreturn, UN_cc, UN_cn, UN_nc, UN_nn, UJ, lget, lset, lset2, entL, wsm, wcat, Option.toList_some, Option.toList_none, List.cons_append, List.nil_append, List.mem_cons, List.not_mem_nil, Prod.mk.injEq, or_false, false_or, or_true, true_or, and_true, true_and, and_false, false_and, and_self, ne_eq, not_false_eq_true, not_true_eq_false, forall_const, true_implies, false_implies, Nat.add_zero, Nat.zero_add, Nat.le_refl, Nat.zero_le, List.set_cons_zero, List.set_cons_succ, List.set_nil, ↓reduceIte, Nat.reduceAdd, Nat.reduceSub, Nat.reduceEqDiff, Nat.reduceLeDiff, Int.reduceEq, Int.reduceNe, Int.reduceNeg, reduceCtorEq, kd190, kd200, kd201, ln200, ln201, z190_15 hz, z190_16 hz, h2]
        refine ⟨rr (by omega), fun e => absurd e (by omega), fun _ => ⟨rr (by omega), fun e => ?_, fun e => ?_⟩⟩
        · have e1 := shs_0 f hg (i := j + 1) (by omega)
          rw [e1, Int.mul_zero] at I
          refine ⟨by omega, by omega, ?_⟩
          exact I
        · have e1 := hs (j + 1) (by omega)
          simp only [e1]
          refine ⟨r3 (by omega), by omega, by omega, by omega, by omega, ?_⟩
          exact I
      · have F2 := hF.us (b := 201) ((j + 1 : Nat) : Int) (ovT (shs f g) (j + 1) (j + 1)) (by simp) (by decide)
        have F3 : FM [201] [] Ni (ust Ni 201 ((j + 1 : Nat) : Int) (ovT (shs f g) (j + 1) (j + 1))) := (FM.rf _ _ _).us _ _ (by simp) (by decide)
        refine WP.run [(184, 6)] [] 60 ?_
        simp only [bk184_0, bk184_6, bk184_11, bk184_26, bk184_38, bk184_39, bk184_42, bk184_47, bk184_64, bk184_82, bk184_83, bk184_91, bk184_97, U_aload_n, U_invokevirtual0, U_iconst, U_istore_n, U_iload_n, U_icmp_gt, U_getfield, U_imul, U_i2l, U_lald, U_lmul, U_goto, U_lconst, U_last, U_icmp_ge, U_dup2, U_isub, U_lsub, U_iinc, U_ladd, U_invokevirtual1, U_lreturn, UN_cc, UN_cn, UN_nc, UN_nn, UJ, lget, lset, lset2, entL, wsm, wcat, Option.toList_some, Option.toList_none, List.cons_append, List.nil_append, List.mem_cons, List.not_mem_nil, Prod.mk.injEq, or_false, false_or, or_true, true_or, and_true, true_and, and_false, false_and, and_self, ne_eq, not_false_eq_true, not_true_eq_false, forall_const, true_implies, false_implies, Nat.add_zero, Nat.zero_add, Nat.le_refl, Nat.zero_le, List.set_cons_zero, List.set_cons_succ, List.set_nil, ↓reduceIte, Nat.reduceAdd, Nat.reduceSub, Nat.reduceEqDiff, Nat.reduceLeDiff, Int.reduceEq, Int.reduceNe, Int.reduceNeg, reduceCtorEq]
        refine ih (j + 1) _ _ (by omega) F2 (hG.fm F3 (fzk rfl rfl) (by decide) (by decide) (by decide) (by decide) (by decide) (by decide)) (fun i hi => by rw [ust_ne (by decide)]; exact hs i hi) (fun i i1 i2 => ?_)
        rw [ust_at]
        by_cases e : i = j + 1
        · rw [if_pos (by omega), e]
        · rw [if_neg (by omega), ovT_le (shs f g) (j + 1) j i (by omega) (by omega)]; exact hA i i1 (by omega)
  simp only [bk184_0, bk184_6, bk184_11, bk184_26, bk184_38, bk184_39, bk184_42, bk184_47, bk184_64, bk184_82, bk184_83, bk184_91, bk184_97, U_aload_n, U_invokevirtual0, U_iconst, U_istore_n, U_iload_n, U_icmp_gt, U_getfield, U_imul, U_i2l, U_lald, U_lmul, U_goto, U_lconst, U_last, U_icmp_ge, U_dup2, U_isub, U_lsub, U_iinc, U_ladd, U_invokevirtual1, U_lreturn, UN_cc, UN_cn, UN_nc, UN_nn, UJ, lget, lset, lset2, entL, wsm, wcat, Option.toList_some, Option.toList_none, List.cons_append, List.nil_append, List.mem_cons, List.not_mem_nil, Prod.mk.injEq, or_false, false_or, or_true, true_or, and_true, true_and, and_false, false_and, and_self, ne_eq, not_false_eq_true, not_true_eq_false, forall_const, true_implies, false_implies, Nat.add_zero, Nat.zero_add, Nat.le_refl, Nat.zero_le, List.set_cons_zero, List.set_cons_succ, List.set_nil, ↓reduceIte, Nat.reduceAdd, Nat.reduceSub, Nat.reduceEqDiff, Nat.reduceLeDiff, Int.reduceEq, Int.reduceNe, Int.reduceNeg, reduceCtorEq]
  exact key k 0 _ N1 (by omega) F1 G1 s2 (fun j j1 j2 => by omega)
set_option maxHeartbeats 8000000 in
theorem m_classMany {p : Int} {N : Mem} {Q : Post} {f : Pz p} {g : Nat} (h : MG f g N) (hp : Pr p) (hg : g = 1 ∨ g = 2) (hQ : ∀ N', MG f g N' → FM [200] [14] N N' → Q (some (1, hcl f g)) NN N') : CL 188 [(2, 190), (9, 0), (9, 0), (9, 0)] NN N Q := by
  refine WP.run [(188, 8)] [] 60 ?_
  simp only [bk188_0, bk188_8, bk188_18, bk188_33, U_aload_n, U_invokevirtual0, U_lconst, U_lstore_n, U_iconst, U_istore_n, U_iload_n, U_getfield, U_imul, U_icmp_gt, U_lload_n, U_lald, U_ladd, U_iinc, U_goto, U_lreturn, UN_cc, UN_cn, UN_nc, UN_nn, UJ, lget, lset, lset2, entL, wsm, wcat, Option.toList_some, Option.toList_none, List.cons_append, List.nil_append, List.mem_cons, List.not_mem_nil, Prod.mk.injEq, or_false, false_or, or_true, true_or, and_true, true_and, and_false, false_and, and_self, ne_eq, not_false_eq_true, not_true_eq_false, forall_const, true_implies, false_implies, Nat.add_zero, Nat.zero_add, Nat.le_refl, Nat.zero_le, List.set_cons_zero, List.set_cons_succ, List.set_nil, ↓reduceIte, Nat.reduceAdd, Nat.reduceSub, Nat.reduceEqDiff, Nat.reduceLeDiff, Int.reduceEq, Int.reduceNe, Int.reduceNeg, reduceCtorEq, kd190]
  refine m_shares h hp hg fun N1 s1 s2 => ?_
  have G1 := h.ps s1
  obtain ⟨hz, hP⟩ := G1.mt
  have h2 := G1.2.2.1
  have fin : isum (shs f g) (2 * g + 1) = hcl f g := by
    unfold hcl
    rcases hg with rfl | rfl
    · show _ = isum (shs f 1) 3 + shs f 1 3 + shs f 1 4 + shs f 1 5 + shs f 1 6
      rw [shs_0 f (Or.inl rfl) (by omega), shs_0 f (Or.inl rfl) (by omega), shs_0 f (Or.inl rfl) (by omega), shs_0 f (Or.inl rfl) (by omega)]
      show isum (shs f 1) 3 = _
      omega
    · show _ = isum (shs f 2) 5 + shs f 2 5 + shs f 2 6
      rw [shs_0 f (Or.inr rfl) (by omega), shs_0 f (Or.inr rfl) (by omega)]
      show isum (shs f 2) 5 = _
      omega
  have key : ∀ (n i : Nat), i + n = 2 * g + 1 → WP 188 (0, 0) 8 [(2, 190), (1, isum (shs f g) i), (9, 0), (0, (i : Int))] [] NN N1 Q := by
    intro n
    induction n with
    | zero =>
      intro i hi
      obtain rfl : i = 2 * g + 1 := by omega
      refine WP.run [(188, 8)] [] 60 ?_
      simp only [bk188_0, bk188_8, bk188_18, bk188_33, U_aload_n, U_invokevirtual0, U_lconst, U_lstore_n, U_iconst, U_istore_n, U_iload_n, U_getfield, U_imul, U_icmp_gt, U_lload_n, U_lald, U_ladd, U_iinc, U_goto, U_lreturn, UN_cc, UN_cn, UN_nc, UN_nn, UJ, lget, lset, lset2, entL, wsm, wcat, Option.toList_some, Option.toList_none, List.cons_append, List.nil_append, List.mem_cons, List.not_mem_nil, Prod.mk.injEq, or_false, false_or, or_true, true_or, and_true, true_and, and_false, false_and, and_self, ne_eq, not_false_eq_true, not_true_eq_false, forall_const, true_implies, false_implies, Nat.add_zero, Nat.zero_add, Nat.le_refl, Nat.zero_le, List.set_cons_zero, List.set_cons_succ, List.set_nil, ↓reduceIte, Nat.reduceAdd, Nat.reduceSub, Nat.reduceEqDiff, Nat.reduceLeDiff, Int.reduceEq, Int.reduceNe, Int.reduceNeg, reduceCtorEq, kd190, h2]
      refine ⟨rr (by omega), fun _ => ?_, fun e => absurd (by omega) e⟩
      rw [fin]; exact hQ N1 G1 s1.fm
    | succ n ih =>
      intro i hi
      have e1 := s2 i (by omega)
      refine WP.run [(188, 8)] [] 60 ?_
      simp only [bk188_0, bk188_8, bk188_18, bk188_33, U_aload_n, U_invokevirtual0, U_lconst, U_lstore_n, U_iconst, U_istore_n, U_iload_n, U_getfield, U_imul, U_icmp_gt, U_lload_n, U_lald, U_ladd, U_iinc, U_goto, U_lreturn, UN_cc, UN_cn, UN_nc, UN_nn, UJ, lget, lset, lset2, entL, wsm, wcat, Option.toList_some, Option.toList_none, List.cons_append, List.nil_append, List.mem_cons, List.not_mem_nil, Prod.mk.injEq, or_false, false_or, or_true, true_or, and_true, true_and, and_false, false_and, and_self, ne_eq, not_false_eq_true, not_true_eq_false, forall_const, true_implies, false_implies, Nat.add_zero, Nat.zero_add, Nat.le_refl, Nat.zero_le, List.set_cons_zero, List.set_cons_succ, List.set_nil, ↓reduceIte, Nat.reduceAdd, Nat.reduceSub, Nat.reduceEqDiff, Nat.reduceLeDiff, Int.reduceEq, Int.reduceNe, Int.reduceNeg, reduceCtorEq, kd190, kd200, ln200, z190_15 hz, h2, e1]
      refine ⟨rr (by omega), fun e => absurd e (by omega), fun _ => ⟨by omega, by omega, ?_⟩⟩
      exact ih (i + 1) (by omega)
  simp only [bk188_0, bk188_8, bk188_18, bk188_33, U_aload_n, U_invokevirtual0, U_lconst, U_lstore_n, U_iconst, U_istore_n, U_iload_n, U_getfield, U_imul, U_icmp_gt, U_lload_n, U_lald, U_ladd, U_iinc, U_goto, U_lreturn, UN_cc, UN_cn, UN_nc, UN_nn, UJ, lget, lset, lset2, entL, wsm, wcat, Option.toList_some, Option.toList_none, List.cons_append, List.nil_append, List.mem_cons, List.not_mem_nil, Prod.mk.injEq, or_false, false_or, or_true, true_or, and_true, true_and, and_false, false_and, and_self, ne_eq, not_false_eq_true, not_true_eq_false, forall_const, true_implies, false_implies, Nat.add_zero, Nat.zero_add, Nat.le_refl, Nat.zero_le, List.set_cons_zero, List.set_cons_succ, List.set_nil, ↓reduceIte, Nat.reduceAdd, Nat.reduceSub, Nat.reduceEqDiff, Nat.reduceLeDiff, Int.reduceEq, Int.reduceNe, Int.reduceNeg, reduceCtorEq]
  exact key (2 * g + 1) 0 (by omega)
