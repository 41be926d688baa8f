/-! CODES: the nearest word found, the least weight -/
/-- the nearest word as it stands in the cells -/
def NrA {p : Int} (N : Mem) (W : Nat → Nat → Int) (tl : Nat → Int) (w L : Nat) : Prop := ∃ b, IsFst (difN p.toNat p W tl w L) (p.toNat ^ w) b ∧ N 120 14 = (difN p.toNat p W tl w L b : Int) ∧ ∀ i : Nat, i < w → N 181 (i : Int) = ((b / p.toNat ^ i % p.toNat : Nat) : Int)
theorem cntE_cg {a b : Nat → Int} (v : Int) : ∀ L, (∀ j, j < L → a j = b j) → cntE a v L = cntE b v L
  | 0, _ => rfl
  | L + 1, h => by
    show cntE a v L + (if a L = v then 1 else 0) = cntE b v L + (if b L = v then 1 else 0)
    rw [cntE_cg v L (fun j hj => h j (by omega)), h L (by omega)]
/-- the constant that is most often gives the least of a block, the first such -/
theorem often_min {p : Int} (hp : Pr p) {W : Nat → Nat → Int} {tl a : Nat → Int} {w L M : Nat} (hw : 1 ≤ w) (h0 : ∀ j, j < L → W 0 j = 1) (htl : ∀ j, 0 ≤ tl j ∧ tl j < p) (ha : ∀ j, j < L → a j = (tl j - sumC (dgt p.toNat M) W w j) % p) :
    moI (fun v => cntE a v L) p.toNat < p.toNat ∧ difN p.toNat p W tl w L (p.toNat * M + moI (fun v => cntE a v L) p.toNat) + cntE a (moI (fun v => cntE a v L) p.toNat) L = L ∧ (∀ v, v < p.toNat → difN p.toNat p W tl w L (p.toNat * M + moI (fun v => cntE a v L) p.toNat) ≤ difN p.toNat p W tl w L (p.toNat * M + v)) ∧ ∀ v, v < moI (fun v => cntE a v L) p.toNat → difN p.toNat p W tl w L (p.toNat * M + moI (fun v => cntE a v L) p.toNat) < difN p.toNat p W tl w L (p.toNat * M + v) := by
  have hpp := hp.pos
  have hm := moI_is (fun v => cntE a v L) (p.toNat - 1)
  rw [show p.toNat - 1 + 1 = p.toNat by omega] at hm
  obtain ⟨m1, m2, m3⟩ := hm
  generalize ho : moI (fun v => cntE a v L) p.toNat = o at *
  have e := difN_eq hp hw h0 htl (v := o) (by omega) ha
  refine ⟨by omega, e, fun v hv => ?_, fun v hv => ?_⟩
  · have e2 := difN_eq hp hw h0 htl (v := v) hv ha
    have := m2 v (by omega)
    have h3 : cntE a v L ≤ cntE a o L := this
    omega
  · have e2 := difN_eq hp hw h0 htl (v := v) (by omega) ha
    have := m3 v hv
    have h3 : cntE a v L < cntE a o L := this
    omega
set_option maxHeartbeats 8000000 in
theorem l_snC {N : Mem} {Q : Post} {w o : Nat} {n : Int} {d : Nat → Int} (hz : Fz N) (hw : w ≤ 26) (hd : ∀ i : Nat, i < w → N 178 (i : Int) = d i)
    (hQ : ∀ N', Fr [181] N N' → (∀ i : Nat, i < w → N' 181 (i : Int) = d i) → ∀ x : V, WP 49 (0, 0) 157 [(2, 120), (0, (w : Int)), (0, n), (0, (o : Int)), x] [] NN N' Q) :
    ∀ (m i : Nat) (Ni : Mem), i + m = w → Fr [181] N Ni → (∀ x : Nat, x < i → Ni 181 (x : Int) = d x) → WP 49 (0, 0) 131 [(2, 120), (0, (w : Int)), (0, n), (0, (o : Int)), (0, (i : Int))] [] NN Ni Q := by
  intro m
  induction m with
  | zero =>
    intro i Ni hi hF hI
    obtain rfl : i = w := by omega
    refine WP.run [(49, 131), (49, 157)] [] 60 ?_
    simp only [bk49_0, bk49_8, bk49_9, bk49_24, bk49_25, bk49_37, bk49_45, bk49_63, bk49_79, bk49_83, bk49_106, bk49_131, bk49_137, bk49_157, bk49_168, U_aload_n, U_getfield, U_iload_n, U_icmp_ne, U_return, U_putfield, U_iconst, U_icmp_ge, U_iadd, U_istore_n, U_iald, U_iast, U_iinc, U_goto, U_invokestatic2, U_isub, U_invokevirtual1, U_if_le, U_invokevirtual0, U_istore, U_iload, UN_cc, UN_cn, UN_nc, UN_nn, UJ, lget, lset, lset2, entL, wsm, wcat, Option.toList_some, Option.toList_none, List.cons_append, List.nil_append, List.mem_cons, List.not_mem_nil, Prod.mk.injEq, or_false, false_or, or_true, true_or, and_true, true_and, and_false, false_and, and_self, ne_eq, not_false_eq_true, not_true_eq_false, forall_const, true_implies, false_implies, Nat.add_zero, Nat.zero_add, Nat.le_refl, Nat.zero_le, List.set_cons_zero, List.set_cons_succ, List.set_nil, ↓reduceIte, Nat.reduceAdd, Nat.reduceSub, Nat.reduceEqDiff, Nat.reduceLeDiff, Int.reduceEq, Int.reduceNe, Int.reduceNeg, reduceCtorEq]
    exact ⟨rr (by omega), fun e => absurd e (by omega), fun _ => hQ Ni hF hI _⟩
  | succ m ih =>
    intro i Ni hi hF hI
    have fc := FC.fr hF (by unfold cdC; omega) (by omega)
    have hz1 := fc.fz hz
    have ed : Ni 178 (i : Int) = d i := by rw [hF 178 (by simp)]; exact hd i (by omega)
    refine WP.run [(49, 131), (49, 157)] [] 60 ?_
    simp only [bk49_0, bk49_8, bk49_9, bk49_24, bk49_25, bk49_37, bk49_45, bk49_63, bk49_79, bk49_83, bk49_106, bk49_131, bk49_137, bk49_157, bk49_168, U_aload_n, U_getfield, U_iload_n, U_icmp_ne, U_return, U_putfield, U_iconst, U_icmp_ge, U_iadd, U_istore_n, U_iald, U_iast, U_iinc, U_goto, U_invokestatic2, U_isub, U_invokevirtual1, U_if_le, U_invokevirtual0, U_istore, U_iload, UN_cc, UN_cn, UN_nc, UN_nn, UJ, lget, lset, lset2, entL, wsm, wcat, Option.toList_some, Option.toList_none, List.cons_append, List.nil_append, List.mem_cons, List.not_mem_nil, Prod.mk.injEq, or_false, false_or, or_true, true_or, and_true, true_and, and_false, false_and, and_self, ne_eq, not_false_eq_true, not_true_eq_false, forall_const, true_implies, false_implies, Nat.add_zero, Nat.zero_add, Nat.le_refl, Nat.zero_le, List.set_cons_zero, List.set_cons_succ, List.set_nil, ↓reduceIte, Nat.reduceAdd, Nat.reduceSub, Nat.reduceEqDiff, Nat.reduceLeDiff, Int.reduceEq, Int.reduceNe, Int.reduceNeg, reduceCtorEq, kd120, kd178, kd181, ln178, ln181, z120_10 hz1, z120_15 hz1, ed]
    refine ⟨rr (by omega), fun _ => ⟨by omega, by omega, by omega, by omega, ?_⟩, fun e => absurd (by omega) e⟩
    refine ih (i + 1) _ (by omega) (fun b hb => ?_) (fun x hx => ?_)
    · rw [ust_ne (fun e => hb (by simp [e]))]; exact hF b hb
    · rw [ust_at]
      by_cases q : x = i
      · subst q; rw [if_pos rfl]
      · rw [if_neg (by omega)]; exact hI x (by omega)
/-- the cells that the search writes -/
def FN (N N' : Mem) : Prop := (∀ b, b ≠ 120 → b ≠ 178 → b ≠ 179 → b ≠ 180 → b ≠ 181 → N' b = N b) ∧ ∀ i, i ≠ 13 → i ≠ 14 → N' 120 i = N 120 i
theorem FN.rf (N : Mem) : FN N N := ⟨fun _ _ _ _ _ _ => rfl, fun _ _ _ => rfl⟩
theorem FN.tr {N N' N'' : Mem} (h1 : FN N N') (h2 : FN N' N'') : FN N N'' := ⟨fun b a c d e g => (h2.1 b a c d e g).trans (h1.1 b a c d e g), fun i a b => (h2.2 i a b).trans (h1.2 i a b)⟩
theorem FN.fr {N N' : Mem} {K : List Int} (hF : Fr K N N') (h : ∀ a ∈ K, a = 178 ∨ a = 179 ∨ a = 180 ∨ a = 181) : FN N N' := ⟨fun b a c d e g => hF b (fun q => by have := h b q; omega), fun i _ _ => by rw [hF 120 (fun q => by have := h 120 q; omega)]⟩
theorem FN.fc {N N' : Mem} (h : FN N N') : FC N N' := ⟨fun b hb => h.1 b (fun e => hb (by unfold cdC; omega)) (fun e => hb (by unfold cdC; omega)) (fun e => hb (by unfold cdC; omega)) (fun e => hb (by unfold cdC; omega)) (fun e => hb (by unfold cdC; omega)), fun i _ _ _ a b => h.2 i a b⟩
theorem FN.us {N N' : Mem} (h : FN N N') {a : Int} (i x : Int) (ha : a = 178 ∨ a = 179 ∨ a = 180 ∨ a = 181) : FN N (ust N' a i x) := h.tr (FN.fr (K := [a]) (fun b hb => ust_ne (fun e => hb (by simp [e]))) (fun b hb => by rw [List.mem_singleton.mp hb]; exact ha))
theorem FN.u0 {N N' : Mem} (h : FN N N') {i : Int} (x : Int) (hi : i = 13 ∨ i = 14) : FN N (ust N' 120 i x) := h.tr ⟨fun b a _ _ _ _ => ust_ne a, fun j a b => by rw [ust_at, if_neg (by omega)]⟩
set_option maxHeartbeats 32000000 in
theorem l_seek {p : Int} {N : Mem} {ρ : Int → Option (Pz p)} {Q : Post} {L w : Nat} {tl : Nat → Int} {W : Nat → Nat → Int} (hS : ST p N ρ) (hL : L ≤ 26) (hw : 1 ≤ w ∧ w ≤ 26) (hN : p.toNat ^ w ≤ 20000) (h8 : N 120 8 = L) (h13 : N 120 13 = w) (hW : ∀ k j : Nat, k < w → j < L → N (123 + (k : Int)) (j : Int) = W k j) (hrW : ∀ k j, 0 ≤ W k j ∧ W k j < p) (h0 : ∀ j, j < L → W 0 j = 1) (htl : ∀ j, 0 ≤ tl j ∧ tl j < p)
    (hQ : ∀ N', FN N N' → N' 120 13 = w → NrA (p := p) N' W tl w L → Q none NN N') :
    ∀ (n M : Nat) (x y : V) (Ni : Mem), M + n = p.toNat ^ (w - 1) → FN N Ni → Ni 120 13 = w → DgA p Ni tl W L w (dgt p.toNat M) → ((M = 0 ∧ Ni 120 14 = (L : Int) + 1) ∨ ∃ b, IsFst (difN p.toNat p W tl w L) (p.toNat * M) b ∧ Ni 120 14 = (difN p.toNat p W tl w L b : Int) ∧ ∀ i : Nat, i < w → Ni 181 (i : Int) = ((b / p.toNat ^ i % p.toNat : Nat) : Int)) → WP 49 (0, 0) 79 [(2, 120), (0, (w : Int)), (0, (n : Int)), x, y] [] NN Ni Q := by
  have hp := hS.1.2.1
  have hpp := hp.pos
  have hpw : p.toNat ^ w = p.toNat * p.toNat ^ (w - 1) := by rw [Nat.mul_comm, ← Nat.pow_succ]; congr 1; omega
  have hpos : 0 < p.toNat ^ (w - 1) := Nat.pow_pos (by omega)
  have hle : p.toNat ^ (w - 1) ≤ 20000 := by
    have := Nat.le_mul_of_pos_left (p.toNat ^ (w - 1)) (show 0 < p.toNat by omega)
    omega
  intro n
  induction n with
  | zero =>
    intro M x y Ni hM hF hi hD hb
    refine WP.run [(49, 79)] [] 60 ?_
    simp only [bk49_0, bk49_8, bk49_9, bk49_24, bk49_25, bk49_37, bk49_45, bk49_63, bk49_79, bk49_83, bk49_106, bk49_131, bk49_137, bk49_157, bk49_168, U_aload_n, U_getfield, U_iload_n, U_icmp_ne, U_return, U_putfield, U_iconst, U_icmp_ge, U_iadd, U_istore_n, U_iald, U_iast, U_iinc, U_goto, U_invokestatic2, U_isub, U_invokevirtual1, U_if_le, U_invokevirtual0, U_istore, U_iload, UN_cc, UN_cn, UN_nc, UN_nn, UJ, lget, lset, lset2, entL, wsm, wcat, Option.toList_some, Option.toList_none, List.cons_append, List.nil_append, List.mem_cons, List.not_mem_nil, Prod.mk.injEq, or_false, false_or, or_true, true_or, and_true, true_and, and_false, false_and, and_self, ne_eq, not_false_eq_true, not_true_eq_false, forall_const, true_implies, false_implies, Nat.add_zero, Nat.zero_add, Nat.le_refl, Nat.zero_le, List.set_cons_zero, List.set_cons_succ, List.set_nil, ↓reduceIte, Nat.reduceAdd, Nat.reduceSub, Nat.reduceEqDiff, Nat.reduceLeDiff, Int.reduceEq, Int.reduceNe, Int.reduceNeg, reduceCtorEq]
    refine ⟨r3 (by omega), fun e => absurd e (by omega), fun _ => hQ Ni hF hi ?_⟩
    rcases hb with ⟨z, _⟩ | hb
    · omega
    · unfold NrA
      rw [hpw, ← hM, Nat.add_zero]; exact hb
  | succ n ih =>
    intro M x y Ni hM hF hi hD hb
    have fc := hF.fc
    have hSi := fc.st hS
    have e8 : Ni 120 8 = (L : Int) := by rw [hF.2 8 (by decide) (by decide)]; exact h8
    have hWi : ∀ k j : Nat, k < w → j < L → Ni (123 + (k : Int)) (j : Int) = W k j := fun k j hk hj => by
      rw [hF.1 (123 + (k : Int)) (by omega) (by omega) (by omega) (by omega) (by omega)]; exact hW k j hk hj
    refine WP.run [(49, 79), (49, 131), (49, 157)] [] 90 ?_
    simp only [bk49_0, bk49_8, bk49_9, bk49_24, bk49_25, bk49_37, bk49_45, bk49_63, bk49_79, bk49_83, bk49_106, bk49_131, bk49_137, bk49_157, bk49_168, U_aload_n, U_getfield, U_iload_n, U_icmp_ne, U_return, U_putfield, U_iconst, U_icmp_ge, U_iadd, U_istore_n, U_iald, U_iast, U_iinc, U_goto, U_invokestatic2, U_isub, U_invokevirtual1, U_if_le, U_invokevirtual0, U_istore, U_iload, UN_cc, UN_cn, UN_nc, UN_nn, UJ, lget, lset, lset2, entL, wsm, wcat, Option.toList_some, Option.toList_none, List.cons_append, List.nil_append, List.mem_cons, List.not_mem_nil, Prod.mk.injEq, or_false, false_or, or_true, true_or, and_true, true_and, and_false, false_and, and_self, ne_eq, not_false_eq_true, not_true_eq_false, forall_const, true_implies, false_implies, Nat.add_zero, Nat.zero_add, Nat.le_refl, Nat.zero_le, List.set_cons_zero, List.set_cons_succ, List.set_nil, ↓reduceIte, Nat.reduceAdd, Nat.reduceSub, Nat.reduceEqDiff, Nat.reduceLeDiff, Int.reduceEq, Int.reduceNe, Int.reduceNeg, reduceCtorEq, kd120]
    refine ⟨r3 (by omega), fun _ => ?_, fun e => absurd (by omega) e⟩
    obtain ⟨o1, o2, o3, o4⟩ := often_min hp hw.1 h0 htl (a := fun j => (tl j - sumC (dgt p.toNat M) W w j) % p) (M := M) (L := L) (fun j _ => rfl)
    refine s_often (a := fun j => (tl j - sumC (dgt p.toNat M) W w j) % p) hSi.1 hL e8 hD.2 (fun j _ => ⟨Int.emod_nonneg _ (by omega), Int.emod_lt_of_pos _ (by omega)⟩) fun N1 g1 g2 => ?_
    have f1 : FN Ni N1 := FN.fr g1 (by simp)
    have hS1 := f1.fc.st hSi
    have e81 : N1 120 8 = (L : Int) := by rw [f1.2 8 (by decide) (by decide)]; exact e8
    have e14 : N1 120 14 = Ni 120 14 := by rw [g1 120 (by simp)]
    have e131 : N1 120 13 = (w : Int) := by rw [g1 120 (by simp)]; exact hi
    generalize hoe : moI (fun v => cntE (fun j => (tl j - sumC (dgt p.toNat M) W w j) % p) v L) p.toNat = o at *
    have et := g2 o (by omega)
    have hlo := cntE_le (fun j => (tl j - sumC (dgt p.toNat M) W w j) % p) (o : Int) L
    generalize hT : cntE (fun j => (tl j - sumC (dgt p.toNat M) W w j) % p) (o : Int) L = T at *
    have hD1 : DgA p N1 tl W L w (dgt p.toNat M) := ⟨fun k k1 k2 => by rw [g1 178 (by simp)]; exact hD.1 k k1 k2, fun j hj => by rw [g1 179 (by simp)]; exact hD.2 j hj⟩
    have hnd : ∃ nd : Nat, Ni 120 14 = (nd : Int) ∧ nd ≤ 27 ∧ (difN p.toNat p W tl w L (p.toNat * M + o) < nd → IsFst (difN p.toNat p W tl w L) (p.toNat * (M + 1)) (p.toNat * M + o)) ∧ (¬ difN p.toNat p W tl w L (p.toNat * M + o) < nd → ∃ b, IsFst (difN p.toNat p W tl w L) (p.toNat * (M + 1)) b ∧ Ni 120 14 = (difN p.toNat p W tl w L b : Int) ∧ ∀ i : Nat, i < w → Ni 181 (i : Int) = ((b / p.toNat ^ i % p.toNat : Nat) : Int)) := by
      rcases hb with ⟨z, e⟩ | ⟨b, b1, b2, b3⟩
      · subst z
        refine ⟨L + 1, by rw [e]; omega, by omega, fun _ => fst_0 o1 o3 o4, fun q => absurd q (by omega)⟩
      · have hbl := cntE_le (fun j => if isum (fun i => ((b / p.toNat ^ i % p.toNat : Nat) : Int) * W i j) w % p = tl j then 0 else 1) 1 L
        have hbl2 : difN p.toNat p W tl w L b ≤ L := hbl
        have := fst_next (show 1 ≤ p.toNat by omega) b1 rfl o1 o3 o4
        exact ⟨_, b2, by omega, this.1, fun q => ⟨b, this.2 q, b2, b3⟩⟩
    obtain ⟨nd, n1, n2, n3, n4⟩ := hnd
    rw [n1] at e14
    -- on to the next word of the others
    have nxt : ∀ (N2 : Mem) (z : V), FN N1 N2 → N2 120 13 = w → DgA p N2 tl W L w (dgt p.toNat M) → (∃ b, IsFst (difN p.toNat p W tl w L) (p.toNat * (M + 1)) b ∧ N2 120 14 = (difN p.toNat p W tl w L b : Int) ∧ ∀ i : Nat, i < w → N2 181 (i : Int) = ((b / p.toNat ^ i % p.toNat : Nat) : Int)) → WP 49 (0, 0) 157 [(2, 120), (0, (w : Int)), (0, ((n + 1 : Nat) : Int)), (0, (o : Int)), z] [] NN N2 Q := fun N2 z a1 a2 a3 a4 => by
      have f2 := f1.tr a1
      refine WP.run [(49, 79)] [] 60 ?_
      simp only [bk49_0, bk49_8, bk49_9, bk49_24, bk49_25, bk49_37, bk49_45, bk49_63, bk49_79, bk49_83, bk49_106, bk49_131, bk49_137, bk49_157, bk49_168, U_aload_n, U_getfield, U_iload_n, U_icmp_ne, U_return, U_putfield, U_iconst, U_icmp_ge, U_iadd, U_istore_n, U_iald, U_iast, U_iinc, U_goto, U_invokestatic2, U_isub, U_invokevirtual1, U_if_le, U_invokevirtual0, U_istore, U_iload, UN_cc, UN_cn, UN_nc, UN_nn, UJ, lget, lset, lset2, entL, wsm, wcat, Option.toList_some, Option.toList_none, List.cons_append, List.nil_append, List.mem_cons, List.not_mem_nil, Prod.mk.injEq, or_false, false_or, or_true, true_or, and_true, true_and, and_false, false_and, and_self, ne_eq, not_false_eq_true, not_true_eq_false, forall_const, true_implies, false_implies, Nat.add_zero, Nat.zero_add, Nat.le_refl, Nat.zero_le, List.set_cons_zero, List.set_cons_succ, List.set_nil, ↓reduceIte, Nat.reduceAdd, Nat.reduceSub, Nat.reduceEqDiff, Nat.reduceLeDiff, Int.reduceEq, Int.reduceNe, Int.reduceNeg, reduceCtorEq, kd120]
      refine s_step (L := L) (tl := tl) (W := W) (M := M) (f2.fc.st hSi) hL hw.2 hw.1 (by rw [f2.2 8 (by decide) (by decide)]; exact e8) (fun k j hk hj => by rw [f2.1 (123 + (k : Int)) (by omega) (by omega) (by omega) (by omega) (by omega)]; exact hWi k j hk hj) hrW a3 fun N3 b1 b2 b3 => ?_
      simp only [bk49_0, bk49_8, bk49_9, bk49_24, bk49_25, bk49_37, bk49_45, bk49_63, bk49_79, bk49_83, bk49_106, bk49_131, bk49_137, bk49_157, bk49_168, U_aload_n, U_getfield, U_iload_n, U_icmp_ne, U_return, U_putfield, U_iconst, U_icmp_ge, U_iadd, U_istore_n, U_iald, U_iast, U_iinc, U_goto, U_invokestatic2, U_isub, U_invokevirtual1, U_if_le, U_invokevirtual0, U_istore, U_iload, UN_cc, UN_cn, UN_nc, UN_nn, UJ, lget, lset, lset2, entL, wsm, wcat, Option.toList_some, Option.toList_none, List.cons_append, List.nil_append, List.mem_cons, List.not_mem_nil, Prod.mk.injEq, or_false, false_or, or_true, true_or, and_true, true_and, and_false, false_and, and_self, ne_eq, not_false_eq_true, not_true_eq_false, forall_const, true_implies, false_implies, Nat.add_zero, Nat.zero_add, Nat.le_refl, Nat.zero_le, List.set_cons_zero, List.set_cons_succ, List.set_nil, ↓reduceIte, Nat.reduceAdd, Nat.reduceSub, Nat.reduceEqDiff, Nat.reduceLeDiff, Int.reduceEq, Int.reduceNe, Int.reduceNeg, reduceCtorEq]
      have f3 : FN N2 N3 := FN.fr b1 (by simp)
      rw [show ((n + 1 : Nat) : Int) + -1 = (n : Int) by omega]
      refine ih (M + 1) _ _ N3 (by omega) (hF.tr (f2.tr f3)) (by rw [b1 120 (by simp)]; exact a2) b2 (Or.inr ?_)
      obtain ⟨b, c1, c2, c3⟩ := a4
      exact ⟨b, c1, by rw [b1 120 (by simp)]; exact c2, fun i hi => by rw [b1 181 (by simp)]; exact c3 i hi⟩
    have hz1 := hS1.1.1
    have hd1 : difN p.toNat p W tl w L (p.toNat * M + o) = L - T := by omega
    simp only [bk49_0, bk49_8, bk49_9, bk49_24, bk49_25, bk49_37, bk49_45, bk49_63, bk49_79, bk49_83, bk49_106, bk49_131, bk49_137, bk49_157, bk49_168, U_aload_n, U_getfield, U_iload_n, U_icmp_ne, U_return, U_putfield, U_iconst, U_icmp_ge, U_iadd, U_istore_n, U_iald, U_iast, U_iinc, U_goto, U_invokestatic2, U_isub, U_invokevirtual1, U_if_le, U_invokevirtual0, U_istore, U_iload, UN_cc, UN_cn, UN_nc, UN_nn, UJ, lget, lset, lset2, entL, wsm, wcat, Option.toList_some, Option.toList_none, List.cons_append, List.nil_append, List.mem_cons, List.not_mem_nil, Prod.mk.injEq, or_false, false_or, or_true, true_or, and_true, true_and, and_false, false_and, and_self, ne_eq, not_false_eq_true, not_true_eq_false, forall_const, true_implies, false_implies, Nat.add_zero, Nat.zero_add, Nat.le_refl, Nat.zero_le, List.set_cons_zero, List.set_cons_succ, List.set_nil, ↓reduceIte, Nat.reduceAdd, Nat.reduceSub, Nat.reduceEqDiff, Nat.reduceLeDiff, Int.reduceEq, Int.reduceNe, Int.reduceNeg, reduceCtorEq, kd120, kd178, kd180, ln178, ln180, z120_10 hz1, z120_12 hz1, e81, et, e14, ust_r]
    refine ⟨by omega, by omega, rr (by omega), fun e => ⟨by omega, by omega, ?_⟩, fun e => ?_⟩
    · have f2 : FN N1 (ust (ust N1 120 14 ((L : Int) - T)) 178 0 (o : Int)) := ((FN.rf N1).u0 _ (by omega)).us _ _ (by omega)
      have hb2 := n3 (by omega)
      refine ⟨by omega, by omega, ?_⟩
      refine l_snC (N := ust (ust N1 120 14 ((L : Int) - T)) 178 0 (o : Int)) (d := fun i => (((p.toNat * M + o) / p.toNat ^ i % p.toNat : Nat) : Int)) (f2.fc.fz hz1) hw.2 (fun i hi => ?_) (fun N2 a1 a2 z => ?_) w 0 _ (by omega) (Fr.rf _ _) (fun x hx => by omega)
      · rw [ust_at]
        by_cases q : i = 0
        · subst q; rw [if_pos (by omega), dig_0 o1]
        · rw [if_neg (by omega), ust_ne (by decide), dig_s o1 (by omega)]; exact hD1.1 i (by omega) hi
      · have f3 : FN _ N2 := FN.fr a1 (by simp)
        refine nxt N2 z (f2.tr f3) ?_ ⟨fun k k1 k2 => ?_, fun j hj => ?_⟩ ⟨_, hb2, ?_, a2⟩
        · rw [a1 120 (by simp), ust_ne (by decide), ust_at, if_neg (by decide)]; exact e131
        · rw [a1 178 (by simp), ust_at, if_neg (by omega), ust_ne (by decide)]; exact hD1.1 k k1 k2
        · rw [a1 179 (by simp), ust_ne (by decide), ust_ne (by decide)]; exact hD1.2 j hj
        · rw [a1 120 (by simp), ust_ne (by decide), ust_at, if_pos rfl, hd1]; omega
    · obtain ⟨b, b1, b2, b3⟩ := n4 (by omega)
      exact nxt N1 _ (FN.rf _) e131 hD1 ⟨b, b1, by rw [e14, ← n1]; exact b2, fun i hi => by rw [g1 181 (by simp)]; exact b3 i hi⟩
