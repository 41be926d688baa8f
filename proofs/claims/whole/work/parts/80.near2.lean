/-! CODES: the search begun; the least weight -/
theorem sumC_0 (W : Nat → Nat → Int) (j P : Nat) : ∀ w, sumC (dgt P 0) W w j = 0
  | 0 => rfl
  | w + 1 => by
    show sumC (dgt P 0) W w j + (if w = 0 then 0 else (dgt P 0 w : Int) * W w j) = 0
    rw [sumC_0 W j P w]
    have : dgt P 0 w = 0 := by unfold dgt; rw [Nat.zero_div, Nat.zero_mod]
    rw [this]
    split <;> simp
set_option maxHeartbeats 8000000 in
theorem l_snT {N : Mem} {Q : Post} {w L : Nat} {tl : Nat → Int} (hz : Fz N) (hL : L ≤ 26) (h8 : N 120 8 = L) (ht : ∀ j : Nat, j < L → N 121 (j : Int) = tl j)
    (hQ : ∀ N', Fr [179] N N' → (∀ j : Nat, j < L → N' 179 (j : Int) = tl j) → WP 49 (0, 0) 63 [(2, 120), (0, (w : Int)), (0, (L : Int)), (9, 0), (9, 0)] [] NN N' Q) :
    ∀ (n j : Nat) (Ni : Mem), j + n = L → Fr [179] N Ni → (∀ x : Nat, x < j → Ni 179 (x : Int) = tl x) → WP 49 (0, 0) 37 [(2, 120), (0, (w : Int)), (0, (j : Int)), (9, 0), (9, 0)] [] NN Ni Q := by
  intro n
  induction n with
  | zero =>
    intro j Ni hj hF hI
    obtain rfl : j = L := by omega
    have e8 : Ni 120 8 = (j : Int) := by rw [hF 120 (by simp)]; exact h8
    refine WP.run [(49, 37), (49, 63)] [] 60 ?_
    simp only [bk49_0, bk49_8, bk49_9, bk49_24, bk49_25, bk49_37, bk49_45, bk49_63, bk49_79, bk49_83, bk49_106, bk49_131, bk49_137, bk49_157, bk49_168, U_aload_n, U_getfield, U_iload_n, U_icmp_ne, U_return, U_putfield, U_iconst, U_icmp_ge, U_iadd, U_istore_n, U_iald, U_iast, U_iinc, U_goto, U_invokestatic2, U_isub, U_invokevirtual1, U_if_le, U_invokevirtual0, U_istore, U_iload, UN_cc, UN_cn, UN_nc, UN_nn, UJ, lget, lset, lset2, entL, wsm, wcat, Option.toList_some, Option.toList_none, List.cons_append, List.nil_append, List.mem_cons, List.not_mem_nil, Prod.mk.injEq, or_false, false_or, or_true, true_or, and_true, true_and, and_false, false_and, and_self, ne_eq, not_false_eq_true, not_true_eq_false, forall_const, true_implies, false_implies, Nat.add_zero, Nat.zero_add, Nat.le_refl, Nat.zero_le, List.set_cons_zero, List.set_cons_succ, List.set_nil, ↓reduceIte, Nat.reduceAdd, Nat.reduceSub, Nat.reduceEqDiff, Nat.reduceLeDiff, Int.reduceEq, Int.reduceNe, Int.reduceNeg, reduceCtorEq, kd120, e8]
    exact ⟨rr (by omega), fun e => absurd e (by omega), fun _ => hQ Ni hF hI⟩
  | succ n ih =>
    intro j Ni hj hF hI
    have fc := FC.fr hF (by unfold cdC; omega) (by omega)
    have hz1 := fc.fz hz
    have e8 : Ni 120 8 = (L : Int) := by rw [hF 120 (by simp)]; exact h8
    have et : Ni 121 (j : Int) = tl j := by rw [hF 121 (by simp)]; exact ht j (by omega)
    refine WP.run [(49, 37), (49, 63)] [] 60 ?_
    simp only [bk49_0, bk49_8, bk49_9, bk49_24, bk49_25, bk49_37, bk49_45, bk49_63, bk49_79, bk49_83, bk49_106, bk49_131, bk49_137, bk49_157, bk49_168, U_aload_n, U_getfield, U_iload_n, U_icmp_ne, U_return, U_putfield, U_iconst, U_icmp_ge, U_iadd, U_istore_n, U_iald, U_iast, U_iinc, U_goto, U_invokestatic2, U_isub, U_invokevirtual1, U_if_le, U_invokevirtual0, U_istore, U_iload, UN_cc, UN_cn, UN_nc, UN_nn, UJ, lget, lset, lset2, entL, wsm, wcat, Option.toList_some, Option.toList_none, List.cons_append, List.nil_append, List.mem_cons, List.not_mem_nil, Prod.mk.injEq, or_false, false_or, or_true, true_or, and_true, true_and, and_false, false_and, and_self, ne_eq, not_false_eq_true, not_true_eq_false, forall_const, true_implies, false_implies, Nat.add_zero, Nat.zero_add, Nat.le_refl, Nat.zero_le, List.set_cons_zero, List.set_cons_succ, List.set_nil, ↓reduceIte, Nat.reduceAdd, Nat.reduceSub, Nat.reduceEqDiff, Nat.reduceLeDiff, Int.reduceEq, Int.reduceNe, Int.reduceNeg, reduceCtorEq, kd120, kd121, kd179, ln121, ln179, z120_2 hz1, z120_11 hz1, e8, et]
    refine ⟨rr (by omega), fun _ => ⟨by omega, by omega, by omega, by omega, ?_⟩, fun e => absurd (by omega) e⟩
    refine ih (j + 1) _ (by omega) (fun b hb => ?_) (fun x hx => ?_)
    · rw [ust_ne (fun e => hb (by simp [e]))]; exact hF b hb
    · rw [ust_at]
      by_cases q : x = j
      · subst q; rw [if_pos rfl]
      · rw [if_neg (by omega)]; exact hI x (by omega)
set_option maxHeartbeats 8000000 in
theorem s_seek0 {N : Mem} {Q : Post} (h : N 120 13 = 0 → N 120 14 = 0) (hr : R32 (N 120 13)) (hQ : ∀ N', FN N N' → N' 120 13 = 0 → N' 120 14 = 0 → Q none NN N') : CL 49 [(2, 120), (0, 0), (9, 0), (9, 0), (9, 0)] NN N Q := by
  refine WP.run [] [] 60 ?_
  simp only [bk49_0, bk49_8, bk49_9, bk49_24, bk49_25, bk49_37, bk49_45, bk49_63, bk49_79, bk49_83, bk49_106, bk49_131, bk49_137, bk49_157, bk49_168, U_aload_n, U_getfield, U_iload_n, U_icmp_ne, U_return, U_putfield, U_iconst, U_icmp_ge, U_iadd, U_istore_n, U_iald, U_iast, U_iinc, U_goto, U_invokestatic2, U_isub, U_invokevirtual1, U_if_le, U_invokevirtual0, U_istore, U_iload, UN_cc, UN_cn, UN_nc, UN_nn, UJ, lget, lset, lset2, entL, wsm, wcat, Option.toList_some, Option.toList_none, List.cons_append, List.nil_append, List.mem_cons, List.not_mem_nil, Prod.mk.injEq, or_false, false_or, or_true, true_or, and_true, true_and, and_false, false_and, and_self, ne_eq, not_false_eq_true, not_true_eq_false, forall_const, true_implies, false_implies, Nat.add_zero, Nat.zero_add, Nat.le_refl, Nat.zero_le, List.set_cons_zero, List.set_cons_succ, List.set_nil, ↓reduceIte, Nat.reduceAdd, Nat.reduceSub, Nat.reduceEqDiff, Nat.reduceLeDiff, Int.reduceEq, Int.reduceNe, Int.reduceNeg, reduceCtorEq, kd120]
  refine ⟨Or.inr ⟨hr, r3 (by omega)⟩, fun e => hQ N (FN.rf N) e (h e), fun e => ⟨rr (by omega), fun _ => ?_, fun e => absurd (by omega) e⟩⟩
  exact hQ _ (((FN.rf N).u0 _ (by omega)).u0 _ (by omega)) (by rw [ust_at, if_neg (by decide), ust_at, if_pos rfl]) (by rw [ust_at, if_pos rfl])
set_option maxHeartbeats 16000000 in
theorem s_seek {p : Int} {N : Mem} {ρ : Int → Option (Pz p)} {Q : Post} {L w : Nat} {tl : Nat → Int} {W : Nat → Nat → Int} (hS : ST p N ρ) (hL : L ≤ 26) (hw : 1 ≤ w ∧ w ≤ 26) (hN : p.toNat ^ w ≤ 20000) (h8 : N 120 8 = L) (hr : R32 (N 120 13)) (hc : N 120 13 = w → NrA (p := p) N W tl w L) (hW : ∀ k j : Nat, k < w → j < L → N (123 + (k : Int)) (j : Int) = W k j) (hrW : ∀ k j, 0 ≤ W k j ∧ W k j < p) (h0 : ∀ j, j < L → W 0 j = 1) (ht : ∀ j : Nat, j < L → N 121 (j : Int) = tl j) (htl : ∀ j, 0 ≤ tl j ∧ tl j < p)
    (hQ : ∀ N', FN N N' → N' 120 13 = w → NrA (p := p) N' W tl w L → Q none NN N') : CL 49 [(2, 120), (0, (w : Int)), (9, 0), (9, 0), (9, 0)] NN N Q := by
  have hp := hS.1.2.1
  have hpp := hp.pos
  have hle : p.toNat ^ (w - 1) ≤ 20000 := by
    have hpw : p.toNat ^ w = p.toNat * p.toNat ^ (w - 1) := by rw [Nat.mul_comm, ← Nat.pow_succ]; congr 1; omega
    have := Nat.le_mul_of_pos_left (p.toNat ^ (w - 1)) (show 0 < p.toNat by omega)
    omega
  refine WP.run [(49, 37)] [] 60 ?_
  have e8 : ust (ust N 120 13 (w : Int)) 120 14 0 120 8 = (L : Int) := by rw [ust_at, if_neg (by decide), ust_at, if_neg (by decide)]; exact h8
  simp only [bk49_0, bk49_8, bk49_9, bk49_24, bk49_25, bk49_37, bk49_45, bk49_63, bk49_79, bk49_83, bk49_106, bk49_131, bk49_137, bk49_157, bk49_168, U_aload_n, U_getfield, U_iload_n, U_icmp_ne, U_return, U_putfield, U_iconst, U_icmp_ge, U_iadd, U_istore_n, U_iald, U_iast, U_iinc, U_goto, U_invokestatic2, U_isub, U_invokevirtual1, U_if_le, U_invokevirtual0, U_istore, U_iload, UN_cc, UN_cn, UN_nc, UN_nn, UJ, lget, lset, lset2, entL, wsm, wcat, Option.toList_some, Option.toList_none, List.cons_append, List.nil_append, List.mem_cons, List.not_mem_nil, Prod.mk.injEq, or_false, false_or, or_true, true_or, and_true, true_and, and_false, false_and, and_self, ne_eq, not_false_eq_true, not_true_eq_false, forall_const, true_implies, false_implies, Nat.add_zero, Nat.zero_add, Nat.le_refl, Nat.zero_le, List.set_cons_zero, List.set_cons_succ, List.set_nil, ↓reduceIte, Nat.reduceAdd, Nat.reduceSub, Nat.reduceEqDiff, Nat.reduceLeDiff, Int.reduceEq, Int.reduceNe, Int.reduceNeg, reduceCtorEq, kd120, e8]
  refine ⟨Or.inr ⟨hr, r3 (by omega)⟩, fun e => hQ N (FN.rf N) e (hc e), fun e => ⟨rr (by omega), fun e => absurd e (by omega), fun _ => ?_⟩⟩
  have f0 : FN N (ust (ust (ust N 120 13 (w : Int)) 120 14 0) 120 14 ((L : Int) + 1)) := (((FN.rf N).u0 _ (by omega)).u0 _ (by omega)).u0 _ (by omega)
  generalize hN0 : ust (ust (ust N 120 13 (w : Int)) 120 14 0) 120 14 ((L : Int) + 1) = N0 at *
  have a13 : N0 120 13 = (w : Int) := by rw [← hN0, ust_at, if_neg (by decide), ust_at, if_neg (by decide), ust_at, if_pos rfl]
  have a14 : N0 120 14 = (L : Int) + 1 := by rw [← hN0, ust_at, if_pos rfl]
  refine l_snT (N := N0) (tl := tl) (w := w) (f0.fc.fz hS.1.1) hL (by rw [f0.2 8 (by decide) (by decide)]; exact h8) (fun j hj => by rw [f0.1 121 (by decide) (by decide) (by decide) (by decide) (by decide)]; exact ht j hj) (fun N1 g1 g2 => ?_) L 0 N0 (by omega) (Fr.rf _ _) (fun x hx => by omega)
  have f1 : FN N0 N1 := FN.fr g1 (by simp)
  have hS1 := (f0.tr f1).fc.st hS
  refine WP.run [(49, 79)] [] 60 ?_
  simp only [bk49_0, bk49_8, bk49_9, bk49_24, bk49_25, bk49_37, bk49_45, bk49_63, bk49_79, bk49_83, bk49_106, bk49_131, bk49_137, bk49_157, bk49_168, U_aload_n, U_getfield, U_iload_n, U_icmp_ne, U_return, U_putfield, U_iconst, U_icmp_ge, U_iadd, U_istore_n, U_iald, U_iast, U_iinc, U_goto, U_invokestatic2, U_isub, U_invokevirtual1, U_if_le, U_invokevirtual0, U_istore, U_iload, UN_cc, UN_cn, UN_nc, UN_nn, UJ, lget, lset, lset2, entL, wsm, wcat, Option.toList_some, Option.toList_none, List.cons_append, List.nil_append, List.mem_cons, List.not_mem_nil, Prod.mk.injEq, or_false, false_or, or_true, true_or, and_true, true_and, and_false, false_and, and_self, ne_eq, not_false_eq_true, not_true_eq_false, forall_const, true_implies, false_implies, Nat.add_zero, Nat.zero_add, Nat.le_refl, Nat.zero_le, List.set_cons_zero, List.set_cons_succ, List.set_nil, ↓reduceIte, Nat.reduceAdd, Nat.reduceSub, Nat.reduceEqDiff, Nat.reduceLeDiff, Int.reduceEq, Int.reduceNe, Int.reduceNeg, reduceCtorEq, kd120, z120_10 hS1.1.1]
  refine c_fill rfl ?_
  rw [ln178]
  have g3 : Fr [178] N1 (fil N1 178 26 0) := fun b hb => fil_ne (fun e => hb (by simp [e]))
  have f2 : FN N1 (fil N1 178 26 0) := FN.fr g3 (by simp)
  have hS2 := f2.fc.st hS1
  simp only [bk49_0, bk49_8, bk49_9, bk49_24, bk49_25, bk49_37, bk49_45, bk49_63, bk49_79, bk49_83, bk49_106, bk49_131, bk49_137, bk49_157, bk49_168, U_aload_n, U_getfield, U_iload_n, U_icmp_ne, U_return, U_putfield, U_iconst, U_icmp_ge, U_iadd, U_istore_n, U_iald, U_iast, U_iinc, U_goto, U_invokestatic2, U_isub, U_invokevirtual1, U_if_le, U_invokevirtual0, U_istore, U_iload, UN_cc, UN_cn, UN_nc, UN_nn, UJ, lget, lset, lset2, entL, wsm, wcat, Option.toList_some, Option.toList_none, List.cons_append, List.nil_append, List.mem_cons, List.not_mem_nil, Prod.mk.injEq, or_false, false_or, or_true, true_or, and_true, true_and, and_false, false_and, and_self, ne_eq, not_false_eq_true, not_true_eq_false, forall_const, true_implies, false_implies, Nat.add_zero, Nat.zero_add, Nat.le_refl, Nat.zero_le, List.set_cons_zero, List.set_cons_succ, List.set_nil, ↓reduceIte, Nat.reduceAdd, Nat.reduceSub, Nat.reduceEqDiff, Nat.reduceLeDiff, Int.reduceEq, Int.reduceNe, Int.reduceNeg, reduceCtorEq, kd120]
  rw [show (w : Int) - 1 = ((w - 1 : Nat) : Int) by omega]
  refine s_words hS2.1 (by omega) ?_
  simp only [bk49_0, bk49_8, bk49_9, bk49_24, bk49_25, bk49_37, bk49_45, bk49_63, bk49_79, bk49_83, bk49_106, bk49_131, bk49_137, bk49_157, bk49_168, U_aload_n, U_getfield, U_iload_n, U_icmp_ne, U_return, U_putfield, U_iconst, U_icmp_ge, U_iadd, U_istore_n, U_iald, U_iast, U_iinc, U_goto, U_invokestatic2, U_isub, U_invokevirtual1, U_if_le, U_invokevirtual0, U_istore, U_iload, UN_cc, UN_cn, UN_nc, UN_nn, UJ, lget, lset, lset2, entL, wsm, wcat, Option.toList_some, Option.toList_none, List.cons_append, List.nil_append, List.mem_cons, List.not_mem_nil, Prod.mk.injEq, or_false, false_or, or_true, true_or, and_true, true_and, and_false, false_and, and_self, ne_eq, not_false_eq_true, not_true_eq_false, forall_const, true_implies, false_implies, Nat.add_zero, Nat.zero_add, Nat.le_refl, Nat.zero_le, List.set_cons_zero, List.set_cons_succ, List.set_nil, ↓reduceIte, Nat.reduceAdd, Nat.reduceSub, Nat.reduceEqDiff, Nat.reduceLeDiff, Int.reduceEq, Int.reduceNe, Int.reduceNeg, reduceCtorEq]
  rw [(wmF_le (by omega) (by omega) (w - 1)).2.2.2 hle]
  have fa := (f0.tr f1).tr f2
  refine l_seek (ρ := ρ) (tl := tl) (W := W) (L := L) (w := w) (N := fil N1 178 26 0) hS2 hL hw hN (by rw [fa.2 8 (by decide) (by decide)]; exact h8) (by rw [g3 120 (by simp), g1 120 (by simp)]; exact a13) (fun k j hk hj => by rw [fa.1 (123 + (k : Int)) (by omega) (by omega) (by omega) (by omega) (by omega)]; exact hW k j hk hj) hrW h0 htl (fun N' b1 b2 b3 => hQ N' (fa.tr b1) b2 b3) (p.toNat ^ (w - 1)) 0 _ _ _ (by omega) (FN.rf _) (by rw [g3 120 (by simp), g1 120 (by simp)]; exact a13) ⟨fun k k1 k2 => ?_, fun j hj => ?_⟩ (Or.inl ⟨rfl, by rw [g3 120 (by simp), g1 120 (by simp)]; exact a14⟩)
  · rw [fil_in (by omega) (by omega)]
    have : dgt p.toNat 0 k = 0 := by unfold dgt; rw [Nat.zero_div, Nat.zero_mod]
    rw [this]; rfl
  · rw [fil_ne (by decide), g2 j hj, sumC_0, Int.sub_zero]
    exact (Int.emod_eq_of_lt (htl j).1 (htl j).2).symm
/-- the least of those but the first -/
def IsMn (D : Nat → Nat) (N m : Nat) : Prop := (∀ n, 1 ≤ n → n < N → m ≤ D n) ∧ ∃ n, 1 ≤ n ∧ n < N ∧ m = D n
theorem IsMn.un {D : Nat → Nat} {N a b : Nat} (h1 : IsMn D N a) (h2 : IsMn D N b) : a = b := by
  obtain ⟨a1, x, x1, x2, x3⟩ := h1
  obtain ⟨b1, y, y1, y2, y3⟩ := h2
  have := a1 y y1 y2
  have := b1 x x1 x2
  omega
set_option maxHeartbeats 32000000 in
theorem l_least {p : Int} {N : Mem} {ρ : Int → Option (Pz p)} {Q : Post} {L w : Nat} {W : Nat → Nat → Int} (hS : ST p N ρ) (hL : L ≤ 26) (hw : 1 ≤ w ∧ w ≤ 26) (hN : p.toNat ^ w ≤ 20000) (h8 : N 120 8 = L) (hW : ∀ k j : Nat, k < w → j < L → N (123 + (k : Int)) (j : Int) = W k j) (hrW : ∀ k j, 0 ≤ W k j ∧ W k j < p) (h0 : ∀ j, j < L → W 0 j = 1)
    (hQ : ∀ N' m, FN N N' → N' 120 13 = N 120 13 → N' 120 14 = N 120 14 → N' 181 = N 181 → IsMn (difN p.toNat p W (fun _ => 0) w L) (p.toNat ^ w) m → Q (some (0, (m : Int))) NN N') :
    ∀ (n M m : Nat) (Ni : Mem), M + n = p.toNat ^ (w - 1) → 1 ≤ n → FN N Ni → Ni 120 13 = N 120 13 → Ni 120 14 = N 120 14 → Ni 181 = N 181 → m ≤ L → DgA p Ni (fun _ => 0) W L w (dgt p.toNat M) → IsMn (difN p.toNat p W (fun _ => 0) w L) (p.toNat * (M + 1)) m → WP 50 (0, 0) 29 [(2, 120), (0, (w : Int)), (0, (m : Int)), (0, (n : Int))] [] NN Ni Q := by
  have hp := hS.1.2.1
  have hpp := hp.pos
  have hpw : p.toNat ^ w = p.toNat * p.toNat ^ (w - 1) := by rw [Nat.mul_comm, ← Nat.pow_succ]; congr 1; omega
  have hle : p.toNat ^ (w - 1) ≤ 20000 := by
    have := Nat.le_mul_of_pos_left (p.toNat ^ (w - 1)) (show 0 < p.toNat by omega)
    omega
  intro n
  induction n with
  | zero => intro M m Ni hM h1; omega
  | succ n ih =>
    intro M m Ni hM h1 hF h13 h14 h181 hm hD hI
    have fc := hF.fc
    have hSi := fc.st hS
    have e8 : Ni 120 8 = (L : Int) := by rw [hF.2 8 (by decide) (by decide)]; exact h8
    refine WP.run [(50, 29)] [] 90 ?_
    simp only [bk50_0, bk50_29, bk50_34, bk50_64, U_aload_n, U_getfield, U_istore_n, U_iconst, U_invokestatic2, U_iload_n, U_isub, U_invokevirtual1, U_icmp_le, U_invokevirtual0, U_iald, U_min, U_iinc, U_goto, U_ireturn, UN_cc, UN_cn, UN_nc, UN_nn, UJ, lget, lset, lset2, entL, wsm, wcat, Option.toList_some, Option.toList_none, List.cons_append, List.nil_append, List.mem_cons, List.not_mem_nil, Prod.mk.injEq, or_false, false_or, or_true, true_or, and_true, true_and, and_false, false_and, and_self, ne_eq, not_false_eq_true, not_true_eq_false, forall_const, true_implies, false_implies, Nat.add_zero, Nat.zero_add, Nat.le_refl, Nat.zero_le, List.set_cons_zero, List.set_cons_succ, List.set_nil, ↓reduceIte, Nat.reduceAdd, Nat.reduceSub, Nat.reduceEqDiff, Nat.reduceLeDiff, Int.reduceEq, Int.reduceNe, Int.reduceNeg, reduceCtorEq, kd120]
    refine ⟨rr (by omega), fun e => ?_, fun e => hQ Ni m hF h13 h14 h181 ?_⟩
    · refine s_step (L := L) (tl := fun _ => 0) (W := W) (M := M) hSi hL hw.2 hw.1 e8 (fun k j hk hj => by rw [hF.1 (123 + (k : Int)) (by omega) (by omega) (by omega) (by omega) (by omega)]; exact hW k j hk hj) hrW hD fun N1 g1 g2 g0 => ?_
      have f1 : FN Ni N1 := FN.fr g1 (by simp)
      have hS1 := f1.fc.st hSi
      have e81 : N1 120 8 = (L : Int) := by rw [g1 120 (by simp)]; exact e8
      simp only [bk50_0, bk50_29, bk50_34, bk50_64, U_aload_n, U_getfield, U_istore_n, U_iconst, U_invokestatic2, U_iload_n, U_isub, U_invokevirtual1, U_icmp_le, U_invokevirtual0, U_iald, U_min, U_iinc, U_goto, U_ireturn, UN_cc, UN_cn, UN_nc, UN_nn, UJ, lget, lset, lset2, entL, wsm, wcat, Option.toList_some, Option.toList_none, List.cons_append, List.nil_append, List.mem_cons, List.not_mem_nil, Prod.mk.injEq, or_false, false_or, or_true, true_or, and_true, true_and, and_false, false_and, and_self, ne_eq, not_false_eq_true, not_true_eq_false, forall_const, true_implies, false_implies, Nat.add_zero, Nat.zero_add, Nat.le_refl, Nat.zero_le, List.set_cons_zero, List.set_cons_succ, List.set_nil, ↓reduceIte, Nat.reduceAdd, Nat.reduceSub, Nat.reduceEqDiff, Nat.reduceLeDiff, Int.reduceEq, Int.reduceNe, Int.reduceNeg, reduceCtorEq, kd120, z120_12 hS1.1.1, e81]
      obtain ⟨o1, o2, o3, o4⟩ := often_min hp hw.1 h0 (tl := fun _ => 0) (fun _ => by show (0 : Int) ≤ 0 ∧ (0 : Int) < p; omega) (a := fun j => (0 - sumC (dgt p.toNat (M + 1)) W w j) % p) (M := M + 1) (L := L) (fun j _ => rfl)
      refine s_often (a := fun j => (0 - sumC (dgt p.toNat (M + 1)) W w j) % p) hS1.1 hL e81 g2.2 (fun j _ => ⟨Int.emod_nonneg _ (by omega), Int.emod_lt_of_pos _ (by omega)⟩) fun N2 b1 b2 => ?_
      have f2 : FN N1 N2 := FN.fr b1 (by simp)
      generalize hoe : moI (fun v => cntE (fun j => (0 - sumC (dgt p.toNat (M + 1)) W w j) % p) v L) p.toNat = o at *
      have et := b2 o (by omega)
      have hlo := cntE_le (fun j => (0 - sumC (dgt p.toNat (M + 1)) W w j) % p) (o : Int) L
      generalize hT : cntE (fun j => (0 - sumC (dgt p.toNat (M + 1)) W w j) % p) (o : Int) L = T at *
      simp only [bk50_0, bk50_29, bk50_34, bk50_64, U_aload_n, U_getfield, U_istore_n, U_iconst, U_invokestatic2, U_iload_n, U_isub, U_invokevirtual1, U_icmp_le, U_invokevirtual0, U_iald, U_min, U_iinc, U_goto, U_ireturn, UN_cc, UN_cn, UN_nc, UN_nn, UJ, lget, lset, lset2, entL, wsm, wcat, Option.toList_some, Option.toList_none, List.cons_append, List.nil_append, List.mem_cons, List.not_mem_nil, Prod.mk.injEq, or_false, false_or, or_true, true_or, and_true, true_and, and_false, false_and, and_self, ne_eq, not_false_eq_true, not_true_eq_false, forall_const, true_implies, false_implies, Nat.add_zero, Nat.zero_add, Nat.le_refl, Nat.zero_le, List.set_cons_zero, List.set_cons_succ, List.set_nil, ↓reduceIte, Nat.reduceAdd, Nat.reduceSub, Nat.reduceEqDiff, Nat.reduceLeDiff, Int.reduceEq, Int.reduceNe, Int.reduceNeg, reduceCtorEq, kd120, kd180, ln180, et]
      have hmin : min (m : Int) ((L : Int) - T) = ((min m (L - T) : Nat) : Int) := by omega
      rw [hmin]
      refine ⟨by omega, by omega, r3 (by omega), r3 (by omega), ?_⟩
      rw [show ((n + 1 : Nat) : Int) + -1 = (n : Int) by omega]
      have hD1 : difN p.toNat p W (fun _ => 0) w L (p.toNat * (M + 1) + o) = L - T := by omega
      have e2 : p.toNat * (M + 1 + 1) = p.toNat * (M + 1) + p.toNat := Nat.mul_succ _ _
      have e3 : 1 ≤ p.toNat * (M + 1) := Nat.mul_pos (by omega) (by omega)
      refine ih (M + 1) (min m (L - T)) N2 (by omega) (by omega) (hF.tr (f1.tr f2)) (by rw [b1 120 (by simp), g1 120 (by simp)]; exact h13) (by rw [b1 120 (by simp), g1 120 (by simp)]; exact h14) (by rw [b1 181 (by simp), g1 181 (by simp)]; exact h181) (by omega) ⟨fun k k1 k2 => by rw [b1 178 (by simp)]; exact g2.1 k k1 k2, fun j hj => by rw [b1 179 (by simp)]; exact g2.2 j hj⟩ ⟨fun x x1 x2 => ?_, ?_⟩
      · by_cases q : x < p.toNat * (M + 1)
        · have := hI.1 x x1 q; omega
        · have := o3 (x - p.toNat * (M + 1)) (by omega)
          rw [show p.toNat * (M + 1) + (x - p.toNat * (M + 1)) = x by omega] at this
          omega
      · obtain ⟨x, x1, x2, x3⟩ := hI.2
        by_cases q : m ≤ L - T
        · exact ⟨x, x1, by omega, by omega⟩
        · exact ⟨p.toNat * (M + 1) + o, by omega, by omega, by omega⟩
    · have : M + 1 = p.toNat ^ (w - 1) := by omega
      rw [hpw, ← this]; exact hI
set_option maxHeartbeats 16000000 in
theorem s_least {p : Int} {N : Mem} {ρ : Int → Option (Pz p)} {Q : Post} {L w : Nat} {W : Nat → Nat → Int} (hS : ST p N ρ) (hL : L ≤ 26) (hw : 1 ≤ w ∧ w ≤ 26) (hN : p.toNat ^ w ≤ 20000) (h8 : N 120 8 = L) (hW : ∀ k j : Nat, k < w → j < L → N (123 + (k : Int)) (j : Int) = W k j) (hrW : ∀ k j, 0 ≤ W k j ∧ W k j < p) (h0 : ∀ j, j < L → W 0 j = 1)
    (hQ : ∀ N' m, FN N N' → N' 120 13 = N 120 13 → N' 120 14 = N 120 14 → N' 181 = N 181 → IsMn (difN p.toNat p W (fun _ => 0) w L) (p.toNat ^ w) m → Q (some (0, (m : Int))) NN N') : CL 50 [(2, 120), (0, (w : Int)), (9, 0), (9, 0)] NN N Q := by
  have hp := hS.1.2.1
  have hpp := hp.pos
  have hpw : p.toNat ^ w = p.toNat * p.toNat ^ (w - 1) := by rw [Nat.mul_comm, ← Nat.pow_succ]; congr 1; omega
  have hpos : 0 < p.toNat ^ (w - 1) := Nat.pow_pos (by omega)
  have hle : p.toNat ^ (w - 1) ≤ 20000 := by
    have := Nat.le_mul_of_pos_left (p.toNat ^ (w - 1)) (show 0 < p.toNat by omega)
    omega
  refine WP.run [(50, 29)] [] 60 ?_
  simp only [bk50_0, bk50_29, bk50_34, bk50_64, U_aload_n, U_getfield, U_istore_n, U_iconst, U_invokestatic2, U_iload_n, U_isub, U_invokevirtual1, U_icmp_le, U_invokevirtual0, U_iald, U_min, U_iinc, U_goto, U_ireturn, UN_cc, UN_cn, UN_nc, UN_nn, UJ, lget, lset, lset2, entL, wsm, wcat, Option.toList_some, Option.toList_none, List.cons_append, List.nil_append, List.mem_cons, List.not_mem_nil, Prod.mk.injEq, or_false, false_or, or_true, true_or, and_true, true_and, and_false, false_and, and_self, ne_eq, not_false_eq_true, not_true_eq_false, forall_const, true_implies, false_implies, Nat.add_zero, Nat.zero_add, Nat.le_refl, Nat.zero_le, List.set_cons_zero, List.set_cons_succ, List.set_nil, ↓reduceIte, Nat.reduceAdd, Nat.reduceSub, Nat.reduceEqDiff, Nat.reduceLeDiff, Int.reduceEq, Int.reduceNe, Int.reduceNeg, reduceCtorEq, kd120, h8, z120_11 hS.1.1]
  refine c_fill rfl ?_
  rw [ln179]
  have g1 : Fr [179] N (fil N 179 26 0) := fun b hb => fil_ne (fun e => hb (by simp [e]))
  have f1 : FN N (fil N 179 26 0) := FN.fr g1 (by simp)
  have hS1 := f1.fc.st hS
  simp only [bk50_0, bk50_29, bk50_34, bk50_64, U_aload_n, U_getfield, U_istore_n, U_iconst, U_invokestatic2, U_iload_n, U_isub, U_invokevirtual1, U_icmp_le, U_invokevirtual0, U_iald, U_min, U_iinc, U_goto, U_ireturn, UN_cc, UN_cn, UN_nc, UN_nn, UJ, lget, lset, lset2, entL, wsm, wcat, Option.toList_some, Option.toList_none, List.cons_append, List.nil_append, List.mem_cons, List.not_mem_nil, Prod.mk.injEq, or_false, false_or, or_true, true_or, and_true, true_and, and_false, false_and, and_self, ne_eq, not_false_eq_true, not_true_eq_false, forall_const, true_implies, false_implies, Nat.add_zero, Nat.zero_add, Nat.le_refl, Nat.zero_le, List.set_cons_zero, List.set_cons_succ, List.set_nil, ↓reduceIte, Nat.reduceAdd, Nat.reduceSub, Nat.reduceEqDiff, Nat.reduceLeDiff, Int.reduceEq, Int.reduceNe, Int.reduceNeg, reduceCtorEq, kd120, z120_10 hS1.1.1]
  refine c_fill rfl ?_
  rw [ln178]
  have g2 : Fr [178] (fil N 179 26 0) (fil (fil N 179 26 0) 178 26 0) := fun b hb => fil_ne (fun e => hb (by simp [e]))
  have f2 : FN (fil N 179 26 0) (fil (fil N 179 26 0) 178 26 0) := FN.fr g2 (by simp)
  have hS2 := f2.fc.st hS1
  have fa := f1.tr f2
  simp only [bk50_0, bk50_29, bk50_34, bk50_64, U_aload_n, U_getfield, U_istore_n, U_iconst, U_invokestatic2, U_iload_n, U_isub, U_invokevirtual1, U_icmp_le, U_invokevirtual0, U_iald, U_min, U_iinc, U_goto, U_ireturn, UN_cc, UN_cn, UN_nc, UN_nn, UJ, lget, lset, lset2, entL, wsm, wcat, Option.toList_some, Option.toList_none, List.cons_append, List.nil_append, List.mem_cons, List.not_mem_nil, Prod.mk.injEq, or_false, false_or, or_true, true_or, and_true, true_and, and_false, false_and, and_self, ne_eq, not_false_eq_true, not_true_eq_false, forall_const, true_implies, false_implies, Nat.add_zero, Nat.zero_add, Nat.le_refl, Nat.zero_le, List.set_cons_zero, List.set_cons_succ, List.set_nil, ↓reduceIte, Nat.reduceAdd, Nat.reduceSub, Nat.reduceEqDiff, Nat.reduceLeDiff, Int.reduceEq, Int.reduceNe, Int.reduceNeg, reduceCtorEq, kd120]
  rw [show (w : Int) - 1 = ((w - 1 : Nat) : Int) by omega]
  refine s_words hS2.1 (by omega) ?_
  simp only [bk50_0, bk50_29, bk50_34, bk50_64, U_aload_n, U_getfield, U_istore_n, U_iconst, U_invokestatic2, U_iload_n, U_isub, U_invokevirtual1, U_icmp_le, U_invokevirtual0, U_iald, U_min, U_iinc, U_goto, U_ireturn, UN_cc, UN_cn, UN_nc, UN_nn, UJ, lget, lset, lset2, entL, wsm, wcat, Option.toList_some, Option.toList_none, List.cons_append, List.nil_append, List.mem_cons, List.not_mem_nil, Prod.mk.injEq, or_false, false_or, or_true, true_or, and_true, true_and, and_false, false_and, and_self, ne_eq, not_false_eq_true, not_true_eq_false, forall_const, true_implies, false_implies, Nat.add_zero, Nat.zero_add, Nat.le_refl, Nat.zero_le, List.set_cons_zero, List.set_cons_succ, List.set_nil, ↓reduceIte, Nat.reduceAdd, Nat.reduceSub, Nat.reduceEqDiff, Nat.reduceLeDiff, Int.reduceEq, Int.reduceNe, Int.reduceNeg, reduceCtorEq]
  rw [(wmF_le (by omega) (by omega) (w - 1)).2.2.2 hle]
  have e120 : fil (fil N 179 26 0) 178 26 0 120 = N 120 := by rw [g2 120 (by simp), g1 120 (by simp)]
  have e181 : fil (fil N 179 26 0) 178 26 0 181 = N 181 := by rw [g2 181 (by simp), g1 181 (by simp)]
  have hz0 : ∀ j, j < L → (fun _ => (0 : Int)) j = ((fun _ => (0 : Int)) j - sumC (dgt p.toNat 0) W w j) % p := fun j _ => by
    show (0 : Int) = (0 - sumC (dgt p.toNat 0) W w j) % p
    rw [sumC_0]; exact (Int.zero_emod p).symm
  have hdv : ∀ v, v < p.toNat → 1 ≤ v → difN p.toNat p W (fun _ => 0) w L (p.toNat * 0 + v) = L := fun v hv h1 => by
    have := difN_eq hp hw.1 h0 (tl := fun _ => 0) (fun _ => by show (0 : Int) ≤ 0 ∧ (0 : Int) < p; omega) hv hz0
    have hc : ∀ n, cntE (fun _ => (0 : Int)) (v : Int) n = 0 := fun n => by
      induction n with
      | zero => rfl
      | succ n ih => show cntE (fun _ => (0 : Int)) (v : Int) n + (if (0 : Int) = (v : Int) then 1 else 0) = 0; rw [ih, if_neg (by omega)]
    rw [hc] at this; exact this
  rw [Nat.mul_zero] at hdv
  refine l_least (ρ := ρ) (W := W) (L := L) (w := w) (N := fil (fil N 179 26 0) 178 26 0) hS2 hL hw hN (by rw [e120]; exact h8) (fun k j hk hj => by rw [fa.1 (123 + (k : Int)) (by omega) (by omega) (by omega) (by omega) (by omega)]; exact hW k j hk hj) hrW h0 (fun N' m b1 b2 b3 b4 b5 => hQ N' m (fa.tr b1) (by rw [b2, e120]) (by rw [b3, e120]) (by rw [b4, e181]) b5) (p.toNat ^ (w - 1)) 0 L _ (by omega) hpos (FN.rf _) rfl rfl rfl (Nat.le_refl _) ⟨fun k k1 k2 => ?_, fun j hj => ?_⟩ ⟨fun x x1 x2 => ?_, 1, by omega, by omega, ?_⟩
  · rw [fil_in (by omega) (by omega)]
    have : dgt p.toNat 0 k = 0 := by unfold dgt; rw [Nat.zero_div, Nat.zero_mod]
    rw [this]; rfl
  · rw [fil_ne (by decide), fil_in (by omega) (by omega)]; exact hz0 j hj
  · have := hdv x (by omega) x1
    rw [Nat.zero_add] at this; omega
  · have := hdv 1 (by omega) (by omega)
    rw [Nat.zero_add] at this; exact this.symm
