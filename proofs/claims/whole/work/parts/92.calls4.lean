/-! CALLS OF THE CLASS: rooms, codes -/
noncomputable def oAmount {p : Int} (g : Nat) (f : Pz p) (A : Nat → Int) (pt v : Int) : Int := if ¬ (0 ≤ pt ∧ pt < nPt g f) ∨ ¬ (-(if pt = 0 then 30 else 4) ≤ v ∧ v ≤ (if pt = 0 then 30 else 4)) then -100 else if g = 0 then -200 else A pt.toNat
/-- whether a call is taken -/
def okAmount {p : Int} (g : Nat) (f : Pz p) (pt v : Int) : Prop := (0 ≤ pt ∧ pt < nPt g f) ∧ (-(if pt = 0 then 30 else 4) ≤ v ∧ v ≤ (if pt = 0 then 30 else 4)) ∧ g ≠ 0
theorem CS.am {p : Int} {g : Nat} {f : Pz p} {pu : List Int} {rg : Nat → Pz p × Pz p} {A tl : Nat → Int} {E : Nat → Nat} {N : Mem} {a : Nat} {v : Int} (h : CS g f pu rg A tl E N) (ha : a < 27) : CS g f pu rg (upr A a v) tl E (ust N 109 (a : Int) v) := by
  obtain ⟨⟨ρ, S, R⟩, a1, a2, a3, a4, a5, a6, a7, a8, a9⟩ := h
  have c : ∀ b, b ≠ 109 → ust N 109 (a : Int) v b = N b := fun b hb => ust_ne hb
  refine ⟨⟨ρ, S.ust _ _ (fz_arr (Or.inl rfl) _) (by decide) (by decide) (by decide), R⟩, a1.fx (c _ (by decide)) (c _ (by decide)), a2.fx (c _ (by decide)) (c _ (by decide)) (c _ (by decide)) (c _ (by decide)) (c _ (by decide)), fun i hi => ?_, fun i hi => by rw [c 121 (by decide)]; exact a4 i hi, fun i hi => by rw [c 189 (by decide)]; exact a5 i hi, a6.fx (c _ (by decide)) (c _ (by decide)), a7.fx (c _ (by decide)) (c _ (by decide)), a8.fx (c _ (by decide)) (c _ (by decide)), a9.fx S.1.2.1 (c _ (by decide)) (c _ (by decide)) (c _ (by decide)) (c _ (by decide)) (fun b h1 h2 => c b (by omega)) (fun b h1 h2 => c b (by omega))⟩
  rw [ust_at]
  unfold upr
  by_cases e : i = a
  · subst e; rw [if_pos rfl, if_pos rfl]
  · rw [if_neg (by omega), if_neg e]; exact a3 i hi
theorem VS.ama {p : Int} {g : Nat} {f : Pz p} {pu : List Int} {rg : Nat → Pz p × Pz p} {A tl : Nat → Int} {E : Nat → Nat} {N : Mem} (h : CS g f pu rg A tl E N) (V : VS g f pu rg A tl E) : AmA N A := ⟨h.2.2.2.1, V.2.2.2.1⟩
set_option maxHeartbeats 8000000 in
theorem k_amount {p : Int} {g : Nat} {f : Pz p} {pu : List Int} {rg : Nat → Pz p × Pz p} {A tl : Nat → Int} {E : Nat → Nat} {N : Mem} {Q : Post} {pt v : Int} (h : CS g f pu rg A tl E N) (V : VS g f pu rg A tl E) (hpt : R32 pt) (hv : R32 v)
    (hQ1 : ¬ okAmount g f pt v → Q (some (0, oAmount g f A pt v)) NN N) (hQ2 : okAmount g f pt v → ∀ N', CS g f pu rg (upr A pt.toNat v) tl E N' → mdF N N' → Q (some (0, oAmount g f A pt v)) NN N') : CL 139 [(2, 1), (0, pt), (0, v), (9, 0)] NN N Q := by
  have h0 := h
  obtain ⟨⟨ρ, S, R⟩, hPu, hCr, -⟩ := h
  have hpt' := hpt
  have hv' := hv
  obtain ⟨i1, i2⟩ := hpt'
  obtain ⟨v1, v2⟩ := hv'
  have hnp := nPt_le V.1 g f
  unfold okAmount oAmount at *
  have key : ∀ m : Int, m = (if pt = 0 then 30 else 4) → m = 30 ∨ m = 4 → WP 139 (0, 0) 10 [(2, 1), (0, pt), (0, v), (9, 0)] [(0, m)] NN N Q := fun m hm hm2 => by
    rw [← hm] at hQ1 hQ2
    refine WP.run [] [] 90 ?_
    simp only [bk139_0, bk139_4, bk139_9, bk139_10, bk139_19, bk139_25, bk139_30, bk139_33, bk139_43, bk139_47, U_iload_n, U_if_ne, U_bipush, U_goto, U_iconst, U_istore_n, U_aload_n, U_invokevirtual1, U_if_eq, U_ineg, U_icmp_lt, U_icmp_le, U_ireturn, U_getfield, U_invokevirtual0, U_sipush, U_invokevirtual2, UN_cc, UN_cn, UN_nc, UN_nn, UJ, lget, lset, lset2, entL, wsm, wcat, Option.toList_some, Option.toList_none, List.cons_append, List.nil_append, List.mem_cons, List.not_mem_nil, Prod.mk.injEq, or_false, false_or, or_true, true_or, and_true, true_and, and_false, false_and, and_self, ne_eq, not_false_eq_true, not_true_eq_false, forall_const, true_implies, false_implies, Nat.add_zero, Nat.zero_add, Nat.le_refl, Nat.zero_le, List.set_cons_zero, List.set_cons_succ, List.set_nil, ↓reduceIte, Nat.reduceAdd, Nat.reduceSub, Nat.reduceEqDiff, Nat.reduceLeDiff, Int.reduceEq, Int.reduceNe, Int.reduceNeg, reduceCtorEq, kd1]
    refine c_isPt S.1.1 V.1 hCr V.g2 hpt ?_
    by_cases q : 0 ≤ pt ∧ pt < nPt g f
    · rw [if_pos q]
      simp only [bk139_0, bk139_4, bk139_9, bk139_10, bk139_19, bk139_25, bk139_30, bk139_33, bk139_43, bk139_47, U_iload_n, U_if_ne, U_bipush, U_goto, U_iconst, U_istore_n, U_aload_n, U_invokevirtual1, U_if_eq, U_ineg, U_icmp_lt, U_icmp_le, U_ireturn, U_getfield, U_invokevirtual0, U_sipush, U_invokevirtual2, UN_cc, UN_cn, UN_nc, UN_nn, UJ, lget, lset, lset2, entL, wsm, wcat, Option.toList_some, Option.toList_none, List.cons_append, List.nil_append, List.mem_cons, List.not_mem_nil, Prod.mk.injEq, or_false, false_or, or_true, true_or, and_true, true_and, and_false, false_and, and_self, ne_eq, not_false_eq_true, not_true_eq_false, forall_const, true_implies, false_implies, Nat.add_zero, Nat.zero_add, Nat.le_refl, Nat.zero_le, List.set_cons_zero, List.set_cons_succ, List.set_nil, ↓reduceIte, Nat.reduceAdd, Nat.reduceSub, Nat.reduceEqDiff, Nat.reduceLeDiff, Int.reduceEq, Int.reduceNe, Int.reduceNeg, reduceCtorEq, kd1, kd21, z1_4 S.1.1]
      have bad : ¬ (-m ≤ v ∧ v ≤ m) → Q (some (0, -100)) NN N := fun e => by
        have := hQ1 (fun k => e k.2.1)
        rw [if_pos (Or.inr e)] at this; exact this
      refine ⟨r3 (by omega), rr (by omega), fun e => bad (by omega), fun e => ⟨rr (by omega), fun e2 => bad (by omega), fun e2 => c_std hCr V.g2 ?_⟩⟩
      have hin : ¬ (¬ (0 ≤ pt ∧ pt < nPt g f) ∨ ¬ (-m ≤ v ∧ v ≤ m)) := by omega
      rw [if_neg hin] at hQ1 hQ2
      by_cases q0 : g = 0
      · rw [if_pos q0] at hQ1 ⊢
        simp only [bk139_0, bk139_4, bk139_9, bk139_10, bk139_19, bk139_25, bk139_30, bk139_33, bk139_43, bk139_47, U_iload_n, U_if_ne, U_bipush, U_goto, U_iconst, U_istore_n, U_aload_n, U_invokevirtual1, U_if_eq, U_ineg, U_icmp_lt, U_icmp_le, U_ireturn, U_getfield, U_invokevirtual0, U_sipush, U_invokevirtual2, UN_cc, UN_cn, UN_nc, UN_nn, UJ, lget, lset, lset2, entL, wsm, wcat, Option.toList_some, Option.toList_none, List.cons_append, List.nil_append, List.mem_cons, List.not_mem_nil, Prod.mk.injEq, or_false, false_or, or_true, true_or, and_true, true_and, and_false, false_and, and_self, ne_eq, not_false_eq_true, not_true_eq_false, forall_const, true_implies, false_implies, Nat.add_zero, Nat.zero_add, Nat.le_refl, Nat.zero_le, List.set_cons_zero, List.set_cons_succ, List.set_nil, ↓reduceIte, Nat.reduceAdd, Nat.reduceSub, Nat.reduceEqDiff, Nat.reduceLeDiff, Int.reduceEq, Int.reduceNe, Int.reduceNeg, reduceCtorEq]
        exact ⟨r3 (by omega), hQ1 (fun k => k.2.2 q0)⟩
      · rw [if_neg q0] at hQ2 ⊢
        obtain ⟨n, rfl⟩ : ∃ n : Nat, pt = n := ⟨pt.toNat, by omega⟩
        simp only [bk139_0, bk139_4, bk139_9, bk139_10, bk139_19, bk139_25, bk139_30, bk139_33, bk139_43, bk139_47, U_iload_n, U_if_ne, U_bipush, U_goto, U_iconst, U_istore_n, U_aload_n, U_invokevirtual1, U_if_eq, U_ineg, U_icmp_lt, U_icmp_le, U_ireturn, U_getfield, U_invokevirtual0, U_sipush, U_invokevirtual2, UN_cc, UN_cn, UN_nc, UN_nn, UJ, lget, lset, lset2, entL, wsm, wcat, Option.toList_some, Option.toList_none, List.cons_append, List.nil_append, List.mem_cons, List.not_mem_nil, Prod.mk.injEq, or_false, false_or, or_true, true_or, and_true, true_and, and_false, false_and, and_self, ne_eq, not_false_eq_true, not_true_eq_false, forall_const, true_implies, false_implies, Nat.add_zero, Nat.zero_add, Nat.le_refl, Nat.zero_le, List.set_cons_zero, List.set_cons_succ, List.set_nil, ↓reduceIte, Nat.reduceAdd, Nat.reduceSub, Nat.reduceEqDiff, Nat.reduceLeDiff, Int.reduceEq, Int.reduceNe, Int.reduceNeg, reduceCtorEq, kd1, kd108, z1_9 S.1.1]
        refine ⟨r3 (by omega), c_roChange S.1.1 (V.ama h0) (by omega) ?_⟩
        simp only [bk139_0, bk139_4, bk139_9, bk139_10, bk139_19, bk139_25, bk139_30, bk139_33, bk139_43, bk139_47, U_iload_n, U_if_ne, U_bipush, U_goto, U_iconst, U_istore_n, U_aload_n, U_invokevirtual1, U_if_eq, U_ineg, U_icmp_lt, U_icmp_le, U_ireturn, U_getfield, U_invokevirtual0, U_sipush, U_invokevirtual2, UN_cc, UN_cn, UN_nc, UN_nn, UJ, lget, lset, lset2, entL, wsm, wcat, Option.toList_some, Option.toList_none, List.cons_append, List.nil_append, List.mem_cons, List.not_mem_nil, Prod.mk.injEq, or_false, false_or, or_true, true_or, and_true, true_and, and_false, false_and, and_self, ne_eq, not_false_eq_true, not_true_eq_false, forall_const, true_implies, false_implies, Nat.add_zero, Nat.zero_add, Nat.le_refl, Nat.zero_le, List.set_cons_zero, List.set_cons_succ, List.set_nil, ↓reduceIte, Nat.reduceAdd, Nat.reduceSub, Nat.reduceEqDiff, Nat.reduceLeDiff, Int.reduceEq, Int.reduceNe, Int.reduceNeg, reduceCtorEq]
        exact hQ2 ⟨q, by omega, q0⟩ _ (h0.am (by omega)) ((mdF.rf N).us _ _ (by decide))
    · rw [if_neg q]
      simp only [bk139_0, bk139_4, bk139_9, bk139_10, bk139_19, bk139_25, bk139_30, bk139_33, bk139_43, bk139_47, U_iload_n, U_if_ne, U_bipush, U_goto, U_iconst, U_istore_n, U_aload_n, U_invokevirtual1, U_if_eq, U_ineg, U_icmp_lt, U_icmp_le, U_ireturn, U_getfield, U_invokevirtual0, U_sipush, U_invokevirtual2, UN_cc, UN_cn, UN_nc, UN_nn, UJ, lget, lset, lset2, entL, wsm, wcat, Option.toList_some, Option.toList_none, List.cons_append, List.nil_append, List.mem_cons, List.not_mem_nil, Prod.mk.injEq, or_false, false_or, or_true, true_or, and_true, true_and, and_false, false_and, and_self, ne_eq, not_false_eq_true, not_true_eq_false, forall_const, true_implies, false_implies, Nat.add_zero, Nat.zero_add, Nat.le_refl, Nat.zero_le, List.set_cons_zero, List.set_cons_succ, List.set_nil, ↓reduceIte, Nat.reduceAdd, Nat.reduceSub, Nat.reduceEqDiff, Nat.reduceLeDiff, Int.reduceEq, Int.reduceNe, Int.reduceNeg, reduceCtorEq]
      have := hQ1 (fun k => q k.1)
      rw [if_pos (Or.inl q)] at this
      exact ⟨r3 (by omega), this⟩
  refine WP.run [(139, 10)] [] 60 ?_
  simp only [bk139_0, bk139_4, bk139_9, bk139_10, bk139_19, bk139_25, bk139_30, bk139_33, bk139_43, bk139_47, U_iload_n, U_if_ne, U_bipush, U_goto, U_iconst, U_istore_n, U_aload_n, U_invokevirtual1, U_if_eq, U_ineg, U_icmp_lt, U_icmp_le, U_ireturn, U_getfield, U_invokevirtual0, U_sipush, U_invokevirtual2, UN_cc, UN_cn, UN_nc, UN_nn, UJ, lget, lset, lset2, entL, wsm, wcat, Option.toList_some, Option.toList_none, List.cons_append, List.nil_append, List.mem_cons, List.not_mem_nil, Prod.mk.injEq, or_false, false_or, or_true, true_or, and_true, true_and, and_false, false_and, and_self, ne_eq, not_false_eq_true, not_true_eq_false, forall_const, true_implies, false_implies, Nat.add_zero, Nat.zero_add, Nat.le_refl, Nat.zero_le, List.set_cons_zero, List.set_cons_succ, List.set_nil, ↓reduceIte, Nat.reduceAdd, Nat.reduceSub, Nat.reduceEqDiff, Nat.reduceLeDiff, Int.reduceEq, Int.reduceNe, Int.reduceNeg, reduceCtorEq]
  refine ⟨hpt, fun e => key 30 (by rw [if_pos e]) (Or.inl rfl), fun e => key 4 (by rw [if_neg e]) (Or.inr rfl)⟩
noncomputable def oRoom {p : Int} {f : Pz p} {g : Nat} (ad : Gq f g → Gq f g → Gq f g) (z : Gq f g) (ng : Gq f g → Gq f g) (A : Nat → Int) (w : Int) : Int := if ¬ (0 ≤ w ∧ w ≤ 2) then -2 else if g = 0 then -3 else if w = 1 then isum A 27 else wid g (if w = 0 then isum A 27 else 2 * g - 2 - isum A 27) ((dg (amS ad z ng A (ptl f p.toNat).length).1.1 : Int) - 1)
set_option maxHeartbeats 8000000 in
theorem k_room {p : Int} {g : Nat} {f : Pz p} {pu : List Int} {rg : Nat → Pz p × Pz p} {A tl : Nat → Int} {E : Nat → Nat} {N : Mem} {Q : Post} {ad : Gq f g → Gq f g → Gq f g} {z : Gq f g} {ng : Gq f g → Gq f g} {w : Int} (h : CS g f pu rg A tl E N) (V : VS g f pu rg A tl E) (hG : g ≠ 0 → GG f g ad z ng) (hw : R32 w)
    (hQ : ∀ N', CS g f pu rg A tl E N' → mdF N N' → Q (some (0, oRoom ad z ng A w)) NN N') : CL 140 [(2, 1), (0, w), (9, 0), (9, 0)] NN N Q := by
  have h0 := h
  obtain ⟨⟨ρ, S, R⟩, hPu, hCr, -⟩ := h
  have hw' := hw
  obtain ⟨w1, w2⟩ := hw'
  have hA := V.ama h0
  have hT := isum_ab (F := A) (B := 30) (fun i => hA.rg i) 27
  unfold oRoom at hQ
  refine WP.run [(140, 67)] [] 90 ?_
  simp only [bk140_0, bk140_4, bk140_9, bk140_12, bk140_22, bk140_25, bk140_38, bk140_40, bk140_62, bk140_66, bk140_67, U_iload_n, U_if_lt, U_iconst, U_icmp_le, U_bipush, U_ireturn, U_aload_n, U_getfield, U_invokevirtual0, U_if_ne, U_istore_n, U_icmp_ne, U_imul, U_isub, U_goto, U_invokevirtual2, UN_cc, UN_cn, UN_nc, UN_nn, UJ, lget, lset, lset2, entL, wsm, wcat, Option.toList_some, Option.toList_none, List.cons_append, List.nil_append, List.mem_cons, List.not_mem_nil, Prod.mk.injEq, or_false, false_or, or_true, true_or, and_true, true_and, and_false, false_and, and_self, ne_eq, not_false_eq_true, not_true_eq_false, forall_const, true_implies, false_implies, Nat.add_zero, Nat.zero_add, Nat.le_refl, Nat.zero_le, List.set_cons_zero, List.set_cons_succ, List.set_nil, ↓reduceIte, Nat.reduceAdd, Nat.reduceSub, Nat.reduceEqDiff, Nat.reduceLeDiff, Int.reduceEq, Int.reduceNe, Int.reduceNeg, reduceCtorEq, kd1, kd21, z1_4 S.1.1]
  refine ⟨hw, fun e => ?_, fun e => ⟨rr (by omega), fun e2 => ?_, fun e2 => c_std hCr V.g2 ?_⟩⟩
  · rw [if_pos (by omega)] at hQ; exact hQ N h0 (mdF.rf N)
  · rw [if_pos (by omega)] at hQ; exact hQ N h0 (mdF.rf N)
  · rw [if_neg (show ¬ ¬ (0 ≤ w ∧ w ≤ 2) by omega)] at hQ
    by_cases q0 : g = 0
    · rw [if_pos q0] at hQ ⊢
      simp only [bk140_0, bk140_4, bk140_9, bk140_12, bk140_22, bk140_25, bk140_38, bk140_40, bk140_62, bk140_66, bk140_67, U_iload_n, U_if_lt, U_iconst, U_icmp_le, U_bipush, U_ireturn, U_aload_n, U_getfield, U_invokevirtual0, U_if_ne, U_istore_n, U_icmp_ne, U_imul, U_isub, U_goto, U_invokevirtual2, UN_cc, UN_cn, UN_nc, UN_nn, UJ, lget, lset, lset2, entL, wsm, wcat, Option.toList_some, Option.toList_none, List.cons_append, List.nil_append, List.mem_cons, List.not_mem_nil, Prod.mk.injEq, or_false, false_or, or_true, true_or, and_true, true_and, and_false, false_and, and_self, ne_eq, not_false_eq_true, not_true_eq_false, forall_const, true_implies, false_implies, Nat.add_zero, Nat.zero_add, Nat.le_refl, Nat.zero_le, List.set_cons_zero, List.set_cons_succ, List.set_nil, ↓reduceIte, Nat.reduceAdd, Nat.reduceSub, Nat.reduceEqDiff, Nat.reduceLeDiff, Int.reduceEq, Int.reduceNe, Int.reduceNeg, reduceCtorEq]
      exact ⟨r3 (by omega), hQ N h0 (mdF.rf N)⟩
    · rw [if_neg q0] at hQ ⊢
      have hc := (hCr.resolve_left (fun e => q0 e.1)).2
      have cv := V.cv q0
      have g2 := V.g2
      simp only [bk140_0, bk140_4, bk140_9, bk140_12, bk140_22, bk140_25, bk140_38, bk140_40, bk140_62, bk140_66, bk140_67, U_iload_n, U_if_lt, U_iconst, U_icmp_le, U_bipush, U_ireturn, U_aload_n, U_getfield, U_invokevirtual0, U_if_ne, U_istore_n, U_icmp_ne, U_imul, U_isub, U_goto, U_invokevirtual2, UN_cc, UN_cn, UN_nc, UN_nn, UJ, lget, lset, lset2, entL, wsm, wcat, Option.toList_some, Option.toList_none, List.cons_append, List.nil_append, List.mem_cons, List.not_mem_nil, Prod.mk.injEq, or_false, false_or, or_true, true_or, and_true, true_and, and_false, false_and, and_self, ne_eq, not_false_eq_true, not_true_eq_false, forall_const, true_implies, false_implies, Nat.add_zero, Nat.zero_add, Nat.le_refl, Nat.zero_le, List.set_cons_zero, List.set_cons_succ, List.set_nil, ↓reduceIte, Nat.reduceAdd, Nat.reduceSub, Nat.reduceEqDiff, Nat.reduceLeDiff, Int.reduceEq, Int.reduceNe, Int.reduceNeg, reduceCtorEq, kd1, kd108, z1_9 S.1.1]
      refine ⟨r3 (by omega), c_roTotal S.1.1 hA ?_⟩
      have fin : ∀ t : Int, -1000 ≤ t ∧ t ≤ 1000 → (∀ N', CS g f pu rg A tl E N' → mdF N N' → Q (some (0, wid g t ((dg (amS ad z ng A (ptl f p.toNat).length).1.1 : Int) - 1))) NN N') → ∀ t' : Int, WP 140 (0, 0) 67 [(2, 1), (0, w), (0, isum A 27), (0, t')] [(0, t), (2, 108)] NN N Q := fun t ht hQ2 t' => by
        refine WP.run [] [] 60 ?_
        simp only [bk140_0, bk140_4, bk140_9, bk140_12, bk140_22, bk140_25, bk140_38, bk140_40, bk140_62, bk140_66, bk140_67, U_iload_n, U_if_lt, U_iconst, U_icmp_le, U_bipush, U_ireturn, U_aload_n, U_getfield, U_invokevirtual0, U_if_ne, U_istore_n, U_icmp_ne, U_imul, U_isub, U_goto, U_invokevirtual2, UN_cc, UN_cn, UN_nc, UN_nn, UJ, lget, lset, lset2, entL, wsm, wcat, Option.toList_some, Option.toList_none, List.cons_append, List.nil_append, List.mem_cons, List.not_mem_nil, Prod.mk.injEq, or_false, false_or, or_true, true_or, and_true, true_and, and_false, false_and, and_self, ne_eq, not_false_eq_true, not_true_eq_false, forall_const, true_implies, false_implies, Nat.add_zero, Nat.zero_add, Nat.le_refl, Nat.zero_le, List.set_cons_zero, List.set_cons_succ, List.set_nil, ↓reduceIte, Nat.reduceAdd, Nat.reduceSub, Nat.reduceEqDiff, Nat.reduceLeDiff, Int.reduceEq, Int.reduceNe, Int.reduceNeg, reduceCtorEq, kd1, kd108, z1_9 S.1.1]
        refine s_roClass (hG q0) S cv.2.2.1 (R.1 (by omega)) hc.1 hc.2.1 hA fun N1 ρ1 S1 F1 R1 => ?_
        have hd : dg (amS ad z ng A (ptl f p.toNat).length).1.1 ≤ g + 1 := (amS ad z ng A (ptl f p.toNat).length).2.2.1
        simp only [bk140_0, bk140_4, bk140_9, bk140_12, bk140_22, bk140_25, bk140_38, bk140_40, bk140_62, bk140_66, bk140_67, U_iload_n, U_if_lt, U_iconst, U_icmp_le, U_bipush, U_ireturn, U_aload_n, U_getfield, U_invokevirtual0, U_if_ne, U_istore_n, U_icmp_ne, U_imul, U_isub, U_goto, U_invokevirtual2, UN_cc, UN_cn, UN_nc, UN_nn, UJ, lget, lset, lset2, entL, wsm, wcat, Option.toList_some, Option.toList_none, List.cons_append, List.nil_append, List.mem_cons, List.not_mem_nil, Prod.mk.injEq, or_false, false_or, or_true, true_or, and_true, true_and, and_false, false_and, and_self, ne_eq, not_false_eq_true, not_true_eq_false, forall_const, true_implies, false_implies, Nat.add_zero, Nat.zero_add, Nat.le_refl, Nat.zero_le, List.set_cons_zero, List.set_cons_succ, List.set_nil, ↓reduceIte, Nat.reduceAdd, Nat.reduceSub, Nat.reduceEqDiff, Nat.reduceLeDiff, Int.reduceEq, Int.reduceNe, Int.reduceNeg, reduceCtorEq, kd108]
        refine c_width S1.1.1 (by rw [F1 21 (by decide)]; exact hc.1) g2 (by omega) (by omega) ?_
        simp only [bk140_0, bk140_4, bk140_9, bk140_12, bk140_22, bk140_25, bk140_38, bk140_40, bk140_62, bk140_66, bk140_67, U_iload_n, U_if_lt, U_iconst, U_icmp_le, U_bipush, U_ireturn, U_aload_n, U_getfield, U_invokevirtual0, U_if_ne, U_istore_n, U_icmp_ne, U_imul, U_isub, U_goto, U_invokevirtual2, UN_cc, UN_cn, UN_nc, UN_nn, UJ, lget, lset, lset2, entL, wsm, wcat, Option.toList_some, Option.toList_none, List.cons_append, List.nil_append, List.mem_cons, List.not_mem_nil, Prod.mk.injEq, or_false, false_or, or_true, true_or, and_true, true_and, and_false, false_and, and_self, ne_eq, not_false_eq_true, not_true_eq_false, forall_const, true_implies, false_implies, Nat.add_zero, Nat.zero_add, Nat.le_refl, Nat.zero_le, List.set_cons_zero, List.set_cons_succ, List.set_nil, ↓reduceIte, Nat.reduceAdd, Nat.reduceSub, Nat.reduceEqDiff, Nat.reduceLeDiff, Int.reduceEq, Int.reduceNe, Int.reduceNeg, reduceCtorEq]
        exact hQ2 N1 (h0.st S1 (R.kp (fun y hy => R1 y (by unfold scr tmp; omega) (by omega) (by omega) (by omega) (by omega))) F1.cs) F1.md
      simp only [bk140_0, bk140_4, bk140_9, bk140_12, bk140_22, bk140_25, bk140_38, bk140_40, bk140_62, bk140_66, bk140_67, U_iload_n, U_if_lt, U_iconst, U_icmp_le, U_bipush, U_ireturn, U_aload_n, U_getfield, U_invokevirtual0, U_if_ne, U_istore_n, U_icmp_ne, U_imul, U_isub, U_goto, U_invokevirtual2, UN_cc, UN_cn, UN_nc, UN_nn, UJ, lget, lset, lset2, entL, wsm, wcat, Option.toList_some, Option.toList_none, List.cons_append, List.nil_append, List.mem_cons, List.not_mem_nil, Prod.mk.injEq, or_false, false_or, or_true, true_or, and_true, true_and, and_false, false_and, and_self, ne_eq, not_false_eq_true, not_true_eq_false, forall_const, true_implies, false_implies, Nat.add_zero, Nat.zero_add, Nat.le_refl, Nat.zero_le, List.set_cons_zero, List.set_cons_succ, List.set_nil, ↓reduceIte, Nat.reduceAdd, Nat.reduceSub, Nat.reduceEqDiff, Nat.reduceLeDiff, Int.reduceEq, Int.reduceNe, Int.reduceNeg, reduceCtorEq, kd1, kd21, kd108, z1_4 S.1.1, z1_9 S.1.1, hc.1]
      refine ⟨rr (by omega), fun e => ?_, fun e => ⟨hw, fun e3 => fin _ (by omega) (fun N' a b => ?_) _, fun e3 => fin _ (by omega) (fun N' a b => ?_) _⟩⟩
      · rw [if_pos e] at hQ; exact hQ N h0 (mdF.rf N)
      · rw [if_neg e, if_pos e3] at hQ; exact hQ N' a b
      · rw [if_neg e, if_neg e3] at hQ; exact hQ N' a b
noncomputable def oGaps {p : Int} {f : Pz p} {g : Nat} (ad : Gq f g → Gq f g → Gq f g) (z : Gq f g) (pt : Int) : Int := if ¬ (0 ≤ pt ∧ pt < nPt g f) then -2 else if g = 0 then -3 else gapB (fun n => wid g n ((dg (nsm ad z n (ptI z pt.toNat)).1.1 : Int) - 1)) (2 * g)
set_option maxHeartbeats 8000000 in
theorem k_gaps {p : Int} {g : Nat} {f : Pz p} {pu : List Int} {rg : Nat → Pz p × Pz p} {A tl : Nat → Int} {E : Nat → Nat} {N : Mem} {Q : Post} {ad : Gq f g → Gq f g → Gq f g} {z : Gq f g} {ng : Gq f g → Gq f g} {pt : Int} (h : CS g f pu rg A tl E N) (V : VS g f pu rg A tl E) (hG : g ≠ 0 → GG f g ad z ng) (hpt : R32 pt)
    (hQ : ∀ N', CS g f pu rg A tl E N' → mdF N N' → Q (some (0, oGaps ad z pt)) NN N') : CL 141 [(2, 1), (0, pt)] NN N Q := by
  have h0 := h
  obtain ⟨⟨ρ, S, R⟩, hPu, hCr, -⟩ := h
  unfold oGaps at hQ
  refine WP.run [] [] 90 ?_
  simp only [bk141_0, bk141_8, bk141_11, bk141_21, bk141_24, U_aload_n, U_iload_n, U_invokevirtual1, U_if_ne, U_bipush, U_ireturn, U_getfield, U_invokevirtual0, UN_cc, UN_cn, UN_nc, UN_nn, UJ, lget, lset, lset2, entL, wsm, wcat, Option.toList_some, Option.toList_none, List.cons_append, List.nil_append, List.mem_cons, List.not_mem_nil, Prod.mk.injEq, or_false, false_or, or_true, true_or, and_true, true_and, and_false, false_and, and_self, ne_eq, not_false_eq_true, not_true_eq_false, forall_const, true_implies, false_implies, Nat.add_zero, Nat.zero_add, Nat.le_refl, Nat.zero_le, List.set_cons_zero, List.set_cons_succ, List.set_nil, ↓reduceIte, Nat.reduceAdd, Nat.reduceSub, Nat.reduceEqDiff, Nat.reduceLeDiff, Int.reduceEq, Int.reduceNe, Int.reduceNeg, reduceCtorEq, kd1]
  refine c_isPt S.1.1 V.1 hCr V.g2 hpt ?_
  by_cases q : 0 ≤ pt ∧ pt < nPt g f
  · rw [if_pos q]
    rw [if_neg (show ¬ ¬ (0 ≤ pt ∧ pt < nPt g f) by omega)] at hQ
    simp only [bk141_0, bk141_8, bk141_11, bk141_21, bk141_24, U_aload_n, U_iload_n, U_invokevirtual1, U_if_ne, U_bipush, U_ireturn, U_getfield, U_invokevirtual0, UN_cc, UN_cn, UN_nc, UN_nn, UJ, lget, lset, lset2, entL, wsm, wcat, Option.toList_some, Option.toList_none, List.cons_append, List.nil_append, List.mem_cons, List.not_mem_nil, Prod.mk.injEq, or_false, false_or, or_true, true_or, and_true, true_and, and_false, false_and, and_self, ne_eq, not_false_eq_true, not_true_eq_false, forall_const, true_implies, false_implies, Nat.add_zero, Nat.zero_add, Nat.le_refl, Nat.zero_le, List.set_cons_zero, List.set_cons_succ, List.set_nil, ↓reduceIte, Nat.reduceAdd, Nat.reduceSub, Nat.reduceEqDiff, Nat.reduceLeDiff, Int.reduceEq, Int.reduceNe, Int.reduceNeg, reduceCtorEq, kd1, kd21, z1_4 S.1.1]
    refine ⟨r3 (by omega), c_std hCr V.g2 ?_⟩
    by_cases q0 : g = 0
    · rw [if_pos q0] at hQ ⊢
      simp only [bk141_0, bk141_8, bk141_11, bk141_21, bk141_24, U_aload_n, U_iload_n, U_invokevirtual1, U_if_ne, U_bipush, U_ireturn, U_getfield, U_invokevirtual0, UN_cc, UN_cn, UN_nc, UN_nn, UJ, lget, lset, lset2, entL, wsm, wcat, Option.toList_some, Option.toList_none, List.cons_append, List.nil_append, List.mem_cons, List.not_mem_nil, Prod.mk.injEq, or_false, false_or, or_true, true_or, and_true, true_and, and_false, false_and, and_self, ne_eq, not_false_eq_true, not_true_eq_false, forall_const, true_implies, false_implies, Nat.add_zero, Nat.zero_add, Nat.le_refl, Nat.zero_le, List.set_cons_zero, List.set_cons_succ, List.set_nil, ↓reduceIte, Nat.reduceAdd, Nat.reduceSub, Nat.reduceEqDiff, Nat.reduceLeDiff, Int.reduceEq, Int.reduceNe, Int.reduceNeg, reduceCtorEq]
      exact ⟨r3 (by omega), hQ N h0 (mdF.rf N)⟩
    · rw [if_neg q0] at hQ ⊢
      have hc := (hCr.resolve_left (fun e => q0 e.1)).2
      have cv := V.cv q0
      obtain ⟨n, rfl⟩ : ∃ n : Nat, pt = n := ⟨pt.toNat, by omega⟩
      have hn : n ≤ (ptl f p.toNat).length := by
        have := q.2
        unfold nPt at this
        rw [if_neg q0] at this
        omega
      simp only [bk141_0, bk141_8, bk141_11, bk141_21, bk141_24, U_aload_n, U_iload_n, U_invokevirtual1, U_if_ne, U_bipush, U_ireturn, U_getfield, U_invokevirtual0, UN_cc, UN_cn, UN_nc, UN_nn, UJ, lget, lset, lset2, entL, wsm, wcat, Option.toList_some, Option.toList_none, List.cons_append, List.nil_append, List.mem_cons, List.not_mem_nil, Prod.mk.injEq, or_false, false_or, or_true, true_or, and_true, true_and, and_false, false_and, and_self, ne_eq, not_false_eq_true, not_true_eq_false, forall_const, true_implies, false_implies, Nat.add_zero, Nat.zero_add, Nat.le_refl, Nat.zero_le, List.set_cons_zero, List.set_cons_succ, List.set_nil, ↓reduceIte, Nat.reduceAdd, Nat.reduceSub, Nat.reduceEqDiff, Nat.reduceLeDiff, Int.reduceEq, Int.reduceNe, Int.reduceNeg, reduceCtorEq, kd1, kd108, z1_9 S.1.1]
      refine ⟨r3 (by omega), s_gapBits (hG q0) S cv.2.2.1 (R.1 (by omega)) hc.1 hc.2.1 n hn fun N1 ρ1 S1 F1 R1 => ?_⟩
      simp only [bk141_0, bk141_8, bk141_11, bk141_21, bk141_24, U_aload_n, U_iload_n, U_invokevirtual1, U_if_ne, U_bipush, U_ireturn, U_getfield, U_invokevirtual0, UN_cc, UN_cn, UN_nc, UN_nn, UJ, lget, lset, lset2, entL, wsm, wcat, Option.toList_some, Option.toList_none, List.cons_append, List.nil_append, List.mem_cons, List.not_mem_nil, Prod.mk.injEq, or_false, false_or, or_true, true_or, and_true, true_and, and_false, false_and, and_self, ne_eq, not_false_eq_true, not_true_eq_false, forall_const, true_implies, false_implies, Nat.add_zero, Nat.zero_add, Nat.le_refl, Nat.zero_le, List.set_cons_zero, List.set_cons_succ, List.set_nil, ↓reduceIte, Nat.reduceAdd, Nat.reduceSub, Nat.reduceEqDiff, Nat.reduceLeDiff, Int.reduceEq, Int.reduceNe, Int.reduceNeg, reduceCtorEq]
      rw [Int.toNat_natCast] at hQ
      exact hQ N1 (h0.st S1 (R.kp (fun y hy => R1 y (by unfold scr tmp; omega) (by omega) (by omega) (by omega) (by omega))) F1.cs) F1.md
  · rw [if_neg q]
    rw [if_pos q] at hQ
    simp only [bk141_0, bk141_8, bk141_11, bk141_21, bk141_24, U_aload_n, U_iload_n, U_invokevirtual1, U_if_ne, U_bipush, U_ireturn, U_getfield, U_invokevirtual0, UN_cc, UN_cn, UN_nc, UN_nn, UJ, lget, lset, lset2, entL, wsm, wcat, Option.toList_some, Option.toList_none, List.cons_append, List.nil_append, List.mem_cons, List.not_mem_nil, Prod.mk.injEq, or_false, false_or, or_true, true_or, and_true, true_and, and_false, false_and, and_self, ne_eq, not_false_eq_true, not_true_eq_false, forall_const, true_implies, false_implies, Nat.add_zero, Nat.zero_add, Nat.le_refl, Nat.zero_le, List.set_cons_zero, List.set_cons_succ, List.set_nil, ↓reduceIte, Nat.reduceAdd, Nat.reduceSub, Nat.reduceEqDiff, Nat.reduceLeDiff, Int.reduceEq, Int.reduceNe, Int.reduceNeg, reduceCtorEq]
    exact ⟨r3 (by omega), hQ N h0 (mdF.rf N)⟩
/-! codes -/
theorem csC_nc {b : Int} (h : csC b = true) (h1 : b ≠ 120) (h2 : ¬ (123 ≤ b ∧ b < 149)) (h3 : ¬ (150 ≤ b ∧ b < 182)) : ¬ cdC b := by unfold cdC; omega
theorem CS.cc {p : Int} {g : Nat} {f : Pz p} {pu : List Int} {rg : Nat → Pz p × Pz p} {A tl : Nat → Int} {E : Nat → Nat} {N : Mem} {N' : Mem} {tl' : Nat → Int} (h : CS g f pu rg A tl E N) (F : FC N N') (T : CcA N' f g tl) : CS g f pu rg A tl E N' := by
  obtain ⟨⟨ρ, S, R⟩, a1, a2, a3, a4, a5, a6, a7, a8, a9⟩ := h
  have c : ∀ b, ¬ cdC b → N' b = N b := F.1
  exact ⟨⟨ρ, F.st S, R⟩, a1.fx (c _ (by unfold cdC; omega)) (c _ (by unfold cdC; omega)), a2.fx (c _ (by unfold cdC; omega)) (c _ (by unfold cdC; omega)) (c _ (by unfold cdC; omega)) (c _ (by unfold cdC; omega)) (c _ (by unfold cdC; omega)), fun i hi => by rw [c 109 (by unfold cdC; omega)]; exact a3 i hi, fun i hi => by rw [c 121 (by unfold cdC; omega)]; exact a4 i hi, fun i hi => by rw [c 189 (by unfold cdC; omega)]; exact a5 i hi, a6.fx (c _ (by unfold cdC; omega)) (c _ (by unfold cdC; omega)), a7.fx (c _ (by unfold cdC; omega)) (c _ (by unfold cdC; omega)), a8.fx (c _ (by unfold cdC; omega)) (c _ (by unfold cdC; omega)), T⟩
theorem cdW_le (K : List CdE) (m : Nat) : ∀ n i, cdW K m n i ≤ i + n
  | 0, i => Nat.le_refl _
  | n + 1, i => by
    unfold cdW
    cases K[i]? with
    | none => show i ≤ i + (n + 1); omega
    | some e =>
      show (if e.1 ≤ m then cdW K m n (i + 1) else i) ≤ i + (n + 1)
      split
      · have := cdW_le K m n (i + 1); omega
      · omega
theorem cwd_le {p : Int} (hp : Pr p) (f : Pz p) (m : Nat) : cwd f m ≤ (cdL f 31).length ∧ cwd f m ≤ 26 := by
  have h1 := cdW_le (cdL f 31) m (cdL f 31).length 0
  have h2 := cdL_len hp f 31
  have h3 := ptl_26 hp f
  unfold cwd; omega
theorem cdL_pre {p : Int} (f : Pz p) (k : Nat) : ∀ n, ∃ T, cdL f (k + n) = cdL f k ++ T
  | 0 => ⟨[], (List.append_nil _).symm⟩
  | n + 1 => by
    obtain ⟨T, hT⟩ := cdL_pre f k n
    show ∃ T, cdL f ((k + n) + 1) = _
    rw [cdL_s]
    split
    · exact ⟨T, hT⟩
    · split
      · exact ⟨T ++ [(k + n, wdF f (k + n), nrm p (ptl f p.toNat).length (rdA p (ptl f p.toNat).length (clrs (cdL f (k + n))) (wdF f (k + n))))], by rw [← List.append_assoc, ← hT]⟩
      · exact ⟨T, hT⟩
theorem cdL_wd {p : Int} (f : Pz p) : ∀ k, ∀ e ∈ cdL f k, e.2.1 = wdF f e.1
  | 0, e, h => by cases h
  | k + 1, e, h => by
    rw [cdL_s] at h
    split at h
    · exact cdL_wd f k e h
    · split at h
      · rcases List.mem_append.mp h with h | h
        · exact cdL_wd f k e h
        · rw [List.mem_singleton.mp h]
      · exact cdL_wd f k e h
theorem wdK_rg {p : Int} (hp : Pr p) (f : Pz p) (k j : Nat) : 0 ≤ wdK f k j ∧ wdK f k j < p := by
  have hpp := hp.pos
  unfold wdK
  cases h : (cdL f 31)[k]? with
  | none => show (0 : Int) ≤ 0 ∧ (0 : Int) < p; omega
  | some e =>
    show 0 ≤ e.2.1 j ∧ e.2.1 j < p
    rw [cdL_wd f 31 e (List.mem_of_getElem? h)]
    exact wdF_rg hp f _ j
theorem wd_0 {p : Int} (f : Pz p) {j : Nat} (hj : j < (ptl f p.toNat).length) : wdF f 0 j = 1 := by
  unfold wdF
  rw [List.getElem?_eq_getElem hj]; rfl
theorem wdK_0 {p : Int} (f : Pz p) {j : Nat} (hj : j < (ptl f p.toNat).length) : wdK f 0 j = 1 := by
  obtain ⟨T, hT⟩ := cdL_pre f 1 30
  have e1 : cdL f 1 = [(0, wdF f 0, nrm p (ptl f p.toNat).length (wdF f 0))] := by
    rw [cdL_s]
    rw [if_neg (by omega)]
    have hld : ld (wdF f 0) (ptl f p.toNat).length = 0 := ld_un (fun k hk => by omega) (Or.inr ⟨by omega, by rw [wd_0 f (by omega)]; decide⟩)
    show (if ld (wdF f 0) (ptl f p.toNat).length < (ptl f p.toNat).length then [] ++ [(0, wdF f 0, nrm p (ptl f p.toNat).length (wdF f 0))] else []) = _
    rw [hld, if_pos (by omega)]; rfl
  have e : (cdL f 31)[0]? = some (0, wdF f 0, nrm p (ptl f p.toNat).length (wdF f 0)) := by
    have : cdL f 31 = cdL f 1 ++ T := hT
    rw [this, e1]; rfl
  unfold wdK
  rw [e]
  exact wd_0 f hj
theorem cwd_0 {p : Int} (f : Pz p) {m : Nat} (h : cwd f m = 0) : (ptl f p.toNat).length = 0 := by
  rcases Nat.eq_zero_or_pos (ptl f p.toNat).length with q | q
  · exact q
  · exfalso
    obtain ⟨T, hT⟩ := cdL_pre f 1 30
    have e1 : cdL f 1 = [(0, wdF f 0, nrm p (ptl f p.toNat).length (wdF f 0))] := by
      rw [cdL_s]
      rw [if_neg (by omega)]
      have hld : ld (wdF f 0) (ptl f p.toNat).length = 0 := ld_un (fun k hk => by omega) (Or.inr ⟨by omega, by rw [wd_0 f (by omega)]; decide⟩)
      show (if ld (wdF f 0) (ptl f p.toNat).length < (ptl f p.toNat).length then [] ++ [(0, wdF f 0, nrm p (ptl f p.toNat).length (wdF f 0))] else []) = _
      rw [hld, if_pos (by omega)]; rfl
    have e31 : cdL f 31 = (0, wdF f 0, nrm p (ptl f p.toNat).length (wdF f 0)) :: T := by
      have : cdL f 31 = cdL f 1 ++ T := hT
      rw [this, e1]; rfl
    unfold cwd at h
    rw [e31, List.length_cons] at h
    have h2 : cdW ((0, wdF f 0, nrm p (ptl f p.toNat).length (wdF f 0)) :: T) m (T.length + 1) 0 = cdW ((0, wdF f 0, nrm p (ptl f p.toNat).length (wdF f 0)) :: T) m T.length 1 := by
      exact if_pos (e := 0) (Nat.zero_le m)
    rw [h2] at h
    have h3 : ∀ (K : List CdE) n i, i ≤ cdW K m n i := fun K n => by
      induction n with
      | zero => intro i; exact Nat.le_refl _
      | succ n ih =>
        intro i
        unfold cdW
        cases K[i]? with
        | none => exact Nat.le_refl _
        | some e =>
          show i ≤ (if e.1 ≤ m then cdW K m n (i + 1) else i)
          split
          · have := ih (i + 1); omega
          · exact Nat.le_refl _
    have := h3 ((0, wdF f 0, nrm p (ptl f p.toNat).length (wdF f 0)) :: T) T.length 1
    omega
set_option maxHeartbeats 8000000 in
theorem k_width {p : Int} {g : Nat} {f : Pz p} {pu : List Int} {rg : Nat → Pz p × Pz p} {A tl : Nat → Int} {E : Nat → Nat} {N : Mem} {Q : Post} {m : Nat} (h : CS g f pu rg A tl E N) (V : VS g f pu rg A tl E) (q0 : g ≠ 0) (hm : m ≤ 30) (hQ : ∀ N', CS g f pu rg A tl E N' → FC N N' → N' 120 9 = 1 → CdA N' f (cdL f 31) → Q (some (0, (cwd f m : Int))) NN N') : CL 43 [(2, 120), (0, (m : Int)), (9, 0)] NN N Q := by
  have h0 := h
  obtain ⟨⟨ρ, S, R⟩, hPu, hCr, -, -, -, -, -, -, hCc⟩ := h
  have hc := (hCr.resolve_left (fun e => q0 e.1)).2
  have cv := V.cv q0
  refine s_cdWidth S hc.2.1 (R.1 (by omega)) cv.1.1 hm (hCc.1.imp_right (fun e => e.2)) fun N1 F1 a1 a2 a3 a4 => ?_
  refine hQ N1 (h0.cc (tl' := tl) F1 ⟨Or.inr ⟨by omega, a1, a4⟩, ?_⟩) F1 a1 a4
  rcases hCc.2 with e | ⟨-, e, w⟩
  · exact Or.inl (by rw [a3]; exact e)
  · have := a2 e
    rw [this]
    exact Or.inr ⟨by omega, e, w⟩
noncomputable def oCode {p : Int} (g : Nat) (f : Pz p) (m w : Int) : Int := if ¬ (0 ≤ m ∧ m ≤ 30) ∨ ¬ (0 ≤ w ∧ w ≤ 1) then -2 else if g = 0 then -3 else if w = 0 then ((ptl f p.toNat).length : Int) else (cwd f m.toNat : Int)
set_option maxHeartbeats 8000000 in
theorem k_code {p : Int} {g : Nat} {f : Pz p} {pu : List Int} {rg : Nat → Pz p × Pz p} {A tl : Nat → Int} {E : Nat → Nat} {N : Mem} {Q : Post} {m w : Int} (h : CS g f pu rg A tl E N) (V : VS g f pu rg A tl E) (hm : R32 m) (hw : R32 w) (hQ : ∀ N', CS g f pu rg A tl E N' → mdF N N' → Q (some (0, oCode g f m w)) NN N') : CL 143 [(2, 1), (0, m), (0, w)] NN N Q := by
  have h0 := h
  obtain ⟨⟨ρ, S, R⟩, hPu, hCr, -⟩ := h
  have hw' := hw
  obtain ⟨w1, w2⟩ := hw'
  unfold oCode at hQ
  refine WP.run [] [] 90 ?_
  simp only [bk143_0, bk143_7, bk143_11, bk143_16, bk143_19, bk143_29, bk143_32, bk143_36, bk143_48, bk143_56, U_iload_n, U_invokestatic1, U_if_eq, U_if_lt, U_iconst, U_icmp_le, U_bipush, U_ireturn, U_aload_n, U_getfield, U_invokevirtual0, U_if_ne, U_isub, U_goto, U_invokevirtual1, UN_cc, UN_cn, UN_nc, UN_nn, UJ, lget, lset, lset2, entL, wsm, wcat, Option.toList_some, Option.toList_none, List.cons_append, List.nil_append, List.mem_cons, List.not_mem_nil, Prod.mk.injEq, or_false, false_or, or_true, true_or, and_true, true_and, and_false, false_and, and_self, ne_eq, not_false_eq_true, not_true_eq_false, forall_const, true_implies, false_implies, Nat.add_zero, Nat.zero_add, Nat.le_refl, Nat.zero_le, List.set_cons_zero, List.set_cons_succ, List.set_nil, ↓reduceIte, Nat.reduceAdd, Nat.reduceSub, Nat.reduceEqDiff, Nat.reduceLeDiff, Int.reduceEq, Int.reduceNe, Int.reduceNeg, reduceCtorEq, kd1]
  refine c_isPole hm ?_
  by_cases q : 0 ≤ m ∧ m ≤ 30
  · rw [if_pos q]
    simp only [bk143_0, bk143_7, bk143_11, bk143_16, bk143_19, bk143_29, bk143_32, bk143_36, bk143_48, bk143_56, U_iload_n, U_invokestatic1, U_if_eq, U_if_lt, U_iconst, U_icmp_le, U_bipush, U_ireturn, U_aload_n, U_getfield, U_invokevirtual0, U_if_ne, U_isub, U_goto, U_invokevirtual1, UN_cc, UN_cn, UN_nc, UN_nn, UJ, lget, lset, lset2, entL, wsm, wcat, Option.toList_some, Option.toList_none, List.cons_append, List.nil_append, List.mem_cons, List.not_mem_nil, Prod.mk.injEq, or_false, false_or, or_true, true_or, and_true, true_and, and_false, false_and, and_self, ne_eq, not_false_eq_true, not_true_eq_false, forall_const, true_implies, false_implies, Nat.add_zero, Nat.zero_add, Nat.le_refl, Nat.zero_le, List.set_cons_zero, List.set_cons_succ, List.set_nil, ↓reduceIte, Nat.reduceAdd, Nat.reduceSub, Nat.reduceEqDiff, Nat.reduceLeDiff, Int.reduceEq, Int.reduceNe, Int.reduceNeg, reduceCtorEq, kd1, kd21, z1_4 S.1.1]
    refine ⟨r3 (by omega), hw, fun e => ?_, fun e => ⟨rr (by omega), fun e2 => ?_, fun e2 => c_std hCr V.g2 ?_⟩⟩
    · rw [if_pos (Or.inr (by omega))] at hQ; exact hQ N h0 (mdF.rf N)
    · rw [if_pos (Or.inr (by omega))] at hQ; exact hQ N h0 (mdF.rf N)
    · rw [if_neg (show ¬ (¬ (0 ≤ m ∧ m ≤ 30) ∨ ¬ (0 ≤ w ∧ w ≤ 1)) by omega)] at hQ
      by_cases q0 : g = 0
      · rw [if_pos q0] at hQ ⊢
        simp only [bk143_0, bk143_7, bk143_11, bk143_16, bk143_19, bk143_29, bk143_32, bk143_36, bk143_48, bk143_56, U_iload_n, U_invokestatic1, U_if_eq, U_if_lt, U_iconst, U_icmp_le, U_bipush, U_ireturn, U_aload_n, U_getfield, U_invokevirtual0, U_if_ne, U_isub, U_goto, U_invokevirtual1, UN_cc, UN_cn, UN_nc, UN_nn, UJ, lget, lset, lset2, entL, wsm, wcat, Option.toList_some, Option.toList_none, List.cons_append, List.nil_append, List.mem_cons, List.not_mem_nil, Prod.mk.injEq, or_false, false_or, or_true, true_or, and_true, true_and, and_false, false_and, and_self, ne_eq, not_false_eq_true, not_true_eq_false, forall_const, true_implies, false_implies, Nat.add_zero, Nat.zero_add, Nat.le_refl, Nat.zero_le, List.set_cons_zero, List.set_cons_succ, List.set_nil, ↓reduceIte, Nat.reduceAdd, Nat.reduceSub, Nat.reduceEqDiff, Nat.reduceLeDiff, Int.reduceEq, Int.reduceNe, Int.reduceNeg, reduceCtorEq]
        exact ⟨r3 (by omega), hQ N h0 (mdF.rf N)⟩
      · rw [if_neg q0] at hQ ⊢
        have hc := (hCr.resolve_left (fun e => q0 e.1)).2
        obtain ⟨n, rfl⟩ : ∃ n : Nat, m = n := ⟨m.toNat, by omega⟩
        simp only [bk143_0, bk143_7, bk143_11, bk143_16, bk143_19, bk143_29, bk143_32, bk143_36, bk143_48, bk143_56, U_iload_n, U_invokestatic1, U_if_eq, U_if_lt, U_iconst, U_icmp_le, U_bipush, U_ireturn, U_aload_n, U_getfield, U_invokevirtual0, U_if_ne, U_isub, U_goto, U_invokevirtual1, UN_cc, UN_cn, UN_nc, UN_nn, UJ, lget, lset, lset2, entL, wsm, wcat, Option.toList_some, Option.toList_none, List.cons_append, List.nil_append, List.mem_cons, List.not_mem_nil, Prod.mk.injEq, or_false, false_or, or_true, true_or, and_true, true_and, and_false, false_and, and_self, ne_eq, not_false_eq_true, not_true_eq_false, forall_const, true_implies, false_implies, Nat.add_zero, Nat.zero_add, Nat.le_refl, Nat.zero_le, List.set_cons_zero, List.set_cons_succ, List.set_nil, ↓reduceIte, Nat.reduceAdd, Nat.reduceSub, Nat.reduceEqDiff, Nat.reduceLeDiff, Int.reduceEq, Int.reduceNe, Int.reduceNeg, reduceCtorEq, kd1, kd21, kd120, z1_4 S.1.1, z1_10 S.1.1, hc.2.1.1]
        refine ⟨r3 (by omega), hw, fun e3 => ?_, fun e3 => k_width h0 V q0 (by omega) fun N1 C1 F1 _ _ => ?_⟩
        · rw [if_pos e3] at hQ
          rw [show ((ptl f p.toNat).length : Int) + 1 - 1 = ((ptl f p.toNat).length : Int) by omega]
          exact hQ N h0 (mdF.rf N)
        · rw [if_neg e3, Int.toNat_natCast] at hQ
          simp only [bk143_0, bk143_7, bk143_11, bk143_16, bk143_19, bk143_29, bk143_32, bk143_36, bk143_48, bk143_56, U_iload_n, U_invokestatic1, U_if_eq, U_if_lt, U_iconst, U_icmp_le, U_bipush, U_ireturn, U_aload_n, U_getfield, U_invokevirtual0, U_if_ne, U_isub, U_goto, U_invokevirtual1, UN_cc, UN_cn, UN_nc, UN_nn, UJ, lget, lset, lset2, entL, wsm, wcat, Option.toList_some, Option.toList_none, List.cons_append, List.nil_append, List.mem_cons, List.not_mem_nil, Prod.mk.injEq, or_false, false_or, or_true, true_or, and_true, true_and, and_false, false_and, and_self, ne_eq, not_false_eq_true, not_true_eq_false, forall_const, true_implies, false_implies, Nat.add_zero, Nat.zero_add, Nat.le_refl, Nat.zero_le, List.set_cons_zero, List.set_cons_succ, List.set_nil, ↓reduceIte, Nat.reduceAdd, Nat.reduceSub, Nat.reduceEqDiff, Nat.reduceLeDiff, Int.reduceEq, Int.reduceNe, Int.reduceNeg, reduceCtorEq]
          exact hQ N1 C1 F1.md
  · rw [if_neg q]
    rw [if_pos (Or.inl q)] at hQ
    simp only [bk143_0, bk143_7, bk143_11, bk143_16, bk143_19, bk143_29, bk143_32, bk143_36, bk143_48, bk143_56, U_iload_n, U_invokestatic1, U_if_eq, U_if_lt, U_iconst, U_icmp_le, U_bipush, U_ireturn, U_aload_n, U_getfield, U_invokevirtual0, U_if_ne, U_isub, U_goto, U_invokevirtual1, UN_cc, UN_cn, UN_nc, UN_nn, UJ, lget, lset, lset2, entL, wsm, wcat, Option.toList_some, Option.toList_none, List.cons_append, List.nil_append, List.mem_cons, List.not_mem_nil, Prod.mk.injEq, or_false, false_or, or_true, true_or, and_true, true_and, and_false, false_and, and_self, ne_eq, not_false_eq_true, not_true_eq_false, forall_const, true_implies, false_implies, Nat.add_zero, Nat.zero_add, Nat.le_refl, Nat.zero_le, List.set_cons_zero, List.set_cons_succ, List.set_nil, ↓reduceIte, Nat.reduceAdd, Nat.reduceSub, Nat.reduceEqDiff, Nat.reduceLeDiff, Int.reduceEq, Int.reduceNe, Int.reduceNeg, reduceCtorEq]
    exact ⟨r3 (by omega), hQ N h0 (mdF.rf N)⟩
noncomputable def oRead {p : Int} (g : Nat) (f : Pz p) (m i pt : Int) : Int := if ¬ (0 ≤ m ∧ m ≤ 30) ∨ i < 0 ∨ ¬ (1 ≤ pt ∧ pt < nPt g f) then -2 else if g = 0 then -3 else if (cwd f m.toNat : Int) ≤ i then -2 else wdK f i.toNat (pt.toNat - 1)
set_option maxHeartbeats 8000000 in
theorem k_read {p : Int} {g : Nat} {f : Pz p} {pu : List Int} {rg : Nat → Pz p × Pz p} {A tl : Nat → Int} {E : Nat → Nat} {N : Mem} {Q : Post} {m i pt : Int} (h : CS g f pu rg A tl E N) (V : VS g f pu rg A tl E) (hm : R32 m) (hi : R32 i) (hpt : R32 pt) (hQ : ∀ N', CS g f pu rg A tl E N' → mdF N N' → Q (some (0, oRead g f m i pt)) NN N') : CL 144 [(2, 1), (0, m), (0, i), (0, pt)] NN N Q := by
  have h0 := h
  obtain ⟨⟨ρ, S, R⟩, hPu, hCr, -⟩ := h
  have hi' := hi
  have hpt' := hpt
  obtain ⟨i1, i2⟩ := hi'
  obtain ⟨p1, p2⟩ := hpt'
  have hnp := nPt_le V.1 g f
  unfold oRead at hQ
  have bad : (¬ (0 ≤ m ∧ m ≤ 30) ∨ i < 0 ∨ ¬ (1 ≤ pt ∧ pt < nPt g f)) → Q (some (0, -2)) NN N := fun e => by
    rw [if_pos e] at hQ; exact hQ N h0 (mdF.rf N)
  refine WP.run [] [] 90 ?_
  simp only [bk144_0, bk144_7, bk144_11, bk144_16, bk144_24, bk144_27, bk144_37, bk144_40, bk144_52, bk144_55, U_iload_n, U_invokestatic1, U_if_eq, U_if_lt, U_iconst, U_icmp_lt, U_aload_n, U_invokevirtual1, U_if_ne, U_bipush, U_ireturn, U_getfield, U_invokevirtual0, U_isub, U_invokevirtual2, UN_cc, UN_cn, UN_nc, UN_nn, UJ, lget, lset, lset2, entL, wsm, wcat, Option.toList_some, Option.toList_none, List.cons_append, List.nil_append, List.mem_cons, List.not_mem_nil, Prod.mk.injEq, or_false, false_or, or_true, true_or, and_true, true_and, and_false, false_and, and_self, ne_eq, not_false_eq_true, not_true_eq_false, forall_const, true_implies, false_implies, Nat.add_zero, Nat.zero_add, Nat.le_refl, Nat.zero_le, List.set_cons_zero, List.set_cons_succ, List.set_nil, ↓reduceIte, Nat.reduceAdd, Nat.reduceSub, Nat.reduceEqDiff, Nat.reduceLeDiff, Int.reduceEq, Int.reduceNe, Int.reduceNeg, reduceCtorEq, kd1]
  refine c_isPole hm ?_
  by_cases q : 0 ≤ m ∧ m ≤ 30
  · rw [if_pos q]
    simp only [bk144_0, bk144_7, bk144_11, bk144_16, bk144_24, bk144_27, bk144_37, bk144_40, bk144_52, bk144_55, U_iload_n, U_invokestatic1, U_if_eq, U_if_lt, U_iconst, U_icmp_lt, U_aload_n, U_invokevirtual1, U_if_ne, U_bipush, U_ireturn, U_getfield, U_invokevirtual0, U_isub, U_invokevirtual2, UN_cc, UN_cn, UN_nc, UN_nn, UJ, lget, lset, lset2, entL, wsm, wcat, Option.toList_some, Option.toList_none, List.cons_append, List.nil_append, List.mem_cons, List.not_mem_nil, Prod.mk.injEq, or_false, false_or, or_true, true_or, and_true, true_and, and_false, false_and, and_self, ne_eq, not_false_eq_true, not_true_eq_false, forall_const, true_implies, false_implies, Nat.add_zero, Nat.zero_add, Nat.le_refl, Nat.zero_le, List.set_cons_zero, List.set_cons_succ, List.set_nil, ↓reduceIte, Nat.reduceAdd, Nat.reduceSub, Nat.reduceEqDiff, Nat.reduceLeDiff, Int.reduceEq, Int.reduceNe, Int.reduceNeg, reduceCtorEq, kd1]
    refine ⟨r3 (by omega), hi, fun e => bad (Or.inr (Or.inl e)), fun e => ⟨rr (by omega), fun e2 => bad (Or.inr (Or.inr (by omega))), fun e2 => c_isPt S.1.1 V.1 hCr V.g2 hpt ?_⟩⟩
    by_cases q1 : 0 ≤ pt ∧ pt < nPt g f
    · rw [if_pos q1]
      rw [if_neg (show ¬ (¬ (0 ≤ m ∧ m ≤ 30) ∨ i < 0 ∨ ¬ (1 ≤ pt ∧ pt < nPt g f)) by omega)] at hQ
      simp only [bk144_0, bk144_7, bk144_11, bk144_16, bk144_24, bk144_27, bk144_37, bk144_40, bk144_52, bk144_55, U_iload_n, U_invokestatic1, U_if_eq, U_if_lt, U_iconst, U_icmp_lt, U_aload_n, U_invokevirtual1, U_if_ne, U_bipush, U_ireturn, U_getfield, U_invokevirtual0, U_isub, U_invokevirtual2, UN_cc, UN_cn, UN_nc, UN_nn, UJ, lget, lset, lset2, entL, wsm, wcat, Option.toList_some, Option.toList_none, List.cons_append, List.nil_append, List.mem_cons, List.not_mem_nil, Prod.mk.injEq, or_false, false_or, or_true, true_or, and_true, true_and, and_false, false_and, and_self, ne_eq, not_false_eq_true, not_true_eq_false, forall_const, true_implies, false_implies, Nat.add_zero, Nat.zero_add, Nat.le_refl, Nat.zero_le, List.set_cons_zero, List.set_cons_succ, List.set_nil, ↓reduceIte, Nat.reduceAdd, Nat.reduceSub, Nat.reduceEqDiff, Nat.reduceLeDiff, Int.reduceEq, Int.reduceNe, Int.reduceNeg, reduceCtorEq, kd1, kd21, z1_4 S.1.1]
      refine ⟨r3 (by omega), c_std hCr V.g2 ?_⟩
      by_cases q0 : g = 0
      · rw [if_pos q0] at hQ ⊢
        simp only [bk144_0, bk144_7, bk144_11, bk144_16, bk144_24, bk144_27, bk144_37, bk144_40, bk144_52, bk144_55, U_iload_n, U_invokestatic1, U_if_eq, U_if_lt, U_iconst, U_icmp_lt, U_aload_n, U_invokevirtual1, U_if_ne, U_bipush, U_ireturn, U_getfield, U_invokevirtual0, U_isub, U_invokevirtual2, UN_cc, UN_cn, UN_nc, UN_nn, UJ, lget, lset, lset2, entL, wsm, wcat, Option.toList_some, Option.toList_none, List.cons_append, List.nil_append, List.mem_cons, List.not_mem_nil, Prod.mk.injEq, or_false, false_or, or_true, true_or, and_true, true_and, and_false, false_and, and_self, ne_eq, not_false_eq_true, not_true_eq_false, forall_const, true_implies, false_implies, Nat.add_zero, Nat.zero_add, Nat.le_refl, Nat.zero_le, List.set_cons_zero, List.set_cons_succ, List.set_nil, ↓reduceIte, Nat.reduceAdd, Nat.reduceSub, Nat.reduceEqDiff, Nat.reduceLeDiff, Int.reduceEq, Int.reduceNe, Int.reduceNeg, reduceCtorEq]
        exact ⟨r3 (by omega), hQ N h0 (mdF.rf N)⟩
      · rw [if_neg q0] at hQ ⊢
        obtain ⟨n, rfl⟩ : ∃ n : Nat, m = n := ⟨m.toNat, by omega⟩
        obtain ⟨k, rfl⟩ : ∃ k : Nat, i = k := ⟨i.toNat, by omega⟩
        obtain ⟨l, rfl⟩ : ∃ l : Nat, pt = ((l + 1 : Nat) : Int) := ⟨pt.toNat - 1, by omega⟩
        have hl : l < (ptl f p.toNat).length := by
          have := q1.2
          unfold nPt at this
          rw [if_neg q0] at this
          omega
        have hl26 := ptl_26 V.1 f
        obtain ⟨cw1, cw2⟩ := cwd_le V.1 f n
        simp only [bk144_0, bk144_7, bk144_11, bk144_16, bk144_24, bk144_27, bk144_37, bk144_40, bk144_52, bk144_55, U_iload_n, U_invokestatic1, U_if_eq, U_if_lt, U_iconst, U_icmp_lt, U_aload_n, U_invokevirtual1, U_if_ne, U_bipush, U_ireturn, U_getfield, U_invokevirtual0, U_isub, U_invokevirtual2, UN_cc, UN_cn, UN_nc, UN_nn, UJ, lget, lset, lset2, entL, wsm, wcat, Option.toList_some, Option.toList_none, List.cons_append, List.nil_append, List.mem_cons, List.not_mem_nil, Prod.mk.injEq, or_false, false_or, or_true, true_or, and_true, true_and, and_false, false_and, and_self, ne_eq, not_false_eq_true, not_true_eq_false, forall_const, true_implies, false_implies, Nat.add_zero, Nat.zero_add, Nat.le_refl, Nat.zero_le, List.set_cons_zero, List.set_cons_succ, List.set_nil, ↓reduceIte, Nat.reduceAdd, Nat.reduceSub, Nat.reduceEqDiff, Nat.reduceLeDiff, Int.reduceEq, Int.reduceNe, Int.reduceNeg, reduceCtorEq, kd1, kd120, z1_10 S.1.1]
        refine ⟨r3 (by omega), k_width h0 V q0 (by omega) fun N1 C1 F1 a1 a2 => ?_⟩
        rw [Int.toNat_natCast, Int.toNat_natCast, Int.toNat_natCast] at hQ
        have hz1 := F1.fz S.1.1
        simp only [bk144_0, bk144_7, bk144_11, bk144_16, bk144_24, bk144_27, bk144_37, bk144_40, bk144_52, bk144_55, U_iload_n, U_invokestatic1, U_if_eq, U_if_lt, U_iconst, U_icmp_lt, U_aload_n, U_invokevirtual1, U_if_ne, U_bipush, U_ireturn, U_getfield, U_invokevirtual0, U_isub, U_invokevirtual2, UN_cc, UN_cn, UN_nc, UN_nn, UJ, lget, lset, lset2, entL, wsm, wcat, Option.toList_some, Option.toList_none, List.cons_append, List.nil_append, List.mem_cons, List.not_mem_nil, Prod.mk.injEq, or_false, false_or, or_true, true_or, and_true, true_and, and_false, false_and, and_self, ne_eq, not_false_eq_true, not_true_eq_false, forall_const, true_implies, false_implies, Nat.add_zero, Nat.zero_add, Nat.le_refl, Nat.zero_le, List.set_cons_zero, List.set_cons_succ, List.set_nil, ↓reduceIte, Nat.reduceAdd, Nat.reduceSub, Nat.reduceEqDiff, Nat.reduceLeDiff, Int.reduceEq, Int.reduceNe, Int.reduceNeg, reduceCtorEq, kd1, kd120, z1_10 hz1]
        rw [show ((l + 1 : Nat) : Int) - 1 = (l : Int) by omega]
        refine ⟨rr (by omega), fun e3 => ?_, fun e3 => ?_⟩
        · rw [if_neg (by omega)] at hQ
          refine c_wordAt hz1 (by omega) (by omega) ?_
          obtain ⟨e, he⟩ : ∃ e, (cdL f 31)[k]? = some e := ⟨_, List.getElem?_eq_getElem (by omega)⟩
          have hw := ((a2.2.2 k e he).2.2 l hl).1
          have ew : wdK f k l = e.2.1 l := by unfold wdK; rw [he]
          simp only [bk144_0, bk144_7, bk144_11, bk144_16, bk144_24, bk144_27, bk144_37, bk144_40, bk144_52, bk144_55, U_iload_n, U_invokestatic1, U_if_eq, U_if_lt, U_iconst, U_icmp_lt, U_aload_n, U_invokevirtual1, U_if_ne, U_bipush, U_ireturn, U_getfield, U_invokevirtual0, U_isub, U_invokevirtual2, UN_cc, UN_cn, UN_nc, UN_nn, UJ, lget, lset, lset2, entL, wsm, wcat, Option.toList_some, Option.toList_none, List.cons_append, List.nil_append, List.mem_cons, List.not_mem_nil, Prod.mk.injEq, or_false, false_or, or_true, true_or, and_true, true_and, and_false, false_and, and_self, ne_eq, not_false_eq_true, not_true_eq_false, forall_const, true_implies, false_implies, Nat.add_zero, Nat.zero_add, Nat.le_refl, Nat.zero_le, List.set_cons_zero, List.set_cons_succ, List.set_nil, ↓reduceIte, Nat.reduceAdd, Nat.reduceSub, Nat.reduceEqDiff, Nat.reduceLeDiff, Int.reduceEq, Int.reduceNe, Int.reduceNeg, reduceCtorEq]
          rw [hw, ← ew]
          exact hQ N1 C1 F1.md
        · rw [if_pos (by omega)] at hQ; exact hQ N1 C1 F1.md
    · rw [if_neg q1]
      simp only [bk144_0, bk144_7, bk144_11, bk144_16, bk144_24, bk144_27, bk144_37, bk144_40, bk144_52, bk144_55, U_iload_n, U_invokestatic1, U_if_eq, U_if_lt, U_iconst, U_icmp_lt, U_aload_n, U_invokevirtual1, U_if_ne, U_bipush, U_ireturn, U_getfield, U_invokevirtual0, U_isub, U_invokevirtual2, UN_cc, UN_cn, UN_nc, UN_nn, UJ, lget, lset, lset2, entL, wsm, wcat, Option.toList_some, Option.toList_none, List.cons_append, List.nil_append, List.mem_cons, List.not_mem_nil, Prod.mk.injEq, or_false, false_or, or_true, true_or, and_true, true_and, and_false, false_and, and_self, ne_eq, not_false_eq_true, not_true_eq_false, forall_const, true_implies, false_implies, Nat.add_zero, Nat.zero_add, Nat.le_refl, Nat.zero_le, List.set_cons_zero, List.set_cons_succ, List.set_nil, ↓reduceIte, Nat.reduceAdd, Nat.reduceSub, Nat.reduceEqDiff, Nat.reduceLeDiff, Int.reduceEq, Int.reduceNe, Int.reduceNeg, reduceCtorEq]
      exact ⟨r3 (by omega), bad (Or.inr (Or.inr (by omega)))⟩
  · rw [if_neg q]
    simp only [bk144_0, bk144_7, bk144_11, bk144_16, bk144_24, bk144_27, bk144_37, bk144_40, bk144_52, bk144_55, U_iload_n, U_invokestatic1, U_if_eq, U_if_lt, U_iconst, U_icmp_lt, U_aload_n, U_invokevirtual1, U_if_ne, U_bipush, U_ireturn, U_getfield, U_invokevirtual0, U_isub, U_invokevirtual2, UN_cc, UN_cn, UN_nc, UN_nn, UJ, lget, lset, lset2, entL, wsm, wcat, Option.toList_some, Option.toList_none, List.cons_append, List.nil_append, List.mem_cons, List.not_mem_nil, Prod.mk.injEq, or_false, false_or, or_true, true_or, and_true, true_and, and_false, false_and, and_self, ne_eq, not_false_eq_true, not_true_eq_false, forall_const, true_implies, false_implies, Nat.add_zero, Nat.zero_add, Nat.le_refl, Nat.zero_le, List.set_cons_zero, List.set_cons_succ, List.set_nil, ↓reduceIte, Nat.reduceAdd, Nat.reduceSub, Nat.reduceEqDiff, Nat.reduceLeDiff, Int.reduceEq, Int.reduceNe, Int.reduceNeg, reduceCtorEq]
    exact ⟨r3 (by omega), bad (Or.inl q)⟩
