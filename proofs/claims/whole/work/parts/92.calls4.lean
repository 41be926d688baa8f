/-! CALLS OF THE CLASS: rooms, codes -/
def oAmt {p : Int} (g : Nat) (f : Pz p) (A : Nat → Int) (pt v : Int) : Prop := True
noncomputable def oAmount {p : Int} (g : Nat) (f : Pz p) (A : Nat → Int) (pt v : Int) : Int := if ¬ (0 ≤ pt ∧ pt < nPt g f) ∨ ¬ (-(if pt = 0 then 30 else 4) ≤ v ∧ v ≤ (if pt = 0 then 30 else 4)) then -100 else if g = 0 then -200 else A pt.toNat
/-- whether a call is taken -/
def okAmount {p : Int} (g : Nat) (f : Pz p) (pt v : Int) : Prop := (0 ≤ pt ∧ pt < nPt g f) ∧ (-(if pt = 0 then 30 else 4) ≤ v ∧ v ≤ (if pt = 0 then 30 else 4)) ∧ g ≠ 0
theorem CS.am {p : Int} {g : Nat} {f : Pz p} {pu : List Int} {rg : Nat → Pz p × Pz p} {A tl : Nat → Int} {E : Nat → Nat} {N : Mem} {a : Nat} {v : Int} (h : CS g f pu rg A tl E N) (ha : a < 27) : CS g f pu rg (upr A a v) tl E (ust N 109 (a : Int) v) := by
  obtain ⟨⟨ρ, S, R⟩, a1, a2, a3, a4, a5, a6, a7, a8, a9⟩ := h
  have c : ∀ b, b ≠ 109 → ust N 109 (a : Int) v b = N b := fun b hb => ust_ne hb
  refine ⟨⟨ρ, S.ust _ _ (fz_arr (Or.inl rfl) _) (by decide) (by decide) (by decide), R⟩, a1.fx (c _ (by decide)) (c _ (by decide)), a2.fx (c _ (by decide)) (c _ (by decide)) (c _ (by decide)) (c _ (by decide)) (c _ (by decide)), fun i hi => ?_, fun i hi => by rw [c 121 (by decide)]; exact a4 i hi, fun i hi => by rw [c 189 (by decide)]; exact a5 i hi, a6.fx (c _ (by decide)) (c _ (by decide)), a7.fx (c _ (by decide)) (c _ (by decide)), a8.fx (c _ (by decide)) (c _ (by decide)), a9.fx S.1.2.1 (c _ (by decide)) (c _ (by decide)) (c _ (by decide)) (c _ (by decide)) (fun b h1 h2 => c b (by omega)) (fun b h1 h2 => c b (by omega))⟩
  rw [ust_at]
  unfold upr
  by_cases e : i = a
  · subst e; rw [if_pos rfl, if_pos rfl]
  · rw [if_neg (by omega), if_neg e]; exact a3 i hi
theorem VS.ama {p : Int} {g : Nat} {f : Pz p} {pu : List Int} {rg : Nat → Pz p × Pz p} {A tl : Nat → Int} {E : Nat → Nat} {N : Mem} (h : CS g f pu rg A tl E N) (V : VS g f pu rg A tl E) : AmA N A := ⟨h.2.2.2.1, V.2.2.2.1⟩
set_option maxHeartbeats 8000000 in
theorem k_amount {p : Int} {g : Nat} {f : Pz p} {pu : List Int} {rg : Nat → Pz p × Pz p} {A tl : Nat → Int} {E : Nat → Nat} {N : Mem} {Q : Post} {pt v : Int} (h : CS g f pu rg A tl E N) (V : VS g f pu rg A tl E) (hpt : R32 pt) (hv : R32 v)
    (hQ1 : ¬ okAmount g f pt v → Q (some (0, oAmount g f A pt v)) NN N) (hQ2 : okAmount g f pt v → ∀ N', CS g f pu rg (upr A pt.toNat v) tl E N' → mdF N N' → Q (some (0, oAmount g f A pt v)) NN N') : CL 139 [(2, 1), (0, pt), (0, v), (9, 0)] NN N Q := by
  have h0 := h
  obtain ⟨⟨ρ, S, R⟩, hPu, hCr, -⟩ := h
  have hpt' := hpt
  have hv' := hv
  obtain ⟨i1, i2⟩ := hpt'
  obtain ⟨v1, v2⟩ := hv'
  have hnp := nPt_le V.1 g f
  unfold okAmount oAmount at *
  have key : ∀ m : Int, m = (if pt = 0 then 30 else 4) → m = 30 ∨ m = 4 → WP 139 (0, 0) 10 [(2, 1), (0, pt), (0, v), (9, 0)] [(0, m)] NN N Q := fun m hm hm2 => by
    rw [← hm] at hQ1 hQ2
    refine WP.run [] [] 90 ?_
    simp only [bk139_0, bk139_4, bk139_9, bk139_10, bk139_19, bk139_25, bk139_30, bk139_33, bk139_43, bk139_47, U_iload_n, U_if_ne, U_bipush, U_goto, U_iconst, U_istore_n, U_aload_n, U_invokevirtual1, U_if_eq, U_ineg, U_icmp_lt, U_icmp_le, U_ireturn, U_getfield, U_invokevirtual0, U_sipush, U_invokevirtual2, UN_cc, UN_cn, UN_nc, UN_nn, UJ, lget, lset, lset2, entL, wsm, wcat, Option.toList_some, Option.toList_none, List.cons_append, List.nil_append, List.mem_cons, List.not_mem_nil, Prod.mk.injEq, or_false, false_or, or_true, true_or, and_true, true_and, and_false, false_and, and_self, ne_eq, not_false_eq_true, not_true_eq_false, forall_const, true_implies, false_implies, Nat.add_zero, Nat.zero_add, Nat.le_refl, Nat.zero_le, List.set_cons_zero, List.set_cons_succ, List.set_nil, ↓reduceIte, Nat.reduceAdd, Nat.reduceSub, Nat.reduceEqDiff, Nat.reduceLeDiff, Int.reduceEq, Int.reduceNe, Int.reduceNeg, reduceCtorEq, kd1]
    refine c_isPt S.1.1 V.1 hCr V.g2 hpt ?_
    by_cases q : 0 ≤ pt ∧ pt < nPt g f
    · rw [if_pos q]
      simp only [bk139_0, bk139_4, bk139_9, bk139_10, bk139_19, bk139_25, bk139_30, bk139_33, bk139_43, bk139_47, U_iload_n, U_if_ne, U_bipush, U_goto, U_iconst, U_istore_n, U_aload_n, U_invokevirtual1, U_if_eq, U_ineg, U_icmp_lt, U_icmp_le, U_ireturn, U_getfield, U_invokevirtual0, U_sipush, U_invokevirtual2, UN_cc, UN_cn, UN_nc, UN_nn, UJ, lget, lset, lset2, entL, wsm, wcat, Option.toList_some, Option.toList_none, List.cons_append, List.nil_append, List.mem_cons, List.not_mem_nil, Prod.mk.injEq, or_false, false_or, or_true, true_or, and_true, true_and, and_false, false_and, and_self, ne_eq, not_false_eq_true, not_true_eq_false, forall_const, true_implies, false_implies, Nat.add_zero, Nat.zero_add, Nat.le_refl, Nat.zero_le, List.set_cons_zero, List.set_cons_succ, List.set_nil, ↓reduceIte, Nat.reduceAdd, Nat.reduceSub, Nat.reduceEqDiff, Nat.reduceLeDiff, Int.reduceEq, Int.reduceNe, Int.reduceNeg, reduceCtorEq, kd1, kd21, z1_4 S.1.1]
      have bad : ¬ (-m ≤ v ∧ v ≤ m) → Q (some (0, -100)) NN N := fun e => by
        have := hQ1 (fun k => e k.2.1)
        rw [if_pos (Or.inr e)] at this; exact this
      refine ⟨r3 (by omega), rr (by omega), fun e => bad (by omega), fun e => ⟨rr (by omega), fun e2 => bad (by omega), fun e2 => c_std hCr V.g2 ?_⟩⟩
      have hin : ¬ (¬ (0 ≤ pt ∧ pt < nPt g f) ∨ ¬ (-m ≤ v ∧ v ≤ m)) := by omega
      rw [if_neg hin] at hQ1 hQ2
      by_cases q0 : g = 0
      · rw [if_pos q0] at hQ1 ⊢
        simp only [bk139_0, bk139_4, bk139_9, bk139_10, bk139_19, bk139_25, bk139_30, bk139_33, bk139_43, bk139_47, U_iload_n, U_if_ne, U_bipush, U_goto, U_iconst, U_istore_n, U_aload_n, U_invokevirtual1, U_if_eq, U_ineg, U_icmp_lt, U_icmp_le, U_ireturn, U_getfield, U_invokevirtual0, U_sipush, U_invokevirtual2, UN_cc, UN_cn, UN_nc, UN_nn, UJ, lget, lset, lset2, entL, wsm, wcat, Option.toList_some, Option.toList_none, List.cons_append, List.nil_append, List.mem_cons, List.not_mem_nil, Prod.mk.injEq, or_false, false_or, or_true, true_or, and_true, true_and, and_false, false_and, and_self, ne_eq, not_false_eq_true, not_true_eq_false, forall_const, true_implies, false_implies, Nat.add_zero, Nat.zero_add, Nat.le_refl, Nat.zero_le, List.set_cons_zero, List.set_cons_succ, List.set_nil, ↓reduceIte, Nat.reduceAdd, Nat.reduceSub, Nat.reduceEqDiff, Nat.reduceLeDiff, Int.reduceEq, Int.reduceNe, Int.reduceNeg, reduceCtorEq]
        exact ⟨r3 (by omega), hQ1 (fun k => k.2.2 q0)⟩
      · rw [if_neg q0] at hQ2 ⊢
        obtain ⟨n, rfl⟩ : ∃ n : Nat, pt = n := ⟨pt.toNat, by omega⟩
        simp only [bk139_0, bk139_4, bk139_9, bk139_10, bk139_19, bk139_25, bk139_30, bk139_33, bk139_43, bk139_47, U_iload_n, U_if_ne, U_bipush, U_goto, U_iconst, U_istore_n, U_aload_n, U_invokevirtual1, U_if_eq, U_ineg, U_icmp_lt, U_icmp_le, U_ireturn, U_getfield, U_invokevirtual0, U_sipush, U_invokevirtual2, UN_cc, UN_cn, UN_nc, UN_nn, UJ, lget, lset, lset2, entL, wsm, wcat, Option.toList_some, Option.toList_none, List.cons_append, List.nil_append, List.mem_cons, List.not_mem_nil, Prod.mk.injEq, or_false, false_or, or_true, true_or, and_true, true_and, and_false, false_and, and_self, ne_eq, not_false_eq_true, not_true_eq_false, forall_const, true_implies, false_implies, Nat.add_zero, Nat.zero_add, Nat.le_refl, Nat.zero_le, List.set_cons_zero, List.set_cons_succ, List.set_nil, ↓reduceIte, Nat.reduceAdd, Nat.reduceSub, Nat.reduceEqDiff, Nat.reduceLeDiff, Int.reduceEq, Int.reduceNe, Int.reduceNeg, reduceCtorEq, kd1, kd108, z1_9 S.1.1]
        refine ⟨r3 (by omega), c_roChange S.1.1 (V.ama h0) (by omega) ?_⟩
        simp only [bk139_0, bk139_4, bk139_9, bk139_10, bk139_19, bk139_25, bk139_30, bk139_33, bk139_43, bk139_47, U_iload_n, U_if_ne, U_bipush, U_goto, U_iconst, U_istore_n, U_aload_n, U_invokevirtual1, U_if_eq, U_ineg, U_icmp_lt, U_icmp_le, U_ireturn, U_getfield, U_invokevirtual0, U_sipush, U_invokevirtual2, UN_cc, UN_cn, UN_nc, UN_nn, UJ, lget, lset, lset2, entL, wsm, wcat, Option.toList_some, Option.toList_none, List.cons_append, List.nil_append, List.mem_cons, List.not_mem_nil, Prod.mk.injEq, or_false, false_or, or_true, true_or, and_true, true_and, and_false, false_and, and_self, ne_eq, not_false_eq_true, not_true_eq_false, forall_const, true_implies, false_implies, Nat.add_zero, Nat.zero_add, Nat.le_refl, Nat.zero_le, List.set_cons_zero, List.set_cons_succ, List.set_nil, ↓reduceIte, Nat.reduceAdd, Nat.reduceSub, Nat.reduceEqDiff, Nat.reduceLeDiff, Int.reduceEq, Int.reduceNe, Int.reduceNeg, reduceCtorEq]
        exact hQ2 ⟨q, by omega, q0⟩ _ (h0.am (by omega)) ((mdF.rf N).us _ _ (by decide))
    · rw [if_neg q]
      simp only [bk139_0, bk139_4, bk139_9, bk139_10, bk139_19, bk139_25, bk139_30, bk139_33, bk139_43, bk139_47, U_iload_n, U_if_ne, U_bipush, U_goto, U_iconst, U_istore_n, U_aload_n, U_invokevirtual1, U_if_eq, U_ineg, U_icmp_lt, U_icmp_le, U_ireturn, U_getfield, U_invokevirtual0, U_sipush, U_invokevirtual2, UN_cc, UN_cn, UN_nc, UN_nn, UJ, lget, lset, lset2, entL, wsm, wcat, Option.toList_some, Option.toList_none, List.cons_append, List.nil_append, List.mem_cons, List.not_mem_nil, Prod.mk.injEq, or_false, false_or, or_true, true_or, and_true, true_and, and_false, false_and, and_self, ne_eq, not_false_eq_true, not_true_eq_false, forall_const, true_implies, false_implies, Nat.add_zero, Nat.zero_add, Nat.le_refl, Nat.zero_le, List.set_cons_zero, List.set_cons_succ, List.set_nil, ↓reduceIte, Nat.reduceAdd, Nat.reduceSub, Nat.reduceEqDiff, Nat.reduceLeDiff, Int.reduceEq, Int.reduceNe, Int.reduceNeg, reduceCtorEq]
      have := hQ1 (fun k => q k.1)
      rw [if_pos (Or.inl q)] at this
      exact ⟨r3 (by omega), this⟩
  refine WP.run [(139, 10)] [] 60 ?_
  simp only [bk139_0, bk139_4, bk139_9, bk139_10, bk139_19, bk139_25, bk139_30, bk139_33, bk139_43, bk139_47, U_iload_n, U_if_ne, U_bipush, U_goto, U_iconst, U_istore_n, U_aload_n, U_invokevirtual1, U_if_eq, U_ineg, U_icmp_lt, U_icmp_le, U_ireturn, U_getfield, U_invokevirtual0, U_sipush, U_invokevirtual2, UN_cc, UN_cn, UN_nc, UN_nn, UJ, lget, lset, lset2, entL, wsm, wcat, Option.toList_some, Option.toList_none, List.cons_append, List.nil_append, List.mem_cons, List.not_mem_nil, Prod.mk.injEq, or_false, false_or, or_true, true_or, and_true, true_and, and_false, false_and, and_self, ne_eq, not_false_eq_true, not_true_eq_false, forall_const, true_implies, false_implies, Nat.add_zero, Nat.zero_add, Nat.le_refl, Nat.zero_le, List.set_cons_zero, List.set_cons_succ, List.set_nil, ↓reduceIte, Nat.reduceAdd, Nat.reduceSub, Nat.reduceEqDiff, Nat.reduceLeDiff, Int.reduceEq, Int.reduceNe, Int.reduceNeg, reduceCtorEq]
  refine ⟨hpt, fun e => key 30 (by rw [if_pos e]) (Or.inl rfl), fun e => key 4 (by rw [if_neg e]) (Or.inr rfl)⟩
noncomputable def oRoom {p : Int} {f : Pz p} {g : Nat} (ad : Gq f g → Gq f g → Gq f g) (z : Gq f g) (ng : Gq f g → Gq f g) (A : Nat → Int) (w : Int) : Int := if ¬ (0 ≤ w ∧ w ≤ 2) then -2 else if g = 0 then -3 else if w = 1 then isum A 27 else wid g (if w = 0 then isum A 27 else 2 * g - 2 - isum A 27) ((dg (amS ad z ng A (ptl f p.toNat).length).1.1 : Int) - 1)
set_option maxHeartbeats 8000000 in
theorem k_room {p : Int} {g : Nat} {f : Pz p} {pu : List Int} {rg : Nat → Pz p × Pz p} {A tl : Nat → Int} {E : Nat → Nat} {N : Mem} {Q : Post} {ad : Gq f g → Gq f g → Gq f g} {z : Gq f g} {ng : Gq f g → Gq f g} {w : Int} (h : CS g f pu rg A tl E N) (V : VS g f pu rg A tl E) (hG : g ≠ 0 → GG f g ad z ng) (hw : R32 w)
    (hQ : ∀ N', CS g f pu rg A tl E N' → mdF N N' → Q (some (0, oRoom ad z ng A w)) NN N') : CL 140 [(2, 1), (0, w), (9, 0), (9, 0)] NN N Q := by
  have h0 := h
  obtain ⟨⟨ρ, S, R⟩, hPu, hCr, -⟩ := h
  have hw' := hw
  obtain ⟨w1, w2⟩ := hw'
  have hA := V.ama h0
  have hT := isum_ab (F := A) (B := 30) (fun i => hA.rg i) 27
  unfold oRoom at hQ
  refine WP.run [] [] 90 ?_
  simp only [bk140_0, bk140_4, bk140_9, bk140_12, bk140_22, bk140_25, bk140_38, bk140_40, bk140_62, bk140_66, bk140_67, U_iload_n, U_if_lt, U_iconst, U_icmp_le, U_bipush, U_ireturn, U_aload_n, U_getfield, U_invokevirtual0, U_if_ne, U_istore_n, U_icmp_ne, U_imul, U_isub, U_goto, U_invokevirtual2, UN_cc, UN_cn, UN_nc, UN_nn, UJ, lget, lset, lset2, entL, wsm, wcat, Option.toList_some, Option.toList_none, List.cons_append, List.nil_append, List.mem_cons, List.not_mem_nil, Prod.mk.injEq, or_false, false_or, or_true, true_or, and_true, true_and, and_false, false_and, and_self, ne_eq, not_false_eq_true, not_true_eq_false, forall_const, true_implies, false_implies, Nat.add_zero, Nat.zero_add, Nat.le_refl, Nat.zero_le, List.set_cons_zero, List.set_cons_succ, List.set_nil, ↓reduceIte, Nat.reduceAdd, Nat.reduceSub, Nat.reduceEqDiff, Nat.reduceLeDiff, Int.reduceEq, Int.reduceNe, Int.reduceNeg, reduceCtorEq, kd1, kd21, z1_4 S.1.1]
  refine ⟨hw, fun e => ?_, fun e => ⟨rr (by omega), fun e2 => ?_, fun e2 => c_std hCr V.g2 ?_⟩⟩
  · rw [if_pos (by omega)] at hQ; exact hQ N h0 (mdF.rf N)
  · rw [if_pos (by omega)] at hQ; exact hQ N h0 (mdF.rf N)
  · rw [if_neg (show ¬ ¬ (0 ≤ w ∧ w ≤ 2) by omega)] at hQ
    by_cases q0 : g = 0
    · rw [if_pos q0] at hQ ⊢
      simp only [bk140_0, bk140_4, bk140_9, bk140_12, bk140_22, bk140_25, bk140_38, bk140_40, bk140_62, bk140_66, bk140_67, U_iload_n, U_if_lt, U_iconst, U_icmp_le, U_bipush, U_ireturn, U_aload_n, U_getfield, U_invokevirtual0, U_if_ne, U_istore_n, U_icmp_ne, U_imul, U_isub, U_goto, U_invokevirtual2, UN_cc, UN_cn, UN_nc, UN_nn, UJ, lget, lset, lset2, entL, wsm, wcat, Option.toList_some, Option.toList_none, List.cons_append, List.nil_append, List.mem_cons, List.not_mem_nil, Prod.mk.injEq, or_false, false_or, or_true, true_or, and_true, true_and, and_false, false_and, and_self, ne_eq, not_false_eq_true, not_true_eq_false, forall_const, true_implies, false_implies, Nat.add_zero, Nat.zero_add, Nat.le_refl, Nat.zero_le, List.set_cons_zero, List.set_cons_succ, List.set_nil, ↓reduceIte, Nat.reduceAdd, Nat.reduceSub, Nat.reduceEqDiff, Nat.reduceLeDiff, Int.reduceEq, Int.reduceNe, Int.reduceNeg, reduceCtorEq]
      exact ⟨r3 (by omega), hQ N h0 (mdF.rf N)⟩
    · rw [if_neg q0] at hQ ⊢
      have hc := (hCr.resolve_left (fun e => q0 e.1)).2
      have cv := V.cv q0
      have g2 := V.g2
      simp only [bk140_0, bk140_4, bk140_9, bk140_12, bk140_22, bk140_25, bk140_38, bk140_40, bk140_62, bk140_66, bk140_67, U_iload_n, U_if_lt, U_iconst, U_icmp_le, U_bipush, U_ireturn, U_aload_n, U_getfield, U_invokevirtual0, U_if_ne, U_istore_n, U_icmp_ne, U_imul, U_isub, U_goto, U_invokevirtual2, UN_cc, UN_cn, UN_nc, UN_nn, UJ, lget, lset, lset2, entL, wsm, wcat, Option.toList_some, Option.toList_none, List.cons_append, List.nil_append, List.mem_cons, List.not_mem_nil, Prod.mk.injEq, or_false, false_or, or_true, true_or, and_true, true_and, and_false, false_and, and_self, ne_eq, not_false_eq_true, not_true_eq_false, forall_const, true_implies, false_implies, Nat.add_zero, Nat.zero_add, Nat.le_refl, Nat.zero_le, List.set_cons_zero, List.set_cons_succ, List.set_nil, ↓reduceIte, Nat.reduceAdd, Nat.reduceSub, Nat.reduceEqDiff, Nat.reduceLeDiff, Int.reduceEq, Int.reduceNe, Int.reduceNeg, reduceCtorEq, kd1, kd108, z1_9 S.1.1]
      refine ⟨r3 (by omega), c_roTotal S.1.1 hA ?_⟩
      have fin : ∀ t : Int, -2000 ≤ t ∧ t ≤ 2000 → (∀ N', CS g f pu rg A tl E N' → mdF N N' → Q (some (0, wid g t ((dg (amS ad z ng A (ptl f p.toNat).length).1.1 : Int) - 1))) NN N') → ∀ t' : Int, WP 140 (0, 0) 67 [(2, 1), (0, w), (0, isum A 27), (0, t')] [(0, t), (2, 108)] NN N Q := fun t ht hQ2 t' => by
        refine WP.run [] [] 60 ?_
        simp only [bk140_0, bk140_4, bk140_9, bk140_12, bk140_22, bk140_25, bk140_38, bk140_40, bk140_62, bk140_66, bk140_67, U_iload_n, U_if_lt, U_iconst, U_icmp_le, U_bipush, U_ireturn, U_aload_n, U_getfield, U_invokevirtual0, U_if_ne, U_istore_n, U_icmp_ne, U_imul, U_isub, U_goto, U_invokevirtual2, UN_cc, UN_cn, UN_nc, UN_nn, UJ, lget, lset, lset2, entL, wsm, wcat, Option.toList_some, Option.toList_none, List.cons_append, List.nil_append, List.mem_cons, List.not_mem_nil, Prod.mk.injEq, or_false, false_or, or_true, true_or, and_true, true_and, and_false, false_and, and_self, ne_eq, not_false_eq_true, not_true_eq_false, forall_const, true_implies, false_implies, Nat.add_zero, Nat.zero_add, Nat.le_refl, Nat.zero_le, List.set_cons_zero, List.set_cons_succ, List.set_nil, ↓reduceIte, Nat.reduceAdd, Nat.reduceSub, Nat.reduceEqDiff, Nat.reduceLeDiff, Int.reduceEq, Int.reduceNe, Int.reduceNeg, reduceCtorEq, kd1, kd108, z1_9 S.1.1]
        refine s_roClass (hG q0) S cv.2.2.1 (R.1 (by omega)) hc.1 hc.2.1 hA fun N1 ρ1 S1 F1 R1 => ?_
        have hd : dg (amS ad z ng A (ptl f p.toNat).length).1.1 ≤ g + 1 := (amS ad z ng A (ptl f p.toNat).length).2.2.1
        simp only [bk140_0, bk140_4, bk140_9, bk140_12, bk140_22, bk140_25, bk140_38, bk140_40, bk140_62, bk140_66, bk140_67, U_iload_n, U_if_lt, U_iconst, U_icmp_le, U_bipush, U_ireturn, U_aload_n, U_getfield, U_invokevirtual0, U_if_ne, U_istore_n, U_icmp_ne, U_imul, U_isub, U_goto, U_invokevirtual2, UN_cc, UN_cn, UN_nc, UN_nn, UJ, lget, lset, lset2, entL, wsm, wcat, Option.toList_some, Option.toList_none, List.cons_append, List.nil_append, List.mem_cons, List.not_mem_nil, Prod.mk.injEq, or_false, false_or, or_true, true_or, and_true, true_and, and_false, false_and, and_self, ne_eq, not_false_eq_true, not_true_eq_false, forall_const, true_implies, false_implies, Nat.add_zero, Nat.zero_add, Nat.le_refl, Nat.zero_le, List.set_cons_zero, List.set_cons_succ, List.set_nil, ↓reduceIte, Nat.reduceAdd, Nat.reduceSub, Nat.reduceEqDiff, Nat.reduceLeDiff, Int.reduceEq, Int.reduceNe, Int.reduceNeg, reduceCtorEq, kd108]
        refine c_width S1.1.1 (by rw [F1 21 (by decide)]; exact hc.1) g2 (by omega) (by omega) ?_
        simp only [bk140_0, bk140_4, bk140_9, bk140_12, bk140_22, bk140_25, bk140_38, bk140_40, bk140_62, bk140_66, bk140_67, U_iload_n, U_if_lt, U_iconst, U_icmp_le, U_bipush, U_ireturn, U_aload_n, U_getfield, U_invokevirtual0, U_if_ne, U_istore_n, U_icmp_ne, U_imul, U_isub, U_goto, U_invokevirtual2, UN_cc, UN_cn, UN_nc, UN_nn, UJ, lget, lset, lset2, entL, wsm, wcat, Option.toList_some, Option.toList_none, List.cons_append, List.nil_append, List.mem_cons, List.not_mem_nil, Prod.mk.injEq, or_false, false_or, or_true, true_or, and_true, true_and, and_false, false_and, and_self, ne_eq, not_false_eq_true, not_true_eq_false, forall_const, true_implies, false_implies, Nat.add_zero, Nat.zero_add, Nat.le_refl, Nat.zero_le, List.set_cons_zero, List.set_cons_succ, List.set_nil, ↓reduceIte, Nat.reduceAdd, Nat.reduceSub, Nat.reduceEqDiff, Nat.reduceLeDiff, Int.reduceEq, Int.reduceNe, Int.reduceNeg, reduceCtorEq]
        exact hQ2 N1 (h0.st S1 (R.kp (fun y hy => R1 y (by unfold scr tmp; omega) (by omega) (by omega) (by omega) (by omega))) F1.cs) F1.md
      refine WP.run [] [] 60 ?_
      sorry
