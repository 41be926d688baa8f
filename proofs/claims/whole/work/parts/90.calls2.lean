/-! CALLS OF THE CLASS: classes, rooms -/
def upr {X : Type} (rg : Nat → X) (r : Nat) (x : X) : Nat → X := fun k => if k = r then x else rg k
/-- register r as a class -/
noncomputable def rx {p : Int} {f : Pz p} {g : Nat} (z : Gq f g) (rg : Nat → Pz p × Pz p) (r : Nat) : Gq f g := @dite _ (pRed f g (rg r)) (Classical.propDecidable _) (fun h => ⟨rg r, h⟩) (fun _ => z)
theorem rx_is {p : Int} {f : Pz p} {g : Nat} {z : Gq f g} {rg : Nat → Pz p × Pz p} {r : Nat} (h : pRed f g (rg r)) : (rx z rg r).1 = rg r := by
  have e : rx z rg r = ⟨rg r, h⟩ := by unfold rx; exact dif_pos h
  rw [e]
theorem RgA.up {p : Int} {ρ ρ' : Int → Option (Pz p)} {g : Nat} {f : Pz p} {rg : Nat → Pz p × Pz p} (R : RgA ρ g f rg) {N : Mem} (hz : Fz N) {r : Nat} (hr : r < 6) {x : Pz p × Pz p} (hx : PH ρ' (58 + 5 * (r : Int)) x) (hk : ∀ q, q = 22 ∨ (59 ≤ q ∧ q ≤ 86) → q ≠ 58 + 5 * (r : Int) + 1 → q ≠ 58 + 5 * (r : Int) + 3 → ρ' q = ρ q) : RgA ρ' g f (upr rg r x) := by
  refine ⟨fun h0 => (hk 22 (Or.inl rfl) (by omega) (by omega)).trans (R.1 h0), fun k hk6 => ?_⟩
  unfold upr
  by_cases e : k = r
  · subst e; rw [if_pos rfl]; exact hx
  · rw [if_neg e]
    have := R.2 k hk6
    exact ⟨(hk _ (Or.inr (by omega)) (by omega) (by omega)).trans this.1, (hk _ (Or.inr (by omega)) (by omega) (by omega)).trans this.2⟩
theorem RgA.kp {p : Int} {ρ ρ' : Int → Option (Pz p)} {g : Nat} {f : Pz p} {rg : Nat → Pz p × Pz p} (R : RgA ρ g f rg) (hk : ∀ q, q = 22 ∨ (59 ≤ q ∧ q ≤ 86) → ρ' q = ρ q) : RgA ρ' g f rg := by
  refine ⟨fun h0 => (hk 22 (Or.inl rfl)).trans (R.1 h0), fun k hk6 => ?_⟩
  have := R.2 k hk6
  exact ⟨(hk _ (Or.inr (by omega))).trans this.1, (hk _ (Or.inr (by omega))).trans this.2⟩
/-- the pair of point i, the end's for 0 -/
noncomputable def prP {p : Int} (f : Pz p) (i : Nat) : Pz p × Pz p := if i = 0 then (pC p 1, pC p 0) else pcl p (ptAt f i)
theorem ptI_is {p : Int} (hp : Pr p) {f : Pz p} {g : Nat} (hg : 1 ≤ g) {ad : Gq f g → Gq f g → Gq f g} {z : Gq f g} {ng : Gq f g → Gq f g} (hG : GG f g ad z ng) {i : Nat} (hi : i ≤ (ptl f p.toNat).length) : (ptI z i).1 = prP f i := by
  unfold prP
  cases i with
  | zero => rw [if_pos rfl]; exact hG.2.2.1
  | succ i =>
    rw [if_neg (by omega)]
    have hpt := ptAt_is f (i := i + 1) (by omega) hi
    rw [Nat.add_sub_cancel] at hpt
    show (match (ptl f p.toNat)[i]? with | none => z | some q => ptG z q).1 = _
    rw [hpt]
    exact ptG_is hp hg z (List.mem_of_getElem? hpt)
noncomputable def oAt {p : Int} (g : Nat) (f : Pz p) (r pt : Int) : Int := if ¬ (0 ≤ r ∧ r < 6) ∨ ¬ (0 ≤ pt ∧ pt < nPt g f) then -2 else if g = 0 then -3 else 1
set_option maxHeartbeats 8000000 in
theorem k_at {p : Int} {g : Nat} {f : Pz p} {pu : List Int} {rg : Nat → Pz p × Pz p} {A tl : Nat → Int} {E : Nat → Nat} {N : Mem} {Q : Post} {ad : Gq f g → Gq f g → Gq f g} {z : Gq f g} {ng : Gq f g → Gq f g} {r pt : Int} (h : CS g f pu rg A tl E N) (V : VS g f pu rg A tl E) (hG : g ≠ 0 → GG f g ad z ng) (hr : R32 r) (hpt : R32 pt)
    (hQ : ∀ N' rg', CS g f pu rg' A tl E N' → mdF N N' → rg' = (if oAt g f r pt = 1 then upr rg r.toNat (prP f pt.toNat) else rg) → Q (some (0, oAt g f r pt)) NN N') : CL 130 [(2, 1), (0, r), (0, pt)] NN N Q := by
  have h0 := h
  obtain ⟨⟨ρ, S, R⟩, hPu, hCr, -⟩ := h
  unfold oAt at hQ
  refine WP.run [] [] 90 ?_
  simp only [bk130_0, bk130_7, bk130_15, bk130_18, bk130_28, bk130_31, U_iload_n, U_invokestatic1, U_if_eq, U_aload_n, U_invokevirtual1, U_if_ne, U_bipush, U_ireturn, U_getfield, U_invokevirtual0, U_aald, U_invokevirtual2, U_iconst, UN_cc, UN_cn, UN_nc, UN_nn, UJ, lget, lset, lset2, entL, wsm, wcat, Option.toList_some, Option.toList_none, List.cons_append, List.nil_append, List.mem_cons, List.not_mem_nil, Prod.mk.injEq, or_false, false_or, or_true, true_or, and_true, true_and, and_false, false_and, and_self, ne_eq, not_false_eq_true, not_true_eq_false, forall_const, true_implies, false_implies, Nat.add_zero, Nat.zero_add, Nat.le_refl, Nat.zero_le, List.set_cons_zero, List.set_cons_succ, List.set_nil, ↓reduceIte, Nat.reduceAdd, Nat.reduceSub, Nat.reduceEqDiff, Nat.reduceLeDiff, Int.reduceEq, Int.reduceNe, Int.reduceNeg, reduceCtorEq, kd1]
  refine c_isReg hr ?_
  by_cases q : 0 ≤ r ∧ r < 6
  · rw [if_pos q]
    simp only [bk130_0, bk130_7, bk130_15, bk130_18, bk130_28, bk130_31, U_iload_n, U_invokestatic1, U_if_eq, U_aload_n, U_invokevirtual1, U_if_ne, U_bipush, U_ireturn, U_getfield, U_invokevirtual0, U_aald, U_invokevirtual2, U_iconst, UN_cc, UN_cn, UN_nc, UN_nn, UJ, lget, lset, lset2, entL, wsm, wcat, Option.toList_some, Option.toList_none, List.cons_append, List.nil_append, List.mem_cons, List.not_mem_nil, Prod.mk.injEq, or_false, false_or, or_true, true_or, and_true, true_and, and_false, false_and, and_self, ne_eq, not_false_eq_true, not_true_eq_false, forall_const, true_implies, false_implies, Nat.add_zero, Nat.zero_add, Nat.le_refl, Nat.zero_le, List.set_cons_zero, List.set_cons_succ, List.set_nil, ↓reduceIte, Nat.reduceAdd, Nat.reduceSub, Nat.reduceEqDiff, Nat.reduceLeDiff, Int.reduceEq, Int.reduceNe, Int.reduceNeg, reduceCtorEq, kd1]
    refine ⟨r3 (by omega), c_isPt S.1.1 V.1 hCr V.g2 hpt ?_⟩
    by_cases q1 : 0 ≤ pt ∧ pt < nPt g f
    · rw [if_neg (show ¬ (¬ (0 ≤ r ∧ r < 6) ∨ ¬ (0 ≤ pt ∧ pt < nPt g f)) by omega)] at hQ
      rw [if_pos q1]
      simp only [bk130_0, bk130_7, bk130_15, bk130_18, bk130_28, bk130_31, U_iload_n, U_invokestatic1, U_if_eq, U_aload_n, U_invokevirtual1, U_if_ne, U_bipush, U_ireturn, U_getfield, U_invokevirtual0, U_aald, U_invokevirtual2, U_iconst, UN_cc, UN_cn, UN_nc, UN_nn, UJ, lget, lset, lset2, entL, wsm, wcat, Option.toList_some, Option.toList_none, List.cons_append, List.nil_append, List.mem_cons, List.not_mem_nil, Prod.mk.injEq, or_false, false_or, or_true, true_or, and_true, true_and, and_false, false_and, and_self, ne_eq, not_false_eq_true, not_true_eq_false, forall_const, true_implies, false_implies, Nat.add_zero, Nat.zero_add, Nat.le_refl, Nat.zero_le, List.set_cons_zero, List.set_cons_succ, List.set_nil, ↓reduceIte, Nat.reduceAdd, Nat.reduceSub, Nat.reduceEqDiff, Nat.reduceLeDiff, Int.reduceEq, Int.reduceNe, Int.reduceNeg, reduceCtorEq, kd1, kd21, z1_4 S.1.1]
      refine ⟨r3 (by omega), c_std hCr V.g2 ?_⟩
      by_cases q0 : g = 0
      · rw [if_pos q0] at hQ ⊢
        simp only [bk130_0, bk130_7, bk130_15, bk130_18, bk130_28, bk130_31, U_iload_n, U_invokestatic1, U_if_eq, U_aload_n, U_invokevirtual1, U_if_ne, U_bipush, U_ireturn, U_getfield, U_invokevirtual0, U_aald, U_invokevirtual2, U_iconst, UN_cc, UN_cn, UN_nc, UN_nn, UJ, lget, lset, lset2, entL, wsm, wcat, Option.toList_some, Option.toList_none, List.cons_append, List.nil_append, List.mem_cons, List.not_mem_nil, Prod.mk.injEq, or_false, false_or, or_true, true_or, and_true, true_and, and_false, false_and, and_self, ne_eq, not_false_eq_true, not_true_eq_false, forall_const, true_implies, false_implies, Nat.add_zero, Nat.zero_add, Nat.le_refl, Nat.zero_le, List.set_cons_zero, List.set_cons_succ, List.set_nil, ↓reduceIte, Nat.reduceAdd, Nat.reduceSub, Nat.reduceEqDiff, Nat.reduceLeDiff, Int.reduceEq, Int.reduceNe, Int.reduceNeg, reduceCtorEq]
        exact ⟨r3 (by omega), hQ N rg h0 (mdF.rf N) (by rw [if_neg (by decide)])⟩
      · rw [if_neg q0] at hQ ⊢
        have hc := (hCr.resolve_left (fun e => q0 e.1)).2
        obtain ⟨n, rfl⟩ : ∃ n : Nat, r = n := ⟨r.toNat, by omega⟩
        obtain ⟨m, rfl⟩ : ∃ m : Nat, pt = m := ⟨pt.toNat, by omega⟩
        have hm : m ≤ (ptl f p.toNat).length := by
          have := q1.2
          unfold nPt at this
          rw [if_neg q0] at this
          omega
        have kR := kdR q.1 q.2
        have z57' := z57 S.1.1 (n : Int) q.1 q.2
        have n0 : ¬ (58 + 5 * (n : Int) = 0) := by omega
        simp only [bk130_0, bk130_7, bk130_15, bk130_18, bk130_28, bk130_31, U_iload_n, U_invokestatic1, U_if_eq, U_aload_n, U_invokevirtual1, U_if_ne, U_bipush, U_ireturn, U_getfield, U_invokevirtual0, U_aald, U_invokevirtual2, U_iconst, UN_cc, UN_cn, UN_nc, UN_nn, UJ, lget, lset, lset2, entL, wsm, wcat, Option.toList_some, Option.toList_none, List.cons_append, List.nil_append, List.mem_cons, List.not_mem_nil, Prod.mk.injEq, or_false, false_or, or_true, true_or, and_true, true_and, and_false, false_and, and_self, ne_eq, not_false_eq_true, not_true_eq_false, forall_const, true_implies, false_implies, Nat.add_zero, Nat.zero_add, Nat.le_refl, Nat.zero_le, List.set_cons_zero, List.set_cons_succ, List.set_nil, ↓reduceIte, Nat.reduceAdd, Nat.reduceSub, Nat.reduceEqDiff, Nat.reduceLeDiff, Int.reduceEq, Int.reduceNe, Int.reduceNeg, reduceCtorEq, kd1, kd32, kd57, ln57, z1_5 S.1.1, z1_6 S.1.1, z57', n0]
        refine ⟨r3 (by omega), q.1, q.2, s_takeI (hG q0) S (V.cv q0).2.2.1 kR hc.2.1 m hm fun N1 S1 F1 => ?_⟩
        simp only [bk130_0, bk130_7, bk130_15, bk130_18, bk130_28, bk130_31, U_iload_n, U_invokestatic1, U_if_eq, U_aload_n, U_invokevirtual1, U_if_ne, U_bipush, U_ireturn, U_getfield, U_invokevirtual0, U_aald, U_invokevirtual2, U_iconst, UN_cc, UN_cn, UN_nc, UN_nn, UJ, lget, lset, lset2, entL, wsm, wcat, Option.toList_some, Option.toList_none, List.cons_append, List.nil_append, List.mem_cons, List.not_mem_nil, Prod.mk.injEq, or_false, false_or, or_true, true_or, and_true, true_and, and_false, false_and, and_self, ne_eq, not_false_eq_true, not_true_eq_false, forall_const, true_implies, false_implies, Nat.add_zero, Nat.zero_add, Nat.le_refl, Nat.zero_le, List.set_cons_zero, List.set_cons_succ, List.set_nil, ↓reduceIte, Nat.reduceAdd, Nat.reduceSub, Nat.reduceEqDiff, Nat.reduceLeDiff, Int.reduceEq, Int.reduceNe, Int.reduceNeg, reduceCtorEq]
        rw [ptI_is V.1 (by omega) (hG q0) hm] at S1
        refine hQ N1 _ (h0.st S1 (R.up S.1.1 (by omega) ⟨by rw [upq_n (by omega)]; exact upq_e _ _ _, upq_e _ _ _⟩ (fun y _ y1 y2 => by rw [upq_n y2, upq_n y1])) F1.cs) F1.md ?_
        rw [if_pos rfl]; rfl
    · rw [if_pos (Or.inr q1)] at hQ
      rw [if_neg q1]
      simp only [bk130_0, bk130_7, bk130_15, bk130_18, bk130_28, bk130_31, U_iload_n, U_invokestatic1, U_if_eq, U_aload_n, U_invokevirtual1, U_if_ne, U_bipush, U_ireturn, U_getfield, U_invokevirtual0, U_aald, U_invokevirtual2, U_iconst, UN_cc, UN_cn, UN_nc, UN_nn, UJ, lget, lset, lset2, entL, wsm, wcat, Option.toList_some, Option.toList_none, List.cons_append, List.nil_append, List.mem_cons, List.not_mem_nil, Prod.mk.injEq, or_false, false_or, or_true, true_or, and_true, true_and, and_false, false_and, and_self, ne_eq, not_false_eq_true, not_true_eq_false, forall_const, true_implies, false_implies, Nat.add_zero, Nat.zero_add, Nat.le_refl, Nat.zero_le, List.set_cons_zero, List.set_cons_succ, List.set_nil, ↓reduceIte, Nat.reduceAdd, Nat.reduceSub, Nat.reduceEqDiff, Nat.reduceLeDiff, Int.reduceEq, Int.reduceNe, Int.reduceNeg, reduceCtorEq]
      exact ⟨r3 (by omega), hQ N rg h0 (mdF.rf N) (by rw [if_neg (by decide)])⟩
  · rw [if_pos (Or.inl q)] at hQ
    rw [if_neg q]
    simp only [bk130_0, bk130_7, bk130_15, bk130_18, bk130_28, bk130_31, U_iload_n, U_invokestatic1, U_if_eq, U_aload_n, U_invokevirtual1, U_if_ne, U_bipush, U_ireturn, U_getfield, U_invokevirtual0, U_aald, U_invokevirtual2, U_iconst, UN_cc, UN_cn, UN_nc, UN_nn, UJ, lget, lset, lset2, entL, wsm, wcat, Option.toList_some, Option.toList_none, List.cons_append, List.nil_append, List.mem_cons, List.not_mem_nil, Prod.mk.injEq, or_false, false_or, or_true, true_or, and_true, true_and, and_false, false_and, and_self, ne_eq, not_false_eq_true, not_true_eq_false, forall_const, true_implies, false_implies, Nat.add_zero, Nat.zero_add, Nat.le_refl, Nat.zero_le, List.set_cons_zero, List.set_cons_succ, List.set_nil, ↓reduceIte, Nat.reduceAdd, Nat.reduceSub, Nat.reduceEqDiff, Nat.reduceLeDiff, Int.reduceEq, Int.reduceNe, Int.reduceNeg, reduceCtorEq]
    exact ⟨r3 (by omega), hQ N rg h0 (mdF.rf N) (by rw [if_neg (by decide)])⟩
def oReg (g : Nat) (r : Int) (x : Int) : Int := if ¬ (0 ≤ r ∧ r < 6) then -2 else if g = 0 then -3 else x
def oSum (g : Nat) (r a b : Int) : Int := if ¬ (0 ≤ r ∧ r < 6) ∨ ¬ (0 ≤ a ∧ a < 6) ∨ ¬ (0 ≤ b ∧ b < 6) then -2 else if g = 0 then -3 else 1
set_option maxHeartbeats 8000000 in
theorem k_sum {p : Int} {g : Nat} {f : Pz p} {pu : List Int} {rg : Nat → Pz p × Pz p} {A tl : Nat → Int} {E : Nat → Nat} {N : Mem} {Q : Post} {ad : Gq f g → Gq f g → Gq f g} {z : Gq f g} {ng : Gq f g → Gq f g} {r a b : Int} (h : CS g f pu rg A tl E N) (V : VS g f pu rg A tl E) (hG : g ≠ 0 → GG f g ad z ng) (hr : R32 r) (ha : R32 a) (hb : R32 b)
    (hQ : ∀ N' rg', CS g f pu rg' A tl E N' → mdF N N' → rg' = (if oSum g r a b = 1 then upr rg r.toNat (ad (rx z rg a.toNat) (rx z rg b.toNat)).1 else rg) → Q (some (0, oSum g r a b)) NN N') : CL 132 [(2, 1), (0, r), (0, a), (0, b)] NN N Q := by
  have h0 := h
  obtain ⟨⟨ρ, S, R⟩, hPu, hCr, -⟩ := h
  unfold oSum at hQ
  have bad : (¬ (0 ≤ r ∧ r < 6) ∨ ¬ (0 ≤ a ∧ a < 6) ∨ ¬ (0 ≤ b ∧ b < 6)) → Q (some (0, -2)) NN N := fun e => by
    rw [if_pos e] at hQ
    exact hQ N rg h0 (mdF.rf N) (by rw [if_neg (by decide)])
  refine WP.run [] [] 90 ?_
  simp only [bk132_0, bk132_7, bk132_14, bk132_21, bk132_24, bk132_34, bk132_37, U_iload_n, U_invokestatic1, U_if_eq, U_if_ne, U_bipush, U_ireturn, U_aload_n, U_getfield, U_invokevirtual0, U_aald, U_invokevirtual3, U_iconst, UN_cc, UN_cn, UN_nc, UN_nn, UJ, lget, lset, lset2, entL, wsm, wcat, Option.toList_some, Option.toList_none, List.cons_append, List.nil_append, List.mem_cons, List.not_mem_nil, Prod.mk.injEq, or_false, false_or, or_true, true_or, and_true, true_and, and_false, false_and, and_self, ne_eq, not_false_eq_true, not_true_eq_false, forall_const, true_implies, false_implies, Nat.add_zero, Nat.zero_add, Nat.le_refl, Nat.zero_le, List.set_cons_zero, List.set_cons_succ, List.set_nil, ↓reduceIte, Nat.reduceAdd, Nat.reduceSub, Nat.reduceEqDiff, Nat.reduceLeDiff, Int.reduceEq, Int.reduceNe, Int.reduceNeg, reduceCtorEq, kd1]
  refine c_isReg hr ?_
  by_cases q : 0 ≤ r ∧ r < 6
  · rw [if_pos q]
    simp only [bk132_0, bk132_7, bk132_14, bk132_21, bk132_24, bk132_34, bk132_37, U_iload_n, U_invokestatic1, U_if_eq, U_if_ne, U_bipush, U_ireturn, U_aload_n, U_getfield, U_invokevirtual0, U_aald, U_invokevirtual3, U_iconst, UN_cc, UN_cn, UN_nc, UN_nn, UJ, lget, lset, lset2, entL, wsm, wcat, Option.toList_some, Option.toList_none, List.cons_append, List.nil_append, List.mem_cons, List.not_mem_nil, Prod.mk.injEq, or_false, false_or, or_true, true_or, and_true, true_and, and_false, false_and, and_self, ne_eq, not_false_eq_true, not_true_eq_false, forall_const, true_implies, false_implies, Nat.add_zero, Nat.zero_add, Nat.le_refl, Nat.zero_le, List.set_cons_zero, List.set_cons_succ, List.set_nil, ↓reduceIte, Nat.reduceAdd, Nat.reduceSub, Nat.reduceEqDiff, Nat.reduceLeDiff, Int.reduceEq, Int.reduceNe, Int.reduceNeg, reduceCtorEq, kd1]
    refine ⟨r3 (by omega), c_isReg ha ?_⟩
    by_cases q1 : 0 ≤ a ∧ a < 6
    · rw [if_pos q1]
      simp only [bk132_0, bk132_7, bk132_14, bk132_21, bk132_24, bk132_34, bk132_37, U_iload_n, U_invokestatic1, U_if_eq, U_if_ne, U_bipush, U_ireturn, U_aload_n, U_getfield, U_invokevirtual0, U_aald, U_invokevirtual3, U_iconst, UN_cc, UN_cn, UN_nc, UN_nn, UJ, lget, lset, lset2, entL, wsm, wcat, Option.toList_some, Option.toList_none, List.cons_append, List.nil_append, List.mem_cons, List.not_mem_nil, Prod.mk.injEq, or_false, false_or, or_true, true_or, and_true, true_and, and_false, false_and, and_self, ne_eq, not_false_eq_true, not_true_eq_false, forall_const, true_implies, false_implies, Nat.add_zero, Nat.zero_add, Nat.le_refl, Nat.zero_le, List.set_cons_zero, List.set_cons_succ, List.set_nil, ↓reduceIte, Nat.reduceAdd, Nat.reduceSub, Nat.reduceEqDiff, Nat.reduceLeDiff, Int.reduceEq, Int.reduceNe, Int.reduceNeg, reduceCtorEq, kd1]
      refine ⟨r3 (by omega), c_isReg hb ?_⟩
      by_cases q2 : 0 ≤ b ∧ b < 6
      · rw [if_pos q2]
        rw [if_neg (show ¬ (¬ (0 ≤ r ∧ r < 6) ∨ ¬ (0 ≤ a ∧ a < 6) ∨ ¬ (0 ≤ b ∧ b < 6)) by omega)] at hQ
        simp only [bk132_0, bk132_7, bk132_14, bk132_21, bk132_24, bk132_34, bk132_37, U_iload_n, U_invokestatic1, U_if_eq, U_if_ne, U_bipush, U_ireturn, U_aload_n, U_getfield, U_invokevirtual0, U_aald, U_invokevirtual3, U_iconst, UN_cc, UN_cn, UN_nc, UN_nn, UJ, lget, lset, lset2, entL, wsm, wcat, Option.toList_some, Option.toList_none, List.cons_append, List.nil_append, List.mem_cons, List.not_mem_nil, Prod.mk.injEq, or_false, false_or, or_true, true_or, and_true, true_and, and_false, false_and, and_self, ne_eq, not_false_eq_true, not_true_eq_false, forall_const, true_implies, false_implies, Nat.add_zero, Nat.zero_add, Nat.le_refl, Nat.zero_le, List.set_cons_zero, List.set_cons_succ, List.set_nil, ↓reduceIte, Nat.reduceAdd, Nat.reduceSub, Nat.reduceEqDiff, Nat.reduceLeDiff, Int.reduceEq, Int.reduceNe, Int.reduceNeg, reduceCtorEq, kd1, kd21, z1_4 S.1.1]
        refine ⟨r3 (by omega), c_std hCr V.g2 ?_⟩
        by_cases q0 : g = 0
        · rw [if_pos q0] at hQ ⊢
          simp only [bk132_0, bk132_7, bk132_14, bk132_21, bk132_24, bk132_34, bk132_37, U_iload_n, U_invokestatic1, U_if_eq, U_if_ne, U_bipush, U_ireturn, U_aload_n, U_getfield, U_invokevirtual0, U_aald, U_invokevirtual3, U_iconst, UN_cc, UN_cn, UN_nc, UN_nn, UJ, lget, lset, lset2, entL, wsm, wcat, Option.toList_some, Option.toList_none, List.cons_append, List.nil_append, List.mem_cons, List.not_mem_nil, Prod.mk.injEq, or_false, false_or, or_true, true_or, and_true, true_and, and_false, false_and, and_self, ne_eq, not_false_eq_true, not_true_eq_false, forall_const, true_implies, false_implies, Nat.add_zero, Nat.zero_add, Nat.le_refl, Nat.zero_le, List.set_cons_zero, List.set_cons_succ, List.set_nil, ↓reduceIte, Nat.reduceAdd, Nat.reduceSub, Nat.reduceEqDiff, Nat.reduceLeDiff, Int.reduceEq, Int.reduceNe, Int.reduceNeg, reduceCtorEq]
          exact ⟨r3 (by omega), hQ N rg h0 (mdF.rf N) (by rw [if_neg (by decide)])⟩
        · rw [if_neg q0] at hQ ⊢
          have hc := (hCr.resolve_left (fun e => q0 e.1)).2
          have cv := V.cv q0
          obtain ⟨n, rfl⟩ : ∃ n : Nat, r = n := ⟨r.toNat, by omega⟩
          obtain ⟨m, rfl⟩ : ∃ m : Nat, a = m := ⟨a.toNat, by omega⟩
          obtain ⟨l, rfl⟩ : ∃ l : Nat, b = l := ⟨b.toNat, by omega⟩
          have z1 := z57 S.1.1 (n : Int) q.1 q.2
          have z2 := z57 S.1.1 (m : Int) q1.1 q1.2
          have z3 := z57 S.1.1 (l : Int) q2.1 q2.2
          have n1 : ¬ (58 + 5 * (n : Int) = 0) := by omega
          have n2 : ¬ (58 + 5 * (m : Int) = 0) := by omega
          have n3 : ¬ (58 + 5 * (l : Int) = 0) := by omega
          have p2 := R.2 m (by omega)
          have p3 := R.2 l (by omega)
          rw [← rx_is (z := z) (cv.2.2.2.1 m)] at p2
          rw [← rx_is (z := z) (cv.2.2.2.1 l)] at p3
          simp only [bk132_0, bk132_7, bk132_14, bk132_21, bk132_24, bk132_34, bk132_37, U_iload_n, U_invokestatic1, U_if_eq, U_if_ne, U_bipush, U_ireturn, U_aload_n, U_getfield, U_invokevirtual0, U_aald, U_invokevirtual3, U_iconst, UN_cc, UN_cn, UN_nc, UN_nn, UJ, lget, lset, lset2, entL, wsm, wcat, Option.toList_some, Option.toList_none, List.cons_append, List.nil_append, List.mem_cons, List.not_mem_nil, Prod.mk.injEq, or_false, false_or, or_true, true_or, and_true, true_and, and_false, false_and, and_self, ne_eq, not_false_eq_true, not_true_eq_false, forall_const, true_implies, false_implies, Nat.add_zero, Nat.zero_add, Nat.le_refl, Nat.zero_le, List.set_cons_zero, List.set_cons_succ, List.set_nil, ↓reduceIte, Nat.reduceAdd, Nat.reduceSub, Nat.reduceEqDiff, Nat.reduceLeDiff, Int.reduceEq, Int.reduceNe, Int.reduceNeg, reduceCtorEq, kd1, kd32, kd57, ln57, z1_5 S.1.1, z1_6 S.1.1, z1, z2, z3, n1, n2, n3]
          refine ⟨r3 (by omega), q.1, q.2, q1.1, q1.2, q2.1, q2.2, ?_⟩
          refine s_addG (hG q0) S cv.2.2.1 (R.1 (by omega)) hc.1 (kdR q.1 q.2) (kdR q1.1 q1.2) (kdR q2.1 q2.2) p2 p3 fun N1 ρ1 S1 F1 P1 R1 => ?_
          simp only [bk132_0, bk132_7, bk132_14, bk132_21, bk132_24, bk132_34, bk132_37, U_iload_n, U_invokestatic1, U_if_eq, U_if_ne, U_bipush, U_ireturn, U_aload_n, U_getfield, U_invokevirtual0, U_aald, U_invokevirtual3, U_iconst, UN_cc, UN_cn, UN_nc, UN_nn, UJ, lget, lset, lset2, entL, wsm, wcat, Option.toList_some, Option.toList_none, List.cons_append, List.nil_append, List.mem_cons, List.not_mem_nil, Prod.mk.injEq, or_false, false_or, or_true, true_or, and_true, true_and, and_false, false_and, and_self, ne_eq, not_false_eq_true, not_true_eq_false, forall_const, true_implies, false_implies, Nat.add_zero, Nat.zero_add, Nat.le_refl, Nat.zero_le, List.set_cons_zero, List.set_cons_succ, List.set_nil, ↓reduceIte, Nat.reduceAdd, Nat.reduceSub, Nat.reduceEqDiff, Nat.reduceLeDiff, Int.reduceEq, Int.reduceNe, Int.reduceNeg, reduceCtorEq]
          refine hQ N1 _ (h0.st S1 (R.up S.1.1 (by omega) P1 (fun y y0 y1 y2 => R1 y (by unfold scr tmp; omega) y1 y2)) F1.cs) F1.md ?_
          rw [if_pos rfl]; rfl
      · rw [if_neg q2]
        simp only [bk132_0, bk132_7, bk132_14, bk132_21, bk132_24, bk132_34, bk132_37, U_iload_n, U_invokestatic1, U_if_eq, U_if_ne, U_bipush, U_ireturn, U_aload_n, U_getfield, U_invokevirtual0, U_aald, U_invokevirtual3, U_iconst, UN_cc, UN_cn, UN_nc, UN_nn, UJ, lget, lset, lset2, entL, wsm, wcat, Option.toList_some, Option.toList_none, List.cons_append, List.nil_append, List.mem_cons, List.not_mem_nil, Prod.mk.injEq, or_false, false_or, or_true, true_or, and_true, true_and, and_false, false_and, and_self, ne_eq, not_false_eq_true, not_true_eq_false, forall_const, true_implies, false_implies, Nat.add_zero, Nat.zero_add, Nat.le_refl, Nat.zero_le, List.set_cons_zero, List.set_cons_succ, List.set_nil, ↓reduceIte, Nat.reduceAdd, Nat.reduceSub, Nat.reduceEqDiff, Nat.reduceLeDiff, Int.reduceEq, Int.reduceNe, Int.reduceNeg, reduceCtorEq]
        exact ⟨r3 (by omega), bad (Or.inr (Or.inr q2))⟩
    · rw [if_neg q1]
      simp only [bk132_0, bk132_7, bk132_14, bk132_21, bk132_24, bk132_34, bk132_37, U_iload_n, U_invokestatic1, U_if_eq, U_if_ne, U_bipush, U_ireturn, U_aload_n, U_getfield, U_invokevirtual0, U_aald, U_invokevirtual3, U_iconst, UN_cc, UN_cn, UN_nc, UN_nn, UJ, lget, lset, lset2, entL, wsm, wcat, Option.toList_some, Option.toList_none, List.cons_append, List.nil_append, List.mem_cons, List.not_mem_nil, Prod.mk.injEq, or_false, false_or, or_true, true_or, and_true, true_and, and_false, false_and, and_self, ne_eq, not_false_eq_true, not_true_eq_false, forall_const, true_implies, false_implies, Nat.add_zero, Nat.zero_add, Nat.le_refl, Nat.zero_le, List.set_cons_zero, List.set_cons_succ, List.set_nil, ↓reduceIte, Nat.reduceAdd, Nat.reduceSub, Nat.reduceEqDiff, Nat.reduceLeDiff, Int.reduceEq, Int.reduceNe, Int.reduceNeg, reduceCtorEq]
      exact ⟨r3 (by omega), bad (Or.inr (Or.inl q1))⟩
  · rw [if_neg q]
    simp only [bk132_0, bk132_7, bk132_14, bk132_21, bk132_24, bk132_34, bk132_37, U_iload_n, U_invokestatic1, U_if_eq, U_if_ne, U_bipush, U_ireturn, U_aload_n, U_getfield, U_invokevirtual0, U_aald, U_invokevirtual3, U_iconst, UN_cc, UN_cn, UN_nc, UN_nn, UJ, lget, lset, lset2, entL, wsm, wcat, Option.toList_some, Option.toList_none, List.cons_append, List.nil_append, List.mem_cons, List.not_mem_nil, Prod.mk.injEq, or_false, false_or, or_true, true_or, and_true, true_and, and_false, false_and, and_self, ne_eq, not_false_eq_true, not_true_eq_false, forall_const, true_implies, false_implies, Nat.add_zero, Nat.zero_add, Nat.le_refl, Nat.zero_le, List.set_cons_zero, List.set_cons_succ, List.set_nil, ↓reduceIte, Nat.reduceAdd, Nat.reduceSub, Nat.reduceEqDiff, Nat.reduceLeDiff, Int.reduceEq, Int.reduceNe, Int.reduceNeg, reduceCtorEq]
    exact ⟨r3 (by omega), bad (Or.inl q)⟩
def oTimes (g : Nat) (r a n : Int) : Int := if ¬ (0 ≤ r ∧ r < 6) ∨ ¬ (0 ≤ a ∧ a < 6) ∨ ¬ (-100000 ≤ n ∧ n ≤ 100000) then -2 else if g = 0 then -3 else 1
set_option maxHeartbeats 8000000 in
theorem k_times {p : Int} {g : Nat} {f : Pz p} {pu : List Int} {rg : Nat → Pz p × Pz p} {A tl : Nat → Int} {E : Nat → Nat} {N : Mem} {Q : Post} {ad : Gq f g → Gq f g → Gq f g} {z : Gq f g} {ng : Gq f g → Gq f g} {r a b : Int} (h : CS g f pu rg A tl E N) (V : VS g f pu rg A tl E) (hG : g ≠ 0 → GG f g ad z ng) (hr : R32 r) (ha : R32 a) (hb : R32 b)
    (hQ : ∀ N' rg', CS g f pu rg' A tl E N' → mdF N N' → rg' = (if oTimes g r a b = 1 then upr rg r.toNat (if 0 ≤ b then nsm ad z b.toNat (rx z rg a.toNat) else nsm ad z (-b).toNat (ng (rx z rg a.toNat))).1 else rg) → Q (some (0, oTimes g r a b)) NN N') : CL 133 [(2, 1), (0, r), (0, a), (0, b)] NN N Q := by
  have h0 := h
  obtain ⟨⟨ρ, S, R⟩, hPu, hCr, -⟩ := h
  unfold oTimes at hQ
  have hb' := hb
  obtain ⟨b1, b2⟩ := hb'
  have bad : (¬ (0 ≤ r ∧ r < 6) ∨ ¬ (0 ≤ a ∧ a < 6) ∨ ¬ (-100000 ≤ b ∧ b ≤ 100000)) → Q (some (0, -2)) NN N := fun e => by
    rw [if_pos e] at hQ
    exact hQ N rg h0 (mdF.rf N) (by rw [if_neg (by decide)])
  refine WP.run [] [] 90 ?_
  simp only [bk133_0, bk133_7, bk133_14, bk133_20, bk133_26, bk133_29, bk133_39, bk133_42, U_iload_n, U_invokestatic1, U_if_eq, U_ldc, U_icmp_lt, U_icmp_le, U_bipush, U_ireturn, U_aload_n, U_getfield, U_invokevirtual0, U_if_ne, U_aald, U_invokevirtual3, U_iconst, UN_cc, UN_cn, UN_nc, UN_nn, UJ, lget, lset, lset2, entL, wsm, wcat, Option.toList_some, Option.toList_none, List.cons_append, List.nil_append, List.mem_cons, List.not_mem_nil, Prod.mk.injEq, or_false, false_or, or_true, true_or, and_true, true_and, and_false, false_and, and_self, ne_eq, not_false_eq_true, not_true_eq_false, forall_const, true_implies, false_implies, Nat.add_zero, Nat.zero_add, Nat.le_refl, Nat.zero_le, List.set_cons_zero, List.set_cons_succ, List.set_nil, ↓reduceIte, Nat.reduceAdd, Nat.reduceSub, Nat.reduceEqDiff, Nat.reduceLeDiff, Int.reduceEq, Int.reduceNe, Int.reduceNeg, reduceCtorEq, kd1]
  refine c_isReg hr ?_
  by_cases q : 0 ≤ r ∧ r < 6
  · rw [if_pos q]
    simp only [bk133_0, bk133_7, bk133_14, bk133_20, bk133_26, bk133_29, bk133_39, bk133_42, U_iload_n, U_invokestatic1, U_if_eq, U_ldc, U_icmp_lt, U_icmp_le, U_bipush, U_ireturn, U_aload_n, U_getfield, U_invokevirtual0, U_if_ne, U_aald, U_invokevirtual3, U_iconst, UN_cc, UN_cn, UN_nc, UN_nn, UJ, lget, lset, lset2, entL, wsm, wcat, Option.toList_some, Option.toList_none, List.cons_append, List.nil_append, List.mem_cons, List.not_mem_nil, Prod.mk.injEq, or_false, false_or, or_true, true_or, and_true, true_and, and_false, false_and, and_self, ne_eq, not_false_eq_true, not_true_eq_false, forall_const, true_implies, false_implies, Nat.add_zero, Nat.zero_add, Nat.le_refl, Nat.zero_le, List.set_cons_zero, List.set_cons_succ, List.set_nil, ↓reduceIte, Nat.reduceAdd, Nat.reduceSub, Nat.reduceEqDiff, Nat.reduceLeDiff, Int.reduceEq, Int.reduceNe, Int.reduceNeg, reduceCtorEq, kd1]
    refine ⟨r3 (by omega), c_isReg ha ?_⟩
    by_cases q1 : 0 ≤ a ∧ a < 6
    · rw [if_pos q1]
      simp only [bk133_0, bk133_7, bk133_14, bk133_20, bk133_26, bk133_29, bk133_39, bk133_42, U_iload_n, U_invokestatic1, U_if_eq, U_ldc, U_icmp_lt, U_icmp_le, U_bipush, U_ireturn, U_aload_n, U_getfield, U_invokevirtual0, U_if_ne, U_aald, U_invokevirtual3, U_iconst, UN_cc, UN_cn, UN_nc, UN_nn, UJ, lget, lset, lset2, entL, wsm, wcat, Option.toList_some, Option.toList_none, List.cons_append, List.nil_append, List.mem_cons, List.not_mem_nil, Prod.mk.injEq, or_false, false_or, or_true, true_or, and_true, true_and, and_false, false_and, and_self, ne_eq, not_false_eq_true, not_true_eq_false, forall_const, true_implies, false_implies, Nat.add_zero, Nat.zero_add, Nat.le_refl, Nat.zero_le, List.set_cons_zero, List.set_cons_succ, List.set_nil, ↓reduceIte, Nat.reduceAdd, Nat.reduceSub, Nat.reduceEqDiff, Nat.reduceLeDiff, Int.reduceEq, Int.reduceNe, Int.reduceNeg, reduceCtorEq, kd1, kd21, z1_4 S.1.1]
      refine ⟨r3 (by omega), rr (by omega), fun e => bad (Or.inr (Or.inr (by omega))), fun e => ⟨rr (by omega), fun e2 => bad (Or.inr (Or.inr (by omega))), fun e2 => c_std hCr V.g2 ?_⟩⟩
      rw [if_neg (show ¬ (¬ (0 ≤ r ∧ r < 6) ∨ ¬ (0 ≤ a ∧ a < 6) ∨ ¬ (-100000 ≤ b ∧ b ≤ 100000)) by omega)] at hQ
      by_cases q0 : g = 0
      · rw [if_pos q0] at hQ ⊢
        simp only [bk133_0, bk133_7, bk133_14, bk133_20, bk133_26, bk133_29, bk133_39, bk133_42, U_iload_n, U_invokestatic1, U_if_eq, U_ldc, U_icmp_lt, U_icmp_le, U_bipush, U_ireturn, U_aload_n, U_getfield, U_invokevirtual0, U_if_ne, U_aald, U_invokevirtual3, U_iconst, UN_cc, UN_cn, UN_nc, UN_nn, UJ, lget, lset, lset2, entL, wsm, wcat, Option.toList_some, Option.toList_none, List.cons_append, List.nil_append, List.mem_cons, List.not_mem_nil, Prod.mk.injEq, or_false, false_or, or_true, true_or, and_true, true_and, and_false, false_and, and_self, ne_eq, not_false_eq_true, not_true_eq_false, forall_const, true_implies, false_implies, Nat.add_zero, Nat.zero_add, Nat.le_refl, Nat.zero_le, List.set_cons_zero, List.set_cons_succ, List.set_nil, ↓reduceIte, Nat.reduceAdd, Nat.reduceSub, Nat.reduceEqDiff, Nat.reduceLeDiff, Int.reduceEq, Int.reduceNe, Int.reduceNeg, reduceCtorEq]
        exact ⟨r3 (by omega), hQ N rg h0 (mdF.rf N) (by rw [if_neg (by decide)])⟩
      · rw [if_neg q0] at hQ ⊢
        have hc := (hCr.resolve_left (fun e => q0 e.1)).2
        have cv := V.cv q0
        obtain ⟨n, rfl⟩ : ∃ n : Nat, r = n := ⟨r.toNat, by omega⟩
        obtain ⟨m, rfl⟩ : ∃ m : Nat, a = m := ⟨a.toNat, by omega⟩
        have z1 := z57 S.1.1 (n : Int) q.1 q.2
        have z2 := z57 S.1.1 (m : Int) q1.1 q1.2
        have n1 : ¬ (58 + 5 * (n : Int) = 0) := by omega
        have n2 : ¬ (58 + 5 * (m : Int) = 0) := by omega
        have p2 := R.2 m (by omega)
        rw [← rx_is (z := z) (cv.2.2.2.1 m)] at p2
        simp only [bk133_0, bk133_7, bk133_14, bk133_20, bk133_26, bk133_29, bk133_39, bk133_42, U_iload_n, U_invokestatic1, U_if_eq, U_ldc, U_icmp_lt, U_icmp_le, U_bipush, U_ireturn, U_aload_n, U_getfield, U_invokevirtual0, U_if_ne, U_aald, U_invokevirtual3, U_iconst, UN_cc, UN_cn, UN_nc, UN_nn, UJ, lget, lset, lset2, entL, wsm, wcat, Option.toList_some, Option.toList_none, List.cons_append, List.nil_append, List.mem_cons, List.not_mem_nil, Prod.mk.injEq, or_false, false_or, or_true, true_or, and_true, true_and, and_false, false_and, and_self, ne_eq, not_false_eq_true, not_true_eq_false, forall_const, true_implies, false_implies, Nat.add_zero, Nat.zero_add, Nat.le_refl, Nat.zero_le, List.set_cons_zero, List.set_cons_succ, List.set_nil, ↓reduceIte, Nat.reduceAdd, Nat.reduceSub, Nat.reduceEqDiff, Nat.reduceLeDiff, Int.reduceEq, Int.reduceNe, Int.reduceNeg, reduceCtorEq, kd1, kd32, kd57, ln57, z1_5 S.1.1, z1_6 S.1.1, z1, z2, n1, n2]
        refine ⟨r3 (by omega), q.1, q.2, q1.1, q1.2, ?_⟩
        refine s_multiply (hG q0) S cv.2.2.1 (R.1 (by omega)) hc.1 (kdR q.1 q.2) (kdR q1.1 q1.2) (by omega) (by omega) ⟨by omega, by omega⟩ p2 fun N1 ρ1 S1 F1 P1 R1 => ?_
        simp only [bk133_0, bk133_7, bk133_14, bk133_20, bk133_26, bk133_29, bk133_39, bk133_42, U_iload_n, U_invokestatic1, U_if_eq, U_ldc, U_icmp_lt, U_icmp_le, U_bipush, U_ireturn, U_aload_n, U_getfield, U_invokevirtual0, U_if_ne, U_aald, U_invokevirtual3, U_iconst, UN_cc, UN_cn, UN_nc, UN_nn, UJ, lget, lset, lset2, entL, wsm, wcat, Option.toList_some, Option.toList_none, List.cons_append, List.nil_append, List.mem_cons, List.not_mem_nil, Prod.mk.injEq, or_false, false_or, or_true, true_or, and_true, true_and, and_false, false_and, and_self, ne_eq, not_false_eq_true, not_true_eq_false, forall_const, true_implies, false_implies, Nat.add_zero, Nat.zero_add, Nat.le_refl, Nat.zero_le, List.set_cons_zero, List.set_cons_succ, List.set_nil, ↓reduceIte, Nat.reduceAdd, Nat.reduceSub, Nat.reduceEqDiff, Nat.reduceLeDiff, Int.reduceEq, Int.reduceNe, Int.reduceNeg, reduceCtorEq]
        refine hQ N1 _ (h0.st S1 (R.up S.1.1 (by omega) P1 (fun y y0 y1 y2 => R1 y (by unfold scr tmp; omega) (by omega) (by omega) y1 y2)) F1.cs) F1.md ?_
        rw [if_pos rfl]; rfl
    · rw [if_neg q1]
      simp only [bk133_0, bk133_7, bk133_14, bk133_20, bk133_26, bk133_29, bk133_39, bk133_42, U_iload_n, U_invokestatic1, U_if_eq, U_ldc, U_icmp_lt, U_icmp_le, U_bipush, U_ireturn, U_aload_n, U_getfield, U_invokevirtual0, U_if_ne, U_aald, U_invokevirtual3, U_iconst, UN_cc, UN_cn, UN_nc, UN_nn, UJ, lget, lset, lset2, entL, wsm, wcat, Option.toList_some, Option.toList_none, List.cons_append, List.nil_append, List.mem_cons, List.not_mem_nil, Prod.mk.injEq, or_false, false_or, or_true, true_or, and_true, true_and, and_false, false_and, and_self, ne_eq, not_false_eq_true, not_true_eq_false, forall_const, true_implies, false_implies, Nat.add_zero, Nat.zero_add, Nat.le_refl, Nat.zero_le, List.set_cons_zero, List.set_cons_succ, List.set_nil, ↓reduceIte, Nat.reduceAdd, Nat.reduceSub, Nat.reduceEqDiff, Nat.reduceLeDiff, Int.reduceEq, Int.reduceNe, Int.reduceNeg, reduceCtorEq]
      exact ⟨r3 (by omega), bad (Or.inr (Or.inl q1))⟩
  · rw [if_neg q]
    simp only [bk133_0, bk133_7, bk133_14, bk133_20, bk133_26, bk133_29, bk133_39, bk133_42, U_iload_n, U_invokestatic1, U_if_eq, U_ldc, U_icmp_lt, U_icmp_le, U_bipush, U_ireturn, U_aload_n, U_getfield, U_invokevirtual0, U_if_ne, U_aald, U_invokevirtual3, U_iconst, UN_cc, UN_cn, UN_nc, UN_nn, UJ, lget, lset, lset2, entL, wsm, wcat, Option.toList_some, Option.toList_none, List.cons_append, List.nil_append, List.mem_cons, List.not_mem_nil, Prod.mk.injEq, or_false, false_or, or_true, true_or, and_true, true_and, and_false, false_and, and_self, ne_eq, not_false_eq_true, not_true_eq_false, forall_const, true_implies, false_implies, Nat.add_zero, Nat.zero_add, Nat.le_refl, Nat.zero_le, List.set_cons_zero, List.set_cons_succ, List.set_nil, ↓reduceIte, Nat.reduceAdd, Nat.reduceSub, Nat.reduceEqDiff, Nat.reduceLeDiff, Int.reduceEq, Int.reduceNe, Int.reduceNeg, reduceCtorEq]
    exact ⟨r3 (by omega), bad (Or.inl q)⟩
