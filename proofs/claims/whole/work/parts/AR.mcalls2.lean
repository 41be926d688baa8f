/-! THE MODEL'S CALLS: registers -/
theorem MRw.fm {p : Int} {K L : List Int} {f : Pz p} {g : Nat} {N N' : Mem} (h : MRw N f g) (e : FM K L N N') (ok : FZK K L) (h8 : 198 ∉ K) (h9 : 199 ∉ K) (h0 : 0 ∉ L) : MRw N' f g := by
  obtain ⟨μ, hM, q⟩ := h
  exact ⟨μ, hM.fm e ok h8 h9 h0, q⟩
theorem Mvd.f4 {s : Int} {t a : Nat} {N N' : Mem} (h : Mvd 204 s t a N N') : FM [204] [] N N' := ⟨fun b _ y => h.1 b (fun q => y (by simp [q])), fun i _ => by rw [h.1 190 (by decide)]⟩
theorem Mvd.f5 {s : Int} {t a : Nat} {N N' : Mem} (h : Mvd 195 s t a N N') : FM [195] [] N N' := ⟨fun b _ y => h.1 b (fun q => y (by simp [q])), fun i _ => by rw [h.1 190 (by decide)]⟩
theorem WK.mv {p : Int} {c s : Int} {t a : Nat} {N N' : Mem} {x : Pz p × Pz p} (w : WK N s a x) (h : Mvd c s t a N N') : WK N' c t x := fun j hj => (h.2.1 j hj).trans (w j hj)
theorem WK.kp {p : Int} {c s : Int} {k t a : Nat} {N N' : Mem} {x : Pz p × Pz p} (w : WK N c k x) (h : Mvd c s t a N N') (hk : k ≠ t) : WK N' c k x := fun j hj => by rw [h.2.2 _ (by omega)]; exact w j hj
theorem ok_4 : FZK [204] [] := fzk rfl rfl
theorem ok_5 : FZK [195] [] := fzk rfl rfl
theorem MB.mv {p : Int} {f : Pz p} {g : Nat} {c s : Int} {t a : Nat} {N N' : Mem} (hb : MB f g N) (h : Mvd 204 s t a N N') : MB f g N' := h.mb hb
/-- a register written from the work -/
theorem MS.put {p : Int} {g : Nat} {f : Pz p} {pu : List Int} {rg : Nat → Pz p × Pz p} {A tl : Nat → Int} {E : Nat → Nat} {N N1 N2 : Mem} {r : Nat} {x : Pz p × Pz p} (h : MS g f pu rg A tl E N) (e : FM scK scL N N1) (m : MRw N1 f g) (w : WK N1 204 0 x) (mv : Mvd 195 204 r 0 N1 N2) : MS g f pu (upr rg r x) A tl E N2 := by
  refine h.rg ((e.mo rfl rfl).tr (mv.f5.mo rfl rfl)) (m.fm mv.f5 ok_5 (by decide) (by decide) (by decide)) fun k hk => ?_
  unfold upr
  by_cases q : k = r
  · rw [if_pos q, q]; exact w.mv mv
  · rw [if_neg q]
    refine WK.kp ?_ mv q
    exact (h.2.2.2.1 k hk).fx (e.1 195 (by decide) (by decide))
theorem rxw {p : Int} {g : Nat} {f : Pz p} {pu : List Int} {rg : Nat → Pz p × Pz p} {A tl : Nat → Int} {E : Nat → Nat} {z : Gq f g} (V : VS g f pu rg A tl E) (hg : g ≠ 0) (r : Nat) : (rx z rg r).1 = rg r := rx_is ((V.cv hg).2.2.2.1 r)
theorem clp {p : Int} {K L : List Int} {N N1 N2 : Mem} {r : Nat} (e : FM K L N N1) (hK : K.all (fun b => decide (190 ≤ b)) = true) (mv : Mvd 195 204 r 0 N1 N2) : clF N N2 := (e.cl hK).tr (mv.f5.cl rfl)
set_option maxHeartbeats 8000000 in
theorem q_sum {p : Int} {g : Nat} {f : Pz p} {pu : List Int} {rg : Nat → Pz p × Pz p} {A tl : Nat → Int} {E : Nat → Nat} {N : Mem} {Q : Post} {ad : Gq f g → Gq f g → Gq f g} {z : Gq f g} {ng : Gq f g → Gq f g} {r a b : Int} (h : MS g f pu rg A tl E N) (V : VS g f pu rg A tl E) (hG : g ≠ 0 → GG f g ad z ng) (hr : R32 r) (ha : R32 a) (hb : R32 b)
    (hQ : ∀ N' rg', MS g f pu rg' A tl E N' → clF N N' → rg' = (if oSum g r a b = 1 then upr rg r.toNat (ad (rx z rg a.toNat) (rx z rg b.toNat)).1 else rg) → Q (some (0, oSum g r a b)) NN N') : CL 205 [(2, 190), (0, r), (0, a), (0, b)] NN N Q := by
  have bad : (¬ (0 ≤ r ∧ r < 6) ∨ ¬ (0 ≤ a ∧ a < 6) ∨ ¬ (0 ≤ b ∧ b < 6)) → Q (some (0, -2)) NN N := fun e => by
    have e1 : oSum g r a b = -2 := by unfold oSum; rw [if_pos e]
    have := hQ N rg h (clF.rf N) (by rw [e1, if_neg (by decide)])
    rw [e1] at this; exact this
  refine WP.run [] [] 90 ?_
  simp only [bk205_0, bk205_7, bk205_14, bk205_21, bk205_24, bk205_31, bk205_34, U_iload_n, U_invokestatic1, U_if_eq, U_if_ne, U_bipush, U_ireturn, U_aload_n, U_invokevirtual0, U_iconst, U_invokevirtual2, U_invokevirtual3, UN_cc, UN_cn, UN_nc, UN_nn, UJ, lget, lset, lset2, entL, wsm, wcat, Option.toList_some, Option.toList_none, List.cons_append, List.nil_append, List.mem_cons, List.not_mem_nil, Prod.mk.injEq, or_false, false_or, or_true, true_or, and_true, true_and, and_false, false_and, and_self, ne_eq, not_false_eq_true, not_true_eq_false, forall_const, true_implies, false_implies, Nat.add_zero, Nat.zero_add, Nat.le_refl, Nat.zero_le, List.set_cons_zero, List.set_cons_succ, List.set_nil, ↓reduceIte, Nat.reduceAdd, Nat.reduceSub, Nat.reduceEqDiff, Nat.reduceLeDiff, Int.reduceEq, Int.reduceNe, Int.reduceNeg, reduceCtorEq]
  refine m_isReg hr ?_
  by_cases q : 0 ≤ r ∧ r < 6
  · rw [if_pos q]
    simp only [bk205_0, bk205_7, bk205_14, bk205_21, bk205_24, bk205_31, bk205_34, U_iload_n, U_invokestatic1, U_if_eq, U_if_ne, U_bipush, U_ireturn, U_aload_n, U_invokevirtual0, U_iconst, U_invokevirtual2, U_invokevirtual3, UN_cc, UN_cn, UN_nc, UN_nn, UJ, lget, lset, lset2, entL, wsm, wcat, Option.toList_some, Option.toList_none, List.cons_append, List.nil_append, List.mem_cons, List.not_mem_nil, Prod.mk.injEq, or_false, false_or, or_true, true_or, and_true, true_and, and_false, false_and, and_self, ne_eq, not_false_eq_true, not_true_eq_false, forall_const, true_implies, false_implies, Nat.add_zero, Nat.zero_add, Nat.le_refl, Nat.zero_le, List.set_cons_zero, List.set_cons_succ, List.set_nil, ↓reduceIte, Nat.reduceAdd, Nat.reduceSub, Nat.reduceEqDiff, Nat.reduceLeDiff, Int.reduceEq, Int.reduceNe, Int.reduceNeg, reduceCtorEq]
    refine ⟨r3 (by omega), m_isReg ha ?_⟩
    by_cases q1 : 0 ≤ a ∧ a < 6
    · rw [if_pos q1]
      simp only [bk205_0, bk205_7, bk205_14, bk205_21, bk205_24, bk205_31, bk205_34, U_iload_n, U_invokestatic1, U_if_eq, U_if_ne, U_bipush, U_ireturn, U_aload_n, U_invokevirtual0, U_iconst, U_invokevirtual2, U_invokevirtual3, UN_cc, UN_cn, UN_nc, UN_nn, UJ, lget, lset, lset2, entL, wsm, wcat, Option.toList_some, Option.toList_none, List.cons_append, List.nil_append, List.mem_cons, List.not_mem_nil, Prod.mk.injEq, or_false, false_or, or_true, true_or, and_true, true_and, and_false, false_and, and_self, ne_eq, not_false_eq_true, not_true_eq_false, forall_const, true_implies, false_implies, Nat.add_zero, Nat.zero_add, Nat.le_refl, Nat.zero_le, List.set_cons_zero, List.set_cons_succ, List.set_nil, ↓reduceIte, Nat.reduceAdd, Nat.reduceSub, Nat.reduceEqDiff, Nat.reduceLeDiff, Int.reduceEq, Int.reduceNe, Int.reduceNeg, reduceCtorEq]
      refine ⟨r3 (by omega), m_isReg hb ?_⟩
      by_cases q2 : 0 ≤ b ∧ b < 6
      · rw [if_pos q2]
        simp only [bk205_0, bk205_7, bk205_14, bk205_21, bk205_24, bk205_31, bk205_34, U_iload_n, U_invokestatic1, U_if_eq, U_if_ne, U_bipush, U_ireturn, U_aload_n, U_invokevirtual0, U_iconst, U_invokevirtual2, U_invokevirtual3, UN_cc, UN_cn, UN_nc, UN_nn, UJ, lget, lset, lset2, entL, wsm, wcat, Option.toList_some, Option.toList_none, List.cons_append, List.nil_append, List.mem_cons, List.not_mem_nil, Prod.mk.injEq, or_false, false_or, or_true, true_or, and_true, true_and, and_false, false_and, and_self, ne_eq, not_false_eq_true, not_true_eq_false, forall_const, true_implies, false_implies, Nat.add_zero, Nat.zero_add, Nat.le_refl, Nat.zero_le, List.set_cons_zero, List.set_cons_succ, List.set_nil, ↓reduceIte, Nat.reduceAdd, Nat.reduceSub, Nat.reduceEqDiff, Nat.reduceLeDiff, Int.reduceEq, Int.reduceNe, Int.reduceNeg, reduceCtorEq, kd190]
        refine ⟨r3 (by omega), m_std h V ?_⟩
        have eo : oSum g r a b = if g = 0 then -3 else 1 := by unfold oSum; rw [if_neg (by omega)]
        by_cases q0 : g = 0
        · rw [if_pos q0] at eo ⊢
          simp only [bk205_0, bk205_7, bk205_14, bk205_21, bk205_24, bk205_31, bk205_34, U_iload_n, U_invokestatic1, U_if_eq, U_if_ne, U_bipush, U_ireturn, U_aload_n, U_invokevirtual0, U_iconst, U_invokevirtual2, U_invokevirtual3, UN_cc, UN_cn, UN_nc, UN_nn, UJ, lget, lset, lset2, entL, wsm, wcat, Option.toList_some, Option.toList_none, List.cons_append, List.nil_append, List.mem_cons, List.not_mem_nil, Prod.mk.injEq, or_false, false_or, or_true, true_or, and_true, true_and, and_false, false_and, and_self, ne_eq, not_false_eq_true, not_true_eq_false, forall_const, true_implies, false_implies, Nat.add_zero, Nat.zero_add, Nat.le_refl, Nat.zero_le, List.set_cons_zero, List.set_cons_succ, List.set_nil, ↓reduceIte, Nat.reduceAdd, Nat.reduceSub, Nat.reduceEqDiff, Nat.reduceLeDiff, Int.reduceEq, Int.reduceNe, Int.reduceNeg, reduceCtorEq]
          have := hQ N rg h (clF.rf N) (by rw [eo, if_neg (by decide)])
          rw [eo] at this
          exact ⟨r3 (by omega), this⟩
        · rw [if_neg q0] at eo ⊢
          obtain ⟨k, rfl⟩ : ∃ k : Nat, r = k := ⟨r.toNat, by omega⟩
          obtain ⟨m, rfl⟩ : ∃ m : Nat, a = m := ⟨a.toNat, by omega⟩
          obtain ⟨l, rfl⟩ : ∃ l : Nat, b = l := ⟨b.toNat, by omega⟩
          rw [eo] at hQ
          simp only [Int.toNat_natCast, ↓reduceIte] at hQ
          have cv := V.cv q0
          have wm := h.2.2.2.1 m (by omega)
          have wl := h.2.2.2.1 l (by omega)
          rw [← rxw (z := z) V q0] at wm wl
          simp only [bk205_0, bk205_7, bk205_14, bk205_21, bk205_24, bk205_31, bk205_34, U_iload_n, U_invokestatic1, U_if_eq, U_if_ne, U_bipush, U_ireturn, U_aload_n, U_invokevirtual0, U_iconst, U_invokevirtual2, U_invokevirtual3, UN_cc, UN_cn, UN_nc, UN_nn, UJ, lget, lset, lset2, entL, wsm, wcat, Option.toList_some, Option.toList_none, List.cons_append, List.nil_append, List.mem_cons, List.not_mem_nil, Prod.mk.injEq, or_false, false_or, or_true, true_or, and_true, true_and, and_false, false_and, and_self, ne_eq, not_false_eq_true, not_true_eq_false, forall_const, true_implies, false_implies, Nat.add_zero, Nat.zero_add, Nat.le_refl, Nat.zero_le, List.set_cons_zero, List.set_cons_succ, List.set_nil, ↓reduceIte, Nat.reduceAdd, Nat.reduceSub, Nat.reduceEqDiff, Nat.reduceLeDiff, Int.reduceEq, Int.reduceNe, Int.reduceNeg, reduceCtorEq, kd190]
          refine ⟨r3 (by omega), m_fromRegister (t := 1) (a := m) h.fz (by omega) (by omega) fun N1 s1 => ?_⟩
          have B1 := (h.mg q0).1.mb.mv (c := 204) s1
          simp only [bk205_0, bk205_7, bk205_14, bk205_21, bk205_24, bk205_31, bk205_34, U_iload_n, U_invokestatic1, U_if_eq, U_if_ne, U_bipush, U_ireturn, U_aload_n, U_invokevirtual0, U_iconst, U_invokevirtual2, U_invokevirtual3, UN_cc, UN_cn, UN_nc, UN_nn, UJ, lget, lset, lset2, entL, wsm, wcat, Option.toList_some, Option.toList_none, List.cons_append, List.nil_append, List.mem_cons, List.not_mem_nil, Prod.mk.injEq, or_false, false_or, or_true, true_or, and_true, true_and, and_false, false_and, and_self, ne_eq, not_false_eq_true, not_true_eq_false, forall_const, true_implies, false_implies, Nat.add_zero, Nat.zero_add, Nat.le_refl, Nat.zero_le, List.set_cons_zero, List.set_cons_succ, List.set_nil, ↓reduceIte, Nat.reduceAdd, Nat.reduceSub, Nat.reduceEqDiff, Nat.reduceLeDiff, Int.reduceEq, Int.reduceNe, Int.reduceNeg, reduceCtorEq, kd190]
          refine m_fromRegister (t := 2) (a := l) B1.fz (by omega) (by omega) fun N2 s2 => ?_
          have B2 := B1.mv (c := 204) s2
          simp only [bk205_0, bk205_7, bk205_14, bk205_21, bk205_24, bk205_31, bk205_34, U_iload_n, U_invokestatic1, U_if_eq, U_if_ne, U_bipush, U_ireturn, U_aload_n, U_invokevirtual0, U_iconst, U_invokevirtual2, U_invokevirtual3, UN_cc, UN_cn, UN_nc, UN_nn, UJ, lget, lset, lset2, entL, wsm, wcat, Option.toList_some, Option.toList_none, List.cons_append, List.nil_append, List.mem_cons, List.not_mem_nil, Prod.mk.injEq, or_false, false_or, or_true, true_or, and_true, true_and, and_false, false_and, and_self, ne_eq, not_false_eq_true, not_true_eq_false, forall_const, true_implies, false_implies, Nat.add_zero, Nat.zero_add, Nat.le_refl, Nat.zero_le, List.set_cons_zero, List.set_cons_succ, List.set_nil, ↓reduceIte, Nat.reduceAdd, Nat.reduceSub, Nat.reduceEqDiff, Nat.reduceLeDiff, Int.reduceEq, Int.reduceNe, Int.reduceNeg, reduceCtorEq, kd190]
          refine m_sumG (to := 0) (ka := 1) (kb := 2) (hG q0) B2 cv.2.2.1 (by omega) (by omega) (by omega) ((wm.mv s1).kp s2 (by omega)) ((wl.fx (s1.1 195 (by decide))).mv s2) fun N3 t1 t2 t3 t4 => ?_
          have F3 : FM scK scL N N3 := ((s1.f4.mo rfl rfl).tr (s2.f4.mo rfl rfl)).tr (t3.fm.mo rfl rfl)
          simp only [bk205_0, bk205_7, bk205_14, bk205_21, bk205_24, bk205_31, bk205_34, U_iload_n, U_invokestatic1, U_if_eq, U_if_ne, U_bipush, U_ireturn, U_aload_n, U_invokevirtual0, U_iconst, U_invokevirtual2, U_invokevirtual3, UN_cc, UN_cn, UN_nc, UN_nn, UJ, lget, lset, lset2, entL, wsm, wcat, Option.toList_some, Option.toList_none, List.cons_append, List.nil_append, List.mem_cons, List.not_mem_nil, Prod.mk.injEq, or_false, false_or, or_true, true_or, and_true, true_and, and_false, false_and, and_self, ne_eq, not_false_eq_true, not_true_eq_false, forall_const, true_implies, false_implies, Nat.add_zero, Nat.zero_add, Nat.le_refl, Nat.zero_le, List.set_cons_zero, List.set_cons_succ, List.set_nil, ↓reduceIte, Nat.reduceAdd, Nat.reduceSub, Nat.reduceEqDiff, Nat.reduceLeDiff, Int.reduceEq, Int.reduceNe, Int.reduceNeg, reduceCtorEq, kd190]
          refine m_toRegister (t := k) (a := 0) t1.fz (by omega) (by omega) fun N4 s4 => ?_
          simp only [bk205_0, bk205_7, bk205_14, bk205_21, bk205_24, bk205_31, bk205_34, U_iload_n, U_invokestatic1, U_if_eq, U_if_ne, U_bipush, U_ireturn, U_aload_n, U_invokevirtual0, U_iconst, U_invokevirtual2, U_invokevirtual3, UN_cc, UN_cn, UN_nc, UN_nn, UJ, lget, lset, lset2, entL, wsm, wcat, Option.toList_some, Option.toList_none, List.cons_append, List.nil_append, List.mem_cons, List.not_mem_nil, Prod.mk.injEq, or_false, false_or, or_true, true_or, and_true, true_and, and_false, false_and, and_self, ne_eq, not_false_eq_true, not_true_eq_false, forall_const, true_implies, false_implies, Nat.add_zero, Nat.zero_add, Nat.le_refl, Nat.zero_le, List.set_cons_zero, List.set_cons_succ, List.set_nil, ↓reduceIte, Nat.reduceAdd, Nat.reduceSub, Nat.reduceEqDiff, Nat.reduceLeDiff, Int.reduceEq, Int.reduceNe, Int.reduceNeg, reduceCtorEq]
          exact hQ N4 _ (h.put F3 t1.rw t2 s4) (clp (p := p) F3 rfl s4) rfl
      · rw [if_neg q2]
        simp only [bk205_0, bk205_7, bk205_14, bk205_21, bk205_24, bk205_31, bk205_34, U_iload_n, U_invokestatic1, U_if_eq, U_if_ne, U_bipush, U_ireturn, U_aload_n, U_invokevirtual0, U_iconst, U_invokevirtual2, U_invokevirtual3, UN_cc, UN_cn, UN_nc, UN_nn, UJ, lget, lset, lset2, entL, wsm, wcat, Option.toList_some, Option.toList_none, List.cons_append, List.nil_append, List.mem_cons, List.not_mem_nil, Prod.mk.injEq, or_false, false_or, or_true, true_or, and_true, true_and, and_false, false_and, and_self, ne_eq, not_false_eq_true, not_true_eq_false, forall_const, true_implies, false_implies, Nat.add_zero, Nat.zero_add, Nat.le_refl, Nat.zero_le, List.set_cons_zero, List.set_cons_succ, List.set_nil, ↓reduceIte, Nat.reduceAdd, Nat.reduceSub, Nat.reduceEqDiff, Nat.reduceLeDiff, Int.reduceEq, Int.reduceNe, Int.reduceNeg, reduceCtorEq]
        exact ⟨r3 (by omega), bad (Or.inr (Or.inr q2))⟩
    · rw [if_neg q1]
      simp only [bk205_0, bk205_7, bk205_14, bk205_21, bk205_24, bk205_31, bk205_34, U_iload_n, U_invokestatic1, U_if_eq, U_if_ne, U_bipush, U_ireturn, U_aload_n, U_invokevirtual0, U_iconst, U_invokevirtual2, U_invokevirtual3, UN_cc, UN_cn, UN_nc, UN_nn, UJ, lget, lset, lset2, entL, wsm, wcat, Option.toList_some, Option.toList_none, List.cons_append, List.nil_append, List.mem_cons, List.not_mem_nil, Prod.mk.injEq, or_false, false_or, or_true, true_or, and_true, true_and, and_false, false_and, and_self, ne_eq, not_false_eq_true, not_true_eq_false, forall_const, true_implies, false_implies, Nat.add_zero, Nat.zero_add, Nat.le_refl, Nat.zero_le, List.set_cons_zero, List.set_cons_succ, List.set_nil, ↓reduceIte, Nat.reduceAdd, Nat.reduceSub, Nat.reduceEqDiff, Nat.reduceLeDiff, Int.reduceEq, Int.reduceNe, Int.reduceNeg, reduceCtorEq]
      exact ⟨r3 (by omega), bad (Or.inr (Or.inl q1))⟩
  · rw [if_neg q]
    simp only [bk205_0, bk205_7, bk205_14, bk205_21, bk205_24, bk205_31, bk205_34, U_iload_n, U_invokestatic1, U_if_eq, U_if_ne, U_bipush, U_ireturn, U_aload_n, U_invokevirtual0, U_iconst, U_invokevirtual2, U_invokevirtual3, UN_cc, UN_cn, UN_nc, UN_nn, UJ, lget, lset, lset2, entL, wsm, wcat, Option.toList_some, Option.toList_none, List.cons_append, List.nil_append, List.mem_cons, List.not_mem_nil, Prod.mk.injEq, or_false, false_or, or_true, true_or, and_true, true_and, and_false, false_and, and_self, ne_eq, not_false_eq_true, not_true_eq_false, forall_const, true_implies, false_implies, Nat.add_zero, Nat.zero_add, Nat.le_refl, Nat.zero_le, List.set_cons_zero, List.set_cons_succ, List.set_nil, ↓reduceIte, Nat.reduceAdd, Nat.reduceSub, Nat.reduceEqDiff, Nat.reduceLeDiff, Int.reduceEq, Int.reduceNe, Int.reduceNeg, reduceCtorEq]
    exact ⟨r3 (by omega), bad (Or.inl q)⟩
set_option maxHeartbeats 8000000 in
theorem q_times {p : Int} {g : Nat} {f : Pz p} {pu : List Int} {rg : Nat → Pz p × Pz p} {A tl : Nat → Int} {E : Nat → Nat} {N : Mem} {Q : Post} {ad : Gq f g → Gq f g → Gq f g} {z : Gq f g} {ng : Gq f g → Gq f g} {r a b : Int} (h : MS g f pu rg A tl E N) (V : VS g f pu rg A tl E) (hG : g ≠ 0 → GG f g ad z ng) (hr : R32 r) (ha : R32 a) (hb : R32 b)
    (hQ : ∀ N' rg', MS g f pu rg' A tl E N' → clF N N' → rg' = (if oTimes g r a b = 1 then upr rg r.toNat (if 0 ≤ b then nsm ad z b.toNat (rx z rg a.toNat) else nsm ad z (-b).toNat (ng (rx z rg a.toNat))).1 else rg) → Q (some (0, oTimes g r a b)) NN N') : CL 207 [(2, 190), (0, r), (0, a), (0, b)] NN N Q := by
  have bad : (¬ (0 ≤ r ∧ r < 6) ∨ ¬ (0 ≤ a ∧ a < 6) ∨ ¬ (-100000 ≤ b ∧ b ≤ 100000)) → Q (some (0, -2)) NN N := fun e => by
    have e1 : oTimes g r a b = -2 := by unfold oTimes; rw [if_pos e]
    have := hQ N rg h (clF.rf N) (by rw [e1, if_neg (by decide)])
    rw [e1] at this; exact this
  refine WP.run [] [] 90 ?_
  simp only [bk207_0, bk207_7, bk207_14, bk207_28, bk207_31, bk207_38, bk207_41, bk207_51, bk207_56, bk207_63, bk207_69, bk207_71, U_iload_n, U_invokestatic1, U_if_eq, U_i2l, U_ldc2_w, U_invokestatic3, U_if_ne, U_bipush, U_ireturn, U_aload_n, U_invokevirtual0, U_iconst, U_invokevirtual2, U_if_ge, U_invokevirtual1, U_ineg, U_goto, U_invokevirtual3, UN_cc, UN_cn, UN_nc, UN_nn, UJ, lget, lset, lset2, entL, wsm, wcat, Option.toList_some, Option.toList_none, List.cons_append, List.nil_append, List.mem_cons, List.not_mem_nil, Prod.mk.injEq, or_false, false_or, or_true, true_or, and_true, true_and, and_false, false_and, and_self, ne_eq, not_false_eq_true, not_true_eq_false, forall_const, true_implies, false_implies, Nat.add_zero, Nat.zero_add, Nat.le_refl, Nat.zero_le, List.set_cons_zero, List.set_cons_succ, List.set_nil, ↓reduceIte, Nat.reduceAdd, Nat.reduceSub, Nat.reduceEqDiff, Nat.reduceLeDiff, Int.reduceEq, Int.reduceNe, Int.reduceNeg, reduceCtorEq]
  refine m_isReg hr ?_
  by_cases q : 0 ≤ r ∧ r < 6
  · rw [if_pos q]
    simp only [bk207_0, bk207_7, bk207_14, bk207_28, bk207_31, bk207_38, bk207_41, bk207_51, bk207_56, bk207_63, bk207_69, bk207_71, U_iload_n, U_invokestatic1, U_if_eq, U_i2l, U_ldc2_w, U_invokestatic3, U_if_ne, U_bipush, U_ireturn, U_aload_n, U_invokevirtual0, U_iconst, U_invokevirtual2, U_if_ge, U_invokevirtual1, U_ineg, U_goto, U_invokevirtual3, UN_cc, UN_cn, UN_nc, UN_nn, UJ, lget, lset, lset2, entL, wsm, wcat, Option.toList_some, Option.toList_none, List.cons_append, List.nil_append, List.mem_cons, List.not_mem_nil, Prod.mk.injEq, or_false, false_or, or_true, true_or, and_true, true_and, and_false, false_and, and_self, ne_eq, not_false_eq_true, not_true_eq_false, forall_const, true_implies, false_implies, Nat.add_zero, Nat.zero_add, Nat.le_refl, Nat.zero_le, List.set_cons_zero, List.set_cons_succ, List.set_nil, ↓reduceIte, Nat.reduceAdd, Nat.reduceSub, Nat.reduceEqDiff, Nat.reduceLeDiff, Int.reduceEq, Int.reduceNe, Int.reduceNeg, reduceCtorEq]
    refine ⟨r3 (by omega), m_isReg ha ?_⟩
    by_cases q1 : 0 ≤ a ∧ a < 6
    · rw [if_pos q1]
      simp only [bk207_0, bk207_7, bk207_14, bk207_28, bk207_31, bk207_38, bk207_41, bk207_51, bk207_56, bk207_63, bk207_69, bk207_71, U_iload_n, U_invokestatic1, U_if_eq, U_i2l, U_ldc2_w, U_invokestatic3, U_if_ne, U_bipush, U_ireturn, U_aload_n, U_invokevirtual0, U_iconst, U_invokevirtual2, U_if_ge, U_invokevirtual1, U_ineg, U_goto, U_invokevirtual3, UN_cc, UN_cn, UN_nc, UN_nn, UJ, lget, lset, lset2, entL, wsm, wcat, Option.toList_some, Option.toList_none, List.cons_append, List.nil_append, List.mem_cons, List.not_mem_nil, Prod.mk.injEq, or_false, false_or, or_true, true_or, and_true, true_and, and_false, false_and, and_self, ne_eq, not_false_eq_true, not_true_eq_false, forall_const, true_implies, false_implies, Nat.add_zero, Nat.zero_add, Nat.le_refl, Nat.zero_le, List.set_cons_zero, List.set_cons_succ, List.set_nil, ↓reduceIte, Nat.reduceAdd, Nat.reduceSub, Nat.reduceEqDiff, Nat.reduceLeDiff, Int.reduceEq, Int.reduceNe, Int.reduceNeg, reduceCtorEq]
      refine ⟨r3 (by omega), hb, m_in hb.l (r64 (by omega)) (r64 (by omega)) ?_⟩
      by_cases q2 : -100000 ≤ b ∧ b ≤ 100000
      · rw [if_pos q2]
        simp only [bk207_0, bk207_7, bk207_14, bk207_28, bk207_31, bk207_38, bk207_41, bk207_51, bk207_56, bk207_63, bk207_69, bk207_71, U_iload_n, U_invokestatic1, U_if_eq, U_i2l, U_ldc2_w, U_invokestatic3, U_if_ne, U_bipush, U_ireturn, U_aload_n, U_invokevirtual0, U_iconst, U_invokevirtual2, U_if_ge, U_invokevirtual1, U_ineg, U_goto, U_invokevirtual3, UN_cc, UN_cn, UN_nc, UN_nn, UJ, lget, lset, lset2, entL, wsm, wcat, Option.toList_some, Option.toList_none, List.cons_append, List.nil_append, List.mem_cons, List.not_mem_nil, Prod.mk.injEq, or_false, false_or, or_true, true_or, and_true, true_and, and_false, false_and, and_self, ne_eq, not_false_eq_true, not_true_eq_false, forall_const, true_implies, false_implies, Nat.add_zero, Nat.zero_add, Nat.le_refl, Nat.zero_le, List.set_cons_zero, List.set_cons_succ, List.set_nil, ↓reduceIte, Nat.reduceAdd, Nat.reduceSub, Nat.reduceEqDiff, Nat.reduceLeDiff, Int.reduceEq, Int.reduceNe, Int.reduceNeg, reduceCtorEq, kd190]
        refine ⟨r3 (by omega), m_std h V ?_⟩
        have eo : oTimes g r a b = if g = 0 then -3 else 1 := by unfold oTimes; rw [if_neg (by omega)]
        by_cases q0 : g = 0
        · rw [if_pos q0] at eo ⊢
          simp only [bk207_0, bk207_7, bk207_14, bk207_28, bk207_31, bk207_38, bk207_41, bk207_51, bk207_56, bk207_63, bk207_69, bk207_71, U_iload_n, U_invokestatic1, U_if_eq, U_i2l, U_ldc2_w, U_invokestatic3, U_if_ne, U_bipush, U_ireturn, U_aload_n, U_invokevirtual0, U_iconst, U_invokevirtual2, U_if_ge, U_invokevirtual1, U_ineg, U_goto, U_invokevirtual3, UN_cc, UN_cn, UN_nc, UN_nn, UJ, lget, lset, lset2, entL, wsm, wcat, Option.toList_some, Option.toList_none, List.cons_append, List.nil_append, List.mem_cons, List.not_mem_nil, Prod.mk.injEq, or_false, false_or, or_true, true_or, and_true, true_and, and_false, false_and, and_self, ne_eq, not_false_eq_true, not_true_eq_false, forall_const, true_implies, false_implies, Nat.add_zero, Nat.zero_add, Nat.le_refl, Nat.zero_le, List.set_cons_zero, List.set_cons_succ, List.set_nil, ↓reduceIte, Nat.reduceAdd, Nat.reduceSub, Nat.reduceEqDiff, Nat.reduceLeDiff, Int.reduceEq, Int.reduceNe, Int.reduceNeg, reduceCtorEq]
          have := hQ N rg h (clF.rf N) (by rw [eo, if_neg (by decide)])
          rw [eo] at this
          exact ⟨r3 (by omega), this⟩
        · rw [if_neg q0] at eo ⊢
          obtain ⟨k, rfl⟩ : ∃ k : Nat, r = k := ⟨r.toNat, by omega⟩
          obtain ⟨m, rfl⟩ : ∃ m : Nat, a = m := ⟨a.toNat, by omega⟩
          rw [eo] at hQ
          simp only [Int.toNat_natCast, ↓reduceIte] at hQ
          have cv := V.cv q0
          have wm := h.2.2.2.1 m (by omega)
          rw [← rxw (z := z) V q0] at wm
          simp only [bk207_0, bk207_7, bk207_14, bk207_28, bk207_31, bk207_38, bk207_41, bk207_51, bk207_56, bk207_63, bk207_69, bk207_71, U_iload_n, U_invokestatic1, U_if_eq, U_i2l, U_ldc2_w, U_invokestatic3, U_if_ne, U_bipush, U_ireturn, U_aload_n, U_invokevirtual0, U_iconst, U_invokevirtual2, U_if_ge, U_invokevirtual1, U_ineg, U_goto, U_invokevirtual3, UN_cc, UN_cn, UN_nc, UN_nn, UJ, lget, lset, lset2, entL, wsm, wcat, Option.toList_some, Option.toList_none, List.cons_append, List.nil_append, List.mem_cons, List.not_mem_nil, Prod.mk.injEq, or_false, false_or, or_true, true_or, and_true, true_and, and_false, false_and, and_self, ne_eq, not_false_eq_true, not_true_eq_false, forall_const, true_implies, false_implies, Nat.add_zero, Nat.zero_add, Nat.le_refl, Nat.zero_le, List.set_cons_zero, List.set_cons_succ, List.set_nil, ↓reduceIte, Nat.reduceAdd, Nat.reduceSub, Nat.reduceEqDiff, Nat.reduceLeDiff, Int.reduceEq, Int.reduceNe, Int.reduceNeg, reduceCtorEq, kd190]
          refine ⟨r3 (by omega), m_fromRegister (t := 1) (a := m) h.fz (by omega) (by omega) fun N1 s1 => ?_⟩
          have B1 := (h.mg q0).1.mb.mv (c := 204) s1
          have W1 := wm.mv s1
          have hbb := hb
          obtain ⟨c1, c2⟩ := hbb
          have F1 : FM scK scL N N1 := s1.f4.mo rfl rfl
          simp only [bk207_0, bk207_7, bk207_14, bk207_28, bk207_31, bk207_38, bk207_41, bk207_51, bk207_56, bk207_63, bk207_69, bk207_71, U_iload_n, U_invokestatic1, U_if_eq, U_i2l, U_ldc2_w, U_invokestatic3, U_if_ne, U_bipush, U_ireturn, U_aload_n, U_invokevirtual0, U_iconst, U_invokevirtual2, U_if_ge, U_invokevirtual1, U_ineg, U_goto, U_invokevirtual3, UN_cc, UN_cn, UN_nc, UN_nn, UJ, lget, lset, lset2, entL, wsm, wcat, Option.toList_some, Option.toList_none, List.cons_append, List.nil_append, List.mem_cons, List.not_mem_nil, Prod.mk.injEq, or_false, false_or, or_true, true_or, and_true, true_and, and_false, false_and, and_self, ne_eq, not_false_eq_true, not_true_eq_false, forall_const, true_implies, false_implies, Nat.add_zero, Nat.zero_add, Nat.le_refl, Nat.zero_le, List.set_cons_zero, List.set_cons_succ, List.set_nil, ↓reduceIte, Nat.reduceAdd, Nat.reduceSub, Nat.reduceEqDiff, Nat.reduceLeDiff, Int.reduceEq, Int.reduceNe, Int.reduceNeg, reduceCtorEq, kd190]
          by_cases sb : b < 0
          · obtain ⟨n, rfl⟩ : ∃ n : Nat, b = -(n : Int) := ⟨(-b).toNat, by omega⟩
            rw [if_neg (by omega)] at hQ
            simp only [Int.neg_neg, Int.toNat_natCast] at hQ
            refine ⟨hb, fun _ => ?_, fun e => absurd sb e⟩
            refine m_turnW (a := 1) (hG q0) B1 (by omega) W1 fun N2 u1 u2 u3 u4 => ?_
            have F2 : FM [204] [] N1 N2 := ⟨fun c _ y => u2 c (fun w => y (by simp [w])), fun i _ => by rw [u2 190 (by decide)]⟩
            simp only [bk207_0, bk207_7, bk207_14, bk207_28, bk207_31, bk207_38, bk207_41, bk207_51, bk207_56, bk207_63, bk207_69, bk207_71, U_iload_n, U_invokestatic1, U_if_eq, U_i2l, U_ldc2_w, U_invokestatic3, U_if_ne, U_bipush, U_ireturn, U_aload_n, U_invokevirtual0, U_iconst, U_invokevirtual2, U_if_ge, U_invokevirtual1, U_ineg, U_goto, U_invokevirtual3, UN_cc, UN_cn, UN_nc, UN_nn, UJ, lget, lset, lset2, entL, wsm, wcat, Option.toList_some, Option.toList_none, List.cons_append, List.nil_append, List.mem_cons, List.not_mem_nil, Prod.mk.injEq, or_false, false_or, or_true, true_or, and_true, true_and, and_false, false_and, and_self, ne_eq, not_false_eq_true, not_true_eq_false, forall_const, true_implies, false_implies, Nat.add_zero, Nat.zero_add, Nat.le_refl, Nat.zero_le, List.set_cons_zero, List.set_cons_succ, List.set_nil, ↓reduceIte, Nat.reduceAdd, Nat.reduceSub, Nat.reduceEqDiff, Nat.reduceLeDiff, Int.reduceEq, Int.reduceNe, Int.reduceNeg, reduceCtorEq, kd190, Int.neg_neg]
            refine ⟨hb, fun _ => ⟨r3 (by omega), ?_⟩, fun e => absurd sb e⟩
            refine m_timesOf (to := 0) (ka := 1) (n := n) (hG q0) u1 V.1 cv.2.2.1 (by omega) (by omega) (by omega) (by omega) (by omega) u3 fun N3 t1 t2 t3 t4 => ?_
            have F3 : FM scK scL N N3 := (F1.tr (F2.mo rfl rfl)).tr (t2.fm.mo rfl rfl)
            simp only [bk207_0, bk207_7, bk207_14, bk207_28, bk207_31, bk207_38, bk207_41, bk207_51, bk207_56, bk207_63, bk207_69, bk207_71, U_iload_n, U_invokestatic1, U_if_eq, U_i2l, U_ldc2_w, U_invokestatic3, U_if_ne, U_bipush, U_ireturn, U_aload_n, U_invokevirtual0, U_iconst, U_invokevirtual2, U_if_ge, U_invokevirtual1, U_ineg, U_goto, U_invokevirtual3, UN_cc, UN_cn, UN_nc, UN_nn, UJ, lget, lset, lset2, entL, wsm, wcat, Option.toList_some, Option.toList_none, List.cons_append, List.nil_append, List.mem_cons, List.not_mem_nil, Prod.mk.injEq, or_false, false_or, or_true, true_or, and_true, true_and, and_false, false_and, and_self, ne_eq, not_false_eq_true, not_true_eq_false, forall_const, true_implies, false_implies, Nat.add_zero, Nat.zero_add, Nat.le_refl, Nat.zero_le, List.set_cons_zero, List.set_cons_succ, List.set_nil, ↓reduceIte, Nat.reduceAdd, Nat.reduceSub, Nat.reduceEqDiff, Nat.reduceLeDiff, Int.reduceEq, Int.reduceNe, Int.reduceNeg, reduceCtorEq, kd190]
            refine m_toRegister (t := k) (a := 0) t1.fz (by omega) (by omega) fun N4 s4 => ?_
            simp only [bk207_0, bk207_7, bk207_14, bk207_28, bk207_31, bk207_38, bk207_41, bk207_51, bk207_56, bk207_63, bk207_69, bk207_71, U_iload_n, U_invokestatic1, U_if_eq, U_i2l, U_ldc2_w, U_invokestatic3, U_if_ne, U_bipush, U_ireturn, U_aload_n, U_invokevirtual0, U_iconst, U_invokevirtual2, U_if_ge, U_invokevirtual1, U_ineg, U_goto, U_invokevirtual3, UN_cc, UN_cn, UN_nc, UN_nn, UJ, lget, lset, lset2, entL, wsm, wcat, Option.toList_some, Option.toList_none, List.cons_append, List.nil_append, List.mem_cons, List.not_mem_nil, Prod.mk.injEq, or_false, false_or, or_true, true_or, and_true, true_and, and_false, false_and, and_self, ne_eq, not_false_eq_true, not_true_eq_false, forall_const, true_implies, false_implies, Nat.add_zero, Nat.zero_add, Nat.le_refl, Nat.zero_le, List.set_cons_zero, List.set_cons_succ, List.set_nil, ↓reduceIte, Nat.reduceAdd, Nat.reduceSub, Nat.reduceEqDiff, Nat.reduceLeDiff, Int.reduceEq, Int.reduceNe, Int.reduceNeg, reduceCtorEq]
            exact hQ N4 _ (h.put F3 t1.rw t3 s4) (clp (p := p) F3 rfl s4) rfl
          · obtain ⟨n, rfl⟩ : ∃ n : Nat, b = (n : Int) := ⟨b.toNat, by omega⟩
            rw [if_pos (by omega)] at hQ
            simp only [Int.toNat_natCast] at hQ
            refine ⟨hb, fun e => absurd e sb, fun _ => ⟨hb, fun e => absurd e sb, fun _ => ⟨hb, ?_⟩⟩⟩
            refine m_timesOf (to := 0) (ka := 1) (n := n) (hG q0) B1 V.1 cv.2.2.1 (by omega) (by omega) (by omega) (by omega) (by omega) W1 fun N3 t1 t2 t3 t4 => ?_
            have F3 : FM scK scL N N3 := F1.tr (t2.fm.mo rfl rfl)
            simp only [bk207_0, bk207_7, bk207_14, bk207_28, bk207_31, bk207_38, bk207_41, bk207_51, bk207_56, bk207_63, bk207_69, bk207_71, U_iload_n, U_invokestatic1, U_if_eq, U_i2l, U_ldc2_w, U_invokestatic3, U_if_ne, U_bipush, U_ireturn, U_aload_n, U_invokevirtual0, U_iconst, U_invokevirtual2, U_if_ge, U_invokevirtual1, U_ineg, U_goto, U_invokevirtual3, UN_cc, UN_cn, UN_nc, UN_nn, UJ, lget, lset, lset2, entL, wsm, wcat, Option.toList_some, Option.toList_none, List.cons_append, List.nil_append, List.mem_cons, List.not_mem_nil, Prod.mk.injEq, or_false, false_or, or_true, true_or, and_true, true_and, and_false, false_and, and_self, ne_eq, not_false_eq_true, not_true_eq_false, forall_const, true_implies, false_implies, Nat.add_zero, Nat.zero_add, Nat.le_refl, Nat.zero_le, List.set_cons_zero, List.set_cons_succ, List.set_nil, ↓reduceIte, Nat.reduceAdd, Nat.reduceSub, Nat.reduceEqDiff, Nat.reduceLeDiff, Int.reduceEq, Int.reduceNe, Int.reduceNeg, reduceCtorEq, kd190]
            refine m_toRegister (t := k) (a := 0) t1.fz (by omega) (by omega) fun N4 s4 => ?_
            simp only [bk207_0, bk207_7, bk207_14, bk207_28, bk207_31, bk207_38, bk207_41, bk207_51, bk207_56, bk207_63, bk207_69, bk207_71, U_iload_n, U_invokestatic1, U_if_eq, U_i2l, U_ldc2_w, U_invokestatic3, U_if_ne, U_bipush, U_ireturn, U_aload_n, U_invokevirtual0, U_iconst, U_invokevirtual2, U_if_ge, U_invokevirtual1, U_ineg, U_goto, U_invokevirtual3, UN_cc, UN_cn, UN_nc, UN_nn, UJ, lget, lset, lset2, entL, wsm, wcat, Option.toList_some, Option.toList_none, List.cons_append, List.nil_append, List.mem_cons, List.not_mem_nil, Prod.mk.injEq, or_false, false_or, or_true, true_or, and_true, true_and, and_false, false_and, and_self, ne_eq, not_false_eq_true, not_true_eq_false, forall_const, true_implies, false_implies, Nat.add_zero, Nat.zero_add, Nat.le_refl, Nat.zero_le, List.set_cons_zero, List.set_cons_succ, List.set_nil, ↓reduceIte, Nat.reduceAdd, Nat.reduceSub, Nat.reduceEqDiff, Nat.reduceLeDiff, Int.reduceEq, Int.reduceNe, Int.reduceNeg, reduceCtorEq]
            exact hQ N4 _ (h.put F3 t1.rw t3 s4) (clp (p := p) F3 rfl s4) rfl
      · rw [if_neg q2]
        simp only [bk207_0, bk207_7, bk207_14, bk207_28, bk207_31, bk207_38, bk207_41, bk207_51, bk207_56, bk207_63, bk207_69, bk207_71, U_iload_n, U_invokestatic1, U_if_eq, U_i2l, U_ldc2_w, U_invokestatic3, U_if_ne, U_bipush, U_ireturn, U_aload_n, U_invokevirtual0, U_iconst, U_invokevirtual2, U_if_ge, U_invokevirtual1, U_ineg, U_goto, U_invokevirtual3, UN_cc, UN_cn, UN_nc, UN_nn, UJ, lget, lset, lset2, entL, wsm, wcat, Option.toList_some, Option.toList_none, List.cons_append, List.nil_append, List.mem_cons, List.not_mem_nil, Prod.mk.injEq, or_false, false_or, or_true, true_or, and_true, true_and, and_false, false_and, and_self, ne_eq, not_false_eq_true, not_true_eq_false, forall_const, true_implies, false_implies, Nat.add_zero, Nat.zero_add, Nat.le_refl, Nat.zero_le, List.set_cons_zero, List.set_cons_succ, List.set_nil, ↓reduceIte, Nat.reduceAdd, Nat.reduceSub, Nat.reduceEqDiff, Nat.reduceLeDiff, Int.reduceEq, Int.reduceNe, Int.reduceNeg, reduceCtorEq]
        exact ⟨r3 (by omega), bad (Or.inr (Or.inr q2))⟩
    · rw [if_neg q1]
      simp only [bk207_0, bk207_7, bk207_14, bk207_28, bk207_31, bk207_38, bk207_41, bk207_51, bk207_56, bk207_63, bk207_69, bk207_71, U_iload_n, U_invokestatic1, U_if_eq, U_i2l, U_ldc2_w, U_invokestatic3, U_if_ne, U_bipush, U_ireturn, U_aload_n, U_invokevirtual0, U_iconst, U_invokevirtual2, U_if_ge, U_invokevirtual1, U_ineg, U_goto, U_invokevirtual3, UN_cc, UN_cn, UN_nc, UN_nn, UJ, lget, lset, lset2, entL, wsm, wcat, Option.toList_some, Option.toList_none, List.cons_append, List.nil_append, List.mem_cons, List.not_mem_nil, Prod.mk.injEq, or_false, false_or, or_true, true_or, and_true, true_and, and_false, false_and, and_self, ne_eq, not_false_eq_true, not_true_eq_false, forall_const, true_implies, false_implies, Nat.add_zero, Nat.zero_add, Nat.le_refl, Nat.zero_le, List.set_cons_zero, List.set_cons_succ, List.set_nil, ↓reduceIte, Nat.reduceAdd, Nat.reduceSub, Nat.reduceEqDiff, Nat.reduceLeDiff, Int.reduceEq, Int.reduceNe, Int.reduceNeg, reduceCtorEq]
      exact ⟨r3 (by omega), bad (Or.inr (Or.inl q1))⟩
  · rw [if_neg q]
    simp only [bk207_0, bk207_7, bk207_14, bk207_28, bk207_31, bk207_38, bk207_41, bk207_51, bk207_56, bk207_63, bk207_69, bk207_71, U_iload_n, U_invokestatic1, U_if_eq, U_i2l, U_ldc2_w, U_invokestatic3, U_if_ne, U_bipush, U_ireturn, U_aload_n, U_invokevirtual0, U_iconst, U_invokevirtual2, U_if_ge, U_invokevirtual1, U_ineg, U_goto, U_invokevirtual3, UN_cc, UN_cn, UN_nc, UN_nn, UJ, lget, lset, lset2, entL, wsm, wcat, Option.toList_some, Option.toList_none, List.cons_append, List.nil_append, List.mem_cons, List.not_mem_nil, Prod.mk.injEq, or_false, false_or, or_true, true_or, and_true, true_and, and_false, false_and, and_self, ne_eq, not_false_eq_true, not_true_eq_false, forall_const, true_implies, false_implies, Nat.add_zero, Nat.zero_add, Nat.le_refl, Nat.zero_le, List.set_cons_zero, List.set_cons_succ, List.set_nil, ↓reduceIte, Nat.reduceAdd, Nat.reduceSub, Nat.reduceEqDiff, Nat.reduceLeDiff, Int.reduceEq, Int.reduceNe, Int.reduceNeg, reduceCtorEq]
    exact ⟨r3 (by omega), bad (Or.inl q)⟩
theorem wkD_lin {p : Int} {g : Nat} (hp : Pr p) {D v : Int} (hD : 0 ≤ D ∧ D < p) (hv : 0 ≤ v ∧ v < p) (j : Nat) (hj : j < 5) : wkD (lin p 1 D, pC p v) j = if j = 0 then 1 else if j = 1 then D else if j = 3 then v else 0 := by
  have hd : dg (lin p 1 D, pC p v).1 = 2 := (lin_dg hp).1
  have : j = 0 ∨ j = 1 ∨ j = 2 ∨ j = 3 ∨ j = 4 := by omega
  rcases this with rfl | rfl | rfl | rfl | rfl
  · rw [wkD_0, hd]; rfl
  · rw [wkD_1, if_pos (by omega)]; show (lin p 1 D).1 0 = _; rw [lin_c, if_pos rfl, Int.emod_eq_of_lt hD.1 hD.2]; rfl
  · rw [wkD_2, if_neg (by omega)]; rfl
  · rw [wkD_3]; show (pC p v).1 0 = _; rw [pC_c, if_pos rfl, Int.emod_eq_of_lt hv.1 hv.2]; rfl
  · rw [wkD_4]; show (pC p v).1 1 = _; rw [pC_c, if_neg (by decide), Int.zero_emod]; rfl
set_option maxHeartbeats 8000000 in
theorem q_at {p : Int} {g : Nat} {f : Pz p} {pu : List Int} {rg : Nat → Pz p × Pz p} {A tl : Nat → Int} {E : Nat → Nat} {N : Mem} {Q : Post} {r pt : Int} (h : MS g f pu rg A tl E N) (V : VS g f pu rg A tl E) (hr : R32 r) (hpt : R32 pt)
    (hQ : ∀ N' rg', MS g f pu rg' A tl E N' → clF N N' → rg' = (if oAt g f r pt = 1 then upr rg r.toNat (prP f pt.toNat) else rg) → Q (some (0, oAt g f r pt)) NN N') : CL 203 [(2, 190), (0, r), (0, pt)] NN N Q := by
  have hpp := V.1.pos
  have hn := nPt_le V.1 g f
  have bad : (¬ (0 ≤ r ∧ r < 6) ∨ ¬ (0 ≤ pt ∧ pt < nPt g f)) → Q (some (0, -2)) NN N := fun e => by
    have e1 : oAt g f r pt = -2 := by unfold oAt; rw [if_pos e]
    have := hQ N rg h (clF.rf N) (by rw [e1, if_neg (by decide)])
    rw [e1] at this; exact this
  refine WP.run [] [] 90 ?_
  simp only [bk203_0, bk203_7, bk203_19, bk203_22, bk203_29, bk203_32, bk203_40, bk203_43, bk203_52, bk203_88, U_iload_n, U_invokestatic1, U_if_eq, U_i2l, U_lconst, U_ldc2_w, U_invokestatic3, U_if_ne, U_bipush, U_ireturn, U_aload_n, U_invokevirtual0, U_invokevirtual1, U_iconst, U_if_le, U_getfield, U_iast, U_iald, U_ineg, U_invokevirtual2, UN_cc, UN_cn, UN_nc, UN_nn, UJ, lget, lset, lset2, entL, wsm, wcat, Option.toList_some, Option.toList_none, List.cons_append, List.nil_append, List.mem_cons, List.not_mem_nil, Prod.mk.injEq, or_false, false_or, or_true, true_or, and_true, true_and, and_false, false_and, and_self, ne_eq, not_false_eq_true, not_true_eq_false, forall_const, true_implies, false_implies, Nat.add_zero, Nat.zero_add, Nat.le_refl, Nat.zero_le, List.set_cons_zero, List.set_cons_succ, List.set_nil, ↓reduceIte, Nat.reduceAdd, Nat.reduceSub, Nat.reduceEqDiff, Nat.reduceLeDiff, Int.reduceEq, Int.reduceNe, Int.reduceNeg, reduceCtorEq]
  refine m_isReg hr ?_
  by_cases q : 0 ≤ r ∧ r < 6
  · rw [if_pos q]
    simp only [bk203_0, bk203_7, bk203_19, bk203_22, bk203_29, bk203_32, bk203_40, bk203_43, bk203_52, bk203_88, U_iload_n, U_invokestatic1, U_if_eq, U_i2l, U_lconst, U_ldc2_w, U_invokestatic3, U_if_ne, U_bipush, U_ireturn, U_aload_n, U_invokevirtual0, U_invokevirtual1, U_iconst, U_if_le, U_getfield, U_iast, U_iald, U_ineg, U_invokevirtual2, UN_cc, UN_cn, UN_nc, UN_nn, UJ, lget, lset, lset2, entL, wsm, wcat, Option.toList_some, Option.toList_none, List.cons_append, List.nil_append, List.mem_cons, List.not_mem_nil, Prod.mk.injEq, or_false, false_or, or_true, true_or, and_true, true_and, and_false, false_and, and_self, ne_eq, not_false_eq_true, not_true_eq_false, forall_const, true_implies, false_implies, Nat.add_zero, Nat.zero_add, Nat.le_refl, Nat.zero_le, List.set_cons_zero, List.set_cons_succ, List.set_nil, ↓reduceIte, Nat.reduceAdd, Nat.reduceSub, Nat.reduceEqDiff, Nat.reduceLeDiff, Int.reduceEq, Int.reduceNe, Int.reduceNeg, reduceCtorEq]
    refine ⟨r3 (by omega), hpt, m_in hpt.l (r64 (by omega)) (r64 (by omega)) ?_⟩
    by_cases q1 : 0 ≤ pt ∧ pt ≤ 26
    · rw [if_pos q1]
      simp only [bk203_0, bk203_7, bk203_19, bk203_22, bk203_29, bk203_32, bk203_40, bk203_43, bk203_52, bk203_88, U_iload_n, U_invokestatic1, U_if_eq, U_i2l, U_lconst, U_ldc2_w, U_invokestatic3, U_if_ne, U_bipush, U_ireturn, U_aload_n, U_invokevirtual0, U_invokevirtual1, U_iconst, U_if_le, U_getfield, U_iast, U_iald, U_ineg, U_invokevirtual2, UN_cc, UN_cn, UN_nc, UN_nn, UJ, lget, lset, lset2, entL, wsm, wcat, Option.toList_some, Option.toList_none, List.cons_append, List.nil_append, List.mem_cons, List.not_mem_nil, Prod.mk.injEq, or_false, false_or, or_true, true_or, and_true, true_and, and_false, false_and, and_self, ne_eq, not_false_eq_true, not_true_eq_false, forall_const, true_implies, false_implies, Nat.add_zero, Nat.zero_add, Nat.le_refl, Nat.zero_le, List.set_cons_zero, List.set_cons_succ, List.set_nil, ↓reduceIte, Nat.reduceAdd, Nat.reduceSub, Nat.reduceEqDiff, Nat.reduceLeDiff, Int.reduceEq, Int.reduceNe, Int.reduceNeg, reduceCtorEq, kd190]
      refine ⟨r3 (by omega), m_std h V ?_⟩
      by_cases q0 : g = 0
      · rw [if_pos q0]
        have e27 : nPt g f = 27 := by unfold nPt; rw [if_pos q0]
        have eo : oAt g f r pt = -3 := by unfold oAt; rw [if_neg (by omega), if_pos q0]
        simp only [bk203_0, bk203_7, bk203_19, bk203_22, bk203_29, bk203_32, bk203_40, bk203_43, bk203_52, bk203_88, U_iload_n, U_invokestatic1, U_if_eq, U_i2l, U_lconst, U_ldc2_w, U_invokestatic3, U_if_ne, U_bipush, U_ireturn, U_aload_n, U_invokevirtual0, U_invokevirtual1, U_iconst, U_if_le, U_getfield, U_iast, U_iald, U_ineg, U_invokevirtual2, UN_cc, UN_cn, UN_nc, UN_nn, UJ, lget, lset, lset2, entL, wsm, wcat, Option.toList_some, Option.toList_none, List.cons_append, List.nil_append, List.mem_cons, List.not_mem_nil, Prod.mk.injEq, or_false, false_or, or_true, true_or, and_true, true_and, and_false, false_and, and_self, ne_eq, not_false_eq_true, not_true_eq_false, forall_const, true_implies, false_implies, Nat.add_zero, Nat.zero_add, Nat.le_refl, Nat.zero_le, List.set_cons_zero, List.set_cons_succ, List.set_nil, ↓reduceIte, Nat.reduceAdd, Nat.reduceSub, Nat.reduceEqDiff, Nat.reduceLeDiff, Int.reduceEq, Int.reduceNe, Int.reduceNeg, reduceCtorEq]
        have := hQ N rg h (clF.rf N) (by rw [eo, if_neg (by decide)])
        rw [eo] at this
        exact ⟨r3 (by omega), this⟩
      · rw [if_neg q0]
        obtain ⟨G, hA⟩ := h.mg q0
        obtain ⟨hz, hP⟩ := G.mt
        have en : nPt g f = (ptl f p.toNat).length + 1 := by unfold nPt; rw [if_neg q0]
        simp only [bk203_0, bk203_7, bk203_19, bk203_22, bk203_29, bk203_32, bk203_40, bk203_43, bk203_52, bk203_88, U_iload_n, U_invokestatic1, U_if_eq, U_i2l, U_lconst, U_ldc2_w, U_invokestatic3, U_if_ne, U_bipush, U_ireturn, U_aload_n, U_invokevirtual0, U_invokevirtual1, U_iconst, U_if_le, U_getfield, U_iast, U_iald, U_ineg, U_invokevirtual2, UN_cc, UN_cn, UN_nc, UN_nn, UJ, lget, lset, lset2, entL, wsm, wcat, Option.toList_some, Option.toList_none, List.cons_append, List.nil_append, List.mem_cons, List.not_mem_nil, Prod.mk.injEq, or_false, false_or, or_true, true_or, and_true, true_and, and_false, false_and, and_self, ne_eq, not_false_eq_true, not_true_eq_false, forall_const, true_implies, false_implies, Nat.add_zero, Nat.zero_add, Nat.le_refl, Nat.zero_le, List.set_cons_zero, List.set_cons_succ, List.set_nil, ↓reduceIte, Nat.reduceAdd, Nat.reduceSub, Nat.reduceEqDiff, Nat.reduceLeDiff, Int.reduceEq, Int.reduceNe, Int.reduceNeg, reduceCtorEq, kd190]
        refine ⟨r3 (by omega), m_isPt (m := nPt g f) hpt (by rw [G.2.2.2, en]; rfl) (by omega) ?_⟩
        by_cases q3 : 0 ≤ pt ∧ pt < nPt g f
        · rw [if_pos q3]
          have eo : oAt g f r pt = 1 := by unfold oAt; rw [if_neg (by omega), if_neg q0]
          rw [eo] at hQ
          simp only [↓reduceIte] at hQ
          obtain ⟨k, rfl⟩ : ∃ k : Nat, r = k := ⟨r.toNat, by omega⟩
          obtain ⟨m, rfl⟩ : ∃ m : Nat, pt = m := ⟨pt.toNat, by omega⟩
          simp only [Int.toNat_natCast] at hQ
          simp only [bk203_0, bk203_7, bk203_19, bk203_22, bk203_29, bk203_32, bk203_40, bk203_43, bk203_52, bk203_88, U_iload_n, U_invokestatic1, U_if_eq, U_i2l, U_lconst, U_ldc2_w, U_invokestatic3, U_if_ne, U_bipush, U_ireturn, U_aload_n, U_invokevirtual0, U_invokevirtual1, U_iconst, U_if_le, U_getfield, U_iast, U_iald, U_ineg, U_invokevirtual2, UN_cc, UN_cn, UN_nc, UN_nn, UJ, lget, lset, lset2, entL, wsm, wcat, Option.toList_some, Option.toList_none, List.cons_append, List.nil_append, List.mem_cons, List.not_mem_nil, Prod.mk.injEq, or_false, false_or, or_true, true_or, and_true, true_and, and_false, false_and, and_self, ne_eq, not_false_eq_true, not_true_eq_false, forall_const, true_implies, false_implies, Nat.add_zero, Nat.zero_add, Nat.le_refl, Nat.zero_le, List.set_cons_zero, List.set_cons_succ, List.set_nil, ↓reduceIte, Nat.reduceAdd, Nat.reduceSub, Nat.reduceEqDiff, Nat.reduceLeDiff, Int.reduceEq, Int.reduceNe, Int.reduceNeg, reduceCtorEq, kd190]
          refine ⟨r3 (by omega), m_nought (t := 0) hz (by omega) fun N1 t1 t2 t3 => ?_⟩
          have F1 : FM [204] [] N N1 := ⟨fun c _ y => t1 c (fun w => y (by simp [w])), fun i _ => by rw [t1 190 (by decide)]⟩
          have hz1 := F1.fz ok_4 hz
          have g0 := t2 0 (by omega)
          have g1 := t2 1 (by omega)
          have g2 := t2 2 (by omega)
          have g3 := t2 3 (by omega)
          have g4 := t2 4 (by omega)
          simp only [bk203_0, bk203_7, bk203_19, bk203_22, bk203_29, bk203_32, bk203_40, bk203_43, bk203_52, bk203_88, U_iload_n, U_invokestatic1, U_if_eq, U_i2l, U_lconst, U_ldc2_w, U_invokestatic3, U_if_ne, U_bipush, U_ireturn, U_aload_n, U_invokevirtual0, U_invokevirtual1, U_iconst, U_if_le, U_getfield, U_iast, U_iald, U_ineg, U_invokevirtual2, UN_cc, UN_cn, UN_nc, UN_nn, UJ, lget, lset, lset2, entL, wsm, wcat, Option.toList_some, Option.toList_none, List.cons_append, List.nil_append, List.mem_cons, List.not_mem_nil, Prod.mk.injEq, or_false, false_or, or_true, true_or, and_true, true_and, and_false, false_and, and_self, ne_eq, not_false_eq_true, not_true_eq_false, forall_const, true_implies, false_implies, Nat.add_zero, Nat.zero_add, Nat.le_refl, Nat.zero_le, List.set_cons_zero, List.set_cons_succ, List.set_nil, ↓reduceIte, Nat.reduceAdd, Nat.reduceSub, Nat.reduceEqDiff, Nat.reduceLeDiff, Int.reduceEq, Int.reduceNe, Int.reduceNeg, reduceCtorEq, kd190, kd192, kd193, kd204, ln192, ln193, ln204, z190_6 hz1, z190_20 hz1]
          by_cases m0 : m = 0
          · subst m0
            refine ⟨r3 (by omega), fun e => absurd e (by omega), fun _ => ?_⟩
            refine m_toRegister (t := k) (a := 0) hz1 (by omega) (by omega) fun N4 s4 => ?_
            simp only [bk203_0, bk203_7, bk203_19, bk203_22, bk203_29, bk203_32, bk203_40, bk203_43, bk203_52, bk203_88, U_iload_n, U_invokestatic1, U_if_eq, U_i2l, U_lconst, U_ldc2_w, U_invokestatic3, U_if_ne, U_bipush, U_ireturn, U_aload_n, U_invokevirtual0, U_invokevirtual1, U_iconst, U_if_le, U_getfield, U_iast, U_iald, U_ineg, U_invokevirtual2, UN_cc, UN_cn, UN_nc, UN_nn, UJ, lget, lset, lset2, entL, wsm, wcat, Option.toList_some, Option.toList_none, List.cons_append, List.nil_append, List.mem_cons, List.not_mem_nil, Prod.mk.injEq, or_false, false_or, or_true, true_or, and_true, true_and, and_false, false_and, and_self, ne_eq, not_false_eq_true, not_true_eq_false, forall_const, true_implies, false_implies, Nat.add_zero, Nat.zero_add, Nat.le_refl, Nat.zero_le, List.set_cons_zero, List.set_cons_succ, List.set_nil, ↓reduceIte, Nat.reduceAdd, Nat.reduceSub, Nat.reduceEqDiff, Nat.reduceLeDiff, Int.reduceEq, Int.reduceNe, Int.reduceNeg, reduceCtorEq]
            have w0 : WK N1 204 0 (prP f 0) := fun j hj => by
              rw [wkD_z V.1 (show prP f 0 = (pC p 1, pC p 0) from if_pos rfl) j]; exact t2 j hj
            exact hQ N4 _ (h.put (F1.mo rfl rfl) (h.1.fm F1 ok_4 (by decide) (by decide) (by decide)) w0 s4) (clp (p := p) F1 rfl s4) rfl
          · have pta := ptAt_is f (i := m) (by omega) (by omega)
            obtain ⟨a1, a2⟩ := hA _ _ pta
            rw [show ((m - 1 : Nat) : Int) + 1 = m by omega] at a1 a2
            have hrg := ptl_rg V.1 f p.toNat (by omega) _ (List.mem_of_getElem? pta)
            have b1 : N1 192 (m : Int) = (ptAt f m).1 := by rw [t1 192 (by decide)]; exact a1
            have b2 : N1 193 (m : Int) = (ptAt f m).2 := by rw [t1 193 (by decide)]; exact a2
            have x1 := Int.emod_nonneg (-(ptAt f m).1) (show p ≠ 0 by omega)
            have x2 := Int.emod_lt_of_pos (-(ptAt f m).1) (show 0 < p by omega)
            have F2 : FM [204] [] N1 (ust N1 204 0 1) := (FM.rf _ _ _).us _ _ (by simp) (by decide)
            have hz2 := F2.fz ok_4 hz1
            have hP2 : ust N1 204 0 1 190 0 = p := by rw [ust_ne (by decide), t1 190 (by decide)]; exact hP
            simp only [ust_r, Int.reduceEq, false_and, and_false, ↓reduceIte, z190_6 hz1, z190_7 hz1, z190_20 hz1, kd192, kd193, kd204, ln192, ln193, ln204, b1, b2, not_false_eq_true, true_and]
            refine ⟨r3 (by omega), fun _ => ?_, fun e => absurd (by omega) e⟩
            repeat (first | refine And.intro (by first | omega | exact not_false) ?_ | refine And.intro (rr (by omega)) ?_ | refine And.intro (r3 (by omega)) ?_ | refine And.intro (r6 (by omega)) ?_)
            refine m_mod (v := -(ptAt f m).1) V.1 hP2 (r3 (by omega)) ?_
            have F3 : FM [204] [] N1 (ust (ust (ust N1 204 0 1) 204 1 (-(ptAt f m).1 % p)) 204 3 (ptAt f m).2) := (F2.us _ _ (by simp) (by decide)).us _ _ (by simp) (by decide)
            simp only [bk203_0, bk203_7, bk203_19, bk203_22, bk203_29, bk203_32, bk203_40, bk203_43, bk203_52, bk203_88, U_iload_n, U_invokestatic1, U_if_eq, U_i2l, U_lconst, U_ldc2_w, U_invokestatic3, U_if_ne, U_bipush, U_ireturn, U_aload_n, U_invokevirtual0, U_invokevirtual1, U_iconst, U_if_le, U_getfield, U_iast, U_iald, U_ineg, U_invokevirtual2, UN_cc, UN_cn, UN_nc, UN_nn, UJ, lget, lset, lset2, entL, wsm, wcat, Option.toList_some, Option.toList_none, List.cons_append, List.nil_append, List.mem_cons, List.not_mem_nil, Prod.mk.injEq, or_false, false_or, or_true, true_or, and_true, true_and, and_false, false_and, and_self, ne_eq, not_false_eq_true, not_true_eq_false, forall_const, true_implies, false_implies, Nat.add_zero, Nat.zero_add, Nat.le_refl, Nat.zero_le, List.set_cons_zero, List.set_cons_succ, List.set_nil, ↓reduceIte, Nat.reduceAdd, Nat.reduceSub, Nat.reduceEqDiff, Nat.reduceLeDiff, Int.reduceEq, Int.reduceNe, Int.reduceNeg, reduceCtorEq, kd190, kd193, kd204, ln193, ln204, z190_20 hz2, z190_7 hz2, ust_r, b2]
            refine ⟨by omega, by omega, by omega, by omega, by omega, by omega, ?_⟩
            refine m_toRegister (t := k) (a := 0) (F3.fz ok_4 hz1) (by omega) (by omega) fun N4 s4 => ?_
            simp only [bk203_0, bk203_7, bk203_19, bk203_22, bk203_29, bk203_32, bk203_40, bk203_43, bk203_52, bk203_88, U_iload_n, U_invokestatic1, U_if_eq, U_i2l, U_lconst, U_ldc2_w, U_invokestatic3, U_if_ne, U_bipush, U_ireturn, U_aload_n, U_invokevirtual0, U_invokevirtual1, U_iconst, U_if_le, U_getfield, U_iast, U_iald, U_ineg, U_invokevirtual2, UN_cc, UN_cn, UN_nc, UN_nn, UJ, lget, lset, lset2, entL, wsm, wcat, Option.toList_some, Option.toList_none, List.cons_append, List.nil_append, List.mem_cons, List.not_mem_nil, Prod.mk.injEq, or_false, false_or, or_true, true_or, and_true, true_and, and_false, false_and, and_self, ne_eq, not_false_eq_true, not_true_eq_false, forall_const, true_implies, false_implies, Nat.add_zero, Nat.zero_add, Nat.le_refl, Nat.zero_le, List.set_cons_zero, List.set_cons_succ, List.set_nil, ↓reduceIte, Nat.reduceAdd, Nat.reduceSub, Nat.reduceEqDiff, Nat.reduceLeDiff, Int.reduceEq, Int.reduceNe, Int.reduceNeg, reduceCtorEq]
            have F4 : FM [204] [] N (ust (ust (ust N1 204 0 1) 204 1 (-(ptAt f m).1 % p)) 204 3 (ptAt f m).2) := F1.tr F3
            have ep : prP f m = (lin p 1 (-(ptAt f m).1 % p), pC p (ptAt f m).2) := by
              unfold prP pcl; rw [if_neg m0, lin_put1 V.1]
            have w0 : WK (ust (ust (ust N1 204 0 1) 204 1 (-(ptAt f m).1 % p)) 204 3 (ptAt f m).2) 204 0 (prP f m) := fun j hj => by
              rw [ep, wkD_lin (g := g) V.1 ⟨x1, x2⟩ ⟨hrg.2.2.1, hrg.2.2.2.1⟩ j hj]
              have : j = 0 ∨ j = 1 ∨ j = 2 ∨ j = 3 ∨ j = 4 := by omega
              rcases this with rfl | rfl | rfl | rfl | rfl
              · simp [ust_r]
              · simp [ust_r]
              · simpa [ust_r] using g2
              · simp [ust_r]
              · simpa [ust_r] using g4
            exact hQ N4 _ (h.put (F4.mo rfl rfl) (h.1.fm F4 ok_4 (by decide) (by decide) (by decide)) w0 s4) (clp (p := p) F4 rfl s4) rfl
        · rw [if_neg q3]
          simp only [bk203_0, bk203_7, bk203_19, bk203_22, bk203_29, bk203_32, bk203_40, bk203_43, bk203_52, bk203_88, U_iload_n, U_invokestatic1, U_if_eq, U_i2l, U_lconst, U_ldc2_w, U_invokestatic3, U_if_ne, U_bipush, U_ireturn, U_aload_n, U_invokevirtual0, U_invokevirtual1, U_iconst, U_if_le, U_getfield, U_iast, U_iald, U_ineg, U_invokevirtual2, UN_cc, UN_cn, UN_nc, UN_nn, UJ, lget, lset, lset2, entL, wsm, wcat, Option.toList_some, Option.toList_none, List.cons_append, List.nil_append, List.mem_cons, List.not_mem_nil, Prod.mk.injEq, or_false, false_or, or_true, true_or, and_true, true_and, and_false, false_and, and_self, ne_eq, not_false_eq_true, not_true_eq_false, forall_const, true_implies, false_implies, Nat.add_zero, Nat.zero_add, Nat.le_refl, Nat.zero_le, List.set_cons_zero, List.set_cons_succ, List.set_nil, ↓reduceIte, Nat.reduceAdd, Nat.reduceSub, Nat.reduceEqDiff, Nat.reduceLeDiff, Int.reduceEq, Int.reduceNe, Int.reduceNeg, reduceCtorEq]
          exact ⟨r3 (by omega), bad (Or.inr q3)⟩
    · rw [if_neg q1]
      simp only [bk203_0, bk203_7, bk203_19, bk203_22, bk203_29, bk203_32, bk203_40, bk203_43, bk203_52, bk203_88, U_iload_n, U_invokestatic1, U_if_eq, U_i2l, U_lconst, U_ldc2_w, U_invokestatic3, U_if_ne, U_bipush, U_ireturn, U_aload_n, U_invokevirtual0, U_invokevirtual1, U_iconst, U_if_le, U_getfield, U_iast, U_iald, U_ineg, U_invokevirtual2, UN_cc, UN_cn, UN_nc, UN_nn, UJ, lget, lset, lset2, entL, wsm, wcat, Option.toList_some, Option.toList_none, List.cons_append, List.nil_append, List.mem_cons, List.not_mem_nil, Prod.mk.injEq, or_false, false_or, or_true, true_or, and_true, true_and, and_false, false_and, and_self, ne_eq, not_false_eq_true, not_true_eq_false, forall_const, true_implies, false_implies, Nat.add_zero, Nat.zero_add, Nat.le_refl, Nat.zero_le, List.set_cons_zero, List.set_cons_succ, List.set_nil, ↓reduceIte, Nat.reduceAdd, Nat.reduceSub, Nat.reduceEqDiff, Nat.reduceLeDiff, Int.reduceEq, Int.reduceNe, Int.reduceNeg, reduceCtorEq]
      exact ⟨r3 (by omega), bad (Or.inr (by omega))⟩
  · rw [if_neg q]
    simp only [bk203_0, bk203_7, bk203_19, bk203_22, bk203_29, bk203_32, bk203_40, bk203_43, bk203_52, bk203_88, U_iload_n, U_invokestatic1, U_if_eq, U_i2l, U_lconst, U_ldc2_w, U_invokestatic3, U_if_ne, U_bipush, U_ireturn, U_aload_n, U_invokevirtual0, U_invokevirtual1, U_iconst, U_if_le, U_getfield, U_iast, U_iald, U_ineg, U_invokevirtual2, UN_cc, UN_cn, UN_nc, UN_nn, UJ, lget, lset, lset2, entL, wsm, wcat, Option.toList_some, Option.toList_none, List.cons_append, List.nil_append, List.mem_cons, List.not_mem_nil, Prod.mk.injEq, or_false, false_or, or_true, true_or, and_true, true_and, and_false, false_and, and_self, ne_eq, not_false_eq_true, not_true_eq_false, forall_const, true_implies, false_implies, Nat.add_zero, Nat.zero_add, Nat.le_refl, Nat.zero_le, List.set_cons_zero, List.set_cons_succ, List.set_nil, ↓reduceIte, Nat.reduceAdd, Nat.reduceSub, Nat.reduceEqDiff, Nat.reduceLeDiff, Int.reduceEq, Int.reduceNe, Int.reduceNeg, reduceCtorEq]
    exact ⟨r3 (by omega), bad (Or.inl q)⟩
