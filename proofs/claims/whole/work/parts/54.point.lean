/-! THE OTHER OF A POINT; THE CLASS OF A POINT -/
noncomputable def othr {p : Int} (f : Pz p) (q : Int × Int) : Nat := idxOf (ptl f p.toNat) q.1 ((-q.2) % p) 0 (ptl f p.toNat).length
set_option maxHeartbeats 8000000 in
theorem c_other0 {N : Mem} {Q : Post} (hQ : Q (some (0, 0)) NN N) : CL 78 [(2, 21), (0, 0)] NN N Q := by
  refine WP.run [] [] 30 ?_
  simp only [bk78_0, bk78_4, bk78_8, bk78_30, U_iload_n, U_if_ne, U_iconst, U_goto, U_aload_n, U_invokevirtual1, U_getfield, U_ineg, U_invokevirtual2, U_ireturn, UN_cc, UN_cn, UN_nc, UN_nn, UJ, lget, lset, lset2, entL, wsm, wcat, Option.toList_some, Option.toList_none, List.cons_append, List.nil_append, List.mem_cons, List.not_mem_nil, Prod.mk.injEq, or_false, false_or, or_true, true_or, and_true, true_and, and_false, false_and, and_self, ne_eq, not_false_eq_true, not_true_eq_false, forall_const, true_implies, false_implies, Nat.add_zero, Nat.zero_add, Nat.le_refl, Nat.zero_le, ↓reduceIte, Nat.reduceAdd, Nat.reduceSub, Nat.reduceEqDiff, Nat.reduceLeDiff, Int.reduceEq, Int.reduceNe, Int.reduceNeg, reduceCtorEq]
  exact ⟨r3 (by omega), by simpa using hQ⟩
set_option maxHeartbeats 8000000 in
theorem c_other {p : Int} {N : Mem} {Q : Post} {f : Pz p} (hC : CB p N) (h : PTS N f) (i : Nat) {q : Int × Int} (hq : (ptl f p.toNat)[i]? = some q) (hQ : Q (some (0, (othr f q : Int))) NN N) : CL 78 [(2, 21), (0, ((i : Int) + 1))] NN N Q := by
  have hp := hC.2.1
  have hpp := hp.pos
  have h26 := ptl_26 hp f
  have hi := (List.getElem?_eq_some_iff.mp hq).1
  have hr := ptl_rg hp f p.toNat (by omega) q (List.mem_of_getElem? hq)
  have e1 := Int.emod_nonneg (-q.2) (b := p) (by omega)
  have e2 := Int.emod_lt_of_pos (-q.2) (b := p) (by omega)
  refine WP.run [] [] 60 ?_
  simp only [bk78_0, bk78_4, bk78_8, bk78_30, U_iload_n, U_if_ne, U_iconst, U_goto, U_aload_n, U_invokevirtual1, U_getfield, U_ineg, U_invokevirtual2, U_ireturn, UN_cc, UN_cn, UN_nc, UN_nn, UJ, lget, lset, lset2, entL, wsm, wcat, Option.toList_some, Option.toList_none, List.cons_append, List.nil_append, List.mem_cons, List.not_mem_nil, Prod.mk.injEq, or_false, false_or, or_true, true_or, and_true, true_and, and_false, false_and, and_self, ne_eq, not_false_eq_true, not_true_eq_false, forall_const, true_implies, false_implies, Nat.add_zero, Nat.zero_add, Nat.le_refl, Nat.zero_le, ↓reduceIte, Nat.reduceAdd, Nat.reduceSub, Nat.reduceEqDiff, Nat.reduceLeDiff, Int.reduceEq, Int.reduceNe, Int.reduceNeg, reduceCtorEq, kd21, kd2, z21_0 hC.1]
  refine ⟨r3 (by omega), fun e => by omega, fun _ => c_xOf hC.1 hp h i hq ?_⟩
  simp only [bk78_0, bk78_4, bk78_8, bk78_30, U_iload_n, U_if_ne, U_iconst, U_goto, U_aload_n, U_invokevirtual1, U_getfield, U_ineg, U_invokevirtual2, U_ireturn, UN_cc, UN_cn, UN_nc, UN_nn, UJ, lget, lset, lset2, entL, wsm, wcat, Option.toList_some, Option.toList_none, List.cons_append, List.nil_append, List.mem_cons, List.not_mem_nil, Prod.mk.injEq, or_false, false_or, or_true, true_or, and_true, true_and, and_false, false_and, and_self, ne_eq, not_false_eq_true, not_true_eq_false, forall_const, true_implies, false_implies, Nat.add_zero, Nat.zero_add, Nat.le_refl, Nat.zero_le, ↓reduceIte, Nat.reduceAdd, Nat.reduceSub, Nat.reduceEqDiff, Nat.reduceLeDiff, Int.reduceEq, Int.reduceNe, Int.reduceNeg, reduceCtorEq, kd21, kd2, z21_0 hC.1]
  refine c_yOf hC.1 hp h i hq ?_
  simp only [bk78_0, bk78_4, bk78_8, bk78_30, U_iload_n, U_if_ne, U_iconst, U_goto, U_aload_n, U_invokevirtual1, U_getfield, U_ineg, U_invokevirtual2, U_ireturn, UN_cc, UN_cn, UN_nc, UN_nn, UJ, lget, lset, lset2, entL, wsm, wcat, Option.toList_some, Option.toList_none, List.cons_append, List.nil_append, List.mem_cons, List.not_mem_nil, Prod.mk.injEq, or_false, false_or, or_true, true_or, and_true, true_and, and_false, false_and, and_self, ne_eq, not_false_eq_true, not_true_eq_false, forall_const, true_implies, false_implies, Nat.add_zero, Nat.zero_add, Nat.le_refl, Nat.zero_le, ↓reduceIte, Nat.reduceAdd, Nat.reduceSub, Nat.reduceEqDiff, Nat.reduceLeDiff, Int.reduceEq, Int.reduceNe, Int.reduceNeg, reduceCtorEq, kd21, kd2, z21_0 hC.1]
  refine c_by hC (r3 (by omega)) ?_
  simp only [bk78_0, bk78_4, bk78_8, bk78_30, U_iload_n, U_if_ne, U_iconst, U_goto, U_aload_n, U_invokevirtual1, U_getfield, U_ineg, U_invokevirtual2, U_ireturn, UN_cc, UN_cn, UN_nc, UN_nn, UJ, lget, lset, lset2, entL, wsm, wcat, Option.toList_some, Option.toList_none, List.cons_append, List.nil_append, List.mem_cons, List.not_mem_nil, Prod.mk.injEq, or_false, false_or, or_true, true_or, and_true, true_and, and_false, false_and, and_self, ne_eq, not_false_eq_true, not_true_eq_false, forall_const, true_implies, false_implies, Nat.add_zero, Nat.zero_add, Nat.le_refl, Nat.zero_le, ↓reduceIte, Nat.reduceAdd, Nat.reduceSub, Nat.reduceEqDiff, Nat.reduceLeDiff, Int.reduceEq, Int.reduceNe, Int.reduceNeg, reduceCtorEq, kd21, kd2, z21_0 hC.1]
  refine s_numberOf hC.1 hp h (by omega) (by omega) ?_
  simp only [bk78_0, bk78_4, bk78_8, bk78_30, U_iload_n, U_if_ne, U_iconst, U_goto, U_aload_n, U_invokevirtual1, U_getfield, U_ineg, U_invokevirtual2, U_ireturn, UN_cc, UN_cn, UN_nc, UN_nn, UJ, lget, lset, lset2, entL, wsm, wcat, Option.toList_some, Option.toList_none, List.cons_append, List.nil_append, List.mem_cons, List.not_mem_nil, Prod.mk.injEq, or_false, false_or, or_true, true_or, and_true, true_and, and_false, false_and, and_self, ne_eq, not_false_eq_true, not_true_eq_false, forall_const, true_implies, false_implies, Nat.add_zero, Nat.zero_add, Nat.le_refl, Nat.zero_le, ↓reduceIte, Nat.reduceAdd, Nat.reduceSub, Nat.reduceEqDiff, Nat.reduceLeDiff, Int.reduceEq, Int.reduceNe, Int.reduceNeg, reduceCtorEq]
  simpa [othr] using hQ
/-- the pair of a point -/
def pcl (p : Int) (q : Int × Int) : Pz p × Pz p := (pput (pput (pC p 1) 1 1) 0 ((-q.1) % p), pC p q.2)
theorem pcl_u {p : Int} (hp : Pr p) (q : Int × Int) (k : Nat) : (pcl p q).1.1 k = if k = 0 then (-q.1) % p else if k = 1 then 1 else 0 := by
  have hpp := hp.pos
  show (pput (pput (pC p 1) 1 1) 0 ((-q.1) % p)).1 k = _
  rw [pput_c, pput_c, pC_c]
  by_cases e : k = 0
  · rw [if_pos e, if_pos e, md_md]
  · rw [if_neg e, if_neg e]
    by_cases e2 : k = 1
    · simp only [e2, if_true]
      have e3 : (1 : Int) % p = 1 := Int.emod_eq_of_lt (by omega) (by omega)
      simp [e3]
    · rw [if_neg e2, if_neg e2, if_neg e, Int.zero_emod, Int.zero_emod, Int.zero_emod]
theorem pcl_dg {p : Int} (hp : Pr p) (q : Int × Int) : dg (pcl p q).1 = 2 := dg_eq (n := 1) (fun k hk => by rw [pcl_u hp, if_neg (by omega), if_neg (by omega)]) (by rw [pcl_u hp, if_neg (by omega), if_pos rfl]; omega)
theorem pev_pcl {p : Int} (hp : Pr p) (q : Int × Int) (x : Int) : pev (pcl p q).1 x = (x - q.1) % p := by
  rw [pev_n (pcl p q).1 x (n := 2) (by rw [pcl_dg hp]; omega)]
  show ((pcl p q).1.1 0 + x * ((pcl p q).1.1 1 + x * 0)) % p = _
  rw [pcl_u hp, pcl_u hp, if_pos rfl, if_neg (by omega), if_pos rfl, md_add (md_md _ _) rfl]
  congr 1; omega
/-- a row is nought at a place just if the place's row goes up in it -/
theorem root_dv {p : Int} (hp : Pr p) (q : Int × Int) (a : Pz p) (h : pev a q.1 = 0) : @Dv _ (pring p) (pcl p q).1 a := by
  obtain ⟨w, r, e, hr⟩ := pdiv hp (pcl p q).1 (by rw [pcl_dg hp]; omega) _ a (Nat.le_refl _)
  rw [pcl_dg hp] at hr
  have e1 : pev a q.1 = pev r q.1 := by
    rw [e, pev_add, pev_mul, pev_pcl hp, Int.sub_self, Int.zero_emod, Int.zero_mul, Int.zero_emod, Int.zero_add]
    exact Int.emod_emod_of_dvd _ (Int.dvd_refl p)
  have e2 : pev r q.1 = r.1 0 := by
    rw [pev_n r q.1 (n := 1) (by omega)]
    show (r.1 0 + q.1 * 0) % p = r.1 0
    rw [Int.mul_zero, Int.add_zero, r.2.1]
  refine ⟨w, ?_⟩
  show a = pmul (pcl p q).1 w
  have e3 : r = pC p 0 := dg_zero.mp (by
    have : dg r ≤ 0 := dg_le fun k _ => by
      by_cases e4 : k = 0
      · subst e4; rw [← e2, ← e1, h]
      · exact dg_far r (by omega)
    omega)
  rw [e3, pC_zero_add] at e
  exact e
theorem pcl_red {p : Int} (hp : Pr p) {f : Pz p} {g : Nat} (hg : 1 ≤ g) {q : Int × Int} (hq : q.2 * q.2 % p = pev f q.1) : pRed f g (pcl p q) := by
  have hpp := hp.pos
  have e := pcl_dg hp q
  refine ⟨⟨by rw [e]; omega, by rw [e, pcl_u hp]; rfl⟩, by rw [e]; omega, ?_, ?_⟩
  · have : dg (pC p q.2) ≤ 1 := dg_le fun k hk => by rw [pC_c, if_neg (by omega)]; exact Int.zero_emod _
    show dg (pC p q.2) < dg (pcl p q).1
    omega
  · refine root_dv hp q (padd (pmul (pC p q.2) (pC p q.2)) (pneg f)) ?_
    rw [pev_add, pev_mul, pev_C, pev_neg]
    have e2 : (q.2 % p * (q.2 % p)) % p = pev f q.1 := by rw [md_mul (md_md _ _) (md_md _ _)]; exact hq
    rw [e2, md_add rfl (md_md _ _), Int.add_right_neg, Int.zero_emod]
set_option maxHeartbeats 16000000 in
theorem s_takePoint {p : Int} {N : Mem} {ρ : Int → Option (Pz p)} {Q : Post} {f : Pz p} {po : Int} (h : ST p N ρ) (ko : KD po = 16) (hP : PTS N f) (i : Nat) {q : Int × Int} (hq : (ptl f p.toNat)[i]? = some q)
    (hQ : ∀ N', ST p N' (upq (upq ρ (po + 1) (pcl p q).1) (po + 3) (pcl p q).2) → FR N N' → Q none NN N') : CL 12 [(2, 32), (2, po), (0, (i : Int) + 1)] NN N Q := by
  have hp := h.1.2.1
  have hpp := hp.pos
  obtain ⟨z1, z2, ku, kv, l, -⟩ := zpr h.1.1 ko
  have n1 : ¬ po + 1 = 0 := by omega
  have n3 : ¬ po + 3 = 0 := by omega
  have h26 := ptl_26 hp f
  have hi := (List.getElem?_eq_some_iff.mp hq).1
  have hr := ptl_rg hp f p.toNat (by omega) q (List.mem_of_getElem? hq)
  have hP' : ∀ N', FR N N' → PTS N' f := fun N' g => hP.fx (g 21 (by decide)) (g 26 (by decide)) (g 27 (by decide))
  refine WP.run [] [] 100 ?_
  simp only [bk12_0, bk12_8, bk12_9, U_aload_n, U_invokevirtual0, U_iload_n, U_if_ne, U_return, U_getfield, U_iconst, U_invokevirtual2, U_invokevirtual1, U_ineg, UN_cc, UN_cn, UN_nc, UN_nn, UJ, lget, lset, lset2, entL, wsm, wcat, Option.toList_some, Option.toList_none, List.cons_append, List.nil_append, List.mem_cons, List.not_mem_nil, Prod.mk.injEq, or_false, false_or, or_true, true_or, and_true, true_and, and_false, false_and, and_self, ne_eq, not_false_eq_true, not_true_eq_false, forall_const, true_implies, false_implies, Nat.add_zero, Nat.zero_add, Nat.le_refl, Nat.zero_le, ↓reduceIte, Nat.reduceAdd, Nat.reduceSub, Nat.reduceEqDiff, Nat.reduceLeDiff, Int.reduceEq, Int.reduceNe, Int.reduceNeg, reduceCtorEq, kd_of ko (by decide)]
  refine s_makeNought h ko fun N1 h1 f1 => ?_
  simp only [bk12_0, bk12_8, bk12_9, U_aload_n, U_invokevirtual0, U_iload_n, U_if_ne, U_return, U_getfield, U_iconst, U_invokevirtual2, U_invokevirtual1, U_ineg, UN_cc, UN_cn, UN_nc, UN_nn, UJ, lget, lset, lset2, entL, wsm, wcat, Option.toList_some, Option.toList_none, List.cons_append, List.nil_append, List.mem_cons, List.not_mem_nil, Prod.mk.injEq, or_false, false_or, or_true, true_or, and_true, true_and, and_false, false_and, and_self, ne_eq, not_false_eq_true, not_true_eq_false, forall_const, true_implies, false_implies, Nat.add_zero, Nat.zero_add, Nat.le_refl, Nat.zero_le, ↓reduceIte, Nat.reduceAdd, Nat.reduceSub, Nat.reduceEqDiff, Nat.reduceLeDiff, Int.reduceEq, Int.reduceNe, Int.reduceNeg, reduceCtorEq, kd_of ko (by decide), kd_of ku (by decide), (zpr h1.1.1 ko).1, n1]
  refine ⟨r3 (by omega), fun e => by omega, fun _ => ?_⟩
  refine s_put h1 ku (a := pC p 1) (by rw [upq_n (by omega)]; exact upq_e _ _ _) 1 (by omega) (Int.emod_eq_of_lt (by omega) (by omega)) fun N2 h2 f2 => ?_
  simp only [bk12_0, bk12_8, bk12_9, U_aload_n, U_invokevirtual0, U_iload_n, U_if_ne, U_return, U_getfield, U_iconst, U_invokevirtual2, U_invokevirtual1, U_ineg, UN_cc, UN_cn, UN_nc, UN_nn, UJ, lget, lset, lset2, entL, wsm, wcat, Option.toList_some, Option.toList_none, List.cons_append, List.nil_append, List.mem_cons, List.not_mem_nil, Prod.mk.injEq, or_false, false_or, or_true, true_or, and_true, true_and, and_false, false_and, and_self, ne_eq, not_false_eq_true, not_true_eq_false, forall_const, true_implies, false_implies, Nat.add_zero, Nat.zero_add, Nat.le_refl, Nat.zero_le, ↓reduceIte, Nat.reduceAdd, Nat.reduceSub, Nat.reduceEqDiff, Nat.reduceLeDiff, Int.reduceEq, Int.reduceNe, Int.reduceNeg, reduceCtorEq, kd2, kd21, kd22, kd32, kd33, kd35, kd37, kd39, kd41, kd43, kd45, kd_of ko (by decide), kd_of ku (by decide), (zpr h2.1.1 ko).1, n1, z32_0 h2.1.1, z32_1 h2.1.1]
  refine c_xOf h2.1.1 hp (hP' N2 (f1.tr f2)) i hq ?_
  simp only [bk12_0, bk12_8, bk12_9, U_aload_n, U_invokevirtual0, U_iload_n, U_if_ne, U_return, U_getfield, U_iconst, U_invokevirtual2, U_invokevirtual1, U_ineg, UN_cc, UN_cn, UN_nc, UN_nn, UJ, lget, lset, lset2, entL, wsm, wcat, Option.toList_some, Option.toList_none, List.cons_append, List.nil_append, List.mem_cons, List.not_mem_nil, Prod.mk.injEq, or_false, false_or, or_true, true_or, and_true, true_and, and_false, false_and, and_self, ne_eq, not_false_eq_true, not_true_eq_false, forall_const, true_implies, false_implies, Nat.add_zero, Nat.zero_add, Nat.le_refl, Nat.zero_le, ↓reduceIte, Nat.reduceAdd, Nat.reduceSub, Nat.reduceEqDiff, Nat.reduceLeDiff, Int.reduceEq, Int.reduceNe, Int.reduceNeg, reduceCtorEq, kd2, kd21, kd22, kd32, kd33, kd35, kd37, kd39, kd41, kd43, kd45, kd_of ko (by decide), kd_of ku (by decide), (zpr h2.1.1 ko).1, n1]
  refine c_by h2.1 (r3 (by omega)) ?_
  simp only [bk12_0, bk12_8, bk12_9, U_aload_n, U_invokevirtual0, U_iload_n, U_if_ne, U_return, U_getfield, U_iconst, U_invokevirtual2, U_invokevirtual1, U_ineg, UN_cc, UN_cn, UN_nc, UN_nn, UJ, lget, lset, lset2, entL, wsm, wcat, Option.toList_some, Option.toList_none, List.cons_append, List.nil_append, List.mem_cons, List.not_mem_nil, Prod.mk.injEq, or_false, false_or, or_true, true_or, and_true, true_and, and_false, false_and, and_self, ne_eq, not_false_eq_true, not_true_eq_false, forall_const, true_implies, false_implies, Nat.add_zero, Nat.zero_add, Nat.le_refl, Nat.zero_le, ↓reduceIte, Nat.reduceAdd, Nat.reduceSub, Nat.reduceEqDiff, Nat.reduceLeDiff, Int.reduceEq, Int.reduceNe, Int.reduceNeg, reduceCtorEq, kd2, kd21, kd22, kd32, kd33, kd35, kd37, kd39, kd41, kd43, kd45, kd_of ko (by decide), kd_of ku (by decide), (zpr h2.1.1 ko).1, n1]
  refine s_put h2 ku (upq_e _ _ _) 0 (by omega) (md_md _ _) fun N3 h3 f3 => ?_
  simp only [bk12_0, bk12_8, bk12_9, U_aload_n, U_invokevirtual0, U_iload_n, U_if_ne, U_return, U_getfield, U_iconst, U_invokevirtual2, U_invokevirtual1, U_ineg, UN_cc, UN_cn, UN_nc, UN_nn, UJ, lget, lset, lset2, entL, wsm, wcat, Option.toList_some, Option.toList_none, List.cons_append, List.nil_append, List.mem_cons, List.not_mem_nil, Prod.mk.injEq, or_false, false_or, or_true, true_or, and_true, true_and, and_false, false_and, and_self, ne_eq, not_false_eq_true, not_true_eq_false, forall_const, true_implies, false_implies, Nat.add_zero, Nat.zero_add, Nat.le_refl, Nat.zero_le, ↓reduceIte, Nat.reduceAdd, Nat.reduceSub, Nat.reduceEqDiff, Nat.reduceLeDiff, Int.reduceEq, Int.reduceNe, Int.reduceNeg, reduceCtorEq, kd2, kd21, kd22, kd32, kd33, kd35, kd37, kd39, kd41, kd43, kd45, kd_of ko (by decide), kd_of kv (by decide), (zpr h3.1.1 ko).2.1, n3, z32_1 h3.1.1]
  refine c_yOf h3.1.1 hp (hP' N3 ((f1.tr f2).tr f3)) i hq ?_
  simp only [bk12_0, bk12_8, bk12_9, U_aload_n, U_invokevirtual0, U_iload_n, U_if_ne, U_return, U_getfield, U_iconst, U_invokevirtual2, U_invokevirtual1, U_ineg, UN_cc, UN_cn, UN_nc, UN_nn, UJ, lget, lset, lset2, entL, wsm, wcat, Option.toList_some, Option.toList_none, List.cons_append, List.nil_append, List.mem_cons, List.not_mem_nil, Prod.mk.injEq, or_false, false_or, or_true, true_or, and_true, true_and, and_false, false_and, and_self, ne_eq, not_false_eq_true, not_true_eq_false, forall_const, true_implies, false_implies, Nat.add_zero, Nat.zero_add, Nat.le_refl, Nat.zero_le, ↓reduceIte, Nat.reduceAdd, Nat.reduceSub, Nat.reduceEqDiff, Nat.reduceLeDiff, Int.reduceEq, Int.reduceNe, Int.reduceNeg, reduceCtorEq, kd2, kd21, kd22, kd32, kd33, kd35, kd37, kd39, kd41, kd43, kd45, kd_of ko (by decide), kd_of kv (by decide), (zpr h3.1.1 ko).2.1, n3]
  refine s_put h3 kv (a := pC p 0) (by rw [upq_n (by omega), upq_n (by omega)]; exact upq_e _ _ _) 0 (by omega) (v := q.2) (Int.emod_eq_of_lt (by omega) (by omega)) fun N4 h4 f4 => ?_
  simp only [bk12_0, bk12_8, bk12_9, U_aload_n, U_invokevirtual0, U_iload_n, U_if_ne, U_return, U_getfield, U_iconst, U_invokevirtual2, U_invokevirtual1, U_ineg, UN_cc, UN_cn, UN_nc, UN_nn, UJ, lget, lset, lset2, entL, wsm, wcat, Option.toList_some, Option.toList_none, List.cons_append, List.nil_append, List.mem_cons, List.not_mem_nil, Prod.mk.injEq, or_false, false_or, or_true, true_or, and_true, true_and, and_false, false_and, and_self, ne_eq, not_false_eq_true, not_true_eq_false, forall_const, true_implies, false_implies, Nat.add_zero, Nat.zero_add, Nat.le_refl, Nat.zero_le, ↓reduceIte, Nat.reduceAdd, Nat.reduceSub, Nat.reduceEqDiff, Nat.reduceLeDiff, Int.reduceEq, Int.reduceNe, Int.reduceNeg, reduceCtorEq]
  have ev : pput (pC p 0) 0 q.2 = pC p q.2 := Pz.ext fun k => by
    rw [pput_c, pC_c, pC_c]
    by_cases e : k = 0
    · rw [if_pos e, if_pos e]
    · rw [if_neg e, if_neg e, if_neg e, Int.zero_emod, Int.zero_emod]
  have nn : po + 1 ≠ po + 3 := by omega
  rw [ev, upq_c _ _ _ (show po + 3 ≠ po + 1 by omega), upq_u, upq_c _ _ _ (show po + 1 ≠ po + 3 by omega), upq_u] at h4
  refine hQ N4 ?_ (((f1.tr f2).tr f3).tr f4)
  have e5 : upq (upq (upq (upq ρ (po + 1) (pC p 1)) (po + 1) (pput (pC p 1) 1 1)) (po + 1) (pput (pput (pC p 1) 1 1) 0 ((-q.1) % p))) (po + 3) (pC p q.2) = upq (upq ρ (po + 1) (pcl p q).1) (po + 3) (pcl p q).2 := by
    rw [upq_u, upq_u]; rfl
  refine h4.w (fun r a _ e => ?_)
  revert e
  unfold upq
  by_cases e1 : r = po + 3
  · simp [e1, pcl]
  · by_cases e2 : r = po + 1
    · simp [e2, pcl]
    · simp [e1, e2]
