/-! THE MODEL'S CODES: words, the nearest, the least -/
theorem cdL_pre2 {p : Int} (f : Pz p) (k : Nat) : ∀ n, ∃ T, cdL f (k + n) = cdL f k ++ T ∧ ∀ e ∈ T, k ≤ e.1
  | 0 => ⟨[], (List.append_nil _).symm, fun e he => by cases he⟩
  | n + 1 => by
    obtain ⟨T, hT, h1⟩ := cdL_pre2 f k n
    show ∃ T, cdL f ((k + n) + 1) = _ ∧ _
    rw [cdL_s]
    split
    · exact ⟨T, hT, h1⟩
    · split
      · refine ⟨T ++ [(k + n, wdF f (k + n), nrm p (ptl f p.toNat).length (rdA p (ptl f p.toNat).length (clrs (cdL f (k + n))) (wdF f (k + n))))], by rw [← List.append_assoc, ← hT], fun e he => ?_⟩
        rcases List.mem_append.mp he with he | he
        · exact h1 e he
        · rw [List.mem_singleton.mp he]; show k ≤ k + n; omega
      · exact ⟨T, hT, h1⟩
theorem cdW_at {K T : List CdE} {m : Nat} (h1 : ∀ e ∈ K, e.1 ≤ m) (h2 : ∀ e ∈ T, m < e.1) : ∀ n i, i ≤ K.length → i + n = (K ++ T).length → cdW (K ++ T) m n i = K.length
  | 0, i, hi, hn => by rw [List.length_append] at hn; show i = _; omega
  | n + 1, i, hi, hn => by
    unfold cdW
    by_cases c : i < K.length
    · rw [List.getElem?_append_left c, List.getElem?_eq_getElem c]
      show (if (K[i]).1 ≤ m then cdW (K ++ T) m n (i + 1) else i) = _
      rw [if_pos (h1 _ (List.getElem_mem c))]
      exact cdW_at h1 h2 n (i + 1) (by omega) (by omega)
    · obtain rfl : i = K.length := by omega
      rw [List.getElem?_append_right (Nat.le_refl _), Nat.sub_self]
      cases e : T[0]? with
      | none => rfl
      | some e' =>
        show (if e'.1 ≤ m then cdW (K ++ T) m n (K.length + 1) else K.length) = _
        have := h2 e' (List.mem_of_getElem? e)
        rw [if_neg (by omega)]
theorem cwd_cdL {p : Int} (f : Pz p) {m : Nat} (hm : m ≤ 30) : cwd f m = (cdL f (m + 1)).length ∧ ∀ i, i < cwd f m → (cdL f (m + 1))[i]? = (cdL f 31)[i]? := by
  obtain ⟨T, hT, h1⟩ := cdL_pre2 f (m + 1) (30 - m)
  rw [show m + 1 + (30 - m) = 31 by omega] at hT
  have e : cwd f m = (cdL f (m + 1)).length := by
    unfold cwd
    rw [hT]
    exact cdW_at (fun e he => by have := cdL_pole f (m + 1) e he; omega) (fun e he => by have := h1 e he; omega) _ 0 (by omega) (by omega)
  refine ⟨e, fun i hi => ?_⟩
  rw [hT, List.getElem?_append_left (by omega)]
theorem CoM.wd {p : Int} {N : Mem} {f : Pz p} {m : Nat} (hm : m ≤ 30) (h : CoM N f (cdL f (m + 1))) : N 190 35 = (cwd f m : Int) ∧ N 190 36 = ((ptl f p.toNat).length : Int) ∧ ∀ i j : Nat, i < cwd f m → j < (ptl f p.toNat).length → N 217 (26 * (i : Int) + (j : Int)) = wdK f i j := by
  obtain ⟨e1, e2⟩ := cwd_cdL f hm
  refine ⟨by rw [e1]; exact h.1, h.2.1, fun i j hi hj => ?_⟩
  obtain ⟨e, he⟩ : ∃ e, (cdL f (m + 1))[i]? = some e := ⟨_, List.getElem?_eq_getElem (by omega)⟩
  have e3 := e2 i hi
  rw [he] at e3
  have : wdK f i j = e.2.1 j := by unfold wdK; rw [← e3]
  rw [this]; exact h.2.2.2 i e he j hj
/-- the words in the model's readings -/
def CoW (N : Mem) (w L : Nat) (W : Nat → Nat → Int) : Prop := N 190 35 = (w : Int) ∧ N 190 36 = (L : Int) ∧ (w ≤ 26 ∧ L ≤ 26) ∧ (∀ i j, 0 ≤ W i j ∧ W i j ≤ 12) ∧ ∀ i j : Nat, i < w → j < L → N 217 (26 * (i : Int) + (j : Int)) = W i j
theorem CoM.cw {p : Int} {N : Mem} {f : Pz p} {m : Nat} (hp : Pr p) (hm : m ≤ 30) (h : CoM N f (cdL f (m + 1))) : CoW N (cwd f m) (ptl f p.toNat).length (wdK f) := by
  obtain ⟨a, b, c⟩ := h.wd hm
  have hpp := hp.pos
  exact ⟨a, b, ⟨(cwd_le hp f m).2, ptl_26 hp f⟩, fun i j => by have := wdK_rg hp f i j; omega, c⟩
set_option maxHeartbeats 8000000 in
theorem m_words {p : Int} {N : Mem} {Q : Post} {w L : Nat} {W : Nat → Nat → Int} (hp : Pr p) (h0 : N 190 0 = p) (h : CoW N w L W) (hQ : Q (some (0, if p.toNat ^ w ≤ 20000 then ((p.toNat ^ w : Nat) : Int) else 20001)) NN N) : CL 232 [(2, 190), (9, 0), (9, 0)] NN N Q := by
  have hpp := hp.pos
  have h35 := h.1
  have hw := h.2.2.1.1
  have hpn : ((p.toNat : Nat) : Int) = p := by omega
  have out : ∀ (v : Nat) (a : Int), (v = p.toNat ^ w ∨ (20000 < v ∧ 20000 < p.toNat ^ w)) → (v : Int) ≤ 1000000 → WP 232 (0, 0) 32 [(2, 190), (0, (v : Int)), (0, a)] [] NN N Q := fun v a hv hb => by
    refine WP.run [] [] 60 ?_
    simp only [bk232_0, bk232_4, bk232_12, bk232_19, bk232_32, bk232_39, bk232_45, bk232_46, U_iconst, U_istore_n, U_iload_n, U_aload_n, U_getfield, U_icmp_ge, U_sipush, U_icmp_gt, U_imul, U_iinc, U_goto, U_icmp_le, U_ireturn, UN_cc, UN_cn, UN_nc, UN_nn, UJ, lget, lset, lset2, entL, wsm, wcat, Option.toList_some, Option.toList_none, List.cons_append, List.nil_append, List.mem_cons, List.not_mem_nil, Prod.mk.injEq, or_false, false_or, or_true, true_or, and_true, true_and, and_false, false_and, and_self, ne_eq, not_false_eq_true, not_true_eq_false, forall_const, true_implies, false_implies, Nat.add_zero, Nat.zero_add, Nat.le_refl, Nat.zero_le, List.set_cons_zero, List.set_cons_succ, List.set_nil, ↓reduceIte, Nat.reduceAdd, Nat.reduceSub, Nat.reduceEqDiff, Nat.reduceLeDiff, Int.reduceEq, Int.reduceNe, Int.reduceNeg, reduceCtorEq]
    rcases hv with rfl | hv
    · refine ⟨rr (by omega), fun e => ?_, fun e => ?_⟩
      · rw [if_neg (by omega)] at hQ; exact hQ
      · rw [if_pos (by omega)] at hQ; exact hQ
    · refine ⟨rr (by omega), fun e => ?_, fun e => absurd (by omega) e⟩
      rw [if_neg (by omega)] at hQ; exact hQ
  have key : ∀ (n k : Nat), k + n = w → (k = 0 ∨ p.toNat ^ (k - 1) ≤ 20000) → WP 232 (0, 0) 4 [(2, 190), (0, ((p.toNat ^ k : Nat) : Int)), (0, (k : Int))] [] NN N Q := by
    have bd : ∀ k, (k = 0 ∨ p.toNat ^ (k - 1) ≤ 20000) → p.toNat ^ k ≤ 260000 := fun k hk => by
      rcases hk with rfl | hk
      · rw [Nat.pow_zero]; omega
      · by_cases c : k = 0
        · subst c; rw [Nat.pow_zero]; omega
        · obtain ⟨l, rfl⟩ : ∃ l, k = l + 1 := ⟨k - 1, by omega⟩
          rw [Nat.add_sub_cancel] at hk
          rw [Nat.pow_succ]
          have := Nat.mul_le_mul hk (show p.toNat ≤ 13 by omega)
          omega
    intro n
    induction n with
    | zero =>
      intro k hk hb
      obtain rfl : k = w := by omega
      have b := bd k hb
      refine WP.run [(232, 4), (232, 32)] [] 60 ?_
      simp only [bk232_0, bk232_4, bk232_12, bk232_19, bk232_32, bk232_39, bk232_45, bk232_46, U_iconst, U_istore_n, U_iload_n, U_aload_n, U_getfield, U_icmp_ge, U_sipush, U_icmp_gt, U_imul, U_iinc, U_goto, U_icmp_le, U_ireturn, UN_cc, UN_cn, UN_nc, UN_nn, UJ, lget, lset, lset2, entL, wsm, wcat, Option.toList_some, Option.toList_none, List.cons_append, List.nil_append, List.mem_cons, List.not_mem_nil, Prod.mk.injEq, or_false, false_or, or_true, true_or, and_true, true_and, and_false, false_and, and_self, ne_eq, not_false_eq_true, not_true_eq_false, forall_const, true_implies, false_implies, Nat.add_zero, Nat.zero_add, Nat.le_refl, Nat.zero_le, List.set_cons_zero, List.set_cons_succ, List.set_nil, ↓reduceIte, Nat.reduceAdd, Nat.reduceSub, Nat.reduceEqDiff, Nat.reduceLeDiff, Int.reduceEq, Int.reduceNe, Int.reduceNeg, reduceCtorEq, kd190, h35]
      exact ⟨rr (by omega), fun e => absurd e (by omega), fun _ => out _ _ (Or.inl rfl) (by omega)⟩
    | succ n ih =>
      intro k hk hb
      have b := bd k hb
      refine WP.run [(232, 4), (232, 32)] [] 60 ?_
      simp only [bk232_0, bk232_4, bk232_12, bk232_19, bk232_32, bk232_39, bk232_45, bk232_46, U_iconst, U_istore_n, U_iload_n, U_aload_n, U_getfield, U_icmp_ge, U_sipush, U_icmp_gt, U_imul, U_iinc, U_goto, U_icmp_le, U_ireturn, UN_cc, UN_cn, UN_nc, UN_nn, UJ, lget, lset, lset2, entL, wsm, wcat, Option.toList_some, Option.toList_none, List.cons_append, List.nil_append, List.mem_cons, List.not_mem_nil, Prod.mk.injEq, or_false, false_or, or_true, true_or, and_true, true_and, and_false, false_and, and_self, ne_eq, not_false_eq_true, not_true_eq_false, forall_const, true_implies, false_implies, Nat.add_zero, Nat.zero_add, Nat.le_refl, Nat.zero_le, List.set_cons_zero, List.set_cons_succ, List.set_nil, ↓reduceIte, Nat.reduceAdd, Nat.reduceSub, Nat.reduceEqDiff, Nat.reduceLeDiff, Int.reduceEq, Int.reduceNe, Int.reduceNeg, reduceCtorEq, kd190, h35, h0]
      refine ⟨rr (by omega), fun _ => ⟨rr (by omega), fun e => out _ _ (Or.inr ⟨by omega, ?_⟩) (by omega), fun e => ?_⟩, fun e => absurd (by omega) e⟩
      · have : p.toNat ^ k ≤ p.toNat ^ w := Nat.pow_le_pow_right (by omega) (by omega)
        omega
      · have nx := ih (k + 1) (by omega) (Or.inr (by rw [Nat.add_sub_cancel]; omega))
        rw [Nat.pow_succ, Int.natCast_mul, hpn] at nx
        exact nx
  have K := key w 0 (by omega) (Or.inl rfl)
  rw [Nat.pow_zero] at K
  refine WP.run [(232, 4)] [] 60 ?_
  simp only [bk232_0, bk232_4, bk232_12, bk232_19, bk232_32, bk232_39, bk232_45, bk232_46, U_iconst, U_istore_n, U_iload_n, U_aload_n, U_getfield, U_icmp_ge, U_sipush, U_icmp_gt, U_imul, U_iinc, U_goto, U_icmp_le, U_ireturn, UN_cc, UN_cn, UN_nc, UN_nn, UJ, lget, lset, lset2, entL, wsm, wcat, Option.toList_some, Option.toList_none, List.cons_append, List.nil_append, List.mem_cons, List.not_mem_nil, Prod.mk.injEq, or_false, false_or, or_true, true_or, and_true, true_and, and_false, false_and, and_self, ne_eq, not_false_eq_true, not_true_eq_false, forall_const, true_implies, false_implies, Nat.add_zero, Nat.zero_add, Nat.le_refl, Nat.zero_le, List.set_cons_zero, List.set_cons_succ, List.set_nil, ↓reduceIte, Nat.reduceAdd, Nat.reduceSub, Nat.reduceEqDiff, Nat.reduceLeDiff, Int.reduceEq, Int.reduceNe, Int.reduceNeg, reduceCtorEq]
  exact K
theorem div_pow_s (n P i : Nat) : n / P ^ i / P = n / P ^ (i + 1) := by rw [Nat.div_div_eq_div_mul, Nat.pow_succ]
set_option maxHeartbeats 8000000 in
theorem l_dfI {p : Int} {N : Mem} {Q : Post} {w L n j : Nat} {b M : Int} {W : Nat → Nat → Int} (hp : Pr p) (hz : Fz N) (h0 : N 190 0 = p) (h : CoW N w L W) (hn : n ≤ 20000) (hj : j < L) (hQ : ∀ a c : Int, WP 233 (0, 0) 73 [(2, 190), (0, (n : Int)), (0, b), (0, M), (0, (j : Int)), (0, isum (fun i => ((n / p.toNat ^ i % p.toNat : Nat) : Int) * W i j) w), (0, a), (0, c)] [] NN N Q) :
    ∀ (m i : Nat), i + m = w → WP 233 (0, 0) 23 [(2, 190), (0, (n : Int)), (0, b), (0, M), (0, (j : Int)), (0, isum (fun i => ((n / p.toNat ^ i % p.toNat : Nat) : Int) * W i j) i), (0, ((n / p.toNat ^ i : Nat) : Int)), (0, (i : Int))] [] NN N Q := by
  have hpp := hp.pos
  have hpn : ((p.toNat : Nat) : Int) = p := by omega
  intro m
  induction m with
  | zero =>
    intro i hi
    obtain rfl : i = w := by omega
    have hw := h.2.2.1.1
    refine WP.run [(233, 23), (233, 73)] [] 60 ?_
    simp only [bk233_0, bk233_5, bk233_14, bk233_23, bk233_32, bk233_73, bk233_85, bk233_95, bk233_96, bk233_99, bk233_103, bk233_104, bk233_112, U_iconst, U_istore_n, U_istore, U_iload, U_aload_n, U_getfield, U_icmp_ge, U_iload_n, U_irem, U_bipush, U_imul, U_iadd, U_iald, U_idiv, U_iinc, U_goto, U_if_eq, U_icmp_eq, U_ireturn, UN_cc, UN_cn, UN_nc, UN_nn, UJ, lget, lset, lset2, entL, wsm, wcat, Option.toList_some, Option.toList_none, List.cons_append, List.nil_append, List.mem_cons, List.not_mem_nil, Prod.mk.injEq, or_false, false_or, or_true, true_or, and_true, true_and, and_false, false_and, and_self, ne_eq, not_false_eq_true, not_true_eq_false, forall_const, true_implies, false_implies, Nat.add_zero, Nat.zero_add, Nat.le_refl, Nat.zero_le, List.set_cons_zero, List.set_cons_succ, List.set_nil, ↓reduceIte, Nat.reduceAdd, Nat.reduceSub, Nat.reduceEqDiff, Nat.reduceLeDiff, Int.reduceEq, Int.reduceNe, Int.reduceNeg, reduceCtorEq, kd190, h.1]
    exact ⟨rr (by omega), fun e => absurd e (by omega), fun _ => hQ _ _⟩
  | succ m ih =>
    intro i hi
    have hw := h.2.2.1
    have e1 := h.2.2.2.2 i j (by omega) hj
    have hle : n / p.toNat ^ i ≤ n := Nat.div_le_self _ _
    have tm : ((n / p.toNat ^ i : Nat) : Int).tmod p = ((n / p.toNat ^ i % p.toNat : Nat) : Int) := by rw [tm_nn (Int.natCast_nonneg _), Int.natCast_emod, hpn]
    have td : ((n / p.toNat ^ i : Nat) : Int).tdiv p = ((n / p.toNat ^ (i + 1) : Nat) : Int) := by rw [Int.tdiv_eq_ediv_of_nonneg (Int.natCast_nonneg _), ← div_pow_s, Int.natCast_ediv (n / p.toNat ^ i) p.toNat, hpn]
    refine WP.run [(233, 23), (233, 73)] [] 60 ?_
    simp only [bk233_0, bk233_5, bk233_14, bk233_23, bk233_32, bk233_73, bk233_85, bk233_95, bk233_96, bk233_99, bk233_103, bk233_104, bk233_112, U_iconst, U_istore_n, U_istore, U_iload, U_aload_n, U_getfield, U_icmp_ge, U_iload_n, U_irem, U_bipush, U_imul, U_iadd, U_iald, U_idiv, U_iinc, U_goto, U_if_eq, U_icmp_eq, U_ireturn, UN_cc, UN_cn, UN_nc, UN_nn, UJ, lget, lset, lset2, entL, wsm, wcat, Option.toList_some, Option.toList_none, List.cons_append, List.nil_append, List.mem_cons, List.not_mem_nil, Prod.mk.injEq, or_false, false_or, or_true, true_or, and_true, true_and, and_false, false_and, and_self, ne_eq, not_false_eq_true, not_true_eq_false, forall_const, true_implies, false_implies, Nat.add_zero, Nat.zero_add, Nat.le_refl, Nat.zero_le, List.set_cons_zero, List.set_cons_succ, List.set_nil, ↓reduceIte, Nat.reduceAdd, Nat.reduceSub, Nat.reduceEqDiff, Nat.reduceLeDiff, Int.reduceEq, Int.reduceNe, Int.reduceNeg, reduceCtorEq, kd190, kd217, ln217, z190_37 hz, h.1, h0, tm, td, e1]
    have hR1 : R32 ((n / p.toNat ^ i : Nat) : Int) := by generalize n / p.toNat ^ i = D at hle ⊢; exact r3 (by omega)
    exact ⟨rr (by omega), fun _ => ⟨hR1, r3 (by omega), by omega, by omega, by omega, hR1, r3 (by omega), by omega, ih (i + 1) (by omega)⟩, fun e => absurd (by omega) e⟩
set_option maxHeartbeats 8000000 in
theorem m_differs {p : Int} {N : Mem} {Q : Post} {w L n : Nat} {b : Int} {W : Nat → Nat → Int} {T : Nat → Int} (hp : Pr p) (hz : Fz N) (h0 : N 190 0 = p) (h : CoW N w L W) (hn : n ≤ 20000) (hT : (b = 1 ∧ ∀ j : Nat, j < 26 → N 196 (j : Int) = T j) ∨ (b = 0 ∧ ∀ j, T j = 0)) (hTr : ∀ j, 0 ≤ T j ∧ T j ≤ 12) (hQ : Q (some (0, (difN p.toNat p W T w L n : Int))) NN N) : CL 233 [(2, 190), (0, (n : Int)), (0, b), (9, 0), (9, 0), (9, 0), (9, 0), (9, 0)] NN N Q := by
  have hpp := hp.pos
  have hw := h.2.2.1
  have hcnt : ∀ j, cntE (fun j => if isum (fun i => ((n / p.toNat ^ i % p.toNat : Nat) : Int) * W i j) w % p = T j then 0 else 1) 1 j ≤ j := fun j => by
    induction j with
    | zero => exact Nat.le_refl _
    | succ j ih =>
      show cntE _ 1 j + (if _ then 1 else 0) ≤ _
      split <;> omega
  have hsum : ∀ j, 0 ≤ isum (fun i => ((n / p.toNat ^ i % p.toNat : Nat) : Int) * W i j) w ∧ isum (fun i => ((n / p.toNat ^ i % p.toNat : Nat) : Int) * W i j) w ≤ 26 * 156 := fun j => by
    have := isum_rg (F := fun i => ((n / p.toNat ^ i % p.toNat : Nat) : Int) * W i j) (B := 156) (fun i => by
      have h1 : n / p.toNat ^ i % p.toNat < p.toNat := Nat.mod_lt _ (by omega)
      have h2 := h.2.2.2.1 i j
      have h3 := ab_mul (A := 13) (B := 12) (a := ((n / p.toNat ^ i % p.toNat : Nat) : Int)) (b := W i j) (by omega) (by omega)
      have h4 : 0 ≤ ((n / p.toNat ^ i % p.toNat : Nat) : Int) * W i j := Int.mul_nonneg (by omega) h2.1
      exact ⟨h4, by omega⟩) w
    omega
  have key : ∀ (m j : Nat) (a c d : V), j + m = L → WP 233 (0, 0) 5 [(2, 190), (0, (n : Int)), (0, b), (0, (cntE (fun j => if isum (fun i => ((n / p.toNat ^ i % p.toNat : Nat) : Int) * W i j) w % p = T j then 0 else 1) 1 j : Int)), (0, (j : Int)), a, c, d] [] NN N Q := by
    intro m
    induction m with
    | zero =>
      intro j a c d hj
      obtain rfl : j = L := by omega
      refine WP.run [(233, 5)] [] 60 ?_
      simp only [bk233_0, bk233_5, bk233_14, bk233_23, bk233_32, bk233_73, bk233_85, bk233_95, bk233_96, bk233_99, bk233_103, bk233_104, bk233_112, U_iconst, U_istore_n, U_istore, U_iload, U_aload_n, U_getfield, U_icmp_ge, U_iload_n, U_irem, U_bipush, U_imul, U_iadd, U_iald, U_idiv, U_iinc, U_goto, U_if_eq, U_icmp_eq, U_ireturn, UN_cc, UN_cn, UN_nc, UN_nn, UJ, lget, lset, lset2, entL, wsm, wcat, Option.toList_some, Option.toList_none, List.cons_append, List.nil_append, List.mem_cons, List.not_mem_nil, Prod.mk.injEq, or_false, false_or, or_true, true_or, and_true, true_and, and_false, false_and, and_self, ne_eq, not_false_eq_true, not_true_eq_false, forall_const, true_implies, false_implies, Nat.add_zero, Nat.zero_add, Nat.le_refl, Nat.zero_le, List.set_cons_zero, List.set_cons_succ, List.set_nil, ↓reduceIte, Nat.reduceAdd, Nat.reduceSub, Nat.reduceEqDiff, Nat.reduceLeDiff, Int.reduceEq, Int.reduceNe, Int.reduceNeg, reduceCtorEq, kd190, h.2.1]
      exact ⟨rr (by omega), fun e => absurd e (by omega), fun _ => hQ⟩
    | succ m ih =>
      intro j a c d hj
      have hs := hsum j
      have nx := fun a c d => ih (j + 1) a c d (by omega)
      have es : cntE (fun j => if isum (fun i => ((n / p.toNat ^ i % p.toNat : Nat) : Int) * W i j) w % p = T j then 0 else 1) 1 (j + 1) = cntE (fun j => if isum (fun i => ((n / p.toNat ^ i % p.toNat : Nat) : Int) * W i j) w % p = T j then 0 else 1) 1 j + (if (if isum (fun i => ((n / p.toNat ^ i % p.toNat : Nat) : Int) * W i j) w % p = T j then (0 : Int) else 1) = 1 then 1 else 0) := rfl
      rw [es] at nx
      have m1 := Int.emod_nonneg (isum (fun i => ((n / p.toNat ^ i % p.toNat : Nat) : Int) * W i j) w) (show p ≠ 0 by omega)
      have m2 := Int.emod_lt_of_pos (isum (fun i => ((n / p.toNat ^ i % p.toNat : Nat) : Int) * W i j) w) (show 0 < p by omega)
      have tr := hTr j
      have I := l_dfI (p := p) (N := N) (Q := Q) (w := w) (L := L) (n := n) (j := j) (b := b) (M := (cntE (fun j => if isum (fun i => ((n / p.toNat ^ i % p.toNat : Nat) : Int) * W i j) w % p = T j then 0 else 1) 1 j : Int)) (W := W) hp hz h0 h hn (by omega) (fun a c => ?_) w 0 (by omega)
      · refine WP.run [(233, 5), (233, 23)] [] 60 ?_
        simp only [bk233_0, bk233_5, bk233_14, bk233_23, bk233_32, bk233_73, bk233_85, bk233_95, bk233_96, bk233_99, bk233_103, bk233_104, bk233_112, U_iconst, U_istore_n, U_istore, U_iload, U_aload_n, U_getfield, U_icmp_ge, U_iload_n, U_irem, U_bipush, U_imul, U_iadd, U_iald, U_idiv, U_iinc, U_goto, U_if_eq, U_icmp_eq, U_ireturn, UN_cc, UN_cn, UN_nc, UN_nn, UJ, lget, lset, lset2, entL, wsm, wcat, Option.toList_some, Option.toList_none, List.cons_append, List.nil_append, List.mem_cons, List.not_mem_nil, Prod.mk.injEq, or_false, false_or, or_true, true_or, and_true, true_and, and_false, false_and, and_self, ne_eq, not_false_eq_true, not_true_eq_false, forall_const, true_implies, false_implies, Nat.add_zero, Nat.zero_add, Nat.le_refl, Nat.zero_le, List.set_cons_zero, List.set_cons_succ, List.set_nil, ↓reduceIte, Nat.reduceAdd, Nat.reduceSub, Nat.reduceEqDiff, Nat.reduceLeDiff, Int.reduceEq, Int.reduceNe, Int.reduceNeg, reduceCtorEq, kd190, h.2.1]
        refine ⟨rr (by omega), fun _ => ?_, fun e => absurd (by omega) e⟩
        rw [Nat.pow_zero, Nat.div_one] at I
        exact I
      · generalize isum (fun i => ((n / p.toNat ^ i % p.toNat : Nat) : Int) * W i j) w = S at *
        generalize cntE (fun j => if isum (fun i => ((n / p.toNat ^ i % p.toNat : Nat) : Int) * W i j) w % p = T j then 0 else 1) 1 j = C at *
        have fin : (S % p = T j → WP 233 (0, 0) 5 [(2, 190), (0, (n : Int)), (0, b), (0, (C : Int) + 0), (0, (j : Int) + 1), (0, S), (0, a), (0, c)] [] NN N Q) ∧ (¬ S % p = T j → WP 233 (0, 0) 5 [(2, 190), (0, (n : Int)), (0, b), (0, (C : Int) + 1), (0, (j : Int) + 1), (0, S), (0, a), (0, c)] [] NN N Q) := by
          refine ⟨fun e => ?_, fun e => ?_⟩
          · have := nx (0, S) (0, a) (0, c)
            rw [if_pos e, if_neg (by decide), Nat.add_zero] at this
            rw [Int.add_zero]; exact this
          · have := nx (0, S) (0, a) (0, c)
            rw [if_neg e, if_pos rfl] at this
            exact this
        refine WP.run [(233, 5)] [] 60 ?_
        rcases hT with ⟨rfl, hT⟩ | ⟨rfl, hT⟩
        · have e1 := hT j (by omega)
          simp only [bk233_0, bk233_5, bk233_14, bk233_23, bk233_32, bk233_73, bk233_85, bk233_95, bk233_96, bk233_99, bk233_103, bk233_104, bk233_112, U_iconst, U_istore_n, U_istore, U_iload, U_aload_n, U_getfield, U_icmp_ge, U_iload_n, U_irem, U_bipush, U_imul, U_iadd, U_iald, U_idiv, U_iinc, U_goto, U_if_eq, U_icmp_eq, U_ireturn, UN_cc, UN_cn, UN_nc, UN_nn, UJ, lget, lset, lset2, entL, wsm, wcat, Option.toList_some, Option.toList_none, List.cons_append, List.nil_append, List.mem_cons, List.not_mem_nil, Prod.mk.injEq, or_false, false_or, or_true, true_or, and_true, true_and, and_false, false_and, and_self, ne_eq, not_false_eq_true, not_true_eq_false, forall_const, true_implies, false_implies, Nat.add_zero, Nat.zero_add, Nat.le_refl, Nat.zero_le, List.set_cons_zero, List.set_cons_succ, List.set_nil, ↓reduceIte, Nat.reduceAdd, Nat.reduceSub, Nat.reduceEqDiff, Nat.reduceLeDiff, Int.reduceEq, Int.reduceNe, Int.reduceNeg, reduceCtorEq, kd190, kd196, ln196, z190_10 hz, h0, e1]
          rw [tm_nn hs.1]
          repeat (first | refine And.intro (by first | omega | exact not_false) ?_ | refine And.intro (rr (by omega)) ?_ | refine And.intro (r3 (by omega)) ?_ | refine And.intro (r6 (by omega)) ?_)
          exact fin
        · have e1 := hT j
          rw [e1] at fin
          simp only [bk233_0, bk233_5, bk233_14, bk233_23, bk233_32, bk233_73, bk233_85, bk233_95, bk233_96, bk233_99, bk233_103, bk233_104, bk233_112, U_iconst, U_istore_n, U_istore, U_iload, U_aload_n, U_getfield, U_icmp_ge, U_iload_n, U_irem, U_bipush, U_imul, U_iadd, U_iald, U_idiv, U_iinc, U_goto, U_if_eq, U_icmp_eq, U_ireturn, UN_cc, UN_cn, UN_nc, UN_nn, UJ, lget, lset, lset2, entL, wsm, wcat, Option.toList_some, Option.toList_none, List.cons_append, List.nil_append, List.mem_cons, List.not_mem_nil, Prod.mk.injEq, or_false, false_or, or_true, true_or, and_true, true_and, and_false, false_and, and_self, ne_eq, not_false_eq_true, not_true_eq_false, forall_const, true_implies, false_implies, Nat.add_zero, Nat.zero_add, Nat.le_refl, Nat.zero_le, List.set_cons_zero, List.set_cons_succ, List.set_nil, ↓reduceIte, Nat.reduceAdd, Nat.reduceSub, Nat.reduceEqDiff, Nat.reduceLeDiff, Int.reduceEq, Int.reduceNe, Int.reduceNeg, reduceCtorEq, kd190, h0]
          rw [tm_nn hs.1]
          repeat (first | refine And.intro (by first | omega | exact not_false) ?_ | refine And.intro (rr (by omega)) ?_ | refine And.intro (r3 (by omega)) ?_ | refine And.intro (r6 (by omega)) ?_)
          exact fin
  refine WP.run [(233, 5)] [] 60 ?_
  simp only [bk233_0, bk233_5, bk233_14, bk233_23, bk233_32, bk233_73, bk233_85, bk233_95, bk233_96, bk233_99, bk233_103, bk233_104, bk233_112, U_iconst, U_istore_n, U_istore, U_iload, U_aload_n, U_getfield, U_icmp_ge, U_iload_n, U_irem, U_bipush, U_imul, U_iadd, U_iald, U_idiv, U_iinc, U_goto, U_if_eq, U_icmp_eq, U_ireturn, UN_cc, UN_cn, UN_nc, UN_nn, UJ, lget, lset, lset2, entL, wsm, wcat, Option.toList_some, Option.toList_none, List.cons_append, List.nil_append, List.mem_cons, List.not_mem_nil, Prod.mk.injEq, or_false, false_or, or_true, true_or, and_true, true_and, and_false, false_and, and_self, ne_eq, not_false_eq_true, not_true_eq_false, forall_const, true_implies, false_implies, Nat.add_zero, Nat.zero_add, Nat.le_refl, Nat.zero_le, List.set_cons_zero, List.set_cons_succ, List.set_nil, ↓reduceIte, Nat.reduceAdd, Nat.reduceSub, Nat.reduceEqDiff, Nat.reduceLeDiff, Int.reduceEq, Int.reduceNe, Int.reduceNeg, reduceCtorEq]
  exact key L 0 _ _ _ (by omega)
