/-! CODES: words read off, taken to steps -/
def pwy (p x y : Int) : Nat → Int
  | 0 => y
  | n + 1 => pwy p x y n * x % p
theorem pwy_rg {p : Int} (hp : Pr p) {x y : Int} (hy : 0 ≤ y ∧ y < p) : ∀ n, 0 ≤ pwy p x y n ∧ pwy p x y n < p
  | 0 => hy
  | n + 1 => by have := hp.pos; exact ⟨Int.emod_nonneg _ (by omega), Int.emod_lt_of_pos _ (by omega)⟩
/-- what the function of pole k is at the points -/
noncomputable def wdF {p : Int} (f : Pz p) (k : Nat) : Nat → Int := fun j => match (ptl f p.toNat)[j]? with
  | none => 0
  | some q => if k % 2 = 0 then pwy p q.1 1 (k / 2) else pwy p q.1 q.2 ((k - (dg f - 1)) / 2)
theorem wdF_rg {p : Int} (hp : Pr p) (f : Pz p) (k : Nat) : RgV p (wdF f k) := fun j => by
  have hpp := hp.pos
  unfold wdF
  cases h : (ptl f p.toNat)[j]? with
  | none => show (0 : Int) ≤ 0 ∧ (0 : Int) < p; omega
  | some q =>
    have hr := ptl_rg hp f p.toNat (by omega) q (List.mem_of_getElem? h)
    show 0 ≤ (if k % 2 = 0 then pwy p q.1 1 (k / 2) else pwy p q.1 q.2 ((k - (dg f - 1)) / 2)) ∧ (if k % 2 = 0 then pwy p q.1 1 (k / 2) else pwy p q.1 q.2 ((k - (dg f - 1)) / 2)) < p
    split
    · exact pwy_rg hp (by omega) _
    · exact pwy_rg hp (by omega) _
abbrev CdE : Type := Nat × (Nat → Int) × (Nat → Int)
abbrev clrs (K : List CdE) : List (Nat → Int) := K.map (fun e => e.2.2)
/-- functions left among those with a pole below k -/
noncomputable def cdL {p : Int} (f : Pz p) : Nat → List CdE
  | 0 => []
  | k + 1 => if k % 2 = 1 ∧ k < dg f - 1 then cdL f k else
      if ld (rdA p (ptl f p.toNat).length (clrs (cdL f k)) (wdF f k)) (ptl f p.toNat).length < (ptl f p.toNat).length then cdL f k ++ [(k, wdF f k, nrm p (ptl f p.toNat).length (rdA p (ptl f p.toNat).length (clrs (cdL f k)) (wdF f k)))] else cdL f k
theorem cdL_s {p : Int} (f : Pz p) (k : Nat) : cdL f (k + 1) = if k % 2 = 1 ∧ k < dg f - 1 then cdL f k else
      if ld (rdA p (ptl f p.toNat).length (clrs (cdL f k)) (wdF f k)) (ptl f p.toNat).length < (ptl f p.toNat).length then cdL f k ++ [(k, wdF f k, nrm p (ptl f p.toNat).length (rdA p (ptl f p.toNat).length (clrs (cdL f k)) (wdF f k)))] else cdL f k := rfl
theorem cdL_ech {p : Int} (hp : Pr p) (f : Pz p) : ∀ k, Ech p (ptl f p.toNat).length (clrs (cdL f k))
  | 0 => trivial
  | k + 1 => by
    have ih := cdL_ech hp f k
    unfold cdL
    by_cases h : k % 2 = 1 ∧ k < dg f - 1
    · rw [if_pos h]; exact ih
    · rw [if_neg h]
      have := ech1_ech hp (v := wdF f k) ih (wdF_rg hp f k)
      unfold ech1 at this
      split
      · rename_i h2
        rw [if_pos h2] at this
        simpa [clrs] using this
      · exact ih
theorem cdL_len {p : Int} (hp : Pr p) (f : Pz p) (k : Nat) : (cdL f k).length ≤ (ptl f p.toNat).length := by
  have := (cdL_ech hp f k).len.1
  rwa [List.length_map] at this
theorem cdL_full {p : Int} (hp : Pr p) (f : Pz p) {k : Nat} (h : (cdL f k).length = (ptl f p.toNat).length) : ∀ n, cdL f (k + n) = cdL f k
  | 0 => rfl
  | n + 1 => by
    have ih := cdL_full hp f h n
    show cdL f ((k + n) + 1) = _
    rw [cdL_s]
    split
    · exact ih
    · split
      · rename_i h2
        exfalso
        have e := ech1_full (v := wdF f (k + n)) (cdL_ech hp f (k + n)) (by rw [List.length_map, ih, h])
        unfold ech1 at e
        rw [if_pos h2] at e
        have := congrArg List.length e
        simp at this
      · exact ih
theorem cdL_pole {p : Int} (f : Pz p) : ∀ k, ∀ e ∈ cdL f k, e.1 < k
  | 0, e, h => by cases h
  | k + 1, e, h => by
    unfold cdL at h
    split at h
    · have := cdL_pole f k e h; omega
    · split at h
      · rcases List.mem_append.mp h with h | h
        · have := cdL_pole f k e h; omega
        · rw [List.mem_singleton.mp h]; show k < k + 1; omega
      · have := cdL_pole f k e h; omega
theorem cdK : (List.range 26).all (fun i => decide (KD (123 + (i : Int)) = 1) && decide (KD (150 + (i : Int)) = 1) && decide (LN (123 + (i : Int)) = 26) && decide (LN (150 + (i : Int)) = 26) && (inR (123 + (i : Int)) == false) && (inR (150 + (i : Int)) == false)) = true := by decide +kernel
theorem cdk {i : Int} (h0 : 0 ≤ i) (h1 : i < 26) : kd NN (123 + i) = 1 ∧ kd NN (150 + i) = 1 ∧ LN (123 + i) = 26 ∧ LN (150 + i) = 26 ∧ inR (123 + i) = false ∧ inR (150 + i) = false := by
  obtain ⟨n, rfl⟩ : ∃ n : Nat, i = n := ⟨i.toNat, by omega⟩
  have := List.all_eq_true.mp cdK n (List.mem_range.mpr (by omega))
  simp only [Bool.and_eq_true, decide_eq_true_eq, beq_iff_eq] at this
  obtain ⟨⟨⟨⟨⟨a, b⟩, c⟩, d⟩, e⟩, g⟩ := this
  exact ⟨kd_of a (by decide), kd_of b (by decide), c, d, e, g⟩
/-- the code's own cells -/
def cdC (b : Int) : Prop := b = 120 ∨ (123 ≤ b ∧ b < 149) ∨ (150 ≤ b ∧ b < 182)
def FC (N N' : Mem) : Prop := (∀ b, ¬ cdC b → N' b = N b) ∧ ∀ i, i ≠ 7 → i ≠ 8 → i ≠ 9 → i ≠ 13 → i ≠ 14 → N' 120 i = N 120 i
theorem FC.rf (N : Mem) : FC N N := ⟨fun _ _ => rfl, fun _ _ _ _ _ _ => rfl⟩
theorem FC.tr {N N' N'' : Mem} (h1 : FC N N') (h2 : FC N' N'') : FC N N'' := ⟨fun b hb => (h2.1 b hb).trans (h1.1 b hb), fun i a b c d e => (h2.2 i a b c d e).trans (h1.2 i a b c d e)⟩
theorem FC.fr {N N' : Mem} {a : Int} (hF : Fr [a] N N') (h1 : cdC a) (h2 : a ≠ 120) : FC N N' := ⟨fun b hb => hF b (by simp; intro e; exact hb (e ▸ h1)), fun i _ _ _ _ _ => by rw [hF 120 (by simp; exact fun e => h2 e.symm)]⟩
theorem FC.us {N N' : Mem} (h : FC N N') {a : Int} (i x : Int) (h1 : cdC a) (h2 : a ≠ 120) : FC N (ust N' a i x) := h.tr (FC.fr (a := a) (fun b hb => ust_ne (fun e => hb (by simp [e]))) h1 h2)
theorem FC.u0 {N N' : Mem} (h : FC N N') {i : Int} (x : Int) (hi : i = 7 ∨ i = 8 ∨ i = 9 ∨ i = 13 ∨ i = 14) : FC N (ust N' 120 i x) := h.tr ⟨fun b hb => ust_ne (fun e => hb (Or.inl e)), fun j a b c d e => by rw [ust_at, if_neg (by omega)]⟩
theorem fz120 : ((fzL.lookup 120).getD []).all (fun q => q.1 != 7 && q.1 != 8 && q.1 != 9 && q.1 != 13 && q.1 != 14) = true := by decide +kernel
theorem FC.fz {N N' : Mem} (h : FC N N') (hz : Fz N) : Fz N' := hz.of fun a i v e => by
  by_cases q : cdC a
  · rcases q with q | q | q
    · subst q
      have := List.all_eq_true.mp fz120 _ (lookup_in _ e)
      simp only [Bool.and_eq_true, bne_iff_ne, ne_eq] at this
      obtain ⟨⟨⟨⟨g1, g2⟩, g3⟩, g4⟩, g5⟩ := this
      rw [h.2 i g1 g2 g3 g4 g5]
    · obtain ⟨x, rfl⟩ : ∃ x, a = 123 + x := ⟨a - 123, by omega⟩
      rw [fz_arr (Or.inl (kdN (cdk (i := x) (by omega) (by omega)).1 (by decide)))] at e; cases e
    · by_cases q3 : a < 176
      · obtain ⟨x, rfl⟩ : ∃ x, a = 150 + x := ⟨a - 150, by omega⟩
        rw [fz_arr (Or.inl (kdN (cdk (i := x) (by omega) (by omega)).2.1 (by decide)))] at e; cases e
      · have : a = 176 ∨ a = 177 ∨ a = 178 ∨ a = 179 ∨ a = 180 ∨ a = 181 := by omega
        rcases this with rfl | rfl | rfl | rfl | rfl | rfl <;> (rw [fz_arr (Or.inl rfl)] at e; cases e)
  · rw [h.1 a q]
theorem inR_cd {b : Int} (h : inR b = true) : ¬ cdC b := fun q => by
  rcases q with q | q | q
  · subst q; exact absurd h (by decide)
  · obtain ⟨x, rfl⟩ : ∃ x, b = 123 + x := ⟨b - 123, by omega⟩
    rw [(cdk (i := x) (by omega) (by omega)).2.2.2.2.1] at h; cases h
  · by_cases q3 : b < 176
    · obtain ⟨x, rfl⟩ : ∃ x, b = 150 + x := ⟨b - 150, by omega⟩
      rw [(cdk (i := x) (by omega) (by omega)).2.2.2.2.2] at h; cases h
    · have : b = 176 ∨ b = 177 ∨ b = 178 ∨ b = 179 ∨ b = 180 ∨ b = 181 := by omega
      rcases this with rfl | rfl | rfl | rfl | rfl | rfl <;> exact absurd h (by decide)
theorem FC.st {p : Int} {N N' : Mem} {ρ : Int → Option (Pz p)} (h : FC N N') (hS : ST p N ρ) : ST p N' ρ := hS.other (h.fz hS.1.1) (h.1 2 (by unfold cdC; omega)) (h.1 3 (by unfold cdC; omega)) (fun b hb => h.1 b (inR_cd hb))
theorem FC.pts {p : Int} {N N' : Mem} {f : Pz p} (h : FC N N') (hP : PTS N f) : PTS N' f := hP.fx (h.1 21 (by unfold cdC; omega)) (h.1 26 (by unfold cdC; omega)) (h.1 27 (by unfold cdC; omega))
set_option maxHeartbeats 8000000 in
theorem l_rfI {p : Int} {N : Mem} {Q : Post} {f : Pz p} {pw wy : Int} {j m : Nat} {q : Int × Int} {y : Int} (hC : CB p N) (hP : PTS N f) (hq : (ptl f p.toNat)[j]? = some q) (hy : 0 ≤ y ∧ y < p) (hm : pw = m) (hm2 : m ≤ 100) (hQ : ∀ k : Int, WP 39 (0, 0) 68 [(2, 120), (0, pw), (0, wy), (0, (j : Int)), (0, pwy p q.1 y m), (0, k)] [] NN N Q) :
    ∀ (n k : Nat), k + n = m → WP 39 (0, 0) 33 [(2, 120), (0, pw), (0, wy), (0, (j : Int)), (0, pwy p q.1 y k), (0, (k : Int))] [] NN N Q := by
  have hp := hC.2.1
  have hpp := hp.pos
  have hr := ptl_rg hp f p.toNat (by omega) q (List.mem_of_getElem? hq)
  have h26 := ptl_26 hp f
  have hj := (List.getElem?_eq_some_iff.mp hq).1
  intro n
  induction n with
  | zero =>
    intro k hk
    obtain rfl : k = m := by omega
    refine WP.run [(39, 33), (39, 68)] [] 60 ?_
    simp only [bk39_0, bk39_2, bk39_10, bk39_14, bk39_27, bk39_28, bk39_33, bk39_39, bk39_68, bk39_87, U_iconst, U_istore_n, U_iload_n, U_aload_n, U_getfield, U_icmp_ge, U_if_eq, U_iadd, U_invokevirtual1, U_goto, U_istore, U_iload, U_imul, U_irem, U_iinc, U_aald, U_iast, U_return, UN_cc, UN_cn, UN_nc, UN_nn, UJ, lget, lset, lset2, entL, wsm, wcat, Option.toList_some, Option.toList_none, List.cons_append, List.nil_append, List.mem_cons, List.not_mem_nil, Prod.mk.injEq, or_false, false_or, or_true, true_or, and_true, true_and, and_false, false_and, and_self, ne_eq, not_false_eq_true, not_true_eq_false, forall_const, true_implies, false_implies, Nat.add_zero, Nat.zero_add, Nat.le_refl, Nat.zero_le, List.set_cons_zero, List.set_cons_succ, List.set_nil, ↓reduceIte, Nat.reduceAdd, Nat.reduceSub, Nat.reduceEqDiff, Nat.reduceLeDiff, Int.reduceEq, Int.reduceNe, Int.reduceNeg, reduceCtorEq]
    exact ⟨rr (by omega), fun e => absurd e (by omega), fun _ => hQ _⟩
  | succ n ih =>
    intro k hk
    have hv := pwy_rg hp (x := q.1) hy k
    have hm1 := ab_mul (A := 13) (B := 13) (a := pwy p q.1 y k) (b := q.1) (by omega) (by omega)
    have hm0 : 0 ≤ pwy p q.1 y k * q.1 := Int.mul_nonneg hv.1 hr.1
    refine WP.run [(39, 33), (39, 68)] [] 60 ?_
    simp only [bk39_0, bk39_2, bk39_10, bk39_14, bk39_27, bk39_28, bk39_33, bk39_39, bk39_68, bk39_87, U_iconst, U_istore_n, U_iload_n, U_aload_n, U_getfield, U_icmp_ge, U_if_eq, U_iadd, U_invokevirtual1, U_goto, U_istore, U_iload, U_imul, U_irem, U_iinc, U_aald, U_iast, U_return, UN_cc, UN_cn, UN_nc, UN_nn, UJ, lget, lset, lset2, entL, wsm, wcat, Option.toList_some, Option.toList_none, List.cons_append, List.nil_append, List.mem_cons, List.not_mem_nil, Prod.mk.injEq, or_false, false_or, or_true, true_or, and_true, true_and, and_false, false_and, and_self, ne_eq, not_false_eq_true, not_true_eq_false, forall_const, true_implies, false_implies, Nat.add_zero, Nat.zero_add, Nat.le_refl, Nat.zero_le, List.set_cons_zero, List.set_cons_succ, List.set_nil, ↓reduceIte, Nat.reduceAdd, Nat.reduceSub, Nat.reduceEqDiff, Nat.reduceLeDiff, Int.reduceEq, Int.reduceNe, Int.reduceNeg, reduceCtorEq, kd120, kd21, z120_1 hC.1]
    refine ⟨rr (by omega), fun _ => c_xOf hC.1 hp hP j hq ?_, fun e => absurd (by omega) e⟩
    simp only [bk39_0, bk39_2, bk39_10, bk39_14, bk39_27, bk39_28, bk39_33, bk39_39, bk39_68, bk39_87, U_iconst, U_istore_n, U_iload_n, U_aload_n, U_getfield, U_icmp_ge, U_if_eq, U_iadd, U_invokevirtual1, U_goto, U_istore, U_iload, U_imul, U_irem, U_iinc, U_aald, U_iast, U_return, UN_cc, UN_cn, UN_nc, UN_nn, UJ, lget, lset, lset2, entL, wsm, wcat, Option.toList_some, Option.toList_none, List.cons_append, List.nil_append, List.mem_cons, List.not_mem_nil, Prod.mk.injEq, or_false, false_or, or_true, true_or, and_true, true_and, and_false, false_and, and_self, ne_eq, not_false_eq_true, not_true_eq_false, forall_const, true_implies, false_implies, Nat.add_zero, Nat.zero_add, Nat.le_refl, Nat.zero_le, List.set_cons_zero, List.set_cons_succ, List.set_nil, ↓reduceIte, Nat.reduceAdd, Nat.reduceSub, Nat.reduceEqDiff, Nat.reduceLeDiff, Int.reduceEq, Int.reduceNe, Int.reduceNeg, reduceCtorEq, kd120, kd2, z120_0 hC.1, hC.2.2.1]
    rw [tm_nn hm0]
    exact ⟨r3 (by omega), r3 (by omega), by omega, ih (k + 1) (by omega)⟩
set_option maxHeartbeats 8000000 in
theorem l_rfO {p : Int} {N : Mem} {ρ : Int → Option (Pz p)} {Q : Post} {f : Pz p} {pw wy : Int} {l m : Nat} {w : Nat → Int} (hS : ST p N ρ) (hP : PTS N f) (hl : l < 26) (h7 : N 120 7 = l) (h8 : N 120 8 = (ptl f p.toNat).length) (hm : pw = m) (hm2 : m ≤ 100) (hwy : wy = 0 ∨ wy = 1)
    (hw : ∀ j q, (ptl f p.toNat)[j]? = some q → w j = pwy p q.1 (if wy = 0 then 1 else q.2) m)
    (hQ : ∀ N', Fr [123 + (l : Int)] N N' → (∀ j : Nat, j < (ptl f p.toNat).length → N' (123 + (l : Int)) (j : Int) = w j) → Q none NN N') :
    ∀ (n j : Nat) (v v' : V) (Ni : Mem), j + n = (ptl f p.toNat).length → Fr [123 + (l : Int)] N Ni → (∀ i : Nat, i < j → Ni (123 + (l : Int)) (i : Int) = w i) → WP 39 (0, 0) 2 [(2, 120), (0, pw), (0, wy), (0, (j : Int)), v, v'] [] NN Ni Q := by
  have hp := hS.1.2.1
  have hpp := hp.pos
  have h26 := ptl_26 hp f
  obtain ⟨k1, -, l1, -, -, -⟩ := cdk (i := (l : Int)) (by omega) (by omega)
  have nz : ¬ (123 + (l : Int) = 0) := by omega
  intro n
  induction n with
  | zero =>
    intro j v v' Ni hj hF hA
    have e8 : Ni 120 8 = ((ptl f p.toNat).length : Int) := by rw [hF 120 (by simp; omega)]; exact h8
    refine WP.run [(39, 2)] [] 60 ?_
    simp only [bk39_0, bk39_2, bk39_10, bk39_14, bk39_27, bk39_28, bk39_33, bk39_39, bk39_68, bk39_87, U_iconst, U_istore_n, U_iload_n, U_aload_n, U_getfield, U_icmp_ge, U_if_eq, U_iadd, U_invokevirtual1, U_goto, U_istore, U_iload, U_imul, U_irem, U_iinc, U_aald, U_iast, U_return, UN_cc, UN_cn, UN_nc, UN_nn, UJ, lget, lset, lset2, entL, wsm, wcat, Option.toList_some, Option.toList_none, List.cons_append, List.nil_append, List.mem_cons, List.not_mem_nil, Prod.mk.injEq, or_false, false_or, or_true, true_or, and_true, true_and, and_false, false_and, and_self, ne_eq, not_false_eq_true, not_true_eq_false, forall_const, true_implies, false_implies, Nat.add_zero, Nat.zero_add, Nat.le_refl, Nat.zero_le, List.set_cons_zero, List.set_cons_succ, List.set_nil, ↓reduceIte, Nat.reduceAdd, Nat.reduceSub, Nat.reduceEqDiff, Nat.reduceLeDiff, Int.reduceEq, Int.reduceNe, Int.reduceNeg, reduceCtorEq, kd120, e8]
    exact ⟨rr (by omega), fun e => absurd e (by omega), fun _ => hQ Ni hF (fun i hi => hA i (by omega))⟩
  | succ n ih =>
    intro j v v' Ni hj hF hA
    have fc := FC.fr hF (by unfold cdC; omega) (by omega)
    have hSi := fc.st hS
    have hPi := fc.pts hP
    have e8 : Ni 120 8 = ((ptl f p.toNat).length : Int) := by rw [hF 120 (by simp; omega)]; exact h8
    have e7 : Ni 120 7 = (l : Int) := by rw [hF 120 (by simp; omega)]; exact h7
    obtain ⟨q, hq⟩ : ∃ q, (ptl f p.toNat)[j]? = some q := ⟨_, List.getElem?_eq_getElem (by omega)⟩
    have hr := ptl_rg hp f p.toNat (by omega) q (List.mem_of_getElem? hq)
    have z2 := (z122 hSi.1.1 (l : Int) (by omega) (by omega)).1
    have tail : ∀ (y : Int), 0 ≤ y ∧ y < p → w j = pwy p q.1 y m → WP 39 (0, 0) 33 [(2, 120), (0, pw), (0, wy), (0, (j : Int)), (0, y), (0, 0)] [] NN Ni Q := fun y hy hwj => by
      have := l_rfI (Q := Q) (pw := pw) (wy := wy) (m := m) (y := y) hSi.1 hPi hq hy hm hm2 (fun k => ?_) m 0 (by omega)
      · exact this
      · refine WP.run [(39, 2)] [] 60 ?_
        simp only [bk39_0, bk39_2, bk39_10, bk39_14, bk39_27, bk39_28, bk39_33, bk39_39, bk39_68, bk39_87, U_iconst, U_istore_n, U_iload_n, U_aload_n, U_getfield, U_icmp_ge, U_if_eq, U_iadd, U_invokevirtual1, U_goto, U_istore, U_iload, U_imul, U_irem, U_iinc, U_aald, U_iast, U_return, UN_cc, UN_cn, UN_nc, UN_nn, UJ, lget, lset, lset2, entL, wsm, wcat, Option.toList_some, Option.toList_none, List.cons_append, List.nil_append, List.mem_cons, List.not_mem_nil, Prod.mk.injEq, or_false, false_or, or_true, true_or, and_true, true_and, and_false, false_and, and_self, ne_eq, not_false_eq_true, not_true_eq_false, forall_const, true_implies, false_implies, Nat.add_zero, Nat.zero_add, Nat.le_refl, Nat.zero_le, List.set_cons_zero, List.set_cons_succ, List.set_nil, ↓reduceIte, Nat.reduceAdd, Nat.reduceSub, Nat.reduceEqDiff, Nat.reduceLeDiff, Int.reduceEq, Int.reduceNe, Int.reduceNeg, reduceCtorEq, kd120, kd122, ln122, z120_3 hSi.1.1, e7, z2, nz, k1, l1]
        refine ⟨by omega, by omega, by omega, by omega, ?_⟩
        refine ih (j + 1) _ _ _ (by omega) (fun b hb => ?_) (fun i hi => ?_)
        · rw [ust_ne (fun e => hb (by simp [e]))]; exact hF b hb
        · rw [ust_at]
          by_cases e : i = j
          · subst e; rw [if_pos rfl, hwj]
          · rw [if_neg (by omega)]; exact hA i (by omega)
    refine WP.run [(39, 2), (39, 33)] [] 60 ?_
    simp only [bk39_0, bk39_2, bk39_10, bk39_14, bk39_27, bk39_28, bk39_33, bk39_39, bk39_68, bk39_87, U_iconst, U_istore_n, U_iload_n, U_aload_n, U_getfield, U_icmp_ge, U_if_eq, U_iadd, U_invokevirtual1, U_goto, U_istore, U_iload, U_imul, U_irem, U_iinc, U_aald, U_iast, U_return, UN_cc, UN_cn, UN_nc, UN_nn, UJ, lget, lset, lset2, entL, wsm, wcat, Option.toList_some, Option.toList_none, List.cons_append, List.nil_append, List.mem_cons, List.not_mem_nil, Prod.mk.injEq, or_false, false_or, or_true, true_or, and_true, true_and, and_false, false_and, and_self, ne_eq, not_false_eq_true, not_true_eq_false, forall_const, true_implies, false_implies, Nat.add_zero, Nat.zero_add, Nat.le_refl, Nat.zero_le, List.set_cons_zero, List.set_cons_succ, List.set_nil, ↓reduceIte, Nat.reduceAdd, Nat.reduceSub, Nat.reduceEqDiff, Nat.reduceLeDiff, Int.reduceEq, Int.reduceNe, Int.reduceNeg, reduceCtorEq, kd120, kd21, z120_1 hSi.1.1, e8]
    refine ⟨rr (by omega), fun _ => ⟨r3 (by omega), fun e => ?_, fun e => c_yOf hSi.1.1 hp hPi j hq ?_⟩, fun e => absurd (by omega) e⟩
    · refine tail 1 (by omega) ?_
      rw [hw j q hq, if_pos e]
    · simp only [bk39_0, bk39_2, bk39_10, bk39_14, bk39_27, bk39_28, bk39_33, bk39_39, bk39_68, bk39_87, U_iconst, U_istore_n, U_iload_n, U_aload_n, U_getfield, U_icmp_ge, U_if_eq, U_iadd, U_invokevirtual1, U_goto, U_istore, U_iload, U_imul, U_irem, U_iinc, U_aald, U_iast, U_return, UN_cc, UN_cn, UN_nc, UN_nn, UJ, lget, lset, lset2, entL, wsm, wcat, Option.toList_some, Option.toList_none, List.cons_append, List.nil_append, List.mem_cons, List.not_mem_nil, Prod.mk.injEq, or_false, false_or, or_true, true_or, and_true, true_and, and_false, false_and, and_self, ne_eq, not_false_eq_true, not_true_eq_false, forall_const, true_implies, false_implies, Nat.add_zero, Nat.zero_add, Nat.le_refl, Nat.zero_le, List.set_cons_zero, List.set_cons_succ, List.set_nil, ↓reduceIte, Nat.reduceAdd, Nat.reduceSub, Nat.reduceEqDiff, Nat.reduceLeDiff, Int.reduceEq, Int.reduceNe, Int.reduceNeg, reduceCtorEq]
      refine tail q.2 (by omega) ?_
      rw [hw j q hq, if_neg e]
set_option maxHeartbeats 8000000 in
theorem s_readOff {p : Int} {N : Mem} {ρ : Int → Option (Pz p)} {Q : Post} {f : Pz p} {pw wy : Int} {l m : Nat} {w : Nat → Int} (hS : ST p N ρ) (hP : PTS N f) (hl : l < 26) (h7 : N 120 7 = l) (h8 : N 120 8 = (ptl f p.toNat).length) (hm : pw = m) (hm2 : m ≤ 100) (hwy : wy = 0 ∨ wy = 1)
    (hw : ∀ j q, (ptl f p.toNat)[j]? = some q → w j = pwy p q.1 (if wy = 0 then 1 else q.2) m)
    (hQ : ∀ N', Fr [123 + (l : Int)] N N' → (∀ j : Nat, j < (ptl f p.toNat).length → N' (123 + (l : Int)) (j : Int) = w j) → Q none NN N') : CL 39 [(2, 120), (0, pw), (0, wy), (9, 0), (9, 0), (9, 0)] NN N Q := by
  refine WP.run [(39, 2)] [] 60 ?_
  simp only [bk39_0, bk39_2, bk39_10, bk39_14, bk39_27, bk39_28, bk39_33, bk39_39, bk39_68, bk39_87, U_iconst, U_istore_n, U_iload_n, U_aload_n, U_getfield, U_icmp_ge, U_if_eq, U_iadd, U_invokevirtual1, U_goto, U_istore, U_iload, U_imul, U_irem, U_iinc, U_aald, U_iast, U_return, UN_cc, UN_cn, UN_nc, UN_nn, UJ, lget, lset, lset2, entL, wsm, wcat, Option.toList_some, Option.toList_none, List.cons_append, List.nil_append, List.mem_cons, List.not_mem_nil, Prod.mk.injEq, or_false, false_or, or_true, true_or, and_true, true_and, and_false, false_and, and_self, ne_eq, not_false_eq_true, not_true_eq_false, forall_const, true_implies, false_implies, Nat.add_zero, Nat.zero_add, Nat.le_refl, Nat.zero_le, List.set_cons_zero, List.set_cons_succ, List.set_nil, ↓reduceIte, Nat.reduceAdd, Nat.reduceSub, Nat.reduceEqDiff, Nat.reduceLeDiff, Int.reduceEq, Int.reduceNe, Int.reduceNeg, reduceCtorEq]
  exact l_rfO hS hP hl h7 h8 hm hm2 hwy hw hQ (ptl f p.toNat).length 0 _ _ N (by omega) (Fr.rf _ _) (fun i hi => by omega)
