/-! THE STORE OF ROWS: which row object holds which row; what a call on rows does to it -/
def rowArr : List Int := (List.range 218).filterMap (fun (a : Nat) => if KD (a : Int) = 18 then some ((a : Int) + 1) else none)
def inR (b : Int) : Bool := decide (KD b = 18) || rowArr.contains b
def FR (N N' : Mem) : Prop := ∀ b, inR b = false → N' b = N b
def ST (p : Int) (N : Mem) (ρ : Int → Option (Pz p)) : Prop :=
  CB p N ∧ (∀ r, KD r = 18 → RS N r (N r 0) ∧ inR (N r 0) = true) ∧ (∀ r s, KD r = 18 → KD s = 18 → N r 0 = N s 0 → r = s) ∧ ∀ r a, KD r = 18 → ρ r = some a → RP N r (N r 0) a
def upq {p : Int} (ρ : Int → Option (Pz p)) (r : Int) (a : Pz p) : Int → Option (Pz p) := fun s => if s = r then some a else ρ s
theorem upq_e {p : Int} (ρ : Int → Option (Pz p)) (r : Int) (a : Pz p) : upq ρ r a r = some a := if_pos rfl
theorem upq_n {p : Int} {ρ : Int → Option (Pz p)} {r s : Int} {a : Pz p} (h : s ≠ r) : upq ρ r a s = ρ s := if_neg h
theorem FR.rf (N : Mem) : FR N N := fun _ _ => rfl
theorem FR.tr {N N' N'' : Mem} (h1 : FR N N') (h2 : FR N' N'') : FR N N'' := fun b hb => (h2 b hb).trans (h1 b hb)
theorem inR_row {r : Int} (h : KD r = 18) : inR r = true := by unfold inR; simp [h]
theorem kd_of {a z : Int} (h : KD a = z) (hz : z ≠ 0) : kd NN a = z := by
  obtain ⟨n, hn, rfl⟩ := KD_lt (a := a) (by omega)
  unfold kd; rw [if_pos (by show (n : Int) < 218; omega)]; exact h
theorem ST.rs {p : Int} {N : Mem} {ρ : Int → Option (Pz p)} (h : ST p N ρ) {r : Int} (hr : KD r = 18) : RS N r (N r 0) := (h.2.1 r hr).1
theorem ST.rp {p : Int} {N : Mem} {ρ : Int → Option (Pz p)} (h : ST p N ρ) {r : Int} {a : Pz p} (hr : KD r = 18) (e : ρ r = some a) : RP N r (N r 0) a := h.2.2.2 r a hr e
theorem ST.cc {p : Int} {N : Mem} {ρ : Int → Option (Pz p)} (h : ST p N ρ) {r s : Int} (hr : KD r = 18) (hs : KD s = 18) (hn : r ≠ s) : N r 0 ≠ N s 0 := fun e => hn (h.2.2.1 r s hr hs e)
theorem ST.rc {p : Int} {N : Mem} {ρ : Int → Option (Pz p)} (h : ST p N ρ) {r s : Int} (hr : KD r = 18) (hs : KD s = 18) : r ≠ N s 0 := fun e => by
  have h1 := kdN (h.rs hs).1.2.1 (by decide)
  rw [← e, hr] at h1; omega
theorem ST.step {p : Int} {N N' : Mem} {ρ : Int → Option (Pz p)} (h : ST p N ρ) {r : Int} {a : Pz p} (hr : KD r = 18) (hF : Fr [r, N r 0] N N') (hP : RP N' r (N r 0) a) : ST p N' (upq ρ r a) ∧ FR N N' := by
  have hrs := h.rs hr
  have h0 : N' r 0 = N r 0 := hP.1.2
  have hz := h.1.1.row hrs.1 hF h0
  have hc : ∀ s, KD s = 18 → N' s 0 = N s 0 := fun s hs => by
    by_cases e : s = r
    · rw [e, h0]
    · rw [hF s (by simp [e, h.rc hs hr])]
  have n2 := hrs.1.n2
  refine ⟨⟨h.1.fr hz hF (by simp [n2.1.symm, n2.2.1.symm]) ?_, fun s hs => ?_, fun s t hs ht e => ?_, fun s b hs e => ?_⟩, fun b hb => hF b ?_⟩
  · intro q
    rcases List.mem_cons.mp q with q | q
    · exact n2.2.2 q.symm
    · have h3 := (h.2.1 r hr).2
      rw [← List.mem_singleton.mp q] at h3
      exact absurd h3 (by decide)
  · rw [hc s hs]
    exact ⟨⟨(h.rs hs).1, hc s hs⟩, (h.2.1 s hs).2⟩
  · rw [hc s hs, hc t ht] at e; exact h.2.2.1 s t hs ht e
  · by_cases q : s = r
    · subst q
      rw [upq_e] at e
      cases e
      rw [h0]; exact hP
    · rw [upq_n q] at e
      rw [hc s hs]
      exact (h.rp hs e).fr hF (by simp [q, h.rc hs hr]) (by simp [(h.rc hr hs).symm, h.cc hs hr q])
  · intro q
    rcases List.mem_cons.mp q with q | q
    · rw [q, inR_row hr] at hb; cases hb
    · rw [List.mem_singleton.mp q, (h.2.1 r hr).2] at hb; cases hb
theorem ST.w {p : Int} {N : Mem} {ρ ρ' : Int → Option (Pz p)} (h : ST p N ρ) (hw : ∀ r a, KD r = 18 → ρ' r = some a → ρ r = some a) : ST p N ρ' := ⟨h.1, h.2.1, h.2.2.1, fun r a hr e => h.rp hr (hw r a hr e)⟩
theorem s_clear {p : Int} {N : Mem} {ρ : Int → Option (Pz p)} {Q : Post} {r : Int} (h : ST p N ρ) (hr : KD r = 18) (hQ : ∀ N', ST p N' (upq ρ r (pC p 0)) → FR N N' → Q none NN N') : CL 2 [(2, r)] NN N Q :=
  c_clear (h.rs hr) fun N' hF hP => hQ N' (h.step hr hF hP).1 (h.step hr hF hP).2
theorem s_makeOne {p : Int} {N : Mem} {ρ : Int → Option (Pz p)} {Q : Post} {r : Int} (h : ST p N ρ) (hr : KD r = 18) (hQ : ∀ N', ST p N' (upq ρ r (pC p 1)) → FR N N' → Q none NN N') : CL 5 [(2, r)] NN N Q :=
  c_makeOne h.1.2.1 (h.rs hr) fun N' hF hP => hQ N' (h.step hr hF hP).1 (h.step hr hF hP).2
theorem s_put {p : Int} {N : Mem} {ρ : Int → Option (Pz p)} {Q : Post} {r : Int} {a : Pz p} (h : ST p N ρ) (hr : KD r = 18) (ha : ρ r = some a) (i : Nat) (hi : i < 8) {v : Int} (hv : v % p = v) (hQ : ∀ N', ST p N' (upq ρ r (pput a i v)) → FR N N' → Q none NN N') : CL 4 [(2, r), (0, (i : Int)), (0, v)] NN N Q :=
  c_put h.1.2.1 i hi hv (h.rp hr ha) fun N' hF hP => hQ N' (h.step hr hF hP).1 (h.step hr hF hP).2
theorem s_copy {p : Int} {N : Mem} {ρ : Int → Option (Pz p)} {Q : Post} {r s : Int} {a : Pz p} (h : ST p N ρ) (hr : KD r = 18) (hs : KD s = 18) (hn : r ≠ s) (ha : ρ s = some a) (hQ : ∀ N', ST p N' (upq ρ r a) → FR N N' → Q none NN N') : CL 16 [(2, r), (2, s), (9, 0)] NN N Q :=
  c_copy (h.rs hr) (h.rp hs ha) (h.cc hr hs hn) hn fun N' hF hP => hQ N' (h.step hr hF hP).1 (h.step hr hF hP).2
theorem s_addTimes {p : Int} {N : Mem} {ρ : Int → Option (Pz p)} {Q : Post} {r s : Int} {A B : Pz p} {k : Int} (h : ST p N ρ) (hr : KD r = 18) (hs : KD s = 18) (hA : ρ r = some A) (hB : ρ s = some B) (hk : R32 k) (t : Nat) (ht : dg B + t ≤ 8) (hal : r ≠ s ∨ t = 0) (hQ : ∀ N', ST p N' (upq ρ r (padd A (pmul (pM p k t) B))) → FR N N' → Q none NN N') : CL 13 [(2, 2), (2, r), (2, s), (0, k), (0, (t : Int)), (9, 0), (9, 0), (9, 0)] NN N Q := by
  refine c_addTimes h.1 (h.rp hr hA) (h.rp hs hB) hk t ht ?_ fun N' _ hF hP => hQ N' (h.step hr hF hP).1 (h.step hr hF hP).2
  by_cases e : r = s
  · subst e; exact Or.inr ⟨rfl, rfl, by omega⟩
  · exact Or.inl ⟨e, h.cc hr hs e⟩
theorem upq_u {p : Int} (ρ : Int → Option (Pz p)) (r : Int) (a b : Pz p) : upq (upq ρ r a) r b = upq ρ r b := by
  funext s; unfold upq; by_cases e : s = r <;> simp [e]
theorem upq_c {p : Int} (ρ : Int → Option (Pz p)) {r s : Int} (a b : Pz p) (h : r ≠ s) : upq (upq ρ r a) s b = upq (upq ρ s b) r a := by
  funext t; unfold upq
  by_cases e : t = r
  · subst e; simp [h]
  · by_cases e2 : t = s <;> simp [e, e2, h.symm]
/-- the first i coefficients -/
def ptr {p : Int} (a : Pz p) (i : Nat) : Pz p := pmk p (fun k => if k < i then a.1 k else 0) ⟨i, fun k hk => if_neg (by omega)⟩
theorem ptr_c {p : Int} (a : Pz p) (i k : Nat) : (ptr a i).1 k = if k < i then a.1 k else 0 := by
  show (if k < i then a.1 k else 0) % p = _
  split
  · exact a.2.1 k
  · exact Int.zero_emod _
theorem ptr_0 {p : Int} (a : Pz p) : ptr a 0 = pC p 0 := Pz.ext fun k => by
  rw [ptr_c, pC_c, if_neg (by omega)]; split <;> exact (Int.zero_emod _).symm
theorem ptr_all {p : Int} (a : Pz p) : ptr a (dg a) = a := Pz.ext fun k => by
  rw [ptr_c]; split
  · rfl
  · exact (dg_far a (by omega)).symm
theorem ptr_s {p : Int} (a : Pz p) (i : Nat) (c : Int) : padd (pmul (pC p c) (ptr a i)) (pM p (c * a.1 i) i) = pmul (pC p c) (ptr a (i + 1)) := Pz.ext fun k => by
  rw [padd_c, pC_mul, pC_mul, pM_c, ptr_c, ptr_c]
  rw [md_add (md_md _ _) (md_md _ _)]
  by_cases e : k = i
  · subst e; rw [if_neg (by omega), if_pos rfl, if_pos (by omega)]; congr 1; omega
  · rw [if_neg e]
    by_cases q : k < i
    · rw [if_pos q, if_pos (by omega), Int.add_zero]
    · rw [if_neg q, if_neg (by omega), Int.add_zero]
theorem rg_dist {R : Type} [Lean.Grind.CommRing R] (O S M B : R) : (O + S * B) + M * B = O + (S + M) * B := by grind
theorem rg_div {R : Type} [Lean.Grind.CommRing R] {A B Q r : R} (M : R) (h : A = B * Q + r) : A = B * (Q + M) + (r + (-M) * B) := by grind
set_option maxHeartbeats 8000000 in
theorem l_addProduct {p : Int} {N : Mem} {ρ : Int → Option (Pz p)} {Q : Post} {r s t σ : Int} {A B O : Pz p} (hr : KD r = 18) (hs : KD s = 18) (ht : KD t = 18) (hrs : r ≠ s) (hrt : r ≠ t) (hA : ρ s = some A) (hB : ρ t = some B) (hσ : σ = 1 ∨ σ = -1) (hd : dg A + dg B ≤ 9)
    (hQ : ∀ N', ST p N' (upq ρ r (padd O (pmul (pmul (pC p σ) A) B))) → FR N N' → Q none NN N') : ∀ (n i : Nat) (Ni : Mem), i + n = dg A → ST p Ni (upq ρ r (padd O (pmul (pmul (pC p σ) (ptr A i)) B))) → FR N Ni → WP 20 (0, 0) 3 [(2, 2), (2, r), (2, s), (2, t), (0, σ), (0, (i : Int))] [] NN Ni Q := by
  intro n
  induction n with
  | zero =>
    intro i Ni h1 hS hF
    obtain rfl : i = dg A := by omega
    rw [ptr_all] at hS
    have hsA := hS.rp hs (a := A) ((upq_n hrs.symm).trans hA)
    have d8 := hsA.2.2.1
    refine WP.run [(20, 3)] [] 60 ?_
    simp only [bk20_0, bk20_3, bk20_12, bk20_35, U_iconst, U_istore, U_iload, U_aload_n, U_getfield, U_icmp_gt, U_invokevirtual1, U_imul, U_invokevirtual4, U_iinc, U_goto, U_return, UN_cc, UN_cn, UN_nc, UN_nn, UJ, lget, lset, lset2, entL, wsm, wcat, Option.toList_some, Option.toList_none, List.cons_append, List.nil_append, List.mem_cons, List.not_mem_nil, Prod.mk.injEq, or_false, false_or, or_true, true_or, and_true, true_and, and_false, false_and, and_self, ne_eq, not_false_eq_true, not_true_eq_false, forall_const, true_implies, false_implies, Nat.add_zero, Nat.zero_add, Nat.le_refl, Nat.zero_le, ↓reduceIte, Nat.reduceAdd, Nat.reduceSub, Nat.reduceEqDiff, Nat.reduceLeDiff, Int.reduceEq, Int.reduceNe, Int.reduceNeg, reduceCtorEq, kd2, kd_of hs (by decide), hsA.2.2.2]
    exact ⟨rr (by omega), fun _ => hQ Ni hS hF, fun h => absurd h (by omega)⟩
  | succ n ih =>
    intro i Ni h1 hS hF
    have hsA := hS.rp hs (a := A) ((upq_n hrs.symm).trans hA)
    have d8 := hsA.2.2.1
    have b1 := hS.1.2.1.r32 A i
    refine WP.run [(20, 3)] [] 60 ?_
    simp only [bk20_0, bk20_3, bk20_12, bk20_35, U_iconst, U_istore, U_iload, U_aload_n, U_getfield, U_icmp_gt, U_invokevirtual1, U_imul, U_invokevirtual4, U_iinc, U_goto, U_return, UN_cc, UN_cn, UN_nc, UN_nn, UJ, lget, lset, lset2, entL, wsm, wcat, Option.toList_some, Option.toList_none, List.cons_append, List.nil_append, List.mem_cons, List.not_mem_nil, Prod.mk.injEq, or_false, false_or, or_true, true_or, and_true, true_and, and_false, false_and, and_self, ne_eq, not_false_eq_true, not_true_eq_false, forall_const, true_implies, false_implies, Nat.add_zero, Nat.zero_add, Nat.le_refl, Nat.zero_le, ↓reduceIte, Nat.reduceAdd, Nat.reduceSub, Nat.reduceEqDiff, Nat.reduceLeDiff, Int.reduceEq, Int.reduceNe, Int.reduceNeg, reduceCtorEq, kd2, kd_of hs (by decide), hsA.2.2.2]
    refine ⟨rr (by omega), fun h => by omega, fun _ => c_get hsA (r3 (by omega)) ?_⟩
    rw [if_pos (by omega), Int.toNat_natCast]
    simp only [bk20_0, bk20_3, bk20_12, bk20_35, U_iconst, U_istore, U_iload, U_aload_n, U_getfield, U_icmp_gt, U_invokevirtual1, U_imul, U_invokevirtual4, U_iinc, U_goto, U_return, UN_cc, UN_cn, UN_nc, UN_nn, UJ, lget, lset, lset2, entL, wsm, wcat, Option.toList_some, Option.toList_none, List.cons_append, List.nil_append, List.mem_cons, List.not_mem_nil, Prod.mk.injEq, or_false, false_or, or_true, true_or, and_true, true_and, and_false, false_and, and_self, ne_eq, not_false_eq_true, not_true_eq_false, forall_const, true_implies, false_implies, Nat.add_zero, Nat.zero_add, Nat.le_refl, Nat.zero_le, ↓reduceIte, Nat.reduceAdd, Nat.reduceSub, Nat.reduceEqDiff, Nat.reduceLeDiff, Int.reduceEq, Int.reduceNe, Int.reduceNeg, reduceCtorEq, kd2, kd_of hs (by decide), hsA.2.2.2]
    refine s_addTimes hS hr ht (upq_e _ _ _) ((upq_n hrt.symm).trans hB) (r3 (by rcases hσ with rfl | rfl <;> omega)) i (by omega) (Or.inl hrt) fun N' hS' hF' => ?_
    simp only [bk20_0, bk20_3, bk20_12, bk20_35, U_iconst, U_istore, U_iload, U_aload_n, U_getfield, U_icmp_gt, U_invokevirtual1, U_imul, U_invokevirtual4, U_iinc, U_goto, U_return, UN_cc, UN_cn, UN_nc, UN_nn, UJ, lget, lset, lset2, entL, wsm, wcat, Option.toList_some, Option.toList_none, List.cons_append, List.nil_append, List.mem_cons, List.not_mem_nil, Prod.mk.injEq, or_false, false_or, or_true, true_or, and_true, true_and, and_false, false_and, and_self, ne_eq, not_false_eq_true, not_true_eq_false, forall_const, true_implies, false_implies, Nat.add_zero, Nat.zero_add, Nat.le_refl, Nat.zero_le, ↓reduceIte, Nat.reduceAdd, Nat.reduceSub, Nat.reduceEqDiff, Nat.reduceLeDiff, Int.reduceEq, Int.reduceNe, Int.reduceNeg, reduceCtorEq, kd2]
    rw [upq_u] at hS'
    have e : padd (padd O (pmul (pmul (pC p σ) (ptr A i)) B)) (pmul (pM p (σ * A.1 i) i) B) = padd O (pmul (pmul (pC p σ) (ptr A (i + 1))) B) := by
      rw [← ptr_s]; exact @rg_dist (Pz p) (pring p) O (pmul (pC p σ) (ptr A i)) (pM p (σ * A.1 i) i) B
    rw [e] at hS'
    exact ih (i + 1) N' (by omega) hS' (hF.tr hF')
set_option maxHeartbeats 8000000 in
theorem s_addProduct {p : Int} {N : Mem} {ρ : Int → Option (Pz p)} {Q : Post} {r s t σ : Int} {A B O : Pz p} (h : ST p N ρ) (hr : KD r = 18) (hs : KD s = 18) (ht : KD t = 18) (hrs : r ≠ s) (hrt : r ≠ t) (hO : ρ r = some O) (hA : ρ s = some A) (hB : ρ t = some B) (hσ : σ = 1 ∨ σ = -1) (hd : dg A + dg B ≤ 9)
    (hQ : ∀ N', ST p N' (upq ρ r (padd O (pmul (pmul (pC p σ) A) B))) → FR N N' → Q none NN N') : CL 20 [(2, 2), (2, r), (2, s), (2, t), (0, σ), (9, 0)] NN N Q := by
  refine WP.run [(20, 3)] [] 60 ?_
  simp only [bk20_0, bk20_3, bk20_12, bk20_35, U_iconst, U_istore, U_iload, U_aload_n, U_getfield, U_icmp_gt, U_invokevirtual1, U_imul, U_invokevirtual4, U_iinc, U_goto, U_return, UN_cc, UN_cn, UN_nc, UN_nn, UJ, lget, lset, lset2, entL, wsm, wcat, Option.toList_some, Option.toList_none, List.cons_append, List.nil_append, List.mem_cons, List.not_mem_nil, Prod.mk.injEq, or_false, false_or, or_true, true_or, and_true, true_and, and_false, false_and, and_self, ne_eq, not_false_eq_true, not_true_eq_false, forall_const, true_implies, false_implies, Nat.add_zero, Nat.zero_add, Nat.le_refl, Nat.zero_le, ↓reduceIte, Nat.reduceAdd, Nat.reduceSub, Nat.reduceEqDiff, Nat.reduceLeDiff, Int.reduceEq, Int.reduceNe, Int.reduceNeg, reduceCtorEq]
  have e : padd O (pmul (pmul (pC p σ) (ptr A 0)) B) = O := by
    rw [ptr_0, pmul_comm (pC p σ), pC_zero_mul, pC_zero_mul, pC_zero_add]
  have e2 : upq ρ r O = ρ := by
    funext q
    by_cases hq : q = r
    · rw [hq, upq_e, hO]
    · rw [upq_n hq]
  exact l_addProduct hr hs ht hrs hrt hA hB hσ hd hQ (dg A) 0 N (by omega) (by rw [e, e2]; exact h) (FR.rf N)
set_option maxHeartbeats 8000000 in
theorem s_product {p : Int} {N : Mem} {ρ : Int → Option (Pz p)} {Q : Post} {r s t : Int} {A B : Pz p} (h : ST p N ρ) (hr : KD r = 18) (hs : KD s = 18) (ht : KD t = 18) (hrs : r ≠ s) (hrt : r ≠ t) (hA : ρ s = some A) (hB : ρ t = some B) (hd : dg A + dg B ≤ 9)
    (hQ : ∀ N', ST p N' (upq ρ r (pmul A B)) → FR N N' → Q none NN N') : CL 23 [(2, 2), (2, r), (2, s), (2, t)] NN N Q := by
  refine WP.run [] [] 60 ?_
  simp only [bk23_0, U_aload_n, U_invokevirtual0, U_iconst, U_invokevirtual4, U_return, UN_cc, UN_cn, UN_nc, UN_nn, UJ, lget, lset, lset2, entL, wsm, wcat, Option.toList_some, Option.toList_none, List.cons_append, List.nil_append, List.mem_cons, List.not_mem_nil, Prod.mk.injEq, or_false, false_or, or_true, true_or, and_true, true_and, and_false, false_and, and_self, ne_eq, not_false_eq_true, not_true_eq_false, forall_const, true_implies, false_implies, Nat.add_zero, Nat.zero_add, Nat.le_refl, Nat.zero_le, ↓reduceIte, Nat.reduceAdd, Nat.reduceSub, Nat.reduceEqDiff, Nat.reduceLeDiff, Int.reduceEq, Int.reduceNe, Int.reduceNeg, reduceCtorEq, kd2, kd_of hr (by decide)]
  refine s_clear h hr fun N1 h1 f1 => ?_
  simp only [bk23_0, U_aload_n, U_invokevirtual0, U_iconst, U_invokevirtual4, U_return, UN_cc, UN_cn, UN_nc, UN_nn, UJ, lget, lset, lset2, entL, wsm, wcat, Option.toList_some, Option.toList_none, List.cons_append, List.nil_append, List.mem_cons, List.not_mem_nil, Prod.mk.injEq, or_false, false_or, or_true, true_or, and_true, true_and, and_false, false_and, and_self, ne_eq, not_false_eq_true, not_true_eq_false, forall_const, true_implies, false_implies, Nat.add_zero, Nat.zero_add, Nat.le_refl, Nat.zero_le, ↓reduceIte, Nat.reduceAdd, Nat.reduceSub, Nat.reduceEqDiff, Nat.reduceLeDiff, Int.reduceEq, Int.reduceNe, Int.reduceNeg, reduceCtorEq, kd2]
  refine s_addProduct h1 hr hs ht hrs hrt (upq_e _ _ _) ((upq_n hrs.symm).trans hA) ((upq_n hrt.symm).trans hB) (Or.inl rfl) hd fun N2 h2 f2 => ?_
  simp only [bk23_0, U_aload_n, U_invokevirtual0, U_iconst, U_invokevirtual4, U_return, UN_cc, UN_cn, UN_nc, UN_nn, UJ, lget, lset, lset2, entL, wsm, wcat, Option.toList_some, Option.toList_none, List.cons_append, List.nil_append, List.mem_cons, List.not_mem_nil, Prod.mk.injEq, or_false, false_or, or_true, true_or, and_true, true_and, and_false, false_and, and_self, ne_eq, not_false_eq_true, not_true_eq_false, forall_const, true_implies, false_implies, Nat.add_zero, Nat.zero_add, Nat.le_refl, Nat.zero_le, ↓reduceIte, Nat.reduceAdd, Nat.reduceSub, Nat.reduceEqDiff, Nat.reduceLeDiff, Int.reduceEq, Int.reduceNe, Int.reduceNeg, reduceCtorEq]
  rw [upq_u, pC_one_mul, padd_comm, pC_zero_add] at h2
  exact hQ N2 h2 (f1.tr f2)
theorem scl_eq {p : Int} (A : Pz p) (k : Int) : padd A (pmul (pM p (k - 1) 0) A) = pmul (pC p k) A := Pz.ext fun j => by
  rw [padd_c, pM_mul, pC_mul, if_pos (by omega), md_add rfl (md_md _ _)]
  congr 1
  rw [Nat.sub_zero, Int.sub_mul, Int.one_mul]; omega
set_option maxHeartbeats 8000000 in
theorem s_scale {p : Int} {N : Mem} {ρ : Int → Option (Pz p)} {Q : Post} {r k : Int} {A : Pz p} (h : ST p N ρ) (hr : KD r = 18) (hA : ρ r = some A) (hk : -1000 ≤ k ∧ k ≤ 1000) (hQ : ∀ N', ST p N' (upq ρ r (pmul (pC p k) A)) → FR N N' → Q none NN N') : CL 14 [(2, 2), (2, r), (0, k)] NN N Q := by
  refine WP.run [] [] 60 ?_
  simp only [bk14_0, U_aload_n, U_iload_n, U_iconst, U_isub, U_invokevirtual4, U_return, UN_cc, UN_cn, UN_nc, UN_nn, UJ, lget, lset, lset2, entL, wsm, wcat, Option.toList_some, Option.toList_none, List.cons_append, List.nil_append, List.mem_cons, List.not_mem_nil, Prod.mk.injEq, or_false, false_or, or_true, true_or, and_true, true_and, and_false, false_and, and_self, ne_eq, not_false_eq_true, not_true_eq_false, forall_const, true_implies, false_implies, Nat.add_zero, Nat.zero_add, Nat.le_refl, Nat.zero_le, ↓reduceIte, Nat.reduceAdd, Nat.reduceSub, Nat.reduceEqDiff, Nat.reduceLeDiff, Int.reduceEq, Int.reduceNe, Int.reduceNeg, reduceCtorEq, kd2]
  refine s_addTimes h hr hr hA hA (r3 (by omega)) 0 (by have := (h.rp hr hA).2.2.1; omega) (Or.inr rfl) fun N1 h1 f1 => ?_
  simp only [bk14_0, U_aload_n, U_iload_n, U_iconst, U_isub, U_invokevirtual4, U_return, UN_cc, UN_cn, UN_nc, UN_nn, UJ, lget, lset, lset2, entL, wsm, wcat, Option.toList_some, Option.toList_none, List.cons_append, List.nil_append, List.mem_cons, List.not_mem_nil, Prod.mk.injEq, or_false, false_or, or_true, true_or, and_true, true_and, and_false, false_and, and_self, ne_eq, not_false_eq_true, not_true_eq_false, forall_const, true_implies, false_implies, Nat.add_zero, Nat.zero_add, Nat.le_refl, Nat.zero_le, ↓reduceIte, Nat.reduceAdd, Nat.reduceSub, Nat.reduceEqDiff, Nat.reduceLeDiff, Int.reduceEq, Int.reduceNe, Int.reduceNeg, reduceCtorEq]
  rw [scl_eq] at h1
  exact hQ N1 h1 f1
/-! division -/
theorem pput_M {p : Int} (Qp : Pz p) (i : Nat) (q : Int) (h : Qp.1 i = 0) : pput Qp i q = padd Qp (pM p q i) := Pz.ext fun k => by
  rw [pput_c, padd_c, pM_c, md_add (b := (if k = i then q else 0) % p) rfl (md_md _ _)]
  by_cases e : k = i
  · subst e; rw [if_pos rfl, if_pos rfl, h, Int.zero_add]
  · rw [if_neg e, if_neg e, Int.add_zero]
theorem pM_neg {p : Int} (c : Int) (s : Nat) : pM p (-c) s = pneg (pM p c s) := Pz.ext fun k => by
  rw [pneg_c, pM_c, pM_c]
  refine Eq.trans ?_ (md_neg (md_md _ _)).symm
  congr 1; split <;> rfl
set_option maxHeartbeats 8000000 in
theorem l_divide {p : Int} {N : Mem} {ρ : Int → Option (Pz p)} {Q : Post} {r s k : Int} {A B : Pz p} (hr : KD r = 18) (hs : KD s = 18) (hrs : r ≠ s) (hr4 : r ≠ 4) (hs4 : s ≠ 4) (hB : ρ s = some B) (hB0 : dg B ≠ 0) (hA8 : dg A ≤ 8) (hk : 0 ≤ k) (hk2 : k < 13) (hki : B.1 (dg B - 1) * k % p = 1)
    (hQ : ∀ N' q R, ST p N' (upq (upq ρ 4 q) r R) → FR N N' → A = padd (pmul B q) R → dg R < dg B → dg q + dg B ≤ max (dg A + 1) (dg B) → Q none NN N') : ∀ (n : Nat) (i : Int) (Ni : Mem) (q R : Pz p), i + 1 = n → ST p Ni (upq (upq ρ 4 q) r R) → FR N Ni → A = padd (pmul B q) R → dg R + 1 ≤ n + dg B → (∀ j, j < n → q.1 j = 0) → dg q + dg B ≤ max (dg A + 1) (dg B) → n + dg B ≤ max (dg A + 1) (dg B) → WP 19 (0, 0) 39 [(2, 2), (2, r), (2, s), (0, k), (0, i), (9, 0)] [] NN Ni Q ∧ ∀ z : Int, WP 19 (0, 0) 39 [(2, 2), (2, r), (2, s), (0, k), (0, i), (0, z)] [] NN Ni Q := by
  have h4 : KD 4 = 18 := rfl
  intro n
  induction n with
  | zero =>
    intro i Ni q R h1 hS hF hA hd hq hq2 hn
    have fin : ∀ v : V, WP 19 (0, 0) 39 [(2, 2), (2, r), (2, s), (0, k), (0, i), v] [] NN Ni Q := fun v => by
      refine WP.run [(19, 39)] [] 60 ?_
      simp only [bk19_0, bk19_14, bk19_15, bk19_39, bk19_44, bk19_92, U_aload_n, U_getfield, U_invokevirtual0, U_if_ge, U_return, U_invokevirtual1, U_istore_n, U_isub, U_istore, U_iload, U_if_lt, U_iadd, U_iload_n, U_imul, U_irem, U_invokevirtual2, U_ineg, U_invokevirtual4, U_iinc, U_goto, UN_cc, UN_cn, UN_nc, UN_nn, UJ, lget, lset, lset2, entL, wsm, wcat, Option.toList_some, Option.toList_none, List.cons_append, List.nil_append, List.mem_cons, List.not_mem_nil, Prod.mk.injEq, or_false, false_or, or_true, true_or, and_true, true_and, and_false, false_and, and_self, ne_eq, not_false_eq_true, not_true_eq_false, forall_const, true_implies, false_implies, Nat.add_zero, Nat.zero_add, Nat.le_refl, Nat.zero_le, ↓reduceIte, Nat.reduceAdd, Nat.reduceSub, Nat.reduceEqDiff, Nat.reduceLeDiff, Int.reduceEq, Int.reduceNe, Int.reduceNeg, reduceCtorEq]
      exact ⟨r3 (by omega), fun _ => hQ Ni q R hS hF hA (by omega) hq2, fun h => by omega⟩
    exact ⟨fin _, fun z => fin _⟩
  | succ n ih =>
    intro i Ni q R h1 hS hF hA hd hq hq2 hn
    have hrR := hS.rp hr (upq_e _ _ _)
    have hsB := hS.rp hs (a := B) (((upq_n hrs.symm).trans (upq_n hs4)).trans hB)
    have h4q := hS.rp h4 (a := q) ((upq_n hr4.symm).trans (upq_e _ _ _))
    have hpp := hS.1.2.1.pos
    have dB := hsB.2.2.1
    have b1 := hS.1.2.1.r32 R (n + dg B - 1)
    have m1 : 0 ≤ R.1 (n + dg B - 1) * k := Int.mul_nonneg b1.1 hk
    have m2 : R.1 (n + dg B - 1) * k ≤ 13 * 13 := Int.mul_le_mul (by omega) (by omega) hk (by omega)
    have g1 := Int.emod_nonneg (R.1 (n + dg B - 1) * k) (b := p) (by omega)
    have g2 := Int.emod_lt_of_pos (R.1 (n + dg B - 1) * k) (b := p) (by omega)
    have fin : ∀ v : V, WP 19 (0, 0) 39 [(2, 2), (2, r), (2, s), (0, k), (0, i), v] [] NN Ni Q := fun v => by
      refine WP.run [(19, 39)] [] 60 ?_
      simp only [bk19_0, bk19_14, bk19_15, bk19_39, bk19_44, bk19_92, U_aload_n, U_getfield, U_invokevirtual0, U_if_ge, U_return, U_invokevirtual1, U_istore_n, U_isub, U_istore, U_iload, U_if_lt, U_iadd, U_iload_n, U_imul, U_irem, U_invokevirtual2, U_ineg, U_invokevirtual4, U_iinc, U_goto, UN_cc, UN_cn, UN_nc, UN_nn, UJ, lget, lset, lset2, entL, wsm, wcat, Option.toList_some, Option.toList_none, List.cons_append, List.nil_append, List.mem_cons, List.not_mem_nil, Prod.mk.injEq, or_false, false_or, or_true, true_or, and_true, true_and, and_false, false_and, and_self, ne_eq, not_false_eq_true, not_true_eq_false, forall_const, true_implies, false_implies, Nat.add_zero, Nat.zero_add, Nat.le_refl, Nat.zero_le, ↓reduceIte, Nat.reduceAdd, Nat.reduceSub, Nat.reduceEqDiff, Nat.reduceLeDiff, Int.reduceEq, Int.reduceNe, Int.reduceNeg, reduceCtorEq, kd2, kd4, kd_of hr (by decide), kd_of hs (by decide), hsB.2.2.2, hS.1.2.2.1, z2_2 hS.1.1]
      refine ⟨r3 (by omega), fun h => by omega, fun _ => c_get hrR (r3 (by omega)) ?_⟩
      rw [if_pos (by omega), show (i + ((dg B : Int) - 1)).toNat = n + dg B - 1 by omega]
      simp only [bk19_0, bk19_14, bk19_15, bk19_39, bk19_44, bk19_92, U_aload_n, U_getfield, U_invokevirtual0, U_if_ge, U_return, U_invokevirtual1, U_istore_n, U_isub, U_istore, U_iload, U_if_lt, U_iadd, U_iload_n, U_imul, U_irem, U_invokevirtual2, U_ineg, U_invokevirtual4, U_iinc, U_goto, UN_cc, UN_cn, UN_nc, UN_nn, UJ, lget, lset, lset2, entL, wsm, wcat, Option.toList_some, Option.toList_none, List.cons_append, List.nil_append, List.mem_cons, List.not_mem_nil, Prod.mk.injEq, or_false, false_or, or_true, true_or, and_true, true_and, and_false, false_and, and_self, ne_eq, not_false_eq_true, not_true_eq_false, forall_const, true_implies, false_implies, Nat.add_zero, Nat.zero_add, Nat.le_refl, Nat.zero_le, ↓reduceIte, Nat.reduceAdd, Nat.reduceSub, Nat.reduceEqDiff, Nat.reduceLeDiff, Int.reduceEq, Int.reduceNe, Int.reduceNeg, reduceCtorEq, kd2, kd4, kd_of hr (by decide), kd_of hs (by decide), hsB.2.2.2, hS.1.2.2.1, z2_2 hS.1.1]
      obtain rfl : i = (n : Int) := by omega
      rw [tm_nn m1]
      refine ⟨r3 (by omega), r3 (by omega), by omega, s_put hS h4 ((upq_n hr4.symm).trans (upq_e _ _ _)) n (by omega) (md_md _ _) fun N1 hS1 hF1 => ?_⟩
      simp only [bk19_0, bk19_14, bk19_15, bk19_39, bk19_44, bk19_92, U_aload_n, U_getfield, U_invokevirtual0, U_if_ge, U_return, U_invokevirtual1, U_istore_n, U_isub, U_istore, U_iload, U_if_lt, U_iadd, U_iload_n, U_imul, U_irem, U_invokevirtual2, U_ineg, U_invokevirtual4, U_iinc, U_goto, UN_cc, UN_cn, UN_nc, UN_nn, UJ, lget, lset, lset2, entL, wsm, wcat, Option.toList_some, Option.toList_none, List.cons_append, List.nil_append, List.mem_cons, List.not_mem_nil, Prod.mk.injEq, or_false, false_or, or_true, true_or, and_true, true_and, and_false, false_and, and_self, ne_eq, not_false_eq_true, not_true_eq_false, forall_const, true_implies, false_implies, Nat.add_zero, Nat.zero_add, Nat.le_refl, Nat.zero_le, ↓reduceIte, Nat.reduceAdd, Nat.reduceSub, Nat.reduceEqDiff, Nat.reduceLeDiff, Int.reduceEq, Int.reduceNe, Int.reduceNeg, reduceCtorEq, kd2]
      rw [upq_c _ _ _ hr4.symm, upq_u, upq_c _ _ _ hr4] at hS1
      refine s_addTimes hS1 hr hs (upq_e _ _ _) (((upq_n hrs.symm).trans (upq_n hs4)).trans hB) (r3 (by omega)) n (by omega) (Or.inl hrs) fun N2 hS2 hF2 => ?_
      simp only [bk19_0, bk19_14, bk19_15, bk19_39, bk19_44, bk19_92, U_aload_n, U_getfield, U_invokevirtual0, U_if_ge, U_return, U_invokevirtual1, U_istore_n, U_isub, U_istore, U_iload, U_if_lt, U_iadd, U_iload_n, U_imul, U_irem, U_invokevirtual2, U_ineg, U_invokevirtual4, U_iinc, U_goto, UN_cc, UN_cn, UN_nc, UN_nn, UJ, lget, lset, lset2, entL, wsm, wcat, Option.toList_some, Option.toList_none, List.cons_append, List.nil_append, List.mem_cons, List.not_mem_nil, Prod.mk.injEq, or_false, false_or, or_true, true_or, and_true, true_and, and_false, false_and, and_self, ne_eq, not_false_eq_true, not_true_eq_false, forall_const, true_implies, false_implies, Nat.add_zero, Nat.zero_add, Nat.le_refl, Nat.zero_le, ↓reduceIte, Nat.reduceAdd, Nat.reduceSub, Nat.reduceEqDiff, Nat.reduceLeDiff, Int.reduceEq, Int.reduceNe, Int.reduceNeg, reduceCtorEq, kd2]
      rw [upq_u] at hS2
      have hq0 := hq n (by omega)
      refine (ih ((n : Int) + -1) N2 _ _ (by omega) hS2 ((hF.tr hF1).tr hF2) ?_ ?_ ?_ ?_ (by omega)).2 _
      · rw [pput_M q n _ hq0, pM_neg]
        exact @rg_div (Pz p) (pring p) A B q R (pM p (R.1 (n + dg B - 1) * k % p) n) hA
      · have : dg (padd R (pmul (pM p (-(R.1 (n + dg B - 1) * k % p)) n) B)) ≤ n + dg B - 1 := dg_le fun j hj => by
          rw [padd_c, pM_mul, if_pos (by omega), md_add rfl (md_md _ _)]
          by_cases e : j = n + dg B - 1
          · subst e
            rw [show n + dg B - 1 - n = dg B - 1 by omega, Int.neg_mul, ← Int.sub_eq_add_neg]
            have : (R.1 (n + dg B - 1) * k % p) * B.1 (dg B - 1) % p = R.1 (n + dg B - 1) % p := by
              rw [md_mul (md_md _ _) rfl, Int.mul_assoc, Int.mul_comm k, md_mul (p := p) (b' := 1) rfl (hki.trans (Int.emod_eq_of_lt (by omega) (by omega)).symm), Int.mul_one]
            rw [md_sub rfl this, Int.sub_self, Int.zero_emod]
          · rw [dg_far R (by omega), dg_far B (by omega), Int.mul_zero, Int.add_zero, Int.zero_emod]
        omega
      · intro j hj
        rw [pput_n (by omega)]; exact hq j (by omega)
      · have : dg (pput q n (R.1 (n + dg B - 1) * k % p)) ≤ max (dg q) (n + 1) := dg_le fun j hj => by
          rw [pput_n (by omega)]; exact dg_far q (by omega)
        omega
    exact ⟨fin _, fun z => fin _⟩
set_option maxHeartbeats 8000000 in
theorem s_divide {p : Int} {N : Mem} {ρ : Int → Option (Pz p)} {Q : Post} {r s : Int} {A B : Pz p} (h : ST p N ρ) (hr : KD r = 18) (hs : KD s = 18) (hrs : r ≠ s) (hr4 : r ≠ 4) (hs4 : s ≠ 4) (hA : ρ r = some A) (hB : ρ s = some B) (hB0 : dg B ≠ 0)
    (hQ : ∀ N' q R, ST p N' (upq (upq ρ 4 q) r R) → FR N N' → A = padd (pmul B q) R → dg R < dg B → dg q + dg B ≤ max (dg A + 1) (dg B) → Q none NN N') : CL 19 [(2, 2), (2, r), (2, s), (9, 0), (9, 0), (9, 0)] NN N Q := by
  have h4 : KD 4 = 18 := rfl
  refine WP.run [(19, 39)] [] 60 ?_
  simp only [bk19_0, bk19_14, bk19_15, bk19_39, bk19_44, bk19_92, U_aload_n, U_getfield, U_invokevirtual0, U_if_ge, U_return, U_invokevirtual1, U_istore_n, U_isub, U_istore, U_iload, U_if_lt, U_iadd, U_iload_n, U_imul, U_irem, U_invokevirtual2, U_ineg, U_invokevirtual4, U_iinc, U_goto, UN_cc, UN_cn, UN_nc, UN_nn, UJ, lget, lset, lset2, entL, wsm, wcat, Option.toList_some, Option.toList_none, List.cons_append, List.nil_append, List.mem_cons, List.not_mem_nil, Prod.mk.injEq, or_false, false_or, or_true, true_or, and_true, true_and, and_false, false_and, and_self, ne_eq, not_false_eq_true, not_true_eq_false, forall_const, true_implies, false_implies, Nat.add_zero, Nat.zero_add, Nat.le_refl, Nat.zero_le, ↓reduceIte, Nat.reduceAdd, Nat.reduceSub, Nat.reduceEqDiff, Nat.reduceLeDiff, Int.reduceEq, Int.reduceNe, Int.reduceNeg, reduceCtorEq, kd2, kd4, z2_2 h.1.1]
  refine s_clear h h4 fun N1 h1 f1 => ?_
  have hsB := h1.rp hs ((upq_n hs4).trans hB)
  have hrA := h1.rp hr ((upq_n hr4).trans hA)
  have dB := hsB.2.2.1
  have dA := hrA.2.2.1
  simp only [bk19_0, bk19_14, bk19_15, bk19_39, bk19_44, bk19_92, U_aload_n, U_getfield, U_invokevirtual0, U_if_ge, U_return, U_invokevirtual1, U_istore_n, U_isub, U_istore, U_iload, U_if_lt, U_iadd, U_iload_n, U_imul, U_irem, U_invokevirtual2, U_ineg, U_invokevirtual4, U_iinc, U_goto, UN_cc, UN_cn, UN_nc, UN_nn, UJ, lget, lset, lset2, entL, wsm, wcat, Option.toList_some, Option.toList_none, List.cons_append, List.nil_append, List.mem_cons, List.not_mem_nil, Prod.mk.injEq, or_false, false_or, or_true, true_or, and_true, true_and, and_false, false_and, and_self, ne_eq, not_false_eq_true, not_true_eq_false, forall_const, true_implies, false_implies, Nat.add_zero, Nat.zero_add, Nat.le_refl, Nat.zero_le, ↓reduceIte, Nat.reduceAdd, Nat.reduceSub, Nat.reduceEqDiff, Nat.reduceLeDiff, Int.reduceEq, Int.reduceNe, Int.reduceNeg, reduceCtorEq, kd2, kd_of hr (by decide), kd_of hs (by decide), hsB.2.2.2]
  refine ⟨r3 (by omega), fun _ => by omega, fun _ => c_get hsB (r3 (by omega)) ?_⟩
  rw [if_pos (by omega), show ((dg B : Int) - 1).toNat = dg B - 1 by omega]
  simp only [bk19_0, bk19_14, bk19_15, bk19_39, bk19_44, bk19_92, U_aload_n, U_getfield, U_invokevirtual0, U_if_ge, U_return, U_invokevirtual1, U_istore_n, U_isub, U_istore, U_iload, U_if_lt, U_iadd, U_iload_n, U_imul, U_irem, U_invokevirtual2, U_ineg, U_invokevirtual4, U_iinc, U_goto, UN_cc, UN_cn, UN_nc, UN_nn, UJ, lget, lset, lset2, entL, wsm, wcat, Option.toList_some, Option.toList_none, List.cons_append, List.nil_append, List.mem_cons, List.not_mem_nil, Prod.mk.injEq, or_false, false_or, or_true, true_or, and_true, true_and, and_false, false_and, and_self, ne_eq, not_false_eq_true, not_true_eq_false, forall_const, true_implies, false_implies, Nat.add_zero, Nat.zero_add, Nat.le_refl, Nat.zero_le, ↓reduceIte, Nat.reduceAdd, Nat.reduceSub, Nat.reduceEqDiff, Nat.reduceLeDiff, Int.reduceEq, Int.reduceNe, Int.reduceNeg, reduceCtorEq, kd2]
  have hlt := h.1.2.1.lt (B.2.1 (dg B - 1))
  have hne := dg_top B hB0
  refine c_inverse h1.1 (by omega) hlt.2 (fun w w0 w1 w2 => ?_)
  simp only [bk19_0, bk19_14, bk19_15, bk19_39, bk19_44, bk19_92, U_aload_n, U_getfield, U_invokevirtual0, U_if_ge, U_return, U_invokevirtual1, U_istore_n, U_isub, U_istore, U_iload, U_if_lt, U_iadd, U_iload_n, U_imul, U_irem, U_invokevirtual2, U_ineg, U_invokevirtual4, U_iinc, U_goto, UN_cc, UN_cn, UN_nc, UN_nn, UJ, lget, lset, lset2, entL, wsm, wcat, Option.toList_some, Option.toList_none, List.cons_append, List.nil_append, List.mem_cons, List.not_mem_nil, Prod.mk.injEq, or_false, false_or, or_true, true_or, and_true, true_and, and_false, false_and, and_self, ne_eq, not_false_eq_true, not_true_eq_false, forall_const, true_implies, false_implies, Nat.add_zero, Nat.zero_add, Nat.le_refl, Nat.zero_le, ↓reduceIte, Nat.reduceAdd, Nat.reduceSub, Nat.reduceEqDiff, Nat.reduceLeDiff, Int.reduceEq, Int.reduceNe, Int.reduceNeg, reduceCtorEq, kd2, kd_of hr (by decide), kd_of hs (by decide), hsB.2.2.2, hrA.2.2.2]
  have e2 : upq (upq ρ 4 (pC p 0)) r A = upq ρ 4 (pC p 0) := by
    funext t; unfold upq
    by_cases q : t = r
    · subst q; rw [if_pos rfl, if_neg hr4]; exact hA.symm
    · rw [if_neg q]
  have e3 : A = padd (pmul B (pC p 0)) A := by rw [pmul_comm, pC_zero_mul, padd_comm, pC_zero_add]
  have z0 : dg (pC p 0) = 0 := dg_zero.mpr rfl
  by_cases hle : dg B ≤ dg A
  · exact (l_divide hr hs hrs hr4 hs4 hB hB0 dA w0 w1 w2 (fun N' q R g1 g2 => hQ N' q R g1 (f1.tr g2)) (dg A - dg B + 1) _ N1 (pC p 0) A (by omega) (by rw [e2]; exact h1) (FR.rf _) e3 (by omega) (fun j _ => dg_far _ (by omega)) (by omega) (by omega)).1
  · refine WP.run [(19, 39)] [] 60 ?_
    simp only [bk19_0, bk19_14, bk19_15, bk19_39, bk19_44, bk19_92, U_aload_n, U_getfield, U_invokevirtual0, U_if_ge, U_return, U_invokevirtual1, U_istore_n, U_isub, U_istore, U_iload, U_if_lt, U_iadd, U_iload_n, U_imul, U_irem, U_invokevirtual2, U_ineg, U_invokevirtual4, U_iinc, U_goto, UN_cc, UN_cn, UN_nc, UN_nn, UJ, lget, lset, lset2, entL, wsm, wcat, Option.toList_some, Option.toList_none, List.cons_append, List.nil_append, List.mem_cons, List.not_mem_nil, Prod.mk.injEq, or_false, false_or, or_true, true_or, and_true, true_and, and_false, false_and, and_self, ne_eq, not_false_eq_true, not_true_eq_false, forall_const, true_implies, false_implies, Nat.add_zero, Nat.zero_add, Nat.le_refl, Nat.zero_le, ↓reduceIte, Nat.reduceAdd, Nat.reduceSub, Nat.reduceEqDiff, Nat.reduceLeDiff, Int.reduceEq, Int.reduceNe, Int.reduceNeg, reduceCtorEq]
    exact ⟨r3 (by omega), fun _ => hQ N1 (pC p 0) A (by rw [e2]; exact h1) f1 e3 (by omega) (by omega), fun h => by omega⟩
