/-! THE MODEL'S ROWS: a pool of forty, 24 places each -/
def PL {p : Int} (N : Mem) (a : Int) (A : Pz p) : Prop := 0 ≤ a ∧ a < 40 ∧ dg A ≤ 24 ∧ N 199 a = (dg A : Int) - 1 ∧ ∀ k : Nat, k < dg A → N 198 (24 * a + (k : Int)) = A.1 k
/-- the store: the place below row 39 is spare -/
def MT (p : Int) (N : Mem) (μ : Int → Option (Pz p)) : Prop := Fz N ∧ Pr p ∧ N 190 0 = p ∧ μ 39 = none ∧ ∀ a A, μ a = some A → PL N a A
def fgt {p : Int} (μ : Int → Option (Pz p)) (a : Int) : Int → Option (Pz p) := fun s => if s = a then none else μ s
theorem fgt_e {p : Int} (μ : Int → Option (Pz p)) (a : Int) : fgt μ a a = none := if_pos rfl
theorem fgt_n {p : Int} {μ : Int → Option (Pz p)} {a s : Int} (h : s ≠ a) : fgt μ a s = μ s := if_neg h
theorem upq_fgt {p : Int} (μ : Int → Option (Pz p)) (a : Int) (A : Pz p) : upq (fgt μ a) a A = upq μ a A := by
  funext s; unfold upq fgt; by_cases e : s = a
  · rw [if_pos e, if_pos e]
  · rw [if_neg e, if_neg e, if_neg e]
theorem MT.fg {p : Int} {N : Mem} {μ : Int → Option (Pz p)} (h : MT p N μ) (a : Int) : MT p N (fgt μ a) := by
  refine ⟨h.1, h.2.1, h.2.2.1, ?_, fun s A e => ?_⟩
  · unfold fgt; split
    · rfl
    · exact h.2.2.2.1
  · unfold fgt at e; split at e
    · cases e
    · exact h.2.2.2.2 s A e
/-- only the pool changes -/
def PF (N N' : Mem) : Prop := ∀ b, b ≠ 198 → b ≠ 199 → N' b = N b
theorem PF.rf (N : Mem) : PF N N := fun _ _ _ => rfl
theorem PF.tr {N N' N'' : Mem} (h1 : PF N N') (h2 : PF N' N'') : PF N N'' := fun b x y => (h2 b x y).trans (h1 b x y)
theorem PF.us (N : Mem) (i x : Int) : PF N (ust N 198 i x) := fun b h _ => ust_ne h
theorem PF.ud (N : Mem) (i x : Int) : PF N (ust N 199 i x) := fun b _ h => ust_ne h
theorem MT.us {p : Int} {N : Mem} {μ : Int → Option (Pz p)} (h : MT p N μ) {a k i v : Int} (ha : μ a = none) (h0 : 0 ≤ k) (h1 : k < 24) (e : i = 24 * a + k) : MT p (ust N 198 i v) μ := by
  refine ⟨h.1.ust (fz_arr (Or.inl rfl) _), h.2.1, by rw [ust_ne (by decide)]; exact h.2.2.1, h.2.2.2.1, fun s A q => ?_⟩
  obtain ⟨p1, p2, p3, p4, p5⟩ := h.2.2.2.2 s A q
  refine ⟨p1, p2, p3, by rw [ust_ne (by decide)]; exact p4, fun j hj => ?_⟩
  have hs : s ≠ a := fun e => by rw [e, ha] at q; cases q
  rw [ust_at, if_neg (by omega)]; exact p5 j hj
theorem MT.ud {p : Int} {N : Mem} {μ : Int → Option (Pz p)} (h : MT p N μ) {a d : Int} {A : Pz p} (h0 : 0 ≤ a) (h1 : a < 39) (hd : d = (dg A : Int) - 1) (h24 : dg A ≤ 24) (hA : ∀ k : Nat, k < dg A → N 198 (24 * a + (k : Int)) = A.1 k) : MT p (ust N 199 a d) (upq μ a A) := by
  refine ⟨h.1.ust (fz_arr (Or.inl rfl) _), h.2.1, by rw [ust_ne (by decide)]; exact h.2.2.1, by rw [upq_n (by omega)]; exact h.2.2.2.1, fun s B q => ?_⟩
  by_cases e : s = a
  · subst e
    rw [upq_e] at q; cases q
    exact ⟨h0, by omega, h24, by rw [ust_at, if_pos rfl]; exact hd, fun k hk => by rw [ust_ne (by decide)]; exact hA k hk⟩
  · rw [upq_n e] at q
    obtain ⟨p1, p2, p3, p4, p5⟩ := h.2.2.2.2 s B q
    exact ⟨p1, p2, p3, by rw [ust_at, if_neg e]; exact p4, fun j hj => by rw [ust_ne (by decide)]; exact p5 j hj⟩
theorem MT.pf {p : Int} {N N' : Mem} {μ : Int → Option (Pz p)} (h : MT p N μ) (hz : Fz N') (h1 : N' 190 = N 190) (h2 : N' 198 = N 198) (h3 : N' 199 = N 199) : MT p N' μ := ⟨hz, h.2.1, by rw [h1]; exact h.2.2.1, h.2.2.2.1, fun a A e => by
  obtain ⟨p1, p2, p3, p4, p5⟩ := h.2.2.2.2 a A e
  exact ⟨p1, p2, p3, by rw [h3]; exact p4, fun k hk => by rw [h2]; exact p5 k hk⟩⟩
theorem pz_rg {p : Int} (hp : Pr p) (A : Pz p) (k : Nat) : 0 ≤ A.1 k ∧ A.1 k < p := by
  have := A.2.1 k
  have := hp.pos
  have := Int.emod_nonneg (A.1 k) (show p ≠ 0 by omega)
  have := Int.emod_lt_of_pos (A.1 k) (show 0 < p by omega)
  omega
set_option maxHeartbeats 4000000 in
theorem m_mod {p : Int} {N : Mem} {Q : Post} {v : Int} (hp : Pr p) (h0 : N 190 0 = p) (hv : R32 v) (hQ : Q (some (0, v % p)) NN N) : CL 158 [(2, 190), (0, v), (9, 0)] NN N Q := by
  have hpp := hp.pos
  have t := tm_by (a := v) (p := p) (by omega)
  have hv' := hv
  obtain ⟨v1, v2⟩ := hv'
  have b1 := Int.emod_nonneg v (show p ≠ 0 by omega)
  have b2 := Int.emod_lt_of_pos v (show 0 < p by omega)
  refine WP.run [] [] 40 ?_
  simp only [bk158_0, bk158_11, bk158_20, bk158_21, U_iload_n, U_aload_n, U_getfield, U_irem, U_istore_n, U_if_ge, U_iadd, U_goto, U_ireturn, UN_cc, UN_cn, UN_nc, UN_nn, UJ, lget, lset, lset2, entL, wsm, wcat, Option.toList_some, Option.toList_none, List.cons_append, List.nil_append, List.mem_cons, List.not_mem_nil, Prod.mk.injEq, or_false, false_or, or_true, true_or, and_true, true_and, and_false, false_and, and_self, ne_eq, not_false_eq_true, not_true_eq_false, forall_const, true_implies, false_implies, Nat.add_zero, Nat.zero_add, Nat.le_refl, Nat.zero_le, List.set_cons_zero, List.set_cons_succ, List.set_nil, ↓reduceIte, Nat.reduceAdd, Nat.reduceSub, Nat.reduceEqDiff, Nat.reduceLeDiff, Int.reduceEq, Int.reduceNe, Int.reduceNeg, reduceCtorEq, kd190, h0]
  by_cases c : v.tmod p < 0
  · have e := t.1 c
    exact ⟨hv, r3 (by omega), by omega, r3 (by omega), fun _ => by rw [e]; exact hQ, fun x => absurd c x⟩
  · have e := t.2 c
    exact ⟨hv, r3 (by omega), by omega, r3 (by omega), fun x => absurd x c, fun _ => by rw [e]; exact hQ⟩
set_option maxHeartbeats 4000000 in
theorem m_get {p : Int} {N : Mem} {μ : Int → Option (Pz p)} {Q : Post} {a k : Int} {A : Pz p} (h : MT p N μ) (ha : μ a = some A) (hk : R32 k) (hQ : Q (some (0, if 0 ≤ k then A.1 k.toNat else 0)) NN N) : CL 162 [(2, 190), (0, a), (0, k)] NN N Q := by
  obtain ⟨p1, p2, p3, p4, p5⟩ := h.2.2.2.2 a A ha
  have hk' := hk
  obtain ⟨k1, k2⟩ := hk'
  refine WP.run [] [] 40 ?_
  simp only [bk162_0, bk162_10, bk162_14, bk162_28, bk162_29, U_iload_n, U_aload_n, U_getfield, U_iald, U_icmp_gt, U_if_lt, U_bipush, U_imul, U_iadd, U_goto, U_iconst, U_ireturn, UN_cc, UN_cn, UN_nc, UN_nn, UJ, lget, lset, lset2, entL, wsm, wcat, Option.toList_some, Option.toList_none, List.cons_append, List.nil_append, List.mem_cons, List.not_mem_nil, Prod.mk.injEq, or_false, false_or, or_true, true_or, and_true, true_and, and_false, false_and, and_self, ne_eq, not_false_eq_true, not_true_eq_false, forall_const, true_implies, false_implies, Nat.add_zero, Nat.zero_add, Nat.le_refl, Nat.zero_le, List.set_cons_zero, List.set_cons_succ, List.set_nil, ↓reduceIte, Nat.reduceAdd, Nat.reduceSub, Nat.reduceEqDiff, Nat.reduceLeDiff, Int.reduceEq, Int.reduceNe, Int.reduceNeg, reduceCtorEq, kd190, kd198, kd199, ln198, ln199, z190_12 h.1, z190_13 h.1, p4]
  refine ⟨p1, p2, rr (by omega), fun e => ?_, fun e => ⟨hk, fun e2 => ?_, fun e2 => ⟨by omega, by omega, ?_⟩⟩⟩
  · by_cases q : 0 ≤ k
    · rw [if_pos q, dg_far A (by omega)] at hQ; exact hQ
    · rw [if_neg q] at hQ; exact hQ
  · rw [if_neg (by omega)] at hQ; exact hQ
  · have := p5 k.toNat (by omega)
    rw [Int.toNat_of_nonneg (by omega)] at this
    rw [this]
    rw [if_pos (by omega)] at hQ; exact hQ
