/-! THE FIELD OF P P: values, the count -/
def wpl (p v c : Int) : Int := v - v % p + (v % p + c) % p
def hv (p s x : Int) : Nat → (Nat → Int) → Int
  | 0, _ => 0
  | n + 1, a => wpl p (wtc p s (hv p s x n (sh a)) x) (a 0)
theorem wpl_rg {p : Int} (hp : Pr p) {v c : Int} (hv : 0 ≤ v ∧ v < p * p) : 0 ≤ wpl p v c ∧ wpl p v c < p * p := by
  have hpp := hp.pos
  obtain ⟨v1, v2, v3, v4⟩ := wdig hp hv
  have e : wpl p v c = (v % p + c) % p + v / p * p := by
    have h2 := Int.emod_add_mul_ediv v p
    have h3 : p * (v / p) = v / p * p := Int.mul_comm _ _
    unfold wpl; omega
  rw [e]
  exact wmk hp ⟨Int.emod_nonneg _ (by omega), Int.emod_lt_of_pos _ (by omega)⟩ ⟨v3, v4⟩
theorem hv_rg {p : Int} (hp : Pr p) (s x : Int) : ∀ (n : Nat) (a : Nat → Int), 0 ≤ hv p s x n a ∧ hv p s x n a < p * p
  | 0, a => by have := pp_le hp; show (0 : Int) ≤ 0 ∧ (0 : Int) < p * p; omega
  | n + 1, a => wpl_rg hp (wtc_rg hp s _ x)
def isum (F : Nat → Int) : Nat → Int
  | 0 => 0
  | n + 1 => isum F n + F n
theorem isum_rg {F : Nat → Int} {B : Int} (h : ∀ i, 0 ≤ F i ∧ F i ≤ B) : ∀ n : Nat, 0 ≤ isum F n ∧ isum F n ≤ n * B
  | 0 => by simp [isum]
  | n + 1 => by
    obtain ⟨h1, h2⟩ := isum_rg h n
    obtain ⟨h3, h4⟩ := h n
    show 0 ≤ isum F n + F n ∧ isum F n + F n ≤ ((n + 1 : Nat) : Int) * B
    rw [show ((n + 1 : Nat) : Int) = (n : Int) + 1 by omega, Int.add_mul, Int.one_mul]
    omega
/-- how many numbers of the field of P P have z for their square -/
def cnt2 (p z : Int) : Int := isum (fun y => if wtc p (nsq p) y y = z then 1 else 0) (p * p).toNat
/-- affine points over the field of P P -/
noncomputable def nn2 {p : Int} (f : Pz p) : Int := isum (fun x => cnt2 p (hv p (nsq p) x (dg f) f.1)) (p * p).toNat
theorem cnt2_rg {p : Int} (hp : Pr p) (z : Int) : 0 ≤ cnt2 p z ∧ cnt2 p z ≤ 169 := by
  have h := pp_le hp
  have := isum_rg (F := fun y => if wtc p (nsq p) y y = z then 1 else 0) (B := 1) (fun i => by split <;> omega) (p * p).toNat
  unfold cnt2; omega
set_option maxHeartbeats 16000000 in
theorem l_wideValue {p : Int} {N : Mem} {ρ : Int → Option (Pz p)} {Q : Post} {f : Pz p} {x : Int} (h : ST p N ρ) (hf : ρ 22 = some f) (hs : N 21 9 = nsq p) (hx : 0 ≤ x ∧ x < p * p) (hQ : Q (some (0, hv p (nsq p) x (dg f) f.1)) NN N) :
    ∀ (n : Nat) (i w : Int), i + 1 = n → n ≤ dg f → w = hv p (nsq p) x (dg f - n) (fun k => f.1 (k + n)) → WP 68 (0, 0) 19 [(2, 21), (0, x), (0, p), (0, w), (0, i)] [] NN N Q := by
  have hp := h.1.2.1
  have hpp := hp.pos
  have k22 : KD 22 = 18 := rfl
  have h22 := h.rp k22 hf
  have d8 := h22.2.2.1
  have h169 := pp_le hp
  intro n
  induction n with
  | zero =>
    intro i w h1 h2 h3
    refine WP.run [(68, 19)] [] 60 ?_
    simp only [bk68_0, bk68_19, bk68_24, bk68_59, U_aload_n, U_getfield, U_istore_n, U_iconst, U_istore, U_iload, U_if_lt, U_iload_n, U_invokevirtual2, U_irem, U_isub, U_invokevirtual1, U_iadd, U_iinc, U_goto, U_ireturn, UN_cc, UN_cn, UN_nc, UN_nn, UJ, lget, lset, lset2, entL, wsm, wcat, Option.toList_some, Option.toList_none, List.cons_append, List.nil_append, List.mem_cons, List.not_mem_nil, Prod.mk.injEq, or_false, false_or, or_true, true_or, and_true, true_and, and_false, false_and, and_self, ne_eq, not_false_eq_true, not_true_eq_false, forall_const, true_implies, false_implies, Nat.add_zero, Nat.zero_add, Nat.le_refl, Nat.zero_le, ↓reduceIte, Nat.reduceAdd, Nat.reduceSub, Nat.reduceEqDiff, Nat.reduceLeDiff, Int.reduceEq, Int.reduceNe, Int.reduceNeg, reduceCtorEq]
    refine ⟨r3 (by omega), fun _ => ?_, fun h => by omega⟩
    rw [h3]; simpa using hQ
  | succ n ih =>
    intro i w h1 h2 h3
    have hw := hv_rg hp (nsq p) x (dg f - (n + 1)) (fun k => f.1 (k + (n + 1)))
    rw [← h3] at hw
    have hin : i.toNat = n := by omega
    have hfi := hp.r32 f n
    have ht := wtc_rg hp (nsq p) w x
    obtain ⟨t1, t2, t3, t4⟩ := wdig hp ht
    refine WP.run [(68, 19)] [] 60 ?_
    simp only [bk68_0, bk68_19, bk68_24, bk68_59, U_aload_n, U_getfield, U_istore_n, U_iconst, U_istore, U_iload, U_if_lt, U_iload_n, U_invokevirtual2, U_irem, U_isub, U_invokevirtual1, U_iadd, U_iinc, U_goto, U_ireturn, UN_cc, UN_cn, UN_nc, UN_nn, UJ, lget, lset, lset2, entL, wsm, wcat, Option.toList_some, Option.toList_none, List.cons_append, List.nil_append, List.mem_cons, List.not_mem_nil, Prod.mk.injEq, or_false, false_or, or_true, true_or, and_true, true_and, and_false, false_and, and_self, ne_eq, not_false_eq_true, not_true_eq_false, forall_const, true_implies, false_implies, Nat.add_zero, Nat.zero_add, Nat.le_refl, Nat.zero_le, ↓reduceIte, Nat.reduceAdd, Nat.reduceSub, Nat.reduceEqDiff, Nat.reduceLeDiff, Int.reduceEq, Int.reduceNe, Int.reduceNeg, reduceCtorEq, kd21]
    refine ⟨r3 (by omega), fun h => by omega, fun _ => c_wideTimes h.1 hs hw hx ?_⟩
    simp only [bk68_0, bk68_19, bk68_24, bk68_59, U_aload_n, U_getfield, U_istore_n, U_iconst, U_istore, U_iload, U_if_lt, U_iload_n, U_invokevirtual2, U_irem, U_isub, U_invokevirtual1, U_iadd, U_iinc, U_goto, U_ireturn, UN_cc, UN_cn, UN_nc, UN_nn, UJ, lget, lset, lset2, entL, wsm, wcat, Option.toList_some, Option.toList_none, List.cons_append, List.nil_append, List.mem_cons, List.not_mem_nil, Prod.mk.injEq, or_false, false_or, or_true, true_or, and_true, true_and, and_false, false_and, and_self, ne_eq, not_false_eq_true, not_true_eq_false, forall_const, true_implies, false_implies, Nat.add_zero, Nat.zero_add, Nat.le_refl, Nat.zero_le, ↓reduceIte, Nat.reduceAdd, Nat.reduceSub, Nat.reduceEqDiff, Nat.reduceLeDiff, Int.reduceEq, Int.reduceNe, Int.reduceNeg, reduceCtorEq, kd21, kd22, z21_1 h.1.1]
    rw [tm_nn ht.1]
    refine ⟨r3 (by omega), r3 (by omega), by omega, r3 (by omega), r3 (by omega), by omega, c_get h22 (r3 (by omega)) ?_⟩
    rw [if_pos (by omega), hin]
    simp only [bk68_0, bk68_19, bk68_24, bk68_59, U_aload_n, U_getfield, U_istore_n, U_iconst, U_istore, U_iload, U_if_lt, U_iload_n, U_invokevirtual2, U_irem, U_isub, U_invokevirtual1, U_iadd, U_iinc, U_goto, U_ireturn, UN_cc, UN_cn, UN_nc, UN_nn, UJ, lget, lset, lset2, entL, wsm, wcat, Option.toList_some, Option.toList_none, List.cons_append, List.nil_append, List.mem_cons, List.not_mem_nil, Prod.mk.injEq, or_false, false_or, or_true, true_or, and_true, true_and, and_false, false_and, and_self, ne_eq, not_false_eq_true, not_true_eq_false, forall_const, true_implies, false_implies, Nat.add_zero, Nat.zero_add, Nat.le_refl, Nat.zero_le, ↓reduceIte, Nat.reduceAdd, Nat.reduceSub, Nat.reduceEqDiff, Nat.reduceLeDiff, Int.reduceEq, Int.reduceNe, Int.reduceNeg, reduceCtorEq, kd21, kd22, z21_1 h.1.1]
    rw [tm_nn (by omega)]
    refine ⟨r3 (by omega), r3 (by omega), by omega, ?_⟩
    refine ih (i + -1) _ (by omega) (by omega) ?_
    have e : dg f - n = (dg f - (n + 1)) + 1 := by omega
    rw [e]
    show _ = wpl p (wtc p (nsq p) (hv p (nsq p) x (dg f - (n + 1)) (sh fun k => f.1 (k + n))) x) (f.1 (0 + n))
    have e2 : (sh fun k => f.1 (k + n)) = fun k => f.1 (k + (n + 1)) := funext fun k => by show f.1 (k + 1 + n) = f.1 (k + (n + 1)); rw [show k + 1 + n = k + (n + 1) by omega]
    rw [e2, ← h3, Nat.zero_add]; rfl
set_option maxHeartbeats 16000000 in
theorem s_wideValue {p : Int} {N : Mem} {ρ : Int → Option (Pz p)} {Q : Post} {f : Pz p} {x : Int} (h : ST p N ρ) (hf : ρ 22 = some f) (hs : N 21 9 = nsq p) (hx : 0 ≤ x ∧ x < p * p) (hQ : Q (some (0, hv p (nsq p) x (dg f) f.1)) NN N) : CL 68 [(2, 21), (0, x), (9, 0), (9, 0), (9, 0)] NN N Q := by
  have k22 : KD 22 = 18 := rfl
  have h22 := h.rp k22 hf
  refine WP.run [(68, 19)] [] 60 ?_
  simp only [bk68_0, bk68_19, bk68_24, bk68_59, U_aload_n, U_getfield, U_istore_n, U_iconst, U_istore, U_iload, U_if_lt, U_iload_n, U_invokevirtual2, U_irem, U_isub, U_invokevirtual1, U_iadd, U_iinc, U_goto, U_ireturn, UN_cc, UN_cn, UN_nc, UN_nn, UJ, lget, lset, lset2, entL, wsm, wcat, Option.toList_some, Option.toList_none, List.cons_append, List.nil_append, List.mem_cons, List.not_mem_nil, Prod.mk.injEq, or_false, false_or, or_true, true_or, and_true, true_and, and_false, false_and, and_self, ne_eq, not_false_eq_true, not_true_eq_false, forall_const, true_implies, false_implies, Nat.add_zero, Nat.zero_add, Nat.le_refl, Nat.zero_le, ↓reduceIte, Nat.reduceAdd, Nat.reduceSub, Nat.reduceEqDiff, Nat.reduceLeDiff, Int.reduceEq, Int.reduceNe, Int.reduceNeg, reduceCtorEq, kd21, kd2, kd22, z21_0 h.1.1, z21_1 h.1.1, h.1.2.2.1, h22.2.2.2]
  exact l_wideValue h hf hs hx hQ (dg f) _ 0 (by omega) (Nat.le_refl _) (by rw [Nat.sub_self]; rfl)
set_option maxHeartbeats 16000000 in
theorem l_cw1 {p : Int} {N : Mem} {ρ : Int → Option (Pz p)} {Q : Post} (hp : Pr p) (hs : N 21 9 = nsq p)
    (hQ : ∀ N', ST p N' ρ → FX [28] N N' → (∀ z, 0 ≤ z → z < p * p → N' 28 z = cnt2 p z) → WP 69 (0, 0) 75 [(2, 21), (0, p * p), (0, p * p), (9, 0)] [] NN N' Q ∧ ∀ z, WP 69 (0, 0) 75 [(2, 21), (0, p * p), (0, p * p), (0, z)] [] NN N' Q) :
    ∀ (n y : Nat) (Ni : Mem), (y : Int) + n = p * p → ST p Ni ρ → FX [28] N Ni → (∀ z, 0 ≤ z → z < p * p → Ni 28 z = isum (fun y => if wtc p (nsq p) y y = z then 1 else 0) y) → WP 69 (0, 0) 38 [(2, 21), (0, p * p), (0, (y : Int)), (9, 0)] [] NN Ni Q ∧ ∀ z, WP 69 (0, 0) 38 [(2, 21), (0, p * p), (0, (y : Int)), (0, z)] [] NN Ni Q := by
  have hpp := hp.pos
  have h169 := pp_le hp
  intro n
  induction n with
  | zero =>
    intro y Ni hy hS hF hA
    have e : (p * p).toNat = y := by omega
    have hq := hQ Ni hS hF (fun z z0 z1 => by rw [hA z z0 z1]; unfold cnt2; rw [e])
    have hyp : (y : Int) = p * p := by omega
    rw [hyp]
    refine ⟨?_, fun z => ?_⟩
    · refine WP.run [(69, 38), (69, 75)] [] 60 ?_
      simp only [bk69_0, bk69_38, bk69_43, bk69_54, bk69_59, bk69_69, bk69_75, bk69_82, bk69_87, bk69_97, bk69_102, bk69_117, bk69_123, U_aload_n, U_getfield, U_imul, U_alen, U_min, U_istore_n, U_invokevirtual0, U_iconst, U_invokestatic2, U_iload_n, U_icmp_ge, U_invokevirtual2, U_if_lt, U_dup2, U_iald, U_iadd, U_iast, U_iinc, U_goto, U_putfield, U_invokevirtual1, U_dup, U_return, UN_cc, UN_cn, UN_nc, UN_nn, UJ, lget, lset, lset2, entL, wsm, wcat, Option.toList_some, Option.toList_none, List.cons_append, List.nil_append, List.mem_cons, List.not_mem_nil, Prod.mk.injEq, or_false, false_or, or_true, true_or, and_true, true_and, and_false, false_and, and_self, ne_eq, not_false_eq_true, not_true_eq_false, forall_const, true_implies, false_implies, Nat.add_zero, Nat.zero_add, Nat.le_refl, Nat.zero_le, ↓reduceIte, Nat.reduceAdd, Nat.reduceSub, Nat.reduceEqDiff, Nat.reduceLeDiff, Int.reduceEq, Int.reduceNe, Int.reduceNeg, reduceCtorEq]
      exact ⟨rr (by omega), fun e => absurd e (by omega), fun _ => hq.1⟩
    · refine WP.run [(69, 38), (69, 75)] [] 60 ?_
      simp only [bk69_0, bk69_38, bk69_43, bk69_54, bk69_59, bk69_69, bk69_75, bk69_82, bk69_87, bk69_97, bk69_102, bk69_117, bk69_123, U_aload_n, U_getfield, U_imul, U_alen, U_min, U_istore_n, U_invokevirtual0, U_iconst, U_invokestatic2, U_iload_n, U_icmp_ge, U_invokevirtual2, U_if_lt, U_dup2, U_iald, U_iadd, U_iast, U_iinc, U_goto, U_putfield, U_invokevirtual1, U_dup, U_return, UN_cc, UN_cn, UN_nc, UN_nn, UJ, lget, lset, lset2, entL, wsm, wcat, Option.toList_some, Option.toList_none, List.cons_append, List.nil_append, List.mem_cons, List.not_mem_nil, Prod.mk.injEq, or_false, false_or, or_true, true_or, and_true, true_and, and_false, false_and, and_self, ne_eq, not_false_eq_true, not_true_eq_false, forall_const, true_implies, false_implies, Nat.add_zero, Nat.zero_add, Nat.le_refl, Nat.zero_le, ↓reduceIte, Nat.reduceAdd, Nat.reduceSub, Nat.reduceEqDiff, Nat.reduceLeDiff, Int.reduceEq, Int.reduceNe, Int.reduceNeg, reduceCtorEq]
      exact ⟨rr (by omega), fun e => absurd e (by omega), fun _ => hq.2 z⟩
  | succ n ih =>
    intro y Ni hy hS hF hA
    have hs2 : Ni 21 9 = nsq p := by rw [hF 21 (by decide) (by decide)]; exact hs
    have ht := wtc_rg hp (nsq p) y y
    have hc := isum_rg (F := fun w => if wtc p (nsq p) w w = wtc p (nsq p) y y then 1 else 0) (B := 1) (fun i => by split <;> omega) y
    have key : ∀ v : V, WP 69 (0, 0) 38 [(2, 21), (0, p * p), (0, (y : Int)), v] [] NN Ni Q := fun v => by
      refine WP.run [(69, 38), (69, 75)] [] 60 ?_
      simp only [bk69_0, bk69_38, bk69_43, bk69_54, bk69_59, bk69_69, bk69_75, bk69_82, bk69_87, bk69_97, bk69_102, bk69_117, bk69_123, U_aload_n, U_getfield, U_imul, U_alen, U_min, U_istore_n, U_invokevirtual0, U_iconst, U_invokestatic2, U_iload_n, U_icmp_ge, U_invokevirtual2, U_if_lt, U_dup2, U_iald, U_iadd, U_iast, U_iinc, U_goto, U_putfield, U_invokevirtual1, U_dup, U_return, UN_cc, UN_cn, UN_nc, UN_nn, UJ, lget, lset, lset2, entL, wsm, wcat, Option.toList_some, Option.toList_none, List.cons_append, List.nil_append, List.mem_cons, List.not_mem_nil, Prod.mk.injEq, or_false, false_or, or_true, true_or, and_true, true_and, and_false, false_and, and_self, ne_eq, not_false_eq_true, not_true_eq_false, forall_const, true_implies, false_implies, Nat.add_zero, Nat.zero_add, Nat.le_refl, Nat.zero_le, ↓reduceIte, Nat.reduceAdd, Nat.reduceSub, Nat.reduceEqDiff, Nat.reduceLeDiff, Int.reduceEq, Int.reduceNe, Int.reduceNeg, reduceCtorEq, kd21]
      refine ⟨rr (by omega), fun _ => c_wideTimes hS.1 hs2 (by omega) (by omega) ?_, fun e => absurd e (by omega)⟩
      simp only [bk69_0, bk69_38, bk69_43, bk69_54, bk69_59, bk69_69, bk69_75, bk69_82, bk69_87, bk69_97, bk69_102, bk69_117, bk69_123, U_aload_n, U_getfield, U_imul, U_alen, U_min, U_istore_n, U_invokevirtual0, U_iconst, U_invokestatic2, U_iload_n, U_icmp_ge, U_invokevirtual2, U_if_lt, U_dup2, U_iald, U_iadd, U_iast, U_iinc, U_goto, U_putfield, U_invokevirtual1, U_dup, U_return, UN_cc, UN_cn, UN_nc, UN_nn, UJ, lget, lset, lset2, entL, wsm, wcat, Option.toList_some, Option.toList_none, List.cons_append, List.nil_append, List.mem_cons, List.not_mem_nil, Prod.mk.injEq, or_false, false_or, or_true, true_or, and_true, true_and, and_false, false_and, and_self, ne_eq, not_false_eq_true, not_true_eq_false, forall_const, true_implies, false_implies, Nat.add_zero, Nat.zero_add, Nat.le_refl, Nat.zero_le, ↓reduceIte, Nat.reduceAdd, Nat.reduceSub, Nat.reduceEqDiff, Nat.reduceLeDiff, Int.reduceEq, Int.reduceNe, Int.reduceNeg, reduceCtorEq, kd21, kd28, ln28, z21_8 hS.1.1, hA _ ht.1 ht.2]
      refine ⟨r3 (by omega), fun e => by omega, fun _ => ⟨rr (by omega), fun _ => ⟨by omega, by omega, by omega, by omega, ?_⟩, fun e => by omega⟩⟩
      refine (ih (y + 1) _ (by omega) (hS.ust _ _ (fz_arr (Or.inl rfl) _) (by decide) (by decide) (by decide)) (hF.us _ _ (by simp)) (fun z z0 z1 => ?_)).2 _
      show ust Ni 28 _ _ 28 z = isum _ y + (if wtc p (nsq p) y y = z then 1 else 0)
      rw [ust_at]
      by_cases e : z = wtc p (nsq p) y y
      · rw [if_pos e, if_pos e.symm, e]
      · rw [if_neg e, if_neg (fun q => e q.symm), Int.add_zero]; exact hA z z0 z1
    exact ⟨key _, fun z => key _⟩
set_option maxHeartbeats 16000000 in
theorem l_cw2 {p : Int} {N : Mem} {ρ : Int → Option (Pz p)} {Q : Post} {f : Pz p} (hp : Pr p) (hf : ρ 22 = some f) (hs : N 21 9 = nsq p) (hA : ∀ z, 0 ≤ z → z < p * p → N 28 z = cnt2 p z) (h : ST p N ρ) (hQ : Q none NN (ust N 21 7 (nn2 f + 1))) :
    ∀ (n x : Nat) (v : V), (x : Int) + n = p * p → WP 69 (0, 0) 82 [(2, 21), (0, p * p), (0, (x : Int)), v] [] NN (ust N 21 7 (isum (fun x => cnt2 p (hv p (nsq p) x (dg f) f.1)) x + 1)) Q := by
  have hpp := hp.pos
  have h169 := pp_le hp
  intro n
  induction n with
  | zero =>
    intro x v hx
    have e : (p * p).toNat = x := by omega
    unfold nn2 at hQ
    rw [e] at hQ
    refine WP.run [(69, 82)] [] 60 ?_
    simp only [bk69_0, bk69_38, bk69_43, bk69_54, bk69_59, bk69_69, bk69_75, bk69_82, bk69_87, bk69_97, bk69_102, bk69_117, bk69_123, U_aload_n, U_getfield, U_imul, U_alen, U_min, U_istore_n, U_invokevirtual0, U_iconst, U_invokestatic2, U_iload_n, U_icmp_ge, U_invokevirtual2, U_if_lt, U_dup2, U_iald, U_iadd, U_iast, U_iinc, U_goto, U_putfield, U_invokevirtual1, U_dup, U_return, UN_cc, UN_cn, UN_nc, UN_nn, UJ, lget, lset, lset2, entL, wsm, wcat, Option.toList_some, Option.toList_none, List.cons_append, List.nil_append, List.mem_cons, List.not_mem_nil, Prod.mk.injEq, or_false, false_or, or_true, true_or, and_true, true_and, and_false, false_and, and_self, ne_eq, not_false_eq_true, not_true_eq_false, forall_const, true_implies, false_implies, Nat.add_zero, Nat.zero_add, Nat.le_refl, Nat.zero_le, ↓reduceIte, Nat.reduceAdd, Nat.reduceSub, Nat.reduceEqDiff, Nat.reduceLeDiff, Int.reduceEq, Int.reduceNe, Int.reduceNeg, reduceCtorEq]
    exact ⟨rr (by omega), fun e => absurd e (by omega), fun _ => hQ⟩
  | succ n ih =>
    intro x v hx
    have hS := st_u21 h 7 (isum (fun x => cnt2 p (hv p (nsq p) x (dg f) f.1)) x + 1) (by omega)
    have ht := hv_rg hp (nsq p) x (dg f) f.1
    have hc := cnt2_rg hp (hv p (nsq p) x (dg f) f.1)
    refine WP.run [(69, 82)] [] 60 ?_
    simp only [bk69_0, bk69_38, bk69_43, bk69_54, bk69_59, bk69_69, bk69_75, bk69_82, bk69_87, bk69_97, bk69_102, bk69_117, bk69_123, U_aload_n, U_getfield, U_imul, U_alen, U_min, U_istore_n, U_invokevirtual0, U_iconst, U_invokestatic2, U_iload_n, U_icmp_ge, U_invokevirtual2, U_if_lt, U_dup2, U_iald, U_iadd, U_iast, U_iinc, U_goto, U_putfield, U_invokevirtual1, U_dup, U_return, UN_cc, UN_cn, UN_nc, UN_nn, UJ, lget, lset, lset2, entL, wsm, wcat, Option.toList_some, Option.toList_none, List.cons_append, List.nil_append, List.mem_cons, List.not_mem_nil, Prod.mk.injEq, or_false, false_or, or_true, true_or, and_true, true_and, and_false, false_and, and_self, ne_eq, not_false_eq_true, not_true_eq_false, forall_const, true_implies, false_implies, Nat.add_zero, Nat.zero_add, Nat.le_refl, Nat.zero_le, ↓reduceIte, Nat.reduceAdd, Nat.reduceSub, Nat.reduceEqDiff, Nat.reduceLeDiff, Int.reduceEq, Int.reduceNe, Int.reduceNeg, reduceCtorEq, kd21]
    refine ⟨rr (by omega), fun _ => s_wideValue hS hf (by rw [ust_at, if_neg (by omega)]; exact hs) (by omega) ?_, fun e => absurd e (by omega)⟩
    simp only [bk69_0, bk69_38, bk69_43, bk69_54, bk69_59, bk69_69, bk69_75, bk69_82, bk69_87, bk69_97, bk69_102, bk69_117, bk69_123, U_aload_n, U_getfield, U_imul, U_alen, U_min, U_istore_n, U_invokevirtual0, U_iconst, U_invokestatic2, U_iload_n, U_icmp_ge, U_invokevirtual2, U_if_lt, U_dup2, U_iald, U_iadd, U_iast, U_iinc, U_goto, U_putfield, U_invokevirtual1, U_dup, U_return, UN_cc, UN_cn, UN_nc, UN_nn, UJ, lget, lset, lset2, entL, wsm, wcat, Option.toList_some, Option.toList_none, List.cons_append, List.nil_append, List.mem_cons, List.not_mem_nil, Prod.mk.injEq, or_false, false_or, or_true, true_or, and_true, true_and, and_false, false_and, and_self, ne_eq, not_false_eq_true, not_true_eq_false, forall_const, true_implies, false_implies, Nat.add_zero, Nat.zero_add, Nat.le_refl, Nat.zero_le, ↓reduceIte, Nat.reduceAdd, Nat.reduceSub, Nat.reduceEqDiff, Nat.reduceLeDiff, Int.reduceEq, Int.reduceNe, Int.reduceNeg, reduceCtorEq, kd21, kd28, ln28, z21_8 h.1.1, ust_r, hA _ ht.1 ht.2]
    refine ⟨r3 (by omega), fun e => by omega, fun _ => ⟨rr (by omega), fun _ => ⟨by omega, by omega, ?_⟩, fun e => by omega⟩⟩
    rw [ust_u]
    have e : isum (fun x => cnt2 p (hv p (nsq p) x (dg f) f.1)) x + 1 + cnt2 p (hv p (nsq p) x (dg f) f.1) = isum (fun x => cnt2 p (hv p (nsq p) x (dg f) f.1)) (x + 1) + 1 := by
      show _ = isum (fun x => cnt2 p (hv p (nsq p) x (dg f) f.1)) x + cnt2 p (hv p (nsq p) x (dg f) f.1) + 1
      omega
    rw [e]
    exact ih (x + 1) _ (by omega)
set_option maxHeartbeats 16000000 in
theorem s_countWide {p : Int} {N : Mem} {ρ : Int → Option (Pz p)} {Q : Post} {f : Pz p} (h : ST p N ρ) (hf : ρ 22 = some f) (hQ : ∀ N', ST p N' ρ → FX [21, 28] N N' → (∀ i, i ≠ 7 → i ≠ 9 → N' 21 i = N 21 i) → N' 21 7 = nn2 f + 1 → Q none NN N') : CL 69 [(2, 21), (9, 0), (9, 0), (9, 0)] NN N Q := by
  have hp := h.1.2.1
  have hpp := hp.pos
  have h169 := pp_le hp
  have hmin : min (p * p) 169 = p * p := by omega
  refine WP.run [(69, 38)] [] 60 ?_
  simp only [bk69_0, bk69_38, bk69_43, bk69_54, bk69_59, bk69_69, bk69_75, bk69_82, bk69_87, bk69_97, bk69_102, bk69_117, bk69_123, U_aload_n, U_getfield, U_imul, U_alen, U_min, U_istore_n, U_invokevirtual0, U_iconst, U_invokestatic2, U_iload_n, U_icmp_ge, U_invokevirtual2, U_if_lt, U_dup2, U_iald, U_iadd, U_iast, U_iinc, U_goto, U_putfield, U_invokevirtual1, U_dup, U_return, UN_cc, UN_cn, UN_nc, UN_nn, UJ, lget, lset, lset2, entL, wsm, wcat, Option.toList_some, Option.toList_none, List.cons_append, List.nil_append, List.mem_cons, List.not_mem_nil, Prod.mk.injEq, or_false, false_or, or_true, true_or, and_true, true_and, and_false, false_and, and_self, ne_eq, not_false_eq_true, not_true_eq_false, forall_const, true_implies, false_implies, Nat.add_zero, Nat.zero_add, Nat.le_refl, Nat.zero_le, ↓reduceIte, Nat.reduceAdd, Nat.reduceSub, Nat.reduceEqDiff, Nat.reduceLeDiff, Int.reduceEq, Int.reduceNe, Int.reduceNeg, reduceCtorEq, kd21, kd2, kd28, ln28, z21_0 h.1.1, z21_8 h.1.1, h.1.2.2.1, hmin]
  refine ⟨r3 (by omega), r3 (by omega), s_findNonSquare h ?_⟩
  have h1 := st_u21 h 9 (nsq p) (by omega)
  simp only [bk69_0, bk69_38, bk69_43, bk69_54, bk69_59, bk69_69, bk69_75, bk69_82, bk69_87, bk69_97, bk69_102, bk69_117, bk69_123, U_aload_n, U_getfield, U_imul, U_alen, U_min, U_istore_n, U_invokevirtual0, U_iconst, U_invokestatic2, U_iload_n, U_icmp_ge, U_invokevirtual2, U_if_lt, U_dup2, U_iald, U_iadd, U_iast, U_iinc, U_goto, U_putfield, U_invokevirtual1, U_dup, U_return, UN_cc, UN_cn, UN_nc, UN_nn, UJ, lget, lset, lset2, entL, wsm, wcat, Option.toList_some, Option.toList_none, List.cons_append, List.nil_append, List.mem_cons, List.not_mem_nil, Prod.mk.injEq, or_false, false_or, or_true, true_or, and_true, true_and, and_false, false_and, and_self, ne_eq, not_false_eq_true, not_true_eq_false, forall_const, true_implies, false_implies, Nat.add_zero, Nat.zero_add, Nat.le_refl, Nat.zero_le, ↓reduceIte, Nat.reduceAdd, Nat.reduceSub, Nat.reduceEqDiff, Nat.reduceLeDiff, Int.reduceEq, Int.reduceNe, Int.reduceNeg, reduceCtorEq, kd21, kd28, z21_8 h1.1.1]
  refine c_fill rfl ?_
  simp only [bk69_0, bk69_38, bk69_43, bk69_54, bk69_59, bk69_69, bk69_75, bk69_82, bk69_87, bk69_97, bk69_102, bk69_117, bk69_123, U_aload_n, U_getfield, U_imul, U_alen, U_min, U_istore_n, U_invokevirtual0, U_iconst, U_invokestatic2, U_iload_n, U_icmp_ge, U_invokevirtual2, U_if_lt, U_dup2, U_iald, U_iadd, U_iast, U_iinc, U_goto, U_putfield, U_invokevirtual1, U_dup, U_return, UN_cc, UN_cn, UN_nc, UN_nn, UJ, lget, lset, lset2, entL, wsm, wcat, Option.toList_some, Option.toList_none, List.cons_append, List.nil_append, List.mem_cons, List.not_mem_nil, Prod.mk.injEq, or_false, false_or, or_true, true_or, and_true, true_and, and_false, false_and, and_self, ne_eq, not_false_eq_true, not_true_eq_false, forall_const, true_implies, false_implies, Nat.add_zero, Nat.zero_add, Nat.le_refl, Nat.zero_le, ↓reduceIte, Nat.reduceAdd, Nat.reduceSub, Nat.reduceEqDiff, Nat.reduceLeDiff, Int.reduceEq, Int.reduceNe, Int.reduceNeg, reduceCtorEq]
  have hfil : ST p (fil (ust N 21 9 (nsq p)) 28 (LN 28) 0) ρ := by
    refine h1.other (h1.1.1.of fun a i v e => ?_) (fil_ne (by decide)) (fil_ne (by decide)) (fun b hb => fil_ne (fun e => by rw [e] at hb; exact absurd hb (by decide)))
    by_cases q : a = 28
    · subst q; rw [fz_arr (Or.inl rfl)] at e; cases e
    · rw [fil_ne q]
  have f0 : FX [21, 28] N (fil (ust N 21 9 (nsq p)) 28 (LN 28) 0) := fun b hb hk => by
    rw [fil_ne (fun e => hk (by simp [e])), ust_ne (fun e => hk (by simp [e]))]
  have h9 : fil (ust N 21 9 (nsq p)) 28 (LN 28) 0 21 9 = nsq p := by rw [fil_ne (by decide), ust_at, if_pos rfl]
  refine (l_cw1 (ρ := ρ) (N := fil (ust N 21 9 (nsq p)) 28 (LN 28) 0) hp h9 (fun N' g1 g2 g3 => ?_) (p * p).toNat 0 _ (by omega) hfil (FX.rf _ _) (fun z z0 z1 => by rw [fil_in z0 (by rw [ln28]; omega)]; rfl)).1
  have h21 : N' 21 = (ust N 21 9 (nsq p)) 21 := by rw [g2 21 (by decide) (by decide), fil_ne (by decide)]
  have fin : ∀ v : V, WP 69 (0, 0) 75 [(2, 21), (0, p * p), (0, p * p), v] [] NN N' Q := fun v => by
    refine WP.run [(69, 82)] [] 60 ?_
    simp only [bk69_0, bk69_38, bk69_43, bk69_54, bk69_59, bk69_69, bk69_75, bk69_82, bk69_87, bk69_97, bk69_102, bk69_117, bk69_123, U_aload_n, U_getfield, U_imul, U_alen, U_min, U_istore_n, U_invokevirtual0, U_iconst, U_invokestatic2, U_iload_n, U_icmp_ge, U_invokevirtual2, U_if_lt, U_dup2, U_iald, U_iadd, U_iast, U_iinc, U_goto, U_putfield, U_invokevirtual1, U_dup, U_return, UN_cc, UN_cn, UN_nc, UN_nn, UJ, lget, lset, lset2, entL, wsm, wcat, Option.toList_some, Option.toList_none, List.cons_append, List.nil_append, List.mem_cons, List.not_mem_nil, Prod.mk.injEq, or_false, false_or, or_true, true_or, and_true, true_and, and_false, false_and, and_self, ne_eq, not_false_eq_true, not_true_eq_false, forall_const, true_implies, false_implies, Nat.add_zero, Nat.zero_add, Nat.le_refl, Nat.zero_le, ↓reduceIte, Nat.reduceAdd, Nat.reduceSub, Nat.reduceEqDiff, Nat.reduceLeDiff, Int.reduceEq, Int.reduceNe, Int.reduceNeg, reduceCtorEq, kd21]
    have e9 : N' 21 9 = nsq p := by rw [h21, ust_at, if_pos rfl]
    refine l_cw2 (N := N') (f := f) hp hf e9 g3 g1 ?_ (p * p).toNat 0 _ (by omega)
    refine hQ _ (st_u21 g1 7 _ (by omega)) ?_ (fun i i7 i9 => ?_) (by rw [ust_at, if_pos rfl])
    · exact (f0.tr (g2.mo (by simp))).us _ _ (by simp)
    · rw [ust_at, if_neg i7, h21, ust_at, if_neg i9]
  exact ⟨fin _, fun z => fin _⟩
