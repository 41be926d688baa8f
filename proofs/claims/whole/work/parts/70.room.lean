/-! ROOMS: amounts, their total, the class of all amounts, widths, gaps -/
def AmA (N : Mem) (A : Nat → Int) : Prop := (∀ i : Nat, i < 27 → N 109 (i : Int) = A i) ∧ (-30 ≤ A 0 ∧ A 0 ≤ 30) ∧ ∀ i, i ≠ 0 → -4 ≤ A i ∧ A i ≤ 4
theorem AmA.fx {N N' : Mem} {A : Nat → Int} (h : AmA N A) (h1 : N' 109 = N 109) : AmA N' A := ⟨fun a ha => by rw [h1]; exact h.1 a ha, h.2⟩
theorem AmA.rg {N : Mem} {A : Nat → Int} (h : AmA N A) (i : Nat) : -30 ≤ A i ∧ A i ≤ 30 := by
  by_cases e : i = 0
  · subst e; exact h.2.1
  · have := h.2.2 i e; omega
theorem isum_ab {F : Nat → Int} {B : Int} (h : ∀ i, -B ≤ F i ∧ F i ≤ B) : ∀ n : Nat, -(n * B) ≤ isum F n ∧ isum F n ≤ n * B
  | 0 => by simp [isum]
  | n + 1 => by
    obtain ⟨h1, h2⟩ := isum_ab h n
    obtain ⟨h3, h4⟩ := h n
    show -(((n + 1 : Nat) : Int) * B) ≤ isum F n + F n ∧ isum F n + F n ≤ ((n + 1 : Nat) : Int) * B
    rw [show ((n + 1 : Nat) : Int) = (n : Int) + 1 by omega, Int.add_mul, Int.one_mul]
    omega
set_option maxHeartbeats 4000000 in
theorem c_roClear {N : Mem} {Q : Post} (hz : Fz N) (hQ : Q none NN (fil N 109 27 0)) : CL 98 [(2, 108)] NN N Q := by
  refine WP.run [] [] 60 ?_
  simp only [bk98_0, U_aload_n, U_getfield, U_iconst, U_invokestatic2, U_return, UN_cc, UN_cn, UN_nc, UN_nn, UJ, lget, lset, lset2, entL, wsm, wcat, Option.toList_some, Option.toList_none, List.cons_append, List.nil_append, List.mem_cons, List.not_mem_nil, Prod.mk.injEq, or_false, false_or, or_true, true_or, and_true, true_and, and_false, false_and, and_self, ne_eq, not_false_eq_true, not_true_eq_false, forall_const, true_implies, false_implies, Nat.add_zero, Nat.zero_add, Nat.le_refl, Nat.zero_le, List.set_cons_zero, List.set_cons_succ, List.set_nil, ↓reduceIte, Nat.reduceAdd, Nat.reduceSub, Nat.reduceEqDiff, Nat.reduceLeDiff, Int.reduceEq, Int.reduceNe, Int.reduceNeg, reduceCtorEq, kd108, z108_2 hz]
  refine c_fill rfl ?_
  simp only [bk98_0, U_aload_n, U_getfield, U_iconst, U_invokestatic2, U_return, UN_cc, UN_cn, UN_nc, UN_nn, UJ, lget, lset, lset2, entL, wsm, wcat, Option.toList_some, Option.toList_none, List.cons_append, List.nil_append, List.mem_cons, List.not_mem_nil, Prod.mk.injEq, or_false, false_or, or_true, true_or, and_true, true_and, and_false, false_and, and_self, ne_eq, not_false_eq_true, not_true_eq_false, forall_const, true_implies, false_implies, Nat.add_zero, Nat.zero_add, Nat.le_refl, Nat.zero_le, List.set_cons_zero, List.set_cons_succ, List.set_nil, ↓reduceIte, Nat.reduceAdd, Nat.reduceSub, Nat.reduceEqDiff, Nat.reduceLeDiff, Int.reduceEq, Int.reduceNe, Int.reduceNeg, reduceCtorEq]
  exact hQ
set_option maxHeartbeats 4000000 in
theorem c_roGet {N : Mem} {Q : Post} {A : Nat → Int} {a : Nat} (hz : Fz N) (h : AmA N A) (ha : a < 27) (hQ : Q (some (0, A a)) NN N) : CL 99 [(2, 108), (0, (a : Int))] NN N Q := by
  refine WP.run [] [] 60 ?_
  simp only [bk99_0, bk99_4, bk99_10, bk99_14, bk99_20, U_iload_n, U_if_lt, U_bipush, U_icmp_lt, U_iconst, U_goto, U_aload_n, U_getfield, U_iald, U_ireturn, UN_cc, UN_cn, UN_nc, UN_nn, UJ, lget, lset, lset2, entL, wsm, wcat, Option.toList_some, Option.toList_none, List.cons_append, List.nil_append, List.mem_cons, List.not_mem_nil, Prod.mk.injEq, or_false, false_or, or_true, true_or, and_true, true_and, and_false, false_and, and_self, ne_eq, not_false_eq_true, not_true_eq_false, forall_const, true_implies, false_implies, Nat.add_zero, Nat.zero_add, Nat.le_refl, Nat.zero_le, List.set_cons_zero, List.set_cons_succ, List.set_nil, ↓reduceIte, Nat.reduceAdd, Nat.reduceSub, Nat.reduceEqDiff, Nat.reduceLeDiff, Int.reduceEq, Int.reduceNe, Int.reduceNeg, reduceCtorEq, kd108, kd109, ln109, z108_2 hz, h.1 a ha]
  exact ⟨r3 (by omega), fun e => absurd e (by omega), fun _ => ⟨rr (by omega), fun _ => ⟨by omega, by omega, hQ⟩, fun e => absurd e (by omega)⟩⟩
set_option maxHeartbeats 4000000 in
theorem c_roChange {N : Mem} {Q : Post} {A : Nat → Int} {a : Nat} {e : Int} (hz : Fz N) (h : AmA N A) (ha : a < 27) (hQ : Q (some (0, A a)) NN (ust N 109 (a : Int) e)) : CL 100 [(2, 108), (0, (a : Int)), (0, e), (9, 0)] NN N Q := by
  refine WP.run [] [] 60 ?_
  simp only [bk100_0, bk100_10, bk100_16, bk100_23, U_aload_n, U_iload_n, U_invokevirtual1, U_istore_n, U_if_lt, U_bipush, U_icmp_ge, U_getfield, U_iast, U_ireturn, UN_cc, UN_cn, UN_nc, UN_nn, UJ, lget, lset, lset2, entL, wsm, wcat, Option.toList_some, Option.toList_none, List.cons_append, List.nil_append, List.mem_cons, List.not_mem_nil, Prod.mk.injEq, or_false, false_or, or_true, true_or, and_true, true_and, and_false, false_and, and_self, ne_eq, not_false_eq_true, not_true_eq_false, forall_const, true_implies, false_implies, Nat.add_zero, Nat.zero_add, Nat.le_refl, Nat.zero_le, List.set_cons_zero, List.set_cons_succ, List.set_nil, ↓reduceIte, Nat.reduceAdd, Nat.reduceSub, Nat.reduceEqDiff, Nat.reduceLeDiff, Int.reduceEq, Int.reduceNe, Int.reduceNeg, reduceCtorEq, kd108]
  refine c_roGet hz h ha ?_
  simp only [bk100_0, bk100_10, bk100_16, bk100_23, U_aload_n, U_iload_n, U_invokevirtual1, U_istore_n, U_if_lt, U_bipush, U_icmp_ge, U_getfield, U_iast, U_ireturn, UN_cc, UN_cn, UN_nc, UN_nn, UJ, lget, lset, lset2, entL, wsm, wcat, Option.toList_some, Option.toList_none, List.cons_append, List.nil_append, List.mem_cons, List.not_mem_nil, Prod.mk.injEq, or_false, false_or, or_true, true_or, and_true, true_and, and_false, false_and, and_self, ne_eq, not_false_eq_true, not_true_eq_false, forall_const, true_implies, false_implies, Nat.add_zero, Nat.zero_add, Nat.le_refl, Nat.zero_le, List.set_cons_zero, List.set_cons_succ, List.set_nil, ↓reduceIte, Nat.reduceAdd, Nat.reduceSub, Nat.reduceEqDiff, Nat.reduceLeDiff, Int.reduceEq, Int.reduceNe, Int.reduceNeg, reduceCtorEq, kd108, kd109, ln109, z108_2 hz]
  exact ⟨r3 (by omega), fun e => absurd e (by omega), fun _ => ⟨rr (by omega), fun _ => ⟨by omega, by omega, hQ⟩, fun e => absurd e (by omega)⟩⟩
set_option maxHeartbeats 4000000 in
theorem l_roTotal {N : Mem} {Q : Post} {A : Nat → Int} (hz : Fz N) (h : AmA N A) (hQ : Q (some (0, isum A 27)) NN N) : ∀ (n k : Nat), k + n = 27 → WP 101 (0, 0) 4 [(2, 108), (0, isum A k), (0, (k : Int))] [] NN N Q := by
  intro n
  induction n with
  | zero =>
    intro k hk
    obtain rfl : k = 27 := by omega
    refine WP.run [(101, 4)] [] 60 ?_
    simp only [bk101_0, bk101_4, bk101_10, bk101_25, U_iconst, U_istore_n, U_iload_n, U_bipush, U_icmp_ge, U_aload_n, U_getfield, U_iald, U_iadd, U_iinc, U_goto, U_ireturn, UN_cc, UN_cn, UN_nc, UN_nn, UJ, lget, lset, lset2, entL, wsm, wcat, Option.toList_some, Option.toList_none, List.cons_append, List.nil_append, List.mem_cons, List.not_mem_nil, Prod.mk.injEq, or_false, false_or, or_true, true_or, and_true, true_and, and_false, false_and, and_self, ne_eq, not_false_eq_true, not_true_eq_false, forall_const, true_implies, false_implies, Nat.add_zero, Nat.zero_add, Nat.le_refl, Nat.zero_le, List.set_cons_zero, List.set_cons_succ, List.set_nil, ↓reduceIte, Nat.reduceAdd, Nat.reduceSub, Nat.reduceEqDiff, Nat.reduceLeDiff, Int.reduceEq, Int.reduceNe, Int.reduceNeg, reduceCtorEq]
    exact ⟨rr (by omega), fun e => absurd e (by omega), fun _ => hQ⟩
  | succ n ih =>
    intro k hk
    have e := h.1 k (by omega)
    refine WP.run [(101, 4)] [] 60 ?_
    simp only [bk101_0, bk101_4, bk101_10, bk101_25, U_iconst, U_istore_n, U_iload_n, U_bipush, U_icmp_ge, U_aload_n, U_getfield, U_iald, U_iadd, U_iinc, U_goto, U_ireturn, UN_cc, UN_cn, UN_nc, UN_nn, UJ, lget, lset, lset2, entL, wsm, wcat, Option.toList_some, Option.toList_none, List.cons_append, List.nil_append, List.mem_cons, List.not_mem_nil, Prod.mk.injEq, or_false, false_or, or_true, true_or, and_true, true_and, and_false, false_and, and_self, ne_eq, not_false_eq_true, not_true_eq_false, forall_const, true_implies, false_implies, Nat.add_zero, Nat.zero_add, Nat.le_refl, Nat.zero_le, List.set_cons_zero, List.set_cons_succ, List.set_nil, ↓reduceIte, Nat.reduceAdd, Nat.reduceSub, Nat.reduceEqDiff, Nat.reduceLeDiff, Int.reduceEq, Int.reduceNe, Int.reduceNeg, reduceCtorEq, kd108, kd109, ln109, z108_2 hz, e]
    refine ⟨rr (by omega), fun _ => ⟨by omega, by omega, ?_⟩, fun e => absurd (by omega) e⟩
    exact ih (k + 1) (by omega)
set_option maxHeartbeats 4000000 in
theorem c_roTotal {N : Mem} {Q : Post} {A : Nat → Int} (hz : Fz N) (h : AmA N A) (hQ : Q (some (0, isum A 27)) NN N) : CL 101 [(2, 108), (9, 0), (9, 0)] NN N Q := by
  refine WP.run [(101, 4)] [] 60 ?_
  simp only [bk101_0, bk101_4, bk101_10, bk101_25, U_iconst, U_istore_n, U_iload_n, U_bipush, U_icmp_ge, U_aload_n, U_getfield, U_iald, U_iadd, U_iinc, U_goto, U_ireturn, UN_cc, UN_cn, UN_nc, UN_nn, UJ, lget, lset, lset2, entL, wsm, wcat, Option.toList_some, Option.toList_none, List.cons_append, List.nil_append, List.mem_cons, List.not_mem_nil, Prod.mk.injEq, or_false, false_or, or_true, true_or, and_true, true_and, and_false, false_and, and_self, ne_eq, not_false_eq_true, not_true_eq_false, forall_const, true_implies, false_implies, Nat.add_zero, Nat.zero_add, Nat.le_refl, Nat.zero_le, List.set_cons_zero, List.set_cons_succ, List.set_nil, ↓reduceIte, Nat.reduceAdd, Nat.reduceSub, Nat.reduceEqDiff, Nat.reduceLeDiff, Int.reduceEq, Int.reduceNe, Int.reduceNeg, reduceCtorEq]
  exact l_roTotal hz h hQ 27 0 (by omega)
def evn (m : Int) : Int := if m < 0 then 0 else m / 2 + 1
def wid (g : Nat) (t d : Int) : Int := evn (t - d) + evn (t + d - 2 * g - 1)
set_option maxHeartbeats 4000000 in
theorem c_evens {N : Mem} {Q : Post} {m : Int} (hm : R32 m) (hQ : Q (some (0, evn m)) NN N) : CL 103 [(0, m)] NN N Q := by
  refine WP.run [] [] 60 ?_
  simp only [bk103_0, bk103_4, bk103_8, bk103_13, U_iload_n, U_if_ge, U_iconst, U_goto, U_idiv, U_iadd, U_ireturn, UN_cc, UN_cn, UN_nc, UN_nn, UJ, lget, lset, lset2, entL, wsm, wcat, Option.toList_some, Option.toList_none, List.cons_append, List.nil_append, List.mem_cons, List.not_mem_nil, Prod.mk.injEq, or_false, false_or, or_true, true_or, and_true, true_and, and_false, false_and, and_self, ne_eq, not_false_eq_true, not_true_eq_false, forall_const, true_implies, false_implies, Nat.add_zero, Nat.zero_add, Nat.le_refl, Nat.zero_le, List.set_cons_zero, List.set_cons_succ, List.set_nil, ↓reduceIte, Nat.reduceAdd, Nat.reduceSub, Nat.reduceEqDiff, Nat.reduceLeDiff, Int.reduceEq, Int.reduceNe, Int.reduceNeg, reduceCtorEq]
  unfold evn at hQ
  refine ⟨hm, fun e => ?_, fun e => ⟨hm, r3 (by omega), ?_⟩⟩
  · rw [if_pos e] at hQ; exact hQ
  · rw [if_neg e] at hQ
    rw [Int.tdiv_eq_ediv_of_nonneg (by omega)]; exact hQ
set_option maxHeartbeats 4000000 in
theorem c_width {N : Mem} {Q : Post} {g : Nat} {t d : Int} (hz : Fz N) (hg : N 21 3 = g) (hg2 : g ≤ 2) (ht : -1000 ≤ t ∧ t ≤ 1000) (hd : -10 ≤ d ∧ d ≤ 10) (hQ : Q (some (0, wid g t d)) NN N) : CL 104 [(2, 108), (0, t), (0, d)] NN N Q := by
  refine WP.run [] [] 60 ?_
  simp only [bk104_0, U_iload_n, U_isub, U_invokestatic1, U_iadd, U_iconst, U_aload_n, U_getfield, U_imul, U_ireturn, UN_cc, UN_cn, UN_nc, UN_nn, UJ, lget, lset, lset2, entL, wsm, wcat, Option.toList_some, Option.toList_none, List.cons_append, List.nil_append, List.mem_cons, List.not_mem_nil, Prod.mk.injEq, or_false, false_or, or_true, true_or, and_true, true_and, and_false, false_and, and_self, ne_eq, not_false_eq_true, not_true_eq_false, forall_const, true_implies, false_implies, Nat.add_zero, Nat.zero_add, Nat.le_refl, Nat.zero_le, List.set_cons_zero, List.set_cons_succ, List.set_nil, ↓reduceIte, Nat.reduceAdd, Nat.reduceSub, Nat.reduceEqDiff, Nat.reduceLeDiff, Int.reduceEq, Int.reduceNe, Int.reduceNeg, reduceCtorEq, kd108, kd21, z108_1 hz, hg]
  refine c_evens (r3 (by omega)) ?_
  simp only [bk104_0, U_iload_n, U_isub, U_invokestatic1, U_iadd, U_iconst, U_aload_n, U_getfield, U_imul, U_ireturn, UN_cc, UN_cn, UN_nc, UN_nn, UJ, lget, lset, lset2, entL, wsm, wcat, Option.toList_some, Option.toList_none, List.cons_append, List.nil_append, List.mem_cons, List.not_mem_nil, Prod.mk.injEq, or_false, false_or, or_true, true_or, and_true, true_and, and_false, false_and, and_self, ne_eq, not_false_eq_true, not_true_eq_false, forall_const, true_implies, false_implies, Nat.add_zero, Nat.zero_add, Nat.le_refl, Nat.zero_le, List.set_cons_zero, List.set_cons_succ, List.set_nil, ↓reduceIte, Nat.reduceAdd, Nat.reduceSub, Nat.reduceEqDiff, Nat.reduceLeDiff, Int.reduceEq, Int.reduceNe, Int.reduceNeg, reduceCtorEq, kd108, kd21, z108_1 hz, hg]
  refine c_evens (r3 (by omega)) ?_
  simp only [bk104_0, U_iload_n, U_isub, U_invokestatic1, U_iadd, U_iconst, U_aload_n, U_getfield, U_imul, U_ireturn, UN_cc, UN_cn, UN_nc, UN_nn, UJ, lget, lset, lset2, entL, wsm, wcat, Option.toList_some, Option.toList_none, List.cons_append, List.nil_append, List.mem_cons, List.not_mem_nil, Prod.mk.injEq, or_false, false_or, or_true, true_or, and_true, true_and, and_false, false_and, and_self, ne_eq, not_false_eq_true, not_true_eq_false, forall_const, true_implies, false_implies, Nat.add_zero, Nat.zero_add, Nat.le_refl, Nat.zero_le, List.set_cons_zero, List.set_cons_succ, List.set_nil, ↓reduceIte, Nat.reduceAdd, Nat.reduceSub, Nat.reduceEqDiff, Nat.reduceLeDiff, Int.reduceEq, Int.reduceNe, Int.reduceNeg, reduceCtorEq]
  exact hQ
/-- the class of a point in the group -/
noncomputable def ptG {p : Int} {f : Pz p} {g : Nat} (z : Gq f g) (q : Int × Int) : Gq f g := @dite _ (pRed f g (pcl p q)) (Classical.propDecidable _) (fun h => ⟨pcl p q, h⟩) (fun _ => z)
theorem ptG_is {p : Int} (hp : Pr p) {f : Pz p} {g : Nat} (hg : 1 ≤ g) (z : Gq f g) {q : Int × Int} (hq : q ∈ ptl f p.toNat) : (ptG z q).1 = pcl p q := by
  have hr := ptl_rg hp f p.toNat (by have := hp.pos; omega) q hq
  have h := pcl_red hp hg hr.2.2.2.2 (f := f)
  have e : ptG z q = ⟨pcl p q, h⟩ := by unfold ptG; exact dif_pos h
  rw [e]
/-- the classes of the first points, each so many times as told, all together -/
noncomputable def amS {p : Int} {f : Pz p} {g : Nat} (ad : Gq f g → Gq f g → Gq f g) (z : Gq f g) (ng : Gq f g → Gq f g) (A : Nat → Int) : Nat → Gq f g
  | 0 => z
  | n + 1 => match (ptl f p.toNat)[n]? with
    | none => amS ad z ng A n
    | some q => nsm ad (amS ad z ng A n) (A (n + 1)).natAbs (if A (n + 1) < 0 then ng (ptG z q) else ptG z q)
theorem nsm_sh {G : Type} (ad : G → G → G) (x s : G) : ∀ k, nsm ad x (k + 1) s = nsm ad (ad x s) k s
  | 0 => rfl
  | k + 1 => congrArg (fun w => ad w s) (nsm_sh ad x s k)
set_option maxHeartbeats 16000000 in
theorem l_roK {p : Int} {N : Mem} {ρ : Int → Option (Pz p)} {Q : Post} {f : Pz p} {g : Nat} {ad : Gq f g → Gq f g → Gq f g} {z : Gq f g} {ng : Gq f g → Gq f g} {s : Gq f g} {i : Int} (hG : GG f g ad z ng) (hcv : Cv f g) (hf : ρ 22 = some f) (hg : N 21 3 = g) :
    ∀ (k : Nat) (Ni : Mem) (ρi : Int → Option (Pz p)) (x : Gq f g), k ≤ 100 → ST p Ni ρi → FR N Ni → PH ρi 115 x.1 → PH ρi 110 s.1 → (∀ r, ¬ scr r → r ≠ 111 → r ≠ 113 → r ≠ 116 → r ≠ 118 → ρi r = ρ r) → (∀ N' ρ', ST p N' ρ' → FR N N' → PH ρ' 115 (nsm ad x k s).1 → (∀ r, ¬ scr r → r ≠ 111 → r ≠ 113 → r ≠ 116 → r ≠ 118 → ρ' r = ρ r) → WP 102 (0, 0) 109 [(2, 108), (0, i), (0, 0)] [] NN N' Q) → WP 102 (0, 0) 80 [(2, 108), (0, i), (0, (k : Int))] [] NN Ni Q := by
  have k110 : KD 110 = 16 := rfl
  have k115 : KD 115 = 16 := rfl
  intro k
  induction k with
  | zero =>
    intro Ni ρi x hk hS hF hx hs hρ hQ
    refine WP.run [(102, 80), (102, 109)] [] 60 ?_
    simp only [bk102_0, bk102_9, bk102_20, bk102_26, bk102_35, bk102_38, bk102_59, bk102_70, bk102_80, bk102_84, bk102_109, bk102_115, U_aload_n, U_getfield, U_invokevirtual0, U_iconst, U_istore_n, U_iload_n, U_icmp_ge, U_bipush, U_iald, U_if_ne, U_goto, U_invokevirtual2, U_if_ge, U_invokevirtual1, U_abs, U_if_le, U_invokevirtual3, U_iinc, U_ireturn, UN_cc, UN_cn, UN_nc, UN_nn, UJ, lget, lset, lset2, entL, wsm, wcat, Option.toList_some, Option.toList_none, List.cons_append, List.nil_append, List.mem_cons, List.not_mem_nil, Prod.mk.injEq, or_false, false_or, or_true, true_or, and_true, true_and, and_false, false_and, and_self, ne_eq, not_false_eq_true, not_true_eq_false, forall_const, true_implies, false_implies, Nat.add_zero, Nat.zero_add, Nat.le_refl, Nat.zero_le, List.set_cons_zero, List.set_cons_succ, List.set_nil, ↓reduceIte, Nat.reduceAdd, Nat.reduceSub, Nat.reduceEqDiff, Nat.reduceLeDiff, Int.reduceEq, Int.reduceNe, Int.reduceNeg, reduceCtorEq]
    exact ⟨r3 (by omega), fun e => absurd e (by omega), fun _ => hQ Ni ρi hS hF hx hρ⟩
  | succ k ih =>
    intro Ni ρi x hk hS hF hx hs hρ hQ
    have hf1 : ρi 22 = some f := (hρ 22 (by unfold scr tmp; omega) (by omega) (by omega) (by omega) (by omega)).trans hf
    refine WP.run [(102, 80), (102, 109)] [] 60 ?_
    simp only [bk102_0, bk102_9, bk102_20, bk102_26, bk102_35, bk102_38, bk102_59, bk102_70, bk102_80, bk102_84, bk102_109, bk102_115, U_aload_n, U_getfield, U_invokevirtual0, U_iconst, U_istore_n, U_iload_n, U_icmp_ge, U_bipush, U_iald, U_if_ne, U_goto, U_invokevirtual2, U_if_ge, U_invokevirtual1, U_abs, U_if_le, U_invokevirtual3, U_iinc, U_ireturn, UN_cc, UN_cn, UN_nc, UN_nn, UJ, lget, lset, lset2, entL, wsm, wcat, Option.toList_some, Option.toList_none, List.cons_append, List.nil_append, List.mem_cons, List.not_mem_nil, Prod.mk.injEq, or_false, false_or, or_true, true_or, and_true, true_and, and_false, false_and, and_self, ne_eq, not_false_eq_true, not_true_eq_false, forall_const, true_implies, false_implies, Nat.add_zero, Nat.zero_add, Nat.le_refl, Nat.zero_le, List.set_cons_zero, List.set_cons_succ, List.set_nil, ↓reduceIte, Nat.reduceAdd, Nat.reduceSub, Nat.reduceEqDiff, Nat.reduceLeDiff, Int.reduceEq, Int.reduceNe, Int.reduceNeg, reduceCtorEq, kd108, kd32, z108_0 hS.1.1, z108_3 hS.1.1, z108_4 hS.1.1]
    refine ⟨r3 (by omega), fun _ => ?_, fun e => absurd (by omega) e⟩
    refine s_addG hG hS hcv hf1 (by rw [hF 21 (by decide)]; exact hg) k115 k115 k110 hx hs fun N1 ρ1 S1 F1 hx1 hρ1 => ?_
    simp only [bk102_0, bk102_9, bk102_20, bk102_26, bk102_35, bk102_38, bk102_59, bk102_70, bk102_80, bk102_84, bk102_109, bk102_115, U_aload_n, U_getfield, U_invokevirtual0, U_iconst, U_istore_n, U_iload_n, U_icmp_ge, U_bipush, U_iald, U_if_ne, U_goto, U_invokevirtual2, U_if_ge, U_invokevirtual1, U_abs, U_if_le, U_invokevirtual3, U_iinc, U_ireturn, UN_cc, UN_cn, UN_nc, UN_nn, UJ, lget, lset, lset2, entL, wsm, wcat, Option.toList_some, Option.toList_none, List.cons_append, List.nil_append, List.mem_cons, List.not_mem_nil, Prod.mk.injEq, or_false, false_or, or_true, true_or, and_true, true_and, and_false, false_and, and_self, ne_eq, not_false_eq_true, not_true_eq_false, forall_const, true_implies, false_implies, Nat.add_zero, Nat.zero_add, Nat.le_refl, Nat.zero_le, List.set_cons_zero, List.set_cons_succ, List.set_nil, ↓reduceIte, Nat.reduceAdd, Nat.reduceSub, Nat.reduceEqDiff, Nat.reduceLeDiff, Int.reduceEq, Int.reduceNe, Int.reduceNeg, reduceCtorEq]
    have e3 := nsm_sh ad x s k
    rw [show ((k + 1 : Nat) : Int) + -1 = (k : Int) by omega]
    refine ih N1 ρ1 (ad x s) (by omega) S1 (hF.tr F1) hx1 ⟨(hρ1 _ (by unfold scr tmp; omega) (by omega) (by omega)).trans hs.1, (hρ1 _ (by unfold scr tmp; omega) (by omega) (by omega)).trans hs.2⟩ (fun r r0 r1 r2 r3 r4 => (hρ1 r r0 (by omega) (by omega)).trans (hρ r r0 r1 r2 r3 r4)) (by rw [← e3]; exact hQ)
set_option maxHeartbeats 16000000 in
theorem l_roC {p : Int} {N : Mem} {ρ : Int → Option (Pz p)} {Q : Post} {f : Pz p} {g : Nat} {ad : Gq f g → Gq f g → Gq f g} {z : Gq f g} {ng : Gq f g → Gq f g} {A : Nat → Int} (hG : GG f g ad z ng) (hcv : Cv f g) (hf : ρ 22 = some f) (hg : N 21 3 = g) (hP : PTS N f) (hA : AmA N A)
    (hQ : ∀ N' ρ', ST p N' ρ' → FR N N' → (∀ r, ¬ scr r → r ≠ 111 → r ≠ 113 → r ≠ 116 → r ≠ 118 → ρ' r = ρ r) → Q (some (0, (dg (amS ad z ng A (ptl f p.toNat).length).1.1 : Int) - 1)) NN N') :
    ∀ (n i : Nat) (v : V) (Ni : Mem) (ρi : Int → Option (Pz p)), i + n = (ptl f p.toNat).length → ST p Ni ρi → FR N Ni → PH ρi 115 (amS ad z ng A i).1 → (∀ r, ¬ scr r → r ≠ 111 → r ≠ 113 → r ≠ 116 → r ≠ 118 → ρi r = ρ r) → WP 102 (0, 0) 9 [(2, 108), (0, (i : Int) + 1), v] [] NN Ni Q := by
  have k110 : KD 110 = 16 := rfl
  have k115 : KD 115 = 16 := rfl
  have k116 : KD 116 = 18 := rfl
  intro n
  induction n with
  | zero =>
    intro i v Ni ρi hi hS hF hx hρ
    obtain rfl : i = (ptl f p.toNat).length := by omega
    have h26 := ptl_26 hS.1.2.1 f
    have e4 : Ni 21 4 = ((ptl f p.toNat).length : Int) + 1 := by rw [hF 21 (by decide)]; exact hP.1
    have h116 := hS.rp k116 hx.1
    refine WP.run [(102, 9)] [] 60 ?_
    simp only [bk102_0, bk102_9, bk102_20, bk102_26, bk102_35, bk102_38, bk102_59, bk102_70, bk102_80, bk102_84, bk102_109, bk102_115, U_aload_n, U_getfield, U_invokevirtual0, U_iconst, U_istore_n, U_iload_n, U_icmp_ge, U_bipush, U_iald, U_if_ne, U_goto, U_invokevirtual2, U_if_ge, U_invokevirtual1, U_abs, U_if_le, U_invokevirtual3, U_iinc, U_ireturn, UN_cc, UN_cn, UN_nc, UN_nn, UJ, lget, lset, lset2, entL, wsm, wcat, Option.toList_some, Option.toList_none, List.cons_append, List.nil_append, List.mem_cons, List.not_mem_nil, Prod.mk.injEq, or_false, false_or, or_true, true_or, and_true, true_and, and_false, false_and, and_self, ne_eq, not_false_eq_true, not_true_eq_false, forall_const, true_implies, false_implies, Nat.add_zero, Nat.zero_add, Nat.le_refl, Nat.zero_le, List.set_cons_zero, List.set_cons_succ, List.set_nil, ↓reduceIte, Nat.reduceAdd, Nat.reduceSub, Nat.reduceEqDiff, Nat.reduceLeDiff, Int.reduceEq, Int.reduceNe, Int.reduceNeg, reduceCtorEq, kd108, kd21, kd115, kd116, z108_1 hS.1.1, z108_4 hS.1.1, z115_0 hS.1.1, e4, h116.2.2.2]
    exact ⟨rr (by omega), fun e => absurd e (by omega), fun _ => hQ Ni ρi hS hF hρ⟩
  | succ n ih =>
    intro i v Ni ρi hi hS hF hx hρ
    have hp := hS.1.2.1
    have h26 := ptl_26 hp f
    have e4 : Ni 21 4 = ((ptl f p.toNat).length : Int) + 1 := by rw [hF 21 (by decide)]; exact hP.1
    have hAi : AmA Ni A := hA.fx (hF 109 (by decide))
    have hPi : PTS Ni f := hP.fx (hF 21 (by decide)) (hF 26 (by decide)) (hF 27 (by decide))
    obtain ⟨q, hq⟩ : ∃ q, (ptl f p.toNat)[i]? = some q := ⟨_, List.getElem?_eq_getElem (by omega)⟩
    have ea := hAi.1 (i + 1) (by omega)
    rw [show ((i + 1 : Nat) : Int) = (i : Int) + 1 by omega] at ea
    have ra := hA.2.2 (i + 1) (by omega)
    have es : amS ad z ng A (i + 1) = nsm ad (amS ad z ng A i) (A (i + 1)).natAbs (if A (i + 1) < 0 then ng (ptG z q) else ptG z q) := by
      show (match (ptl f p.toNat)[i]? with | none => amS ad z ng A i | some q => nsm ad (amS ad z ng A i) (A (i + 1)).natAbs (if A (i + 1) < 0 then ng (ptG z q) else ptG z q)) = _
      rw [hq]
    have hpt := ptG_is hp (f := f) (g := g) (by have := hcv.1; omega) z (List.mem_of_getElem? hq)
    generalize hαe : A (i + 1) = α at *
    -- from the inner loop on
    have nxt : ∀ (v : V) (N' : Mem) (ρ' : Int → Option (Pz p)), ST p N' ρ' → FR N N' → PH ρ' 115 (amS ad z ng A (i + 1)).1 → (∀ r, ¬ scr r → r ≠ 111 → r ≠ 113 → r ≠ 116 → r ≠ 118 → ρ' r = ρ r) → WP 102 (0, 0) 109 [(2, 108), (0, (i : Int) + 1), v] [] NN N' Q := fun v N' ρ' g1 g2 g3 g4 => by
      refine WP.run [(102, 9)] [] 60 ?_
      simp only [bk102_0, bk102_9, bk102_20, bk102_26, bk102_35, bk102_38, bk102_59, bk102_70, bk102_80, bk102_84, bk102_109, bk102_115, U_aload_n, U_getfield, U_invokevirtual0, U_iconst, U_istore_n, U_iload_n, U_icmp_ge, U_bipush, U_iald, U_if_ne, U_goto, U_invokevirtual2, U_if_ge, U_invokevirtual1, U_abs, U_if_le, U_invokevirtual3, U_iinc, U_ireturn, UN_cc, UN_cn, UN_nc, UN_nn, UJ, lget, lset, lset2, entL, wsm, wcat, Option.toList_some, Option.toList_none, List.cons_append, List.nil_append, List.mem_cons, List.not_mem_nil, Prod.mk.injEq, or_false, false_or, or_true, true_or, and_true, true_and, and_false, false_and, and_self, ne_eq, not_false_eq_true, not_true_eq_false, forall_const, true_implies, false_implies, Nat.add_zero, Nat.zero_add, Nat.le_refl, Nat.zero_le, List.set_cons_zero, List.set_cons_succ, List.set_nil, ↓reduceIte, Nat.reduceAdd, Nat.reduceSub, Nat.reduceEqDiff, Nat.reduceLeDiff, Int.reduceEq, Int.reduceNe, Int.reduceNeg, reduceCtorEq]
      exact ih (i + 1) v N' ρ' (by omega) g1 g2 g3 g4
    refine WP.run [(102, 9), (102, 80), (102, 109)] [] 90 ?_
    simp only [bk102_0, bk102_9, bk102_20, bk102_26, bk102_35, bk102_38, bk102_59, bk102_70, bk102_80, bk102_84, bk102_109, bk102_115, U_aload_n, U_getfield, U_invokevirtual0, U_iconst, U_istore_n, U_iload_n, U_icmp_ge, U_bipush, U_iald, U_if_ne, U_goto, U_invokevirtual2, U_if_ge, U_invokevirtual1, U_abs, U_if_le, U_invokevirtual3, U_iinc, U_ireturn, UN_cc, UN_cn, UN_nc, UN_nn, UJ, lget, lset, lset2, entL, wsm, wcat, Option.toList_some, Option.toList_none, List.cons_append, List.nil_append, List.mem_cons, List.not_mem_nil, Prod.mk.injEq, or_false, false_or, or_true, true_or, and_true, true_and, and_false, false_and, and_self, ne_eq, not_false_eq_true, not_true_eq_false, forall_const, true_implies, false_implies, Nat.add_zero, Nat.zero_add, Nat.le_refl, Nat.zero_le, List.set_cons_zero, List.set_cons_succ, List.set_nil, ↓reduceIte, Nat.reduceAdd, Nat.reduceSub, Nat.reduceEqDiff, Nat.reduceLeDiff, Int.reduceEq, Int.reduceNe, Int.reduceNeg, reduceCtorEq, kd108, kd109, ln109, kd21, kd32, z108_0 hS.1.1, z108_1 hS.1.1, z108_2 hS.1.1, z108_3 hS.1.1, e4, ea]
    refine ⟨rr (by omega), fun _ => ⟨rr (by omega), fun _ => ⟨by omega, by omega, r3 (by omega), fun e0 => ?_, fun e0 => ?_⟩, fun e => absurd e (by omega)⟩, fun e => absurd (by omega) e⟩
    · refine nxt _ Ni ρi hS hF ?_ hρ
      rw [es, e0]; exact hx
    · refine s_takePoint hS k110 hPi i hq fun N1 S1 F1 => ?_
      have ea1 : N1 109 ((i : Int) + 1) = α := by rw [F1 109 (by decide)]; exact ea
      have hx1 : PH (upq (upq ρi (110 + 1) (pcl p q).1) (110 + 3) (pcl p q).2) 115 (amS ad z ng A i).1 := hx.upq2 hS.1.1 k110 k115 (by decide)
      have hs1 : PH (upq (upq ρi (110 + 1) (pcl p q).1) (110 + 3) (pcl p q).2) 110 (ptG z q).1 := by rw [hpt]; exact ⟨(by repeat (first | assumption | rw [upq_e] | rw [upq_n (by omega)])), (by repeat (first | assumption | rw [upq_e] | rw [upq_n (by omega)]))⟩
      simp only [bk102_0, bk102_9, bk102_20, bk102_26, bk102_35, bk102_38, bk102_59, bk102_70, bk102_80, bk102_84, bk102_109, bk102_115, U_aload_n, U_getfield, U_invokevirtual0, U_iconst, U_istore_n, U_iload_n, U_icmp_ge, U_bipush, U_iald, U_if_ne, U_goto, U_invokevirtual2, U_if_ge, U_invokevirtual1, U_abs, U_if_le, U_invokevirtual3, U_iinc, U_ireturn, UN_cc, UN_cn, UN_nc, UN_nn, UJ, lget, lset, lset2, entL, wsm, wcat, Option.toList_some, Option.toList_none, List.cons_append, List.nil_append, List.mem_cons, List.not_mem_nil, Prod.mk.injEq, or_false, false_or, or_true, true_or, and_true, true_and, and_false, false_and, and_self, ne_eq, not_false_eq_true, not_true_eq_false, forall_const, true_implies, false_implies, Nat.add_zero, Nat.zero_add, Nat.le_refl, Nat.zero_le, List.set_cons_zero, List.set_cons_succ, List.set_nil, ↓reduceIte, Nat.reduceAdd, Nat.reduceSub, Nat.reduceEqDiff, Nat.reduceLeDiff, Int.reduceEq, Int.reduceNe, Int.reduceNeg, reduceCtorEq, kd108, kd109, ln109, z108_0 S1.1.1, z108_2 S1.1.1, z108_3 S1.1.1, ea1]
      refine ⟨by omega, by omega, r3 (by omega), fun e1 => ?_, fun e1 => ?_⟩
      · rw [if_pos e1] at es
        refine ⟨kd32, s_turnAbout S1 k110 hs1 fun N2 S2 F2 => ?_⟩
        have ea2 : N2 109 ((i : Int) + 1) = α := by rw [F2 109 (by decide)]; exact ea1
        simp only [bk102_0, bk102_9, bk102_20, bk102_26, bk102_35, bk102_38, bk102_59, bk102_70, bk102_80, bk102_84, bk102_109, bk102_115, U_aload_n, U_getfield, U_invokevirtual0, U_iconst, U_istore_n, U_iload_n, U_icmp_ge, U_bipush, U_iald, U_if_ne, U_goto, U_invokevirtual2, U_if_ge, U_invokevirtual1, U_abs, U_if_le, U_invokevirtual3, U_iinc, U_ireturn, UN_cc, UN_cn, UN_nc, UN_nn, UJ, lget, lset, lset2, entL, wsm, wcat, Option.toList_some, Option.toList_none, List.cons_append, List.nil_append, List.mem_cons, List.not_mem_nil, Prod.mk.injEq, or_false, false_or, or_true, true_or, and_true, true_and, and_false, false_and, and_self, ne_eq, not_false_eq_true, not_true_eq_false, forall_const, true_implies, false_implies, Nat.add_zero, Nat.zero_add, Nat.le_refl, Nat.zero_le, List.set_cons_zero, List.set_cons_succ, List.set_nil, ↓reduceIte, Nat.reduceAdd, Nat.reduceSub, Nat.reduceEqDiff, Nat.reduceLeDiff, Int.reduceEq, Int.reduceNe, Int.reduceNeg, reduceCtorEq, kd108, kd109, ln109, z108_2 S2.1.1, ea2]
        rw [if_neg (by omega)]
        refine ⟨by omega, by omega, r3 (by omega), ?_⟩
        have hx2 : PH (upq (upq (upq ρi (110 + 1) (pcl p q).1) (110 + 3) (pcl p q).2) (110 + 3) (pneg (ptG z q).1.2)) 115 (amS ad z ng A i).1 := ⟨(upq_n (by decide)).trans hx1.1, (upq_n (by decide)).trans hx1.2⟩
        have hs2 : PH (upq (upq (upq ρi (110 + 1) (pcl p q).1) (110 + 3) (pcl p q).2) (110 + 3) (pneg (ptG z q).1.2)) 110 (ng (ptG z q)).1 := by rw [hG.2.2.2]; exact ⟨(upq_n (by decide)).trans hs1.1, upq_e _ _ _⟩
        have := l_roK (i := (i : Int) + 1) (s := ng (ptG z q)) (Q := Q) (ρ := ρ) (N := N) hG hcv hf hg α.natAbs N2 _ (amS ad z ng A i) (by omega) S2 ((hF.tr F1).tr F2) hx2 hs2 (fun r r0 r1 r2 r3 r4 => by rw [upq_n (show r ≠ 110 + 3 by omega), upq_n (show r ≠ 110 + 3 by omega), upq_n (show r ≠ 110 + 1 by omega)]; exact hρ r r0 r1 r2 r3 r4) (fun N' ρ' g1 g2 g3 g4 => nxt _ N' ρ' g1 g2 (by rw [es]; exact g3) g4)
        rw [show (α.natAbs : Int) = -α by omega] at this
        exact this
      · rw [if_neg e1] at es
        rw [if_pos (by omega)]
        refine ⟨by omega, by omega, r3 (by omega), ?_⟩
        have := l_roK (i := (i : Int) + 1) (s := ptG z q) (Q := Q) (ρ := ρ) (N := N) hG hcv hf hg α.natAbs N1 _ (amS ad z ng A i) (by omega) S1 (hF.tr F1) hx1 hs1 (fun r r0 r1 r2 r3 r4 => by rw [upq_n (show r ≠ 110 + 3 by omega), upq_n (show r ≠ 110 + 1 by omega)]; exact hρ r r0 r1 r2 r3 r4) (fun N' ρ' g1 g2 g3 g4 => nxt _ N' ρ' g1 g2 (by rw [es]; exact g3) g4)
        rw [show (α.natAbs : Int) = α by omega] at this
        exact this
set_option maxHeartbeats 8000000 in
theorem s_roClass {p : Int} {N : Mem} {ρ : Int → Option (Pz p)} {Q : Post} {f : Pz p} {g : Nat} {ad : Gq f g → Gq f g → Gq f g} {z : Gq f g} {ng : Gq f g → Gq f g} {A : Nat → Int} (hG : GG f g ad z ng) (h : ST p N ρ) (hcv : Cv f g) (hf : ρ 22 = some f) (hg : N 21 3 = g) (hP : PTS N f) (hA : AmA N A)
    (hQ : ∀ N' ρ', ST p N' ρ' → FR N N' → (∀ r, ¬ scr r → r ≠ 111 → r ≠ 113 → r ≠ 116 → r ≠ 118 → ρ' r = ρ r) → Q (some (0, (dg (amS ad z ng A (ptl f p.toNat).length).1.1 : Int) - 1)) NN N') : CL 102 [(2, 108), (9, 0), (9, 0)] NN N Q := by
  have k115 : KD 115 = 16 := rfl
  refine WP.run [(102, 9)] [] 60 ?_
  simp only [bk102_0, bk102_9, bk102_20, bk102_26, bk102_35, bk102_38, bk102_59, bk102_70, bk102_80, bk102_84, bk102_109, bk102_115, U_aload_n, U_getfield, U_invokevirtual0, U_iconst, U_istore_n, U_iload_n, U_icmp_ge, U_bipush, U_iald, U_if_ne, U_goto, U_invokevirtual2, U_if_ge, U_invokevirtual1, U_abs, U_if_le, U_invokevirtual3, U_iinc, U_ireturn, UN_cc, UN_cn, UN_nc, UN_nn, UJ, lget, lset, lset2, entL, wsm, wcat, Option.toList_some, Option.toList_none, List.cons_append, List.nil_append, List.mem_cons, List.not_mem_nil, Prod.mk.injEq, or_false, false_or, or_true, true_or, and_true, true_and, and_false, false_and, and_self, ne_eq, not_false_eq_true, not_true_eq_false, forall_const, true_implies, false_implies, Nat.add_zero, Nat.zero_add, Nat.le_refl, Nat.zero_le, List.set_cons_zero, List.set_cons_succ, List.set_nil, ↓reduceIte, Nat.reduceAdd, Nat.reduceSub, Nat.reduceEqDiff, Nat.reduceLeDiff, Int.reduceEq, Int.reduceNe, Int.reduceNeg, reduceCtorEq, kd108, kd115, z108_4 h.1.1]
  refine s_makeNought h k115 fun N1 S1 F1 => ?_
  simp only [bk102_0, bk102_9, bk102_20, bk102_26, bk102_35, bk102_38, bk102_59, bk102_70, bk102_80, bk102_84, bk102_109, bk102_115, U_aload_n, U_getfield, U_invokevirtual0, U_iconst, U_istore_n, U_iload_n, U_icmp_ge, U_bipush, U_iald, U_if_ne, U_goto, U_invokevirtual2, U_if_ge, U_invokevirtual1, U_abs, U_if_le, U_invokevirtual3, U_iinc, U_ireturn, UN_cc, UN_cn, UN_nc, UN_nn, UJ, lget, lset, lset2, entL, wsm, wcat, Option.toList_some, Option.toList_none, List.cons_append, List.nil_append, List.mem_cons, List.not_mem_nil, Prod.mk.injEq, or_false, false_or, or_true, true_or, and_true, true_and, and_false, false_and, and_self, ne_eq, not_false_eq_true, not_true_eq_false, forall_const, true_implies, false_implies, Nat.add_zero, Nat.zero_add, Nat.le_refl, Nat.zero_le, List.set_cons_zero, List.set_cons_succ, List.set_nil, ↓reduceIte, Nat.reduceAdd, Nat.reduceSub, Nat.reduceEqDiff, Nat.reduceLeDiff, Int.reduceEq, Int.reduceNe, Int.reduceNeg, reduceCtorEq]
  refine l_roC (N := N1) (ρ := upq (upq ρ (115 + 1) (pC p 1)) (115 + 3) (pC p 0)) hG hcv ((upq_n (by decide)).trans ((upq_n (by decide)).trans hf)) (by rw [F1 21 (by decide)]; exact hg) (hP.fx (F1 21 (by decide)) (F1 26 (by decide)) (F1 27 (by decide))) (hA.fx (F1 109 (by decide))) (fun N' ρ' g1 g2 g3 => hQ N' ρ' g1 (F1.tr g2) (fun r r0 r1 r2 r3 r4 => by rw [g3 r r0 r1 r2 r3 r4, upq_n (show r ≠ 115 + 3 by omega), upq_n (show r ≠ 115 + 1 by omega)])) (ptl f p.toNat).length 0 _ N1 _ (by omega) S1 (FR.rf _) ?_ (fun _ _ _ _ _ _ => rfl)
  show PH _ 115 z.1
  rw [hG.2.2.1]
  exact ⟨(upq_n (by decide)).trans (upq_e _ _ _), upq_e _ _ _⟩
/-- gaps as bits, by the widths of 0, 1, 2 .. at the point -/
def gapB (w : Nat → Int) : Nat → Int
  | 0 => 0
  | n + 1 => if w (n + 1) = w n then bor (gapB w n) (2 ^ n) else gapB w n
set_option maxHeartbeats 16000000 in
theorem l_gap {p : Int} {N : Mem} {ρ : Int → Option (Pz p)} {Q : Post} {f : Pz p} {g : Nat} {ad : Gq f g → Gq f g → Gq f g} {z : Gq f g} {ng : Gq f g → Gq f g} {s : Gq f g} {pt : Int} (hG : GG f g ad z ng) (hcv : Cv f g) (hf : ρ 22 = some f) (hg : N 21 3 = g)
    (hQ : ∀ N' ρ', ST p N' ρ' → FR N N' → (∀ r, ¬ scr r → r ≠ 111 → r ≠ 113 → r ≠ 116 → r ≠ 118 → ρ' r = ρ r) → Q (some (0, gapB (fun n => wid g n ((dg (nsm ad z n s).1.1 : Int) - 1)) (2 * g))) NN N') :
    ∀ (m n : Nat) (v : V) (Ni : Mem) (ρi : Int → Option (Pz p)), n + m = 2 * g → ST p Ni ρi → FR N Ni → PH ρi 115 (nsm ad z n s).1 → PH ρi 110 s.1 → (∀ r, ¬ scr r → r ≠ 111 → r ≠ 113 → r ≠ 116 → r ≠ 118 → ρi r = ρ r) → WP 105 (0, 0) 26 [(2, 108), (0, pt), (0, gapB (fun n => wid g n ((dg (nsm ad z n s).1.1 : Int) - 1)) n), (0, wid g n ((dg (nsm ad z n s).1.1 : Int) - 1)), (0, (n : Int) + 1), v] [] NN Ni Q := by
  have k110 : KD 110 = 16 := rfl
  have k115 : KD 115 = 16 := rfl
  have k116 : KD 116 = 18 := rfl
  have hg2 : g = 1 ∨ g = 2 := hcv.1
  have wrg : ∀ n : Nat, n ≤ 4 → ∀ x : Gq f g, -100 ≤ wid g n ((dg x.1.1 : Int) - 1) ∧ wid g n ((dg x.1.1 : Int) - 1) ≤ 100 := fun n hn x => by
    have : dg x.1.1 ≤ g + 1 := x.2.2.1
    unfold wid evn
    split <;> split <;> omega
  intro m
  induction m with
  | zero =>
    intro n v Ni ρi hn hS hF hx hs hρ
    obtain rfl : n = 2 * g := by omega
    have e3 : Ni 21 3 = g := by rw [hF 21 (by decide)]; exact hg
    refine WP.run [(105, 26)] [] 60 ?_
    simp only [bk105_0, bk105_26, bk105_40, bk105_83, bk105_92, bk105_101, U_iconst, U_istore_n, U_aload_n, U_getfield, U_iload_n, U_invokevirtual2, U_invokevirtual0, U_istore, U_iload, U_imul, U_icmp_gt, U_invokevirtual3, U_icmp_ne, U_isub, U_ishl, U_ior, U_iinc, U_goto, U_ireturn, UN_cc, UN_cn, UN_nc, UN_nn, UJ, lget, lset, lset2, entL, wsm, wcat, Option.toList_some, Option.toList_none, List.cons_append, List.nil_append, List.mem_cons, List.not_mem_nil, Prod.mk.injEq, or_false, false_or, or_true, true_or, and_true, true_and, and_false, false_and, and_self, ne_eq, not_false_eq_true, not_true_eq_false, forall_const, true_implies, false_implies, Nat.add_zero, Nat.zero_add, Nat.le_refl, Nat.zero_le, List.set_cons_zero, List.set_cons_succ, List.set_nil, ↓reduceIte, Nat.reduceAdd, Nat.reduceSub, Nat.reduceEqDiff, Nat.reduceLeDiff, Int.reduceEq, Int.reduceNe, Int.reduceNeg, reduceCtorEq, kd108, kd21, z108_1 hS.1.1, e3]
    exact ⟨rr (by omega), fun _ => hQ Ni ρi hS hF hρ, fun e => absurd (by omega) e⟩
  | succ m ih =>
    intro n v Ni ρi hn hS hF hx hs hρ
    have hf1 : ρi 22 = some f := (hρ 22 (by unfold scr tmp; omega) (by omega) (by omega) (by omega) (by omega)).trans hf
    have e3 : Ni 21 3 = g := by rw [hF 21 (by decide)]; exact hg
    refine WP.run [(105, 26)] [] 90 ?_
    simp only [bk105_0, bk105_26, bk105_40, bk105_83, bk105_92, bk105_101, U_iconst, U_istore_n, U_aload_n, U_getfield, U_iload_n, U_invokevirtual2, U_invokevirtual0, U_istore, U_iload, U_imul, U_icmp_gt, U_invokevirtual3, U_icmp_ne, U_isub, U_ishl, U_ior, U_iinc, U_goto, U_ireturn, UN_cc, UN_cn, UN_nc, UN_nn, UJ, lget, lset, lset2, entL, wsm, wcat, Option.toList_some, Option.toList_none, List.cons_append, List.nil_append, List.mem_cons, List.not_mem_nil, Prod.mk.injEq, or_false, false_or, or_true, true_or, and_true, true_and, and_false, false_and, and_self, ne_eq, not_false_eq_true, not_true_eq_false, forall_const, true_implies, false_implies, Nat.add_zero, Nat.zero_add, Nat.le_refl, Nat.zero_le, List.set_cons_zero, List.set_cons_succ, List.set_nil, ↓reduceIte, Nat.reduceAdd, Nat.reduceSub, Nat.reduceEqDiff, Nat.reduceLeDiff, Int.reduceEq, Int.reduceNe, Int.reduceNeg, reduceCtorEq, kd108, kd21, kd32, z108_0 hS.1.1, z108_1 hS.1.1, z108_3 hS.1.1, z108_4 hS.1.1, e3]
    refine ⟨rr (by omega), fun e => absurd e (by omega), fun _ => ?_⟩
    refine s_addG hG hS hcv hf1 e3 k115 k115 k110 hx hs fun N1 ρ1 S1 F1 hx1 hρ1 => ?_
    have e31 : N1 21 3 = g := by rw [F1 21 (by decide)]; exact e3
    have hx2 : PH ρ1 115 (nsm ad z (n + 1) s).1 := hx1
    have r116 := S1.rp k116 hx2.1
    have hd : dg (nsm ad z (n + 1) s).1.1 ≤ g + 1 := (nsm ad z (n + 1) s).2.2.1
    have hw0 := wrg n (by omega) (nsm ad z n s)
    have hw1 := wrg (n + 1) (by omega) (nsm ad z (n + 1) s)
    have es : gapB (fun n => wid g n ((dg (nsm ad z n s).1.1 : Int) - 1)) (n + 1) = if wid g ((n + 1 : Nat) : Int) ((dg (nsm ad z (n + 1) s).1.1 : Int) - 1) = wid g n ((dg (nsm ad z n s).1.1 : Int) - 1) then bor (gapB (fun n => wid g n ((dg (nsm ad z n s).1.1 : Int) - 1)) n) (2 ^ n) else gapB (fun n => wid g n ((dg (nsm ad z n s).1.1 : Int) - 1)) n := rfl
    have ec : ((n + 1 : Nat) : Int) = (n : Int) + 1 := by omega
    rw [ec] at es hw1
    simp only [bk105_0, bk105_26, bk105_40, bk105_83, bk105_92, bk105_101, U_iconst, U_istore_n, U_aload_n, U_getfield, U_iload_n, U_invokevirtual2, U_invokevirtual0, U_istore, U_iload, U_imul, U_icmp_gt, U_invokevirtual3, U_icmp_ne, U_isub, U_ishl, U_ior, U_iinc, U_goto, U_ireturn, UN_cc, UN_cn, UN_nc, UN_nn, UJ, lget, lset, lset2, entL, wsm, wcat, Option.toList_some, Option.toList_none, List.cons_append, List.nil_append, List.mem_cons, List.not_mem_nil, Prod.mk.injEq, or_false, false_or, or_true, true_or, and_true, true_and, and_false, false_and, and_self, ne_eq, not_false_eq_true, not_true_eq_false, forall_const, true_implies, false_implies, Nat.add_zero, Nat.zero_add, Nat.le_refl, Nat.zero_le, List.set_cons_zero, List.set_cons_succ, List.set_nil, ↓reduceIte, Nat.reduceAdd, Nat.reduceSub, Nat.reduceEqDiff, Nat.reduceLeDiff, Int.reduceEq, Int.reduceNe, Int.reduceNeg, reduceCtorEq, kd108, kd115, kd116, z108_4 S1.1.1, z115_0 S1.1.1, r116.2.2.2]
    refine c_width (g := g) S1.1.1 e31 (by omega) (by omega) (by omega) ?_
    have hpow : ((n : Int) + 1 - 1).toNat = n := by omega
    have nx : ∀ v : V, WP 105 (0, 0) 26 [(2, 108), (0, pt), (0, gapB (fun n => wid g n ((dg (nsm ad z n s).1.1 : Int) - 1)) (n + 1)), (0, wid g ((n : Int) + 1) ((dg (nsm ad z (n + 1) s).1.1 : Int) - 1)), (0, (n : Int) + 1 + 1), v] [] NN N1 Q := fun v => ec ▸ ih (n + 1) v N1 ρ1 (by omega) S1 (hF.tr F1) hx2 ⟨(hρ1 _ (by unfold scr tmp; omega) (by omega) (by omega)).trans hs.1, (hρ1 _ (by unfold scr tmp; omega) (by omega) (by omega)).trans hs.2⟩ (fun r r0 r1 r2 r3 r4 => (hρ1 r r0 (by omega) (by omega)).trans (hρ r r0 r1 r2 r3 r4))
    simp only [bk105_0, bk105_26, bk105_40, bk105_83, bk105_92, bk105_101, U_iconst, U_istore_n, U_aload_n, U_getfield, U_iload_n, U_invokevirtual2, U_invokevirtual0, U_istore, U_iload, U_imul, U_icmp_gt, U_invokevirtual3, U_icmp_ne, U_isub, U_ishl, U_ior, U_iinc, U_goto, U_ireturn, UN_cc, UN_cn, UN_nc, UN_nn, UJ, lget, lset, lset2, entL, wsm, wcat, Option.toList_some, Option.toList_none, List.cons_append, List.nil_append, List.mem_cons, List.not_mem_nil, Prod.mk.injEq, or_false, false_or, or_true, true_or, and_true, true_and, and_false, false_and, and_self, ne_eq, not_false_eq_true, not_true_eq_false, forall_const, true_implies, false_implies, Nat.add_zero, Nat.zero_add, Nat.le_refl, Nat.zero_le, List.set_cons_zero, List.set_cons_succ, List.set_nil, ↓reduceIte, Nat.reduceAdd, Nat.reduceSub, Nat.reduceEqDiff, Nat.reduceLeDiff, Int.reduceEq, Int.reduceNe, Int.reduceNeg, reduceCtorEq, hpow]
    refine ⟨rr (by omega), fun e => ⟨by omega, by omega, ?_⟩, fun e => ?_⟩
    · rw [if_pos e] at es
      rw [← es]; exact nx _
    · rw [if_neg e] at es
      rw [← es]; exact nx _
set_option maxHeartbeats 8000000 in
theorem s_takeEnd {p : Int} {N : Mem} {ρ : Int → Option (Pz p)} {Q : Post} {po : Int} (h : ST p N ρ) (ko : KD po = 16)
    (hQ : ∀ N', ST p N' (upq (upq ρ (po + 1) (pC p 1)) (po + 3) (pC p 0)) → FR N N' → Q none NN N') : CL 12 [(2, 32), (2, po), (0, 0)] NN N Q := by
  refine WP.run [] [] 60 ?_
  simp only [bk12_0, bk12_8, bk12_9, U_aload_n, U_invokevirtual0, U_iload_n, U_if_ne, U_return, U_getfield, U_iconst, U_invokevirtual2, U_invokevirtual1, U_ineg, UN_cc, UN_cn, UN_nc, UN_nn, UJ, lget, lset, lset2, entL, wsm, wcat, Option.toList_some, Option.toList_none, List.cons_append, List.nil_append, List.mem_cons, List.not_mem_nil, Prod.mk.injEq, or_false, false_or, or_true, true_or, and_true, true_and, and_false, false_and, and_self, ne_eq, not_false_eq_true, not_true_eq_false, forall_const, true_implies, false_implies, Nat.add_zero, Nat.zero_add, Nat.le_refl, Nat.zero_le, List.set_cons_zero, List.set_cons_succ, List.set_nil, ↓reduceIte, Nat.reduceAdd, Nat.reduceSub, Nat.reduceEqDiff, Nat.reduceLeDiff, Int.reduceEq, Int.reduceNe, Int.reduceNeg, reduceCtorEq, kd_of ko (by decide)]
  refine s_makeNought h ko fun N1 h1 f1 => ?_
  simp only [bk12_0, bk12_8, bk12_9, U_aload_n, U_invokevirtual0, U_iload_n, U_if_ne, U_return, U_getfield, U_iconst, U_invokevirtual2, U_invokevirtual1, U_ineg, UN_cc, UN_cn, UN_nc, UN_nn, UJ, lget, lset, lset2, entL, wsm, wcat, Option.toList_some, Option.toList_none, List.cons_append, List.nil_append, List.mem_cons, List.not_mem_nil, Prod.mk.injEq, or_false, false_or, or_true, true_or, and_true, true_and, and_false, false_and, and_self, ne_eq, not_false_eq_true, not_true_eq_false, forall_const, true_implies, false_implies, Nat.add_zero, Nat.zero_add, Nat.le_refl, Nat.zero_le, List.set_cons_zero, List.set_cons_succ, List.set_nil, ↓reduceIte, Nat.reduceAdd, Nat.reduceSub, Nat.reduceEqDiff, Nat.reduceLeDiff, Int.reduceEq, Int.reduceNe, Int.reduceNeg, reduceCtorEq]
  exact ⟨r3 (by omega), hQ N1 h1 f1⟩
/-- the class of point i: of the end nought -/
noncomputable def ptI {p : Int} {f : Pz p} {g : Nat} (z : Gq f g) (i : Nat) : Gq f g := match i with
  | 0 => z
  | i + 1 => match (ptl f p.toNat)[i]? with
    | none => z
    | some q => ptG z q
set_option maxHeartbeats 8000000 in
theorem s_takeI {p : Int} {N : Mem} {ρ : Int → Option (Pz p)} {Q : Post} {f : Pz p} {g : Nat} {ad : Gq f g → Gq f g → Gq f g} {z : Gq f g} {ng : Gq f g → Gq f g} {po : Int} (hG : GG f g ad z ng) (h : ST p N ρ) (hcv : Cv f g) (ko : KD po = 16) (hP : PTS N f) (i : Nat) (hi : i ≤ (ptl f p.toNat).length)
    (hQ : ∀ N', ST p N' (upq (upq ρ (po + 1) (ptI z i).1.1) (po + 3) (ptI z i).1.2) → FR N N' → Q none NN N') : CL 12 [(2, 32), (2, po), (0, (i : Int))] NN N Q := by
  cases i with
  | zero =>
    refine s_takeEnd h ko fun N1 S1 F1 => hQ N1 ?_ F1
    show ST p N1 (upq (upq ρ (po + 1) z.1.1) (po + 3) z.1.2)
    rw [hG.2.2.1]; exact S1
  | succ i =>
    obtain ⟨q, hq⟩ : ∃ q, (ptl f p.toNat)[i]? = some q := ⟨_, List.getElem?_eq_getElem (by omega)⟩
    have hpt := ptG_is h.1.2.1 (f := f) (g := g) (by have := hcv.1; omega) z (List.mem_of_getElem? hq)
    have e : ptI z (i + 1) = ptG z q := by
      show (match (ptl f p.toNat)[i]? with | none => z | some q => ptG z q) = _
      rw [hq]
    rw [show ((i + 1 : Nat) : Int) = (i : Int) + 1 by omega]
    refine s_takePoint h ko hP i hq fun N1 S1 F1 => hQ N1 ?_ F1
    rw [e, hpt]; exact S1
set_option maxHeartbeats 8000000 in
theorem s_gapBits {p : Int} {N : Mem} {ρ : Int → Option (Pz p)} {Q : Post} {f : Pz p} {g : Nat} {ad : Gq f g → Gq f g → Gq f g} {z : Gq f g} {ng : Gq f g → Gq f g} (hG : GG f g ad z ng) (h : ST p N ρ) (hcv : Cv f g) (hf : ρ 22 = some f) (hg : N 21 3 = g) (hP : PTS N f) (i : Nat) (hi : i ≤ (ptl f p.toNat).length)
    (hQ : ∀ N' ρ', ST p N' ρ' → FR N N' → (∀ r, ¬ scr r → r ≠ 111 → r ≠ 113 → r ≠ 116 → r ≠ 118 → ρ' r = ρ r) → Q (some (0, gapB (fun n => wid g n ((dg (nsm ad z n (ptI z i)).1.1 : Int) - 1)) (2 * g))) NN N') : CL 105 [(2, 108), (0, (i : Int)), (9, 0), (9, 0), (9, 0), (9, 0)] NN N Q := by
  have k110 : KD 110 = 16 := rfl
  have k115 : KD 115 = 16 := rfl
  have hp := h.1.2.1
  refine WP.run [(105, 26)] [] 60 ?_
  simp only [bk105_0, bk105_26, bk105_40, bk105_83, bk105_92, bk105_101, U_iconst, U_istore_n, U_aload_n, U_getfield, U_iload_n, U_invokevirtual2, U_invokevirtual0, U_istore, U_iload, U_imul, U_icmp_gt, U_invokevirtual3, U_icmp_ne, U_isub, U_ishl, U_ior, U_iinc, U_goto, U_ireturn, UN_cc, UN_cn, UN_nc, UN_nn, UJ, lget, lset, lset2, entL, wsm, wcat, Option.toList_some, Option.toList_none, List.cons_append, List.nil_append, List.mem_cons, List.not_mem_nil, Prod.mk.injEq, or_false, false_or, or_true, true_or, and_true, true_and, and_false, false_and, and_self, ne_eq, not_false_eq_true, not_true_eq_false, forall_const, true_implies, false_implies, Nat.add_zero, Nat.zero_add, Nat.le_refl, Nat.zero_le, List.set_cons_zero, List.set_cons_succ, List.set_nil, ↓reduceIte, Nat.reduceAdd, Nat.reduceSub, Nat.reduceEqDiff, Nat.reduceLeDiff, Int.reduceEq, Int.reduceNe, Int.reduceNeg, reduceCtorEq, kd108, kd32, z108_0 h.1.1, z108_3 h.1.1]
  refine s_takeI hG h hcv k110 hP i hi fun N1 S1 F1 => ?_
  simp only [bk105_0, bk105_26, bk105_40, bk105_83, bk105_92, bk105_101, U_iconst, U_istore_n, U_aload_n, U_getfield, U_iload_n, U_invokevirtual2, U_invokevirtual0, U_istore, U_iload, U_imul, U_icmp_gt, U_invokevirtual3, U_icmp_ne, U_isub, U_ishl, U_ior, U_iinc, U_goto, U_ireturn, UN_cc, UN_cn, UN_nc, UN_nn, UJ, lget, lset, lset2, entL, wsm, wcat, Option.toList_some, Option.toList_none, List.cons_append, List.nil_append, List.mem_cons, List.not_mem_nil, Prod.mk.injEq, or_false, false_or, or_true, true_or, and_true, true_and, and_false, false_and, and_self, ne_eq, not_false_eq_true, not_true_eq_false, forall_const, true_implies, false_implies, Nat.add_zero, Nat.zero_add, Nat.le_refl, Nat.zero_le, List.set_cons_zero, List.set_cons_succ, List.set_nil, ↓reduceIte, Nat.reduceAdd, Nat.reduceSub, Nat.reduceEqDiff, Nat.reduceLeDiff, Int.reduceEq, Int.reduceNe, Int.reduceNeg, reduceCtorEq, kd108, kd115, z108_4 S1.1.1]
  refine s_makeNought S1 k115 fun N2 S2 F2 => ?_
  simp only [bk105_0, bk105_26, bk105_40, bk105_83, bk105_92, bk105_101, U_iconst, U_istore_n, U_aload_n, U_getfield, U_iload_n, U_invokevirtual2, U_invokevirtual0, U_istore, U_iload, U_imul, U_icmp_gt, U_invokevirtual3, U_icmp_ne, U_isub, U_ishl, U_ior, U_iinc, U_goto, U_ireturn, UN_cc, UN_cn, UN_nc, UN_nn, UJ, lget, lset, lset2, entL, wsm, wcat, Option.toList_some, Option.toList_none, List.cons_append, List.nil_append, List.mem_cons, List.not_mem_nil, Prod.mk.injEq, or_false, false_or, or_true, true_or, and_true, true_and, and_false, false_and, and_self, ne_eq, not_false_eq_true, not_true_eq_false, forall_const, true_implies, false_implies, Nat.add_zero, Nat.zero_add, Nat.le_refl, Nat.zero_le, List.set_cons_zero, List.set_cons_succ, List.set_nil, ↓reduceIte, Nat.reduceAdd, Nat.reduceSub, Nat.reduceEqDiff, Nat.reduceLeDiff, Int.reduceEq, Int.reduceNe, Int.reduceNeg, reduceCtorEq]
  have hd0 : dg z.1.1 = 1 := (Gq_z hG hp z).mpr rfl
  have e1 : wid g ((0 : Nat) : Int) ((dg (nsm ad z 0 (ptI z i)).1.1 : Int) - 1) = 1 := by
    show wid g ((0 : Nat) : Int) ((dg z.1.1 : Int) - 1) = 1
    rw [hd0]
    unfold wid evn
    rw [if_neg (by omega), if_pos (by omega)]; rfl
  have f12 := F1.tr F2
  have hx2 : PH (upq (upq (upq (upq ρ (110 + 1) (ptI z i).1.1) (110 + 3) (ptI z i).1.2) (115 + 1) (pC p 1)) (115 + 3) (pC p 0)) 110 (ptI z i).1 := ⟨(by repeat (first | assumption | rw [upq_e] | rw [upq_n (by omega)])), (by repeat (first | assumption | rw [upq_e] | rw [upq_n (by omega)]))⟩
  have := l_gap (N := N2) (ρ := (upq (upq (upq (upq ρ (110 + 1) (ptI z i).1.1) (110 + 3) (ptI z i).1.2) (115 + 1) (pC p 1)) (115 + 3) (pC p 0))) (Q := Q) (s := ptI z i) (pt := (i : Int)) hG hcv (by repeat (first | assumption | rw [upq_e] | rw [upq_n (by omega)])) (by rw [f12 21 (by decide)]; exact hg) (fun N' ρ' g1 g2 g3 => hQ N' ρ' g1 (f12.tr g2) (fun r r0 r1 r2 r3 r4 => by rw [g3 r r0 r1 r2 r3 r4, upq_n (show r ≠ 115 + 3 by omega), upq_n (show r ≠ 115 + 1 by omega), upq_n (show r ≠ 110 + 3 by omega), upq_n (show r ≠ 110 + 1 by omega)])) (2 * g) 0 (9, 0) N2 _ (by omega) S2 (FR.rf _) ?_ hx2 (fun _ _ _ _ _ _ => rfl)
  · rw [e1] at this; exact this
  · show PH _ 115 z.1
    rw [hG.2.2.1]
    exact ⟨(by repeat (first | assumption | rw [upq_e] | rw [upq_n (by omega)])), (by repeat (first | assumption | rw [upq_e] | rw [upq_n (by omega)]))⟩
