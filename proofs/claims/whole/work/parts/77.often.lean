/-! CODES: what is most often, the next word of the others -/
def cntE (a : Nat → Int) (v : Int) : Nat → Nat
  | 0 => 0
  | n + 1 => cntE a v n + if a n = v then 1 else 0
theorem cntE_le (a : Nat → Int) (v : Int) : ∀ n, cntE a v n ≤ n
  | 0 => Nat.le_refl _
  | n + 1 => by have := cntE_le a v n; show cntE a v n + (if a n = v then 1 else 0) ≤ n + 1; split <;> omega
def moI (T : Nat → Nat) : Nat → Nat
  | 0 => 0
  | v + 1 => if T (moI T v) < T v then v else moI T v
theorem moI_is (T : Nat → Nat) : ∀ n, moI T (n + 1) ≤ n ∧ (∀ v, v ≤ n → T v ≤ T (moI T (n + 1))) ∧ ∀ v, v < moI T (n + 1) → T v < T (moI T (n + 1))
  | 0 => by
    have e : moI T 1 = 0 := by show (if T 0 < T 0 then 0 else 0) = 0; split <;> rfl
    rw [e]
    exact ⟨Nat.le_refl _, fun v hv => by obtain rfl : v = 0 := by omega
                                         exact Nat.le_refl _, fun v hv => by omega⟩
  | n + 1 => by
    obtain ⟨h1, h2, h3⟩ := moI_is T n
    show (if T (moI T (n + 1)) < T (n + 1) then n + 1 else moI T (n + 1)) ≤ n + 1 ∧ (∀ v, v ≤ n + 1 → T v ≤ T (if T (moI T (n + 1)) < T (n + 1) then n + 1 else moI T (n + 1))) ∧ ∀ v, v < (if T (moI T (n + 1)) < T (n + 1) then n + 1 else moI T (n + 1)) → T v < T (if T (moI T (n + 1)) < T (n + 1) then n + 1 else moI T (n + 1))
    by_cases q : T (moI T (n + 1)) < T (n + 1)
    · rw [if_pos q]
      refine ⟨Nat.le_refl _, fun v hv => ?_, fun v hv => ?_⟩
      · by_cases e : v = n + 1
        · subst e; exact Nat.le_refl _
        · have := h2 v (by omega); omega
      · have := h2 v (by omega); omega
    · rw [if_neg q]
      refine ⟨by omega, fun v hv => ?_, h3⟩
      by_cases e : v = n + 1
      · subst e; omega
      · exact h2 v (by omega)
set_option maxHeartbeats 8000000 in
theorem l_mo1 {p : Int} {N : Mem} {Q : Post} {L : Nat} {a : Nat → Int} (hC : CB p N) (hL : L ≤ 26) (h8 : N 120 8 = L) (ha : ∀ j : Nat, j < L → N 179 (j : Int) = a j) (hr : ∀ j, j < L → 0 ≤ a j ∧ a j < p)
    (hQ : ∀ N', Fr [180] N N' → (∀ v : Nat, v < 13 → N' 180 (v : Int) = (cntE a v L : Int)) → WP 47 (0, 0) 51 [(2, 120), (0, (L : Int)), (9, 0)] [] NN N' Q ∧ ∀ z : Int, WP 47 (0, 0) 51 [(2, 120), (0, (L : Int)), (0, z)] [] NN N' Q) :
    ∀ (n j : Nat) (Ni : Mem), j + n = L → Fr [180] N Ni → (∀ v : Nat, v < 13 → Ni 180 (v : Int) = (cntE a v j : Int)) → WP 47 (0, 0) 10 [(2, 120), (0, (j : Int)), (9, 0)] [] NN Ni Q ∧ ∀ z : Int, WP 47 (0, 0) 10 [(2, 120), (0, (j : Int)), (0, z)] [] NN Ni Q := by
  have hpp := hC.2.1.pos
  intro n
  induction n with
  | zero =>
    intro j Ni hj hF hI
    obtain rfl : j = L := by omega
    have e8 : Ni 120 8 = (j : Int) := by rw [hF 120 (by simp)]; exact h8
    have := hQ Ni hF hI
    have fin : ∀ v : V, WP 47 (0, 0) 51 [(2, 120), (0, (j : Int)), v] [] NN Ni Q → WP 47 (0, 0) 10 [(2, 120), (0, (j : Int)), v] [] NN Ni Q := fun v hv => by
      refine WP.run [(47, 10), (47, 51)] [] 60 ?_
      simp only [bk47_0, bk47_10, bk47_18, bk47_29, bk47_35, bk47_45, bk47_51, bk47_55, bk47_66, bk47_81, bk47_83, bk47_89, U_aload_n, U_getfield, U_iconst, U_invokestatic2, U_istore_n, U_iload_n, U_icmp_ge, U_iald, U_if_lt, U_bipush, U_dup2, U_iadd, U_iast, U_iinc, U_goto, U_icmp_le, U_ireturn, UN_cc, UN_cn, UN_nc, UN_nn, UJ, lget, lset, lset2, entL, wsm, wcat, Option.toList_some, Option.toList_none, List.cons_append, List.nil_append, List.mem_cons, List.not_mem_nil, Prod.mk.injEq, or_false, false_or, or_true, true_or, and_true, true_and, and_false, false_and, and_self, ne_eq, not_false_eq_true, not_true_eq_false, forall_const, true_implies, false_implies, Nat.add_zero, Nat.zero_add, Nat.le_refl, Nat.zero_le, List.set_cons_zero, List.set_cons_succ, List.set_nil, ↓reduceIte, Nat.reduceAdd, Nat.reduceSub, Nat.reduceEqDiff, Nat.reduceLeDiff, Int.reduceEq, Int.reduceNe, Int.reduceNeg, reduceCtorEq, kd120, e8]
      exact ⟨rr (by omega), fun e => absurd e (by omega), fun _ => hv⟩
    exact ⟨fin _ this.1, fun z => fin _ (this.2 z)⟩
  | succ n ih =>
    intro j Ni hj hF hI
    have fc := FC.fr hF (by unfold cdC; omega) (by omega)
    have hz := fc.fz hC.1
    have e8 : Ni 120 8 = (L : Int) := by rw [hF 120 (by simp)]; exact h8
    have ea : Ni 179 (j : Int) = a j := by rw [hF 179 (by simp)]; exact ha j (by omega)
    have hj2 := hr j (by omega)
    obtain ⟨m, hm⟩ : ∃ m : Nat, a j = m := ⟨(a j).toNat, by omega⟩
    have et := hI m (by omega)
    have key : ∀ v : V, WP 47 (0, 0) 10 [(2, 120), (0, (j : Int)), v] [] NN Ni Q := fun v => by
      refine WP.run [(47, 10), (47, 51)] [] 60 ?_
      simp only [bk47_0, bk47_10, bk47_18, bk47_29, bk47_35, bk47_45, bk47_51, bk47_55, bk47_66, bk47_81, bk47_83, bk47_89, U_aload_n, U_getfield, U_iconst, U_invokestatic2, U_istore_n, U_iload_n, U_icmp_ge, U_iald, U_if_lt, U_bipush, U_dup2, U_iadd, U_iast, U_iinc, U_goto, U_icmp_le, U_ireturn, UN_cc, UN_cn, UN_nc, UN_nn, UJ, lget, lset, lset2, entL, wsm, wcat, Option.toList_some, Option.toList_none, List.cons_append, List.nil_append, List.mem_cons, List.not_mem_nil, Prod.mk.injEq, or_false, false_or, or_true, true_or, and_true, true_and, and_false, false_and, and_self, ne_eq, not_false_eq_true, not_true_eq_false, forall_const, true_implies, false_implies, Nat.add_zero, Nat.zero_add, Nat.le_refl, Nat.zero_le, List.set_cons_zero, List.set_cons_succ, List.set_nil, ↓reduceIte, Nat.reduceAdd, Nat.reduceSub, Nat.reduceEqDiff, Nat.reduceLeDiff, Int.reduceEq, Int.reduceNe, Int.reduceNeg, reduceCtorEq, kd120, kd179, kd180, ln179, ln180, z120_11 hz, z120_12 hz, e8, ea, hm, et]
      refine ⟨rr (by omega), fun _ => ⟨by omega, by omega, r3 (by omega), fun e => absurd e (by omega), fun _ => ⟨rr (by omega), fun _ => ⟨by omega, by omega, by omega, by omega, ?_⟩, fun e => absurd e (by omega)⟩⟩, fun e => absurd (by omega) e⟩
      refine (ih (j + 1) _ (by omega) (fun b hb => ?_) (fun x hx => ?_)).2 _
      · rw [ust_ne (fun e => hb (by simp [e]))]; exact hF b hb
      · rw [ust_at]
        show _ = ((cntE a x j + (if a j = (x : Int) then 1 else 0) : Nat) : Int)
        by_cases e : x = m
        · subst e; rw [if_pos rfl, if_pos hm]; rfl
        · rw [if_neg (by omega), if_neg (by omega)]; exact hI x hx
    exact ⟨key _, fun z => key _⟩
set_option maxHeartbeats 8000000 in
theorem l_mo2 {p : Int} {N : Mem} {Q : Post} {T : Nat → Nat} (hC : CB p N) (hT : ∀ v : Nat, v < 13 → N 180 (v : Int) = (T v : Int)) (hT2 : ∀ v, T v ≤ 26) (hQ : Q (some (0, (moI T p.toNat : Int))) NN N) :
    ∀ (n v : Nat), (v : Int) + n = p → 1 ≤ v → WP 47 (0, 0) 55 [(2, 120), (0, (moI T v : Int)), (0, (v : Int))] [] NN N Q := by
  have hpp := hC.2.1.pos
  intro n
  induction n with
  | zero =>
    intro v hv h1
    have e : v = p.toNat := by omega
    subst e
    refine WP.run [(47, 55)] [] 60 ?_
    simp only [bk47_0, bk47_10, bk47_18, bk47_29, bk47_35, bk47_45, bk47_51, bk47_55, bk47_66, bk47_81, bk47_83, bk47_89, U_aload_n, U_getfield, U_iconst, U_invokestatic2, U_istore_n, U_iload_n, U_icmp_ge, U_iald, U_if_lt, U_bipush, U_dup2, U_iadd, U_iast, U_iinc, U_goto, U_icmp_le, U_ireturn, UN_cc, UN_cn, UN_nc, UN_nn, UJ, lget, lset, lset2, entL, wsm, wcat, Option.toList_some, Option.toList_none, List.cons_append, List.nil_append, List.mem_cons, List.not_mem_nil, Prod.mk.injEq, or_false, false_or, or_true, true_or, and_true, true_and, and_false, false_and, and_self, ne_eq, not_false_eq_true, not_true_eq_false, forall_const, true_implies, false_implies, Nat.add_zero, Nat.zero_add, Nat.le_refl, Nat.zero_le, List.set_cons_zero, List.set_cons_succ, List.set_nil, ↓reduceIte, Nat.reduceAdd, Nat.reduceSub, Nat.reduceEqDiff, Nat.reduceLeDiff, Int.reduceEq, Int.reduceNe, Int.reduceNeg, reduceCtorEq, kd120, kd2, z120_0 hC.1, hC.2.2.1]
    exact ⟨rr (by omega), fun e => absurd e (by omega), fun _ => hQ⟩
  | succ n ih =>
    intro v hv h1
    have hm := (moI_is T (v - 1)).1
    rw [show v - 1 + 1 = v by omega] at hm
    have e1 := hT v (by omega)
    have e2 := hT (moI T v) (by omega)
    have b1 := hT2 v
    have b2 := hT2 (moI T v)
    have es : moI T (v + 1) = if T (moI T v) < T v then v else moI T v := rfl
    refine WP.run [(47, 55)] [] 60 ?_
    simp only [bk47_0, bk47_10, bk47_18, bk47_29, bk47_35, bk47_45, bk47_51, bk47_55, bk47_66, bk47_81, bk47_83, bk47_89, U_aload_n, U_getfield, U_iconst, U_invokestatic2, U_istore_n, U_iload_n, U_icmp_ge, U_iald, U_if_lt, U_bipush, U_dup2, U_iadd, U_iast, U_iinc, U_goto, U_icmp_le, U_ireturn, UN_cc, UN_cn, UN_nc, UN_nn, UJ, lget, lset, lset2, entL, wsm, wcat, Option.toList_some, Option.toList_none, List.cons_append, List.nil_append, List.mem_cons, List.not_mem_nil, Prod.mk.injEq, or_false, false_or, or_true, true_or, and_true, true_and, and_false, false_and, and_self, ne_eq, not_false_eq_true, not_true_eq_false, forall_const, true_implies, false_implies, Nat.add_zero, Nat.zero_add, Nat.le_refl, Nat.zero_le, List.set_cons_zero, List.set_cons_succ, List.set_nil, ↓reduceIte, Nat.reduceAdd, Nat.reduceSub, Nat.reduceEqDiff, Nat.reduceLeDiff, Int.reduceEq, Int.reduceNe, Int.reduceNeg, reduceCtorEq, kd120, kd2, kd180, ln180, z120_0 hC.1, z120_12 hC.1, hC.2.2.1, e1, e2]
    refine ⟨rr (by omega), fun _ => ⟨by omega, by omega, by omega, by omega, rr (by omega), fun e => ?_, fun e => ?_⟩, fun e => absurd (by omega) e⟩
    · rw [if_pos (by omega)] at es
      have := ih (v + 1) (by omega) (by omega)
      rw [es] at this; exact this
    · rw [if_neg (by omega)] at es
      have := ih (v + 1) (by omega) (by omega)
      rw [es] at this; exact this
set_option maxHeartbeats 8000000 in
theorem s_often {p : Int} {N : Mem} {Q : Post} {L : Nat} {a : Nat → Int} (hC : CB p N) (hL : L ≤ 26) (h8 : N 120 8 = L) (ha : ∀ j : Nat, j < L → N 179 (j : Int) = a j) (hr : ∀ j, j < L → 0 ≤ a j ∧ a j < p)
    (hQ : ∀ N', Fr [180] N N' → (∀ v : Nat, v < 13 → N' 180 (v : Int) = (cntE a v L : Int)) → Q (some (0, (moI (fun v => cntE a v L) p.toNat : Int))) NN N') : CL 47 [(2, 120), (9, 0), (9, 0)] NN N Q := by
  have hpp := hC.2.1.pos
  refine WP.run [(47, 10)] [] 60 ?_
  simp only [bk47_0, bk47_10, bk47_18, bk47_29, bk47_35, bk47_45, bk47_51, bk47_55, bk47_66, bk47_81, bk47_83, bk47_89, U_aload_n, U_getfield, U_iconst, U_invokestatic2, U_istore_n, U_iload_n, U_icmp_ge, U_iald, U_if_lt, U_bipush, U_dup2, U_iadd, U_iast, U_iinc, U_goto, U_icmp_le, U_ireturn, UN_cc, UN_cn, UN_nc, UN_nn, UJ, lget, lset, lset2, entL, wsm, wcat, Option.toList_some, Option.toList_none, List.cons_append, List.nil_append, List.mem_cons, List.not_mem_nil, Prod.mk.injEq, or_false, false_or, or_true, true_or, and_true, true_and, and_false, false_and, and_self, ne_eq, not_false_eq_true, not_true_eq_false, forall_const, true_implies, false_implies, Nat.add_zero, Nat.zero_add, Nat.le_refl, Nat.zero_le, List.set_cons_zero, List.set_cons_succ, List.set_nil, ↓reduceIte, Nat.reduceAdd, Nat.reduceSub, Nat.reduceEqDiff, Nat.reduceLeDiff, Int.reduceEq, Int.reduceNe, Int.reduceNeg, reduceCtorEq, kd120, z120_12 hC.1]
  refine c_fill rfl ?_
  rw [ln180]
  simp only [bk47_0, bk47_10, bk47_18, bk47_29, bk47_35, bk47_45, bk47_51, bk47_55, bk47_66, bk47_81, bk47_83, bk47_89, U_aload_n, U_getfield, U_iconst, U_invokestatic2, U_istore_n, U_iload_n, U_icmp_ge, U_iald, U_if_lt, U_bipush, U_dup2, U_iadd, U_iast, U_iinc, U_goto, U_icmp_le, U_ireturn, UN_cc, UN_cn, UN_nc, UN_nn, UJ, lget, lset, lset2, entL, wsm, wcat, Option.toList_some, Option.toList_none, List.cons_append, List.nil_append, List.mem_cons, List.not_mem_nil, Prod.mk.injEq, or_false, false_or, or_true, true_or, and_true, true_and, and_false, false_and, and_self, ne_eq, not_false_eq_true, not_true_eq_false, forall_const, true_implies, false_implies, Nat.add_zero, Nat.zero_add, Nat.le_refl, Nat.zero_le, List.set_cons_zero, List.set_cons_succ, List.set_nil, ↓reduceIte, Nat.reduceAdd, Nat.reduceSub, Nat.reduceEqDiff, Nat.reduceLeDiff, Int.reduceEq, Int.reduceNe, Int.reduceNeg, reduceCtorEq]
  have g0 : Fr [180] N (fil N 180 13 0) := fun b hb => fil_ne (fun e => hb (by simp [e]))
  have f0 := FC.fr g0 (by unfold cdC; omega) (by omega)
  have hC0 : CB p (fil N 180 13 0) := hC.fr (f0.fz hC.1) g0 (by decide) (by decide)
  refine (l_mo1 (N := fil N 180 13 0) (a := a) (L := L) hC0 hL (by rw [g0 120 (by simp)]; exact h8) (fun j hj => by rw [g0 179 (by simp)]; exact ha j hj) hr (fun N' g1 g2 => ?_) L 0 _ (by omega) (Fr.rf _ _) (fun v hv => by rw [fil_in (by omega) (by omega)]; rfl)).1
  have f1 := FC.fr g1 (by unfold cdC; omega) (by omega)
  have fin : ∀ v : V, WP 47 (0, 0) 51 [(2, 120), (0, (L : Int)), v] [] NN N' Q := fun v => by
    refine WP.run [(47, 55)] [] 60 ?_
    simp only [bk47_0, bk47_10, bk47_18, bk47_29, bk47_35, bk47_45, bk47_51, bk47_55, bk47_66, bk47_81, bk47_83, bk47_89, U_aload_n, U_getfield, U_iconst, U_invokestatic2, U_istore_n, U_iload_n, U_icmp_ge, U_iald, U_if_lt, U_bipush, U_dup2, U_iadd, U_iast, U_iinc, U_goto, U_icmp_le, U_ireturn, UN_cc, UN_cn, UN_nc, UN_nn, UJ, lget, lset, lset2, entL, wsm, wcat, Option.toList_some, Option.toList_none, List.cons_append, List.nil_append, List.mem_cons, List.not_mem_nil, Prod.mk.injEq, or_false, false_or, or_true, true_or, and_true, true_and, and_false, false_and, and_self, ne_eq, not_false_eq_true, not_true_eq_false, forall_const, true_implies, false_implies, Nat.add_zero, Nat.zero_add, Nat.le_refl, Nat.zero_le, List.set_cons_zero, List.set_cons_succ, List.set_nil, ↓reduceIte, Nat.reduceAdd, Nat.reduceSub, Nat.reduceEqDiff, Nat.reduceLeDiff, Int.reduceEq, Int.reduceNe, Int.reduceNeg, reduceCtorEq]
    have e1 : moI (fun v => cntE a v L) 1 = 0 := Nat.le_zero.mp (moI_is (fun v => cntE a v L) 0).1
    have := l_mo2 (T := fun v => cntE a v L) (Q := Q) (hC0.fr (f1.fz hC0.1) g1 (by decide) (by decide)) g2 (fun v => by have := cntE_le a v L; show cntE a v L ≤ 26; omega) (hQ N' (g0.tr g1) g2) (p.toNat - 1) 1 (by omega) (by omega)
    rw [e1] at this; exact this
  exact ⟨fin _, fun z => fin _⟩
/-! the digits of the others: from 1 on -/
def dgt (P M k : Nat) : Nat := M / P ^ (k - 1) % P
def sumC (c : Nat → Nat) (W : Nat → Nat → Int) (w j : Nat) : Int := isum (fun k => if k = 0 then 0 else (c k : Int) * W k j) w
def upn (c : Nat → Nat) (i x : Nat) : Nat → Nat := fun k => if k = i then x else c k
theorem sumC_up (c : Nat → Nat) (W : Nat → Nat → Int) (j : Nat) {i x : Nat} (hi : 1 ≤ i) : ∀ w, sumC (upn c i x) W w j = sumC c W w j + (if i < w then ((x : Int) - c i) * W i j else 0)
  | 0 => by rw [if_neg (by omega)]; rfl
  | w + 1 => by
    have ih := sumC_up c W j hi (x := x) w
    show sumC (upn c i x) W w j + (if w = 0 then 0 else ((if w = i then x else c w : Nat) : Int) * W w j) = sumC c W w j + (if w = 0 then 0 else (c w : Int) * W w j) + _
    rw [ih, Int.sub_mul]
    by_cases e : w = i
    · subst e; repeat' split
      all_goals omega
    · repeat' split
      all_goals omega
theorem sumC_cg {c d : Nat → Nat} (W : Nat → Nat → Int) (j w : Nat) (h : ∀ k, 1 ≤ k → k < w → c k = d k) : sumC c W w j = sumC d W w j := isum_cg w (fun k hk => by
  by_cases q : k = 0
  · rw [if_pos q, if_pos q]
  · rw [if_neg q, if_neg q, h k (by omega) hk])
theorem dgt_carry {P M i : Nat} (hP : 2 ≤ P) (hi : 1 ≤ i) (h : (M + 1) % P ^ (i - 1) = 0) : (dgt P M i + 1 < P → ∀ k, 1 ≤ k → dgt P (M + 1) k = if k < i then 0 else if k = i then dgt P M i + 1 else dgt P M k) ∧ (¬ dgt P M i + 1 < P → (M + 1) % P ^ i = 0 ∧ dgt P M i + 1 = P) := by
  have hpos : 0 < P ^ (i - 1) := Nat.pow_pos (by omega)
  obtain ⟨q, hq⟩ := Nat.dvd_of_mod_eq_zero h
  have e1 : M = P ^ (i - 1) * (q - 1) + (P ^ (i - 1) - 1) := by
    have h1 : 1 ≤ q := by
      rcases Nat.eq_zero_or_pos q with z | z
      · rw [z, Nat.mul_zero] at hq; omega
      · exact z
    obtain ⟨r, rfl⟩ : ∃ r, q = r + 1 := ⟨q - 1, by omega⟩
    rw [Nat.add_sub_cancel]
    rw [Nat.mul_add, Nat.mul_one] at hq
    omega
  have hq1 : 1 ≤ q := by
    rcases Nat.eq_zero_or_pos q with z | z
    · rw [z, Nat.mul_zero] at hq; omega
    · exact z
  have e2 : M / P ^ (i - 1) = q - 1 := by
    rw [e1, Nat.mul_add_div hpos, Nat.div_eq_of_lt (by omega), Nat.add_zero]
  have e3 : (M + 1) / P ^ (i - 1) = q := by rw [hq, Nat.mul_div_cancel_left _ hpos]
  have ed : dgt P M i = (q - 1) % P := by unfold dgt; rw [e2]
  constructor
  · intro hlt k hk
    rw [ed] at hlt
    have em : q % P = (q - 1) % P + 1 := by
      obtain ⟨r, rfl⟩ : ∃ r, q = r + 1 := ⟨q - 1, by omega⟩
      rw [Nat.add_sub_cancel] at hlt ⊢
      rw [Nat.add_mod, Nat.mod_eq_of_lt (show 1 < P by omega), Nat.mod_eq_of_lt hlt]
    have edv : q / P = (q - 1) / P := by
      obtain ⟨r, rfl⟩ : ∃ r, q = r + 1 := ⟨q - 1, by omega⟩
      rw [Nat.add_sub_cancel] at hlt ⊢
      have h1 := Nat.div_add_mod r P
      have h2 : r + 1 = P * (r / P) + (r % P + 1) := by omega
      rw [h2, Nat.mul_add_div (by omega), Nat.div_eq_of_lt hlt, Nat.add_zero]
    by_cases g : k < i
    · rw [if_pos g]
      unfold dgt
      have : P ^ (i - 1) = P ^ (k - 1) * P * P ^ (i - 1 - k) := by
        rw [← Nat.pow_succ, ← Nat.pow_add]; congr 1; omega
      rw [hq, this, Nat.mul_assoc, Nat.mul_assoc, Nat.mul_div_cancel_left _ (Nat.pow_pos (by omega)), Nat.mul_mod_right]
    · rw [if_neg g]
      by_cases g2 : k = i
      · subst g2
        rw [if_pos rfl, ed]
        show (M + 1) / P ^ (k - 1) % P = _
        rw [e3, em]
      · rw [if_neg g2]
        unfold dgt
        have : P ^ (k - 1) = P ^ (i - 1) * (P * P ^ (k - 1 - i)) := by
          rw [← Nat.mul_assoc, ← Nat.pow_succ, ← Nat.pow_add]; congr 1; omega
        rw [this, ← Nat.div_div_eq_div_mul, ← Nat.div_div_eq_div_mul, ← Nat.div_div_eq_div_mul, ← Nat.div_div_eq_div_mul, e2, e3, edv]
  · intro hge
    rw [ed] at hge ⊢
    have h1 := Nat.mod_lt (q - 1) (show 0 < P by omega)
    refine ⟨?_, by omega⟩
    have hqp : q % P = 0 := by
      obtain ⟨r, rfl⟩ : ∃ r, q = r + 1 := ⟨q - 1, by omega⟩
      rw [Nat.add_sub_cancel] at hge h1
      rw [Nat.add_mod, Nat.mod_eq_of_lt (show 1 < P by omega), show r % P + 1 = P by omega, Nat.mod_self]
    obtain ⟨s, hs⟩ := Nat.dvd_of_mod_eq_zero hqp
    rw [hq, hs, ← Nat.mul_assoc, ← Nat.pow_succ, show (i - 1).succ = i by omega, Nat.mul_mod_right]
theorem dgt_lt {P : Nat} (hP : 2 ≤ P) (M k : Nat) : dgt P M k < P := Nat.mod_lt _ (by omega)
theorem dgt_wrap {P M w : Nat} (hP : 2 ≤ P) (h : (M + 1) % P ^ (w - 1) = 0) {k : Nat} (h1 : 1 ≤ k) (h2 : k < w) : dgt P (M + 1) k = 0 := by
  obtain ⟨q, hq⟩ := Nat.dvd_of_mod_eq_zero h
  unfold dgt
  have : P ^ (w - 1) = P ^ (k - 1) * P * P ^ (w - 1 - k) := by
    rw [← Nat.pow_succ, ← Nat.pow_add]; congr 1; omega
  rw [hq, this, Nat.mul_assoc, Nat.mul_assoc, Nat.mul_div_cancel_left _ (Nat.pow_pos (by omega)), Nat.mul_mod_right]
/-- the digits and what is left of the told row, in the cells -/
def DgA (p : Int) (N : Mem) (tl : Nat → Int) (W : Nat → Nat → Int) (L w : Nat) (c : Nat → Nat) : Prop := (∀ k : Nat, 1 ≤ k → k < w → N 178 (k : Int) = (c k : Int)) ∧ ∀ j : Nat, j < L → N 179 (j : Int) = (tl j - sumC c W w j) % p
set_option maxHeartbeats 8000000 in
theorem l_stJ {p : Int} {N : Mem} {Q : Post} {L i w : Nat} {a b : Nat → Int} (hC : CB p N) (hL : L ≤ 26) (hi : i < 26) (h8 : N 120 8 = L) (ha : ∀ j : Nat, j < L → N 179 (j : Int) = a j) (hr : ∀ j, 0 ≤ a j ∧ a j < p) (hb : ∀ j : Nat, j < L → N (123 + (i : Int)) (j : Int) = b j) (hrb : ∀ j, 0 ≤ b j ∧ b j < p)
    (hQ : ∀ N', Fr [179] N N' → (∀ j : Nat, j < L → N' 179 (j : Int) = (a j - b j) % p) → ∀ x y : V, WP 48 (0, 0) 73 [(2, 120), (0, (w : Int)), (0, (i : Int)), (2, 123 + (i : Int)), x, y] [] NN N' Q) :
    ∀ (n j : Nat) (v : V) (Ni : Mem), j + n = L → Fr [179] N Ni → (∀ x : Nat, x < L → Ni 179 (x : Int) = if x < j then (a x - b x) % p else a x) → WP 48 (0, 0) 17 [(2, 120), (0, (w : Int)), (0, (i : Int)), (2, 123 + (i : Int)), (0, (j : Int)), v] [] NN Ni Q := by
  have hpp := hC.2.1.pos
  obtain ⟨k1, -, l1, -, -, -⟩ := cdk (i := (i : Int)) (by omega) (by omega)
  intro n
  induction n with
  | zero =>
    intro j v Ni hj hF hI
    obtain rfl : j = L := by omega
    have e8 : Ni 120 8 = (j : Int) := by rw [hF 120 (by simp)]; exact h8
    refine WP.run [(48, 17), (48, 73)] [] 60 ?_
    simp only [bk48_0, bk48_2, bk48_7, bk48_17, bk48_26, bk48_51, bk48_64, bk48_66, bk48_73, bk48_99, bk48_100, bk48_113, U_iconst, U_istore_n, U_iload_n, U_icmp_ge, U_aload_n, U_getfield, U_aald, U_astore_n, U_istore, U_iload, U_iald, U_isub, U_if_ge, U_iadd, U_goto, U_iast, U_iinc, U_dup2, U_return, UN_cc, UN_cn, UN_nc, UN_nn, UJ, lget, lset, lset2, entL, wsm, wcat, Option.toList_some, Option.toList_none, List.cons_append, List.nil_append, List.mem_cons, List.not_mem_nil, Prod.mk.injEq, or_false, false_or, or_true, true_or, and_true, true_and, and_false, false_and, and_self, ne_eq, not_false_eq_true, not_true_eq_false, forall_const, true_implies, false_implies, Nat.add_zero, Nat.zero_add, Nat.le_refl, Nat.zero_le, List.set_cons_zero, List.set_cons_succ, List.set_nil, ↓reduceIte, Nat.reduceAdd, Nat.reduceSub, Nat.reduceEqDiff, Nat.reduceLeDiff, Int.reduceEq, Int.reduceNe, Int.reduceNeg, reduceCtorEq, kd120, e8]
    exact ⟨rr (by omega), fun e => absurd e (by omega), fun _ => hQ Ni hF (fun x hx => by rw [hI x hx, if_pos hx]) _ _⟩
  | succ n ih =>
    intro j v Ni hj hF hI
    have fc := FC.fr hF (by unfold cdC; omega) (by omega)
    have hz := fc.fz hC.1
    have e8 : Ni 120 8 = (L : Int) := by rw [hF 120 (by simp)]; exact h8
    have ea : Ni 179 (j : Int) = a j := by rw [hI j (by omega), if_neg (by omega)]
    have eb : Ni (123 + (i : Int)) (j : Int) = b j := by rw [hF (123 + (i : Int)) (by simp <;> omega)]; exact hb j (by omega)
    have ep : Ni 2 0 = p := by rw [hF 2 (by simp)]; exact hC.2.2.1
    obtain ⟨a1, a2⟩ := hr j
    obtain ⟨b1, b2⟩ := hrb j
    have nx : ∀ x v : Int, x = (a j - b j) % p → WP 48 (0, 0) 17 [(2, 120), (0, (w : Int)), (0, (i : Int)), (2, 123 + (i : Int)), (0, (j : Int) + 1), (0, v)] [] NN (ust Ni 179 (j : Int) x) Q := fun x v hx => by
      refine ih (j + 1) _ _ (by omega) (fun b hb => ?_) (fun y hy => ?_)
      · rw [ust_ne (fun e => hb (by simp [e]))]; exact hF b hb
      · rw [ust_at]
        by_cases e : y = j
        · subst e; rw [if_pos rfl, if_pos (by omega), hx]
        · rw [if_neg (by omega), hI y hy]
          by_cases q : y < j
          · rw [if_pos q, if_pos (by omega)]
          · rw [if_neg q, if_neg (by omega)]
    refine WP.run [(48, 17), (48, 73)] [] 60 ?_
    simp only [bk48_0, bk48_2, bk48_7, bk48_17, bk48_26, bk48_51, bk48_64, bk48_66, bk48_73, bk48_99, bk48_100, bk48_113, U_iconst, U_istore_n, U_iload_n, U_icmp_ge, U_aload_n, U_getfield, U_aald, U_astore_n, U_istore, U_iload, U_iald, U_isub, U_if_ge, U_iadd, U_goto, U_iast, U_iinc, U_dup2, U_return, UN_cc, UN_cn, UN_nc, UN_nn, UJ, lget, lset, lset2, entL, wsm, wcat, Option.toList_some, Option.toList_none, List.cons_append, List.nil_append, List.mem_cons, List.not_mem_nil, Prod.mk.injEq, or_false, false_or, or_true, true_or, and_true, true_and, and_false, false_and, and_self, ne_eq, not_false_eq_true, not_true_eq_false, forall_const, true_implies, false_implies, Nat.add_zero, Nat.zero_add, Nat.le_refl, Nat.zero_le, List.set_cons_zero, List.set_cons_succ, List.set_nil, ↓reduceIte, Nat.reduceAdd, Nat.reduceSub, Nat.reduceEqDiff, Nat.reduceLeDiff, Int.reduceEq, Int.reduceNe, Int.reduceNeg, reduceCtorEq, kd120, kd2, kd179, ln179, z120_0 hz, z120_11 hz, e8, k1, l1, ea, eb, ep]
    refine ⟨rr (by omega), fun _ => ⟨by omega, by omega, by omega, by omega, r3 (by omega), fun e => ⟨by omega, by omega, nx _ _ ?_⟩, fun e => ⟨by omega, by omega, nx _ _ ?_⟩⟩, fun e => absurd (by omega) e⟩
    · have := Int.add_mul_emod_self_left (a j - b j) p 1
      rw [Int.mul_one] at this
      rw [← this]; exact (Int.emod_eq_of_lt (by omega) (by omega)).symm
    · exact (Int.emod_eq_of_lt (by omega) (by omega)).symm
set_option maxHeartbeats 16000000 in
theorem l_stI {p : Int} {N : Mem} {ρ : Int → Option (Pz p)} {Q : Post} {L w M : Nat} {tl : Nat → Int} {W : Nat → Nat → Int} (hS : ST p N ρ) (hL : L ≤ 26) (hw : w ≤ 26) (h8 : N 120 8 = L) (hW : ∀ k j : Nat, k < w → j < L → N (123 + (k : Int)) (j : Int) = W k j) (hrW : ∀ k j, 0 ≤ W k j ∧ W k j < p)
    (hQ : ∀ N', Fr [178, 179] N N' → DgA p N' tl W L w (dgt p.toNat (M + 1)) → N' 178 0 = N 178 0 → Q none NN N') :
    ∀ (n i : Nat) (x y z : V) (Ni : Mem), i + n = w → 1 ≤ i → Fr [178, 179] N Ni → Ni 178 0 = N 178 0 → DgA p Ni tl W L w (fun k => if k < i then 0 else dgt p.toNat M k) → (M + 1) % p.toNat ^ (i - 1) = 0 → WP 48 (0, 0) 2 [(2, 120), (0, (w : Int)), (0, (i : Int)), x, y, z] [] NN Ni Q := by
  have hp := hS.1.2.1
  have hpp := hp.pos
  have hP2 : 2 ≤ p.toNat := by omega
  intro n
  induction n with
  | zero =>
    intro i x y z Ni hi h1 hF h0 hD hM
    obtain rfl : i = w := by omega
    refine WP.run [(48, 2)] [] 60 ?_
    simp only [bk48_0, bk48_2, bk48_7, bk48_17, bk48_26, bk48_51, bk48_64, bk48_66, bk48_73, bk48_99, bk48_100, bk48_113, U_iconst, U_istore_n, U_iload_n, U_icmp_ge, U_aload_n, U_getfield, U_aald, U_astore_n, U_istore, U_iload, U_iald, U_isub, U_if_ge, U_iadd, U_goto, U_iast, U_iinc, U_dup2, U_return, UN_cc, UN_cn, UN_nc, UN_nn, UJ, lget, lset, lset2, entL, wsm, wcat, Option.toList_some, Option.toList_none, List.cons_append, List.nil_append, List.mem_cons, List.not_mem_nil, Prod.mk.injEq, or_false, false_or, or_true, true_or, and_true, true_and, and_false, false_and, and_self, ne_eq, not_false_eq_true, not_true_eq_false, forall_const, true_implies, false_implies, Nat.add_zero, Nat.zero_add, Nat.le_refl, Nat.zero_le, List.set_cons_zero, List.set_cons_succ, List.set_nil, ↓reduceIte, Nat.reduceAdd, Nat.reduceSub, Nat.reduceEqDiff, Nat.reduceLeDiff, Int.reduceEq, Int.reduceNe, Int.reduceNeg, reduceCtorEq]
    refine ⟨rr (by omega), fun e => absurd e (by omega), fun _ => hQ Ni hF ⟨fun k k1 k2 => ?_, fun j hj => ?_⟩ h0⟩
    · rw [hD.1 k k1 k2]
      show ((if k < i then 0 else dgt p.toNat M k : Nat) : Int) = _
      rw [if_pos k2, dgt_wrap hP2 hM k1 k2]
    · rw [hD.2 j hj, sumC_cg W j i (fun k k1 k2 => (if_pos k2).trans (dgt_wrap hP2 hM k1 k2).symm)]
  | succ n ih =>
    intro i x y z Ni hi h1 hF h0 hD hM
    have fc : FC N Ni := ⟨fun b hb => hF b (by simp; constructor <;> (intro e; apply hb; unfold cdC; omega)), fun _ _ _ _ _ _ => by rw [hF 120 (by simp)]⟩
    have hSi := fc.st hS
    have hz := hSi.1.1
    have e8 : Ni 120 8 = (L : Int) := by rw [hF 120 (by simp)]; exact h8
    have z2 := (z122 hz (i : Int) (by omega) (by omega)).1
    have nz : ¬ (123 + (i : Int) = 0) := by omega
    obtain ⟨c1, c2⟩ := dgt_carry (M := M) hP2 h1 hM
    have hdl := dgt_lt hP2 M i
    refine WP.run [(48, 17)] [] 60 ?_
    simp only [bk48_0, bk48_2, bk48_7, bk48_17, bk48_26, bk48_51, bk48_64, bk48_66, bk48_73, bk48_99, bk48_100, bk48_113, U_iconst, U_istore_n, U_iload_n, U_icmp_ge, U_aload_n, U_getfield, U_aald, U_astore_n, U_istore, U_iload, U_iald, U_isub, U_if_ge, U_iadd, U_goto, U_iast, U_iinc, U_dup2, U_return, UN_cc, UN_cn, UN_nc, UN_nn, UJ, lget, lset, lset2, entL, wsm, wcat, Option.toList_some, Option.toList_none, List.cons_append, List.nil_append, List.mem_cons, List.not_mem_nil, Prod.mk.injEq, or_false, false_or, or_true, true_or, and_true, true_and, and_false, false_and, and_self, ne_eq, not_false_eq_true, not_true_eq_false, forall_const, true_implies, false_implies, Nat.add_zero, Nat.zero_add, Nat.le_refl, Nat.zero_le, List.set_cons_zero, List.set_cons_succ, List.set_nil, ↓reduceIte, Nat.reduceAdd, Nat.reduceSub, Nat.reduceEqDiff, Nat.reduceLeDiff, Int.reduceEq, Int.reduceNe, Int.reduceNeg, reduceCtorEq, kd120, kd122, ln122, z120_3 hz, z2, nz]
    refine ⟨rr (by omega), fun _ => ⟨by omega, by omega, ?_⟩, fun e => absurd (by omega) e⟩
    generalize hcc : (fun k => if k < i then 0 else dgt p.toNat M k : Nat → Nat) = c at *
    have hci : c i = dgt p.toNat M i := by rw [← hcc]; exact if_neg (by omega)
    refine l_stJ (a := fun j => (tl j - sumC c W w j) % p) (b := W i) (w := w) (L := L) hSi.1 hL (by omega) e8 hD.2 (fun j => ⟨Int.emod_nonneg _ (by omega), Int.emod_lt_of_pos _ (by omega)⟩) (fun j hj => by rw [hF (123 + (i : Int)) (by simp; omega)]; exact hW i j (by omega) hj) (hrW i) (fun N1 g1 g2 x y => ?_) L 0 _ Ni (by omega) (Fr.rf _ _) (fun j hj => by rw [if_neg (by omega)]; exact hD.2 j hj)
    have f1 := FC.fr g1 (by unfold cdC; omega) (by omega)
    have ed : N1 178 (i : Int) = (c i : Int) := by rw [g1 178 (by simp)]; exact hD.1 i h1 (by omega)
    have ep : N1 2 0 = p := by rw [g1 2 (by simp)]; exact hSi.1.2.2.1
    -- what is left after one more of word i
    have hsum : ∀ x : Nat, ((x : Int) - (c i : Int) - 1) % p = 0 → ∀ j : Nat, j < L → N1 179 (j : Int) = (tl j - sumC (upn c i x) W w j) % p := fun x hx j hj => by
      rw [g2 j hj, sumC_up c W j h1 w, if_pos (by omega), md_sub (md_md _ _) rfl]
      have e : tl j - (sumC c W w j + ((x : Int) - c i) * W i j) = (tl j - sumC c W w j - W i j) - ((x : Int) - c i - 1) * W i j := by
        rw [Int.sub_mul _ 1, Int.one_mul]; omega
      rw [e, md_sub (a := tl j - sumC c W w j - W i j) (b' := 0 * W i j) rfl (md_mul (by rw [hx, Int.zero_emod]) rfl), Int.zero_mul, Int.sub_zero]
    refine WP.run [(48, 2)] [] 60 ?_
    simp only [bk48_0, bk48_2, bk48_7, bk48_17, bk48_26, bk48_51, bk48_64, bk48_66, bk48_73, bk48_99, bk48_100, bk48_113, U_iconst, U_istore_n, U_iload_n, U_icmp_ge, U_aload_n, U_getfield, U_aald, U_astore_n, U_istore, U_iload, U_iald, U_isub, U_if_ge, U_iadd, U_goto, U_iast, U_iinc, U_dup2, U_return, UN_cc, UN_cn, UN_nc, UN_nn, UJ, lget, lset, lset2, entL, wsm, wcat, Option.toList_some, Option.toList_none, List.cons_append, List.nil_append, List.mem_cons, List.not_mem_nil, Prod.mk.injEq, or_false, false_or, or_true, true_or, and_true, true_and, and_false, false_and, and_self, ne_eq, not_false_eq_true, not_true_eq_false, forall_const, true_implies, false_implies, Nat.add_zero, Nat.zero_add, Nat.le_refl, Nat.zero_le, List.set_cons_zero, List.set_cons_succ, List.set_nil, ↓reduceIte, Nat.reduceAdd, Nat.reduceSub, Nat.reduceEqDiff, Nat.reduceLeDiff, Int.reduceEq, Int.reduceNe, Int.reduceNeg, reduceCtorEq, kd120, kd2, kd178, ln178, z120_0 (f1.fz hz), z120_10 (f1.fz hz), ed, ep, ust_r]
    refine ⟨by omega, by omega, by omega, by omega, by omega, by omega, rr (by omega), fun e => ?_, fun e => ⟨by omega, by omega, ?_⟩⟩
    · have hd := c1 (by omega)
      have hcd : ∀ k, 1 ≤ k → upn c i (c i + 1) k = dgt p.toNat (M + 1) k := fun k hk => by
        rw [hd k hk, ← hcc]
        show (if k = i then (if i < i then 0 else dgt p.toNat M i) + 1 else (if k < i then 0 else dgt p.toNat M k)) = _
        by_cases q : k = i
        · rw [if_pos q, if_neg (by omega), if_neg (by omega), if_pos q]
        · rw [if_neg q]
          by_cases q2 : k < i
          · rw [if_pos q2, if_pos q2]
          · rw [if_neg q2, if_neg q2, if_neg q]
      refine hQ _ (fun b hb => ?_) ⟨fun k k1 k2 => ?_, fun j hj => ?_⟩ ?_
      · rw [ust_ne (fun e => hb (by simp [e])), g1 b (fun e => hb (by simp at e; simp [e]))]; exact hF b hb
      · rw [← hcd k k1, ust_at]
        show _ = ((if k = i then c i + 1 else c k : Nat) : Int)
        by_cases q : k = i
        · rw [if_pos (by omega), if_pos q]; rfl
        · rw [if_neg (by omega), if_neg q, g1 178 (by simp)]; exact hD.1 k k1 k2
      · rw [ust_ne (by decide), hsum (c i + 1) (by rw [show (((c i + 1 : Nat) : Int) - (c i : Int) - 1) = 0 by omega]; exact Int.zero_emod _) j hj, sumC_cg W j w (fun k k1 _ => hcd k k1)]
      · rw [ust_at, if_neg (by omega), g1 178 (by simp)]; exact h0
    · obtain ⟨hm, hpe⟩ := c2 (by omega)
      rw [ust_u]
      refine ih (i + 1) _ _ _ _ (by omega) (by omega) (fun b hb => ?_) ?_ ⟨fun k k1 k2 => ?_, fun j hj => ?_⟩ (by rw [Nat.add_sub_cancel]; exact hm)
      · rw [ust_ne (fun e => hb (by simp [e])), g1 b (fun e => hb (by simp at e; simp [e]))]; exact hF b hb
      · rw [ust_at, if_neg (by omega), g1 178 (by simp)]; exact h0
      · rw [ust_at]
        show _ = ((if k < i + 1 then 0 else dgt p.toNat M k : Nat) : Int)
        by_cases q : k = i
        · rw [if_pos (by omega), if_pos (by omega)]; rfl
        · rw [if_neg (by omega), g1 178 (by simp), hD.1 k k1 k2, ← hcc]
          show ((if k < i then 0 else dgt p.toNat M k : Nat) : Int) = _
          by_cases q2 : k < i
          · rw [if_pos q2, if_pos (by omega)]
          · rw [if_neg q2, if_neg (by omega)]
      · rw [ust_ne (by decide), hsum 0 (by
            rw [show (((0 : Nat) : Int) - (c i : Int) - 1) = -p by omega]
            have := Int.mul_emod_right p (-1)
            rwa [Int.mul_neg, Int.mul_one] at this) j hj, sumC_cg W j w (fun k k1 _ => ?_)]
        rw [← hcc]
        show (if k = i then 0 else if k < i then 0 else dgt p.toNat M k) = if k < i + 1 then 0 else dgt p.toNat M k
        by_cases q : k = i
        · rw [if_pos q, if_pos (by omega)]
        · rw [if_neg q]
          by_cases q2 : k < i
          · rw [if_pos q2, if_pos (by omega)]
          · rw [if_neg q2, if_neg (by omega)]
set_option maxHeartbeats 8000000 in
theorem s_step {p : Int} {N : Mem} {ρ : Int → Option (Pz p)} {Q : Post} {L w M : Nat} {tl : Nat → Int} {W : Nat → Nat → Int} (hS : ST p N ρ) (hL : L ≤ 26) (hw : w ≤ 26) (hw1 : 1 ≤ w) (h8 : N 120 8 = L) (hW : ∀ k j : Nat, k < w → j < L → N (123 + (k : Int)) (j : Int) = W k j) (hrW : ∀ k j, 0 ≤ W k j ∧ W k j < p) (hD : DgA p N tl W L w (dgt p.toNat M))
    (hQ : ∀ N', Fr [178, 179] N N' → DgA p N' tl W L w (dgt p.toNat (M + 1)) → N' 178 0 = N 178 0 → Q none NN N') : CL 48 [(2, 120), (0, (w : Int)), (9, 0), (9, 0), (9, 0), (9, 0)] NN N Q := by
  refine WP.run [(48, 2)] [] 60 ?_
  simp only [bk48_0, bk48_2, bk48_7, bk48_17, bk48_26, bk48_51, bk48_64, bk48_66, bk48_73, bk48_99, bk48_100, bk48_113, U_iconst, U_istore_n, U_iload_n, U_icmp_ge, U_aload_n, U_getfield, U_aald, U_astore_n, U_istore, U_iload, U_iald, U_isub, U_if_ge, U_iadd, U_goto, U_iast, U_iinc, U_dup2, U_return, UN_cc, UN_cn, UN_nc, UN_nn, UJ, lget, lset, lset2, entL, wsm, wcat, Option.toList_some, Option.toList_none, List.cons_append, List.nil_append, List.mem_cons, List.not_mem_nil, Prod.mk.injEq, or_false, false_or, or_true, true_or, and_true, true_and, and_false, false_and, and_self, ne_eq, not_false_eq_true, not_true_eq_false, forall_const, true_implies, false_implies, Nat.add_zero, Nat.zero_add, Nat.le_refl, Nat.zero_le, List.set_cons_zero, List.set_cons_succ, List.set_nil, ↓reduceIte, Nat.reduceAdd, Nat.reduceSub, Nat.reduceEqDiff, Nat.reduceLeDiff, Int.reduceEq, Int.reduceNe, Int.reduceNeg, reduceCtorEq]
  refine l_stI (N := N) (M := M) hS hL hw h8 hW hrW hQ (w - 1) 1 _ _ _ N (by omega) (by omega) (Fr.rf _ _) rfl ⟨fun k k1 k2 => (hD.1 k k1 k2).trans (congrArg (fun x : Nat => (x : Int)) (if_neg (show ¬ k < 1 by omega)).symm), fun j hj => by rw [hD.2 j hj, sumC_cg W j w (fun k k1 _ => (if_neg (show ¬ k < 1 by omega)).symm)]⟩ (by rw [show 1 - 1 = 0 from rfl, Nat.pow_zero]; exact Nat.mod_one _)
