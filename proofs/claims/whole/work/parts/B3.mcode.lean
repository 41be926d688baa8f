/-! THE MODEL'S CODES -/
theorem pwy_pwm {p x y : Int} (hp : Pr p) (hy : 0 ≤ y ∧ y < p) : ∀ n, pwy p x y n = pwm p x n * y % p
  | 0 => by show y = 1 * y % p; rw [Int.one_mul, Int.emod_eq_of_lt hy.1 hy.2]
  | n + 1 => by
    show pwy p x y n * x % p = (pwm p x n * x % p) * y % p
    rw [pwy_pwm hp hy n]
    have e1 : (pwm p x n * y % p) * x % p = (pwm p x n * y * x) % p := md_mul (md_md _ _) rfl
    have e2 : (pwm p x n * x % p) * y % p = (pwm p x n * x * y) % p := md_mul (md_md _ _) rfl
    rw [e1, e2, Int.mul_assoc, Int.mul_comm y x, ← Int.mul_assoc]
theorem pwy_1 {p x : Int} (hp : Pr p) (n : Nat) : pwy p x 1 n = pwm p x n := by
  have hpp := hp.pos
  have h := pwm_rg (x := x) hp n
  rw [pwy_pwm hp (by omega) n, Int.mul_one, Int.emod_eq_of_lt h.1 h.2]
set_option maxHeartbeats 8000000 in
theorem m_functionAt {p : Int} {N : Mem} {Q : Post} {f : Pz p} {g k j : Nat} (h : MG f g N) (hA : PtA N 192 193 (ptl f p.toNat)) (hp : Pr p) (hd : dg f = 4 ∨ dg f = 6) (hk : k ≤ 30) (ho : k % 2 = 1 → dg f - 1 ≤ k) (hj : j < (ptl f p.toNat).length) (hQ : Q (some (0, wdF f k j)) NN N) : CL 226 [(2, 190), (0, (k : Int)), (0, (j : Int) + 1)] NN N Q := by
  have hpp := hp.pos
  have h26 := ptl_26 hp f
  obtain ⟨hz, hP⟩ := h.mt
  have h1 := h.2.1
  have eq := List.getElem?_eq_getElem hj
  generalize (ptl f p.toNat)[j] = q at eq
  obtain ⟨a1, a2⟩ := hA j q eq
  have hr := ptl_rg hp f p.toNat (by omega) q (List.mem_of_getElem? eq)
  have ew : wdF f k j = if k % 2 = 0 then pwy p q.1 1 (k / 2) else pwy p q.1 q.2 ((k - (dg f - 1)) / 2) := by
    unfold wdF; rw [eq]
  rw [ew] at hQ
  have tm : (k : Int).tmod 2 = ((k % 2 : Nat) : Int) := by rw [tm_nn (by omega)]; omega
  refine WP.run [] [] 60 ?_
  simp only [bk226_0, bk226_6, bk226_20, U_iload_n, U_iconst, U_irem, U_if_ne, U_aload_n, U_getfield, U_iald, U_idiv, U_invokevirtual2, U_ireturn, U_isub, U_imul, UN_cc, UN_cn, UN_nc, UN_nn, UJ, lget, lset, lset2, entL, wsm, wcat, Option.toList_some, Option.toList_none, List.cons_append, List.nil_append, List.mem_cons, List.not_mem_nil, Prod.mk.injEq, or_false, false_or, or_true, true_or, and_true, true_and, and_false, false_and, and_self, ne_eq, not_false_eq_true, not_true_eq_false, forall_const, true_implies, false_implies, Nat.add_zero, Nat.zero_add, Nat.le_refl, Nat.zero_le, List.set_cons_zero, List.set_cons_succ, List.set_nil, ↓reduceIte, Nat.reduceAdd, Nat.reduceSub, Nat.reduceEqDiff, Nat.reduceLeDiff, Int.reduceEq, Int.reduceNe, Int.reduceNeg, reduceCtorEq, kd190, kd192, kd193, ln192, ln193, z190_6 hz, z190_7 hz, hP, h1, a1, a2, tm]
  by_cases c : k % 2 = 0
  · rw [if_pos c, pwy_1 hp] at hQ
    have td : (k : Int).tdiv 2 = ((k / 2 : Nat) : Int) := by rw [Int.tdiv_eq_ediv_of_nonneg (by omega)]; omega
    rw [td]
    refine ⟨r3 (by omega), r3 (by omega), r3 (by omega), fun _ => ?_, fun e => absurd (by omega) e⟩
    repeat (first | refine And.intro (by first | omega | exact not_false) ?_ | refine And.intro (rr (by omega)) ?_ | refine And.intro (r3 (by omega)) ?_ | refine And.intro (r6 (by omega)) ?_)
    refine m_pow hp hP (by omega) (by omega) ?_
    simp only [bk226_0, bk226_6, bk226_20, U_iload_n, U_iconst, U_irem, U_if_ne, U_aload_n, U_getfield, U_iald, U_idiv, U_invokevirtual2, U_ireturn, U_isub, U_imul, UN_cc, UN_cn, UN_nc, UN_nn, UJ, lget, lset, lset2, entL, wsm, wcat, Option.toList_some, Option.toList_none, List.cons_append, List.nil_append, List.mem_cons, List.not_mem_nil, Prod.mk.injEq, or_false, false_or, or_true, true_or, and_true, true_and, and_false, false_and, and_self, ne_eq, not_false_eq_true, not_true_eq_false, forall_const, true_implies, false_implies, Nat.add_zero, Nat.zero_add, Nat.le_refl, Nat.zero_le, List.set_cons_zero, List.set_cons_succ, List.set_nil, ↓reduceIte, Nat.reduceAdd, Nat.reduceSub, Nat.reduceEqDiff, Nat.reduceLeDiff, Int.reduceEq, Int.reduceNe, Int.reduceNeg, reduceCtorEq]
    exact hQ
  · rw [if_neg c, pwy_pwm hp (by omega)] at hQ
    have hdk := ho (by omega)
    have td : ((k : Int) - ((dg f : Int) - 1)).tdiv 2 = (((k - (dg f - 1)) / 2 : Nat) : Int) := by
      rw [Int.tdiv_eq_ediv_of_nonneg (by omega)]; omega
    rw [td]
    have pr := pwm_rg (x := q.1) hp ((k - (dg f - 1)) / 2)
    have b0 : 0 ≤ pwm p q.1 ((k - (dg f - 1)) / 2) * q.2 := Int.mul_nonneg pr.1 (by omega)
    have b := ab_mul (A := 12) (B := 12) (a := pwm p q.1 ((k - (dg f - 1)) / 2)) (b := q.2) (by omega) (by omega)
    refine ⟨r3 (by omega), r3 (by omega), r3 (by omega), fun e => absurd e (by omega), fun _ => ?_⟩
    repeat (first | refine And.intro (by first | omega | exact not_false) ?_ | refine And.intro (rr (by omega)) ?_ | refine And.intro (r3 (by omega)) ?_ | refine And.intro (r6 (by omega)) ?_)
    refine m_pow hp hP (by omega) (by omega) ?_
    simp only [bk226_0, bk226_6, bk226_20, U_iload_n, U_iconst, U_irem, U_if_ne, U_aload_n, U_getfield, U_iald, U_idiv, U_invokevirtual2, U_ireturn, U_isub, U_imul, UN_cc, UN_cn, UN_nc, UN_nn, UJ, lget, lset, lset2, entL, wsm, wcat, Option.toList_some, Option.toList_none, List.cons_append, List.nil_append, List.mem_cons, List.not_mem_nil, Prod.mk.injEq, or_false, false_or, or_true, true_or, and_true, true_and, and_false, false_and, and_self, ne_eq, not_false_eq_true, not_true_eq_false, forall_const, true_implies, false_implies, Nat.add_zero, Nat.zero_add, Nat.le_refl, Nat.zero_le, List.set_cons_zero, List.set_cons_succ, List.set_nil, ↓reduceIte, Nat.reduceAdd, Nat.reduceSub, Nat.reduceEqDiff, Nat.reduceLeDiff, Int.reduceEq, Int.reduceNe, Int.reduceNeg, reduceCtorEq, kd190, kd193, ln193, z190_7 hz, hP, a2]
    rw [tm_nn b0]
    repeat (first | refine And.intro (by first | omega | exact not_false) ?_ | refine And.intro (rr (by omega)) ?_ | refine And.intro (r3 (by omega)) ?_ | refine And.intro (r6 (by omega)) ?_)
    exact hQ

/-- what the model has found of the code, for the functions K -/
def CoM {p : Int} (N : Mem) (f : Pz p) (K : List CdE) : Prop := N 190 35 = (K.length : Int) ∧ N 190 36 = ((ptl f p.toNat).length : Int) ∧ MxA N (ptl f p.toNat).length (clrs K) ∧ ∀ (i : Nat) (e : CdE), K[i]? = some e → ∀ j : Nat, j < (ptl f p.toNat).length → N 217 (26 * (i : Int) + (j : Int)) = e.2.1 j
theorem ok_cd : FZK [214, 217] [32, 35, 36] := fzk rfl rfl
set_option maxHeartbeats 16000000 in
theorem l_fcK {p : Int} {N : Mem} {Q : Post} {f : Pz p} {g k : Nat} {m : Int} {K : List CdE} (hG : MG f g N) (hPt : PtA N 192 193 (ptl f p.toNat)) (hp : Pr p) (hd : dg f = 4 ∨ dg f = 6) (hk : k ≤ 30) (ho : k % 2 = 1 → dg f - 1 ≤ k) (hK : K.length ≤ (ptl f p.toNat).length) (hC : CoM N f K) (hQ : ∀ N', FM [214, 217] [] N N' → CoM N' f K → (∀ j : Nat, j < (ptl f p.toNat).length → N' 217 (26 * (K.length : Int) + (j : Int)) = wdF f k j) → RwA N' ((ptl f p.toNat).length * K.length) (ptl f p.toNat).length (wdF f k) → ∀ j : Int, WP 227 (0, 0) 109 [(2, 190), (0, m), (0, (k : Int)), (0, j)] [] NN N' Q) :
    ∀ (n j : Nat) (Ni : Mem), j + n = (ptl f p.toNat).length → FM [214, 217] [] N Ni → CoM Ni f K → (∀ i : Nat, i < j → Ni 217 (26 * (K.length : Int) + (i : Int)) = wdF f k i) → (∀ i : Nat, i < j → Ni 214 ((((ptl f p.toNat).length * K.length : Nat) : Int) + (i : Int)) = wdF f k i) → WP 227 (0, 0) 43 [(2, 190), (0, m), (0, (k : Int)), (0, (j : Int))] [] NN Ni Q := by
  have hpp := hp.pos
  have h26 := ptl_26 hp f
  intro n
  induction n with
  | zero =>
    intro j Ni hj hF hCi h7 h4
    obtain rfl : j = (ptl f p.toNat).length := by omega
    refine WP.run [(227, 43), (227, 109)] [] 60 ?_
    simp only [bk227_0, bk227_22, bk227_27, bk227_33, bk227_41, bk227_43, bk227_51, bk227_109, bk227_135, bk227_139, bk227_140, bk227_144, bk227_150, U_aload_n, U_iconst, U_putfield, U_getfield, U_isub, U_istore_n, U_iload_n, U_icmp_gt, U_irem, U_if_eq, U_icmp_lt, U_icmp_ge, U_bipush, U_imul, U_iadd, U_invokevirtual2, U_iast, U_iald, U_iinc, U_goto, U_invokevirtual1, U_dup, U_icmp_le, U_return, UN_cc, UN_cn, UN_nc, UN_nn, UJ, lget, lset, lset2, entL, wsm, wcat, Option.toList_some, Option.toList_none, List.cons_append, List.nil_append, List.mem_cons, List.not_mem_nil, Prod.mk.injEq, or_false, false_or, or_true, true_or, and_true, true_and, and_false, false_and, and_self, ne_eq, not_false_eq_true, not_true_eq_false, forall_const, true_implies, false_implies, Nat.add_zero, Nat.zero_add, Nat.le_refl, Nat.zero_le, List.set_cons_zero, List.set_cons_succ, List.set_nil, ↓reduceIte, Nat.reduceAdd, Nat.reduceSub, Nat.reduceEqDiff, Nat.reduceLeDiff, Int.reduceEq, Int.reduceNe, Int.reduceNeg, reduceCtorEq, kd190, hCi.2.1]
    exact ⟨rr (by omega), fun e => absurd e (by omega), fun _ => hQ Ni hF hCi h7 h4 _⟩
  | succ n ih =>
    intro j Ni hj hF hCi h7 h4
    have G := hG.fm hF (fzk rfl rfl) (by decide) (by decide) (by simp) (by simp) (by simp) (by simp)
    have hP : PtA Ni 192 193 (ptl f p.toNat) := by unfold PtA; rw [hF.1 192 (by decide) (by decide), hF.1 193 (by decide) (by decide)]; exact hPt
    have hz := G.mt.1
    have hw := wdF_rg hp f k j
    have hWR : (((ptl f p.toNat).length : Nat) : Int) * (K.length : Int) = (((ptl f p.toNat).length * K.length : Nat) : Int) := (Int.natCast_mul _ _).symm
    have hWb : (ptl f p.toNat).length * K.length ≤ 26 * 26 := Nat.mul_le_mul h26 (by omega)
    have e32 : Ni 190 32 = (K.length : Int) := by have := hCi.2.2.1.1; rw [List.length_map] at this; exact this
    have nx : WP 227 (0, 0) 43 [(2, 190), (0, m), (0, (k : Int)), (0, ((j + 1 : Nat) : Int))] [] NN (ust (ust Ni 217 (26 * (K.length : Int) + (j : Int)) (wdF f k j)) 214 ((((ptl f p.toNat).length * K.length : Nat) : Int) + (j : Int)) (wdF f k j)) Q := by
      refine ih (j + 1) _ (by omega) ((hF.us _ _ (by simp) (by decide)).us _ _ (by simp) (by decide)) ?_ (fun i hi => ?_) (fun i hi => ?_)
      · obtain ⟨c1, c2, c3, c4⟩ := hCi
        refine ⟨by rw [ust_ne (by decide), ust_ne (by decide)]; exact c1, by rw [ust_ne (by decide), ust_ne (by decide)]; exact c2, ⟨by rw [ust_ne (by decide), ust_ne (by decide)]; exact c3.1, fun i r hr l hl => ?_⟩, fun i e he l hl => ?_⟩
        · have hi := (List.getElem?_eq_some_iff.mp hr).1
          rw [List.length_map] at hi
          have hwm := wmul (W := (ptl f p.toNat).length) hi
          rw [ust_at, if_neg (by omega), ust_ne (by decide)]
          exact c3.2 i r hr l hl
        · have hi := (List.getElem?_eq_some_iff.mp he).1
          rw [ust_ne (by decide), ust_at, if_neg (by omega)]
          exact c4 i e he l hl
      · rw [ust_ne (by decide), ust_at]
        by_cases c : i = j
        · rw [if_pos (by omega), c]
        · rw [if_neg (by omega)]; exact h7 i (by omega)
      · rw [ust_at]
        by_cases c : i = j
        · rw [if_pos (by omega), c]
        · rw [if_neg (by omega), ust_ne (by decide)]; exact h4 i (by omega)
    refine WP.run [(227, 43), (227, 109)] [] 90 ?_
    simp only [bk227_0, bk227_22, bk227_27, bk227_33, bk227_41, bk227_43, bk227_51, bk227_109, bk227_135, bk227_139, bk227_140, bk227_144, bk227_150, U_aload_n, U_iconst, U_putfield, U_getfield, U_isub, U_istore_n, U_iload_n, U_icmp_gt, U_irem, U_if_eq, U_icmp_lt, U_icmp_ge, U_bipush, U_imul, U_iadd, U_invokevirtual2, U_iast, U_iald, U_iinc, U_goto, U_invokevirtual1, U_dup, U_icmp_le, U_return, UN_cc, UN_cn, UN_nc, UN_nn, UJ, lget, lset, lset2, entL, wsm, wcat, Option.toList_some, Option.toList_none, List.cons_append, List.nil_append, List.mem_cons, List.not_mem_nil, Prod.mk.injEq, or_false, false_or, or_true, true_or, and_true, true_and, and_false, false_and, and_self, ne_eq, not_false_eq_true, not_true_eq_false, forall_const, true_implies, false_implies, Nat.add_zero, Nat.zero_add, Nat.le_refl, Nat.zero_le, List.set_cons_zero, List.set_cons_succ, List.set_nil, ↓reduceIte, Nat.reduceAdd, Nat.reduceSub, Nat.reduceEqDiff, Nat.reduceLeDiff, Int.reduceEq, Int.reduceNe, Int.reduceNeg, reduceCtorEq, kd190, hCi.1, hCi.2.1, z190_37 hz]
    refine ⟨rr (by omega), fun _ => ?_, fun e => absurd (by omega) e⟩
    refine m_functionAt G hP hp hd hk ho (by omega) ?_
    simp only [bk227_0, bk227_22, bk227_27, bk227_33, bk227_41, bk227_43, bk227_51, bk227_109, bk227_135, bk227_139, bk227_140, bk227_144, bk227_150, U_aload_n, U_iconst, U_putfield, U_getfield, U_isub, U_istore_n, U_iload_n, U_icmp_gt, U_irem, U_if_eq, U_icmp_lt, U_icmp_ge, U_bipush, U_imul, U_iadd, U_invokevirtual2, U_iast, U_iald, U_iinc, U_goto, U_invokevirtual1, U_dup, U_icmp_le, U_return, UN_cc, UN_cn, UN_nc, UN_nn, UJ, lget, lset, lset2, entL, wsm, wcat, Option.toList_some, Option.toList_none, List.cons_append, List.nil_append, List.mem_cons, List.not_mem_nil, Prod.mk.injEq, or_false, false_or, or_true, true_or, and_true, true_and, and_false, false_and, and_self, ne_eq, not_false_eq_true, not_true_eq_false, forall_const, true_implies, false_implies, Nat.add_zero, Nat.zero_add, Nat.le_refl, Nat.zero_le, List.set_cons_zero, List.set_cons_succ, List.set_nil, ↓reduceIte, Nat.reduceAdd, Nat.reduceSub, Nat.reduceEqDiff, Nat.reduceLeDiff, Int.reduceEq, Int.reduceNe, Int.reduceNeg, reduceCtorEq, kd190, kd214, kd217, ln214, ln217, ust_r, z190_31 hz, z190_37 hz, hCi.1, hCi.2.1, e32, hWR]
    repeat (first | refine And.intro (by first | omega | exact not_false) ?_ | refine And.intro (rr (by omega)) ?_ | refine And.intro (r3 (by omega)) ?_ | refine And.intro (r6 (by omega)) ?_)
    exact nx
set_option maxHeartbeats 16000000 in
theorem m_findCode {p : Int} {N : Mem} {Q : Post} {f : Pz p} {g m : Nat} (h : MG f g N) (hPt : PtA N 192 193 (ptl f p.toNat)) (hp : Pr p) (hd : dg f = 4 ∨ dg f = 6) (hm : m ≤ 30) (hQ : ∀ N', MG f g N' → FM [214, 217] [32, 35, 36] N N' → CoM N' f (cdL f (m + 1)) → Q none NN N') : CL 227 [(2, 190), (0, (m : Int)), (9, 0), (9, 0)] NN N Q := by
  have hpp := hp.pos
  have h26 := ptl_26 hp f
  have key : ∀ (n k : Nat) (j : V) (Ni : Mem), k + n = m + 1 → MG f g Ni → FM [214, 217] [32, 35, 36] N Ni → CoM Ni f (cdL f k) → WP 227 (0, 0) 22 [(2, 190), (0, (m : Int)), (0, (k : Int)), j] [] NN Ni Q := by
    intro n
    induction n with
    | zero =>
      intro k j Ni hk hG hF hC
      obtain rfl : k = m + 1 := by omega
      refine WP.run [(227, 22)] [] 60 ?_
      simp only [bk227_0, bk227_22, bk227_27, bk227_33, bk227_41, bk227_43, bk227_51, bk227_109, bk227_135, bk227_139, bk227_140, bk227_144, bk227_150, U_aload_n, U_iconst, U_putfield, U_getfield, U_isub, U_istore_n, U_iload_n, U_icmp_gt, U_irem, U_if_eq, U_icmp_lt, U_icmp_ge, U_bipush, U_imul, U_iadd, U_invokevirtual2, U_iast, U_iald, U_iinc, U_goto, U_invokevirtual1, U_dup, U_icmp_le, U_return, UN_cc, UN_cn, UN_nc, UN_nn, UJ, lget, lset, lset2, entL, wsm, wcat, Option.toList_some, Option.toList_none, List.cons_append, List.nil_append, List.mem_cons, List.not_mem_nil, Prod.mk.injEq, or_false, false_or, or_true, true_or, and_true, true_and, and_false, false_and, and_self, ne_eq, not_false_eq_true, not_true_eq_false, forall_const, true_implies, false_implies, Nat.add_zero, Nat.zero_add, Nat.le_refl, Nat.zero_le, List.set_cons_zero, List.set_cons_succ, List.set_nil, ↓reduceIte, Nat.reduceAdd, Nat.reduceSub, Nat.reduceEqDiff, Nat.reduceLeDiff, Int.reduceEq, Int.reduceNe, Int.reduceNeg, reduceCtorEq]
      exact ⟨rr (by omega), fun _ => hQ Ni hG hF hC, fun e => absurd (by omega) e⟩
    | succ n ih =>
      intro k j Ni hk hG hF hC
      have h1 := hG.2.1
      have hl := cdL_len hp f k
      have hech := cdL_ech hp f k
      have tm : (k : Int).tmod 2 = ((k % 2 : Nat) : Int) := by rw [tm_nn (by omega)]; omega
      have es := cdL_s f k
      by_cases c : k % 2 = 1 ∧ k < dg f - 1
      · rw [if_pos c] at es
        have nx := ih (k + 1) j Ni (by omega) hG hF (by rw [es]; exact hC)
        refine WP.run [(227, 22)] [] 60 ?_
        simp only [bk227_0, bk227_22, bk227_27, bk227_33, bk227_41, bk227_43, bk227_51, bk227_109, bk227_135, bk227_139, bk227_140, bk227_144, bk227_150, U_aload_n, U_iconst, U_putfield, U_getfield, U_isub, U_istore_n, U_iload_n, U_icmp_gt, U_irem, U_if_eq, U_icmp_lt, U_icmp_ge, U_bipush, U_imul, U_iadd, U_invokevirtual2, U_iast, U_iald, U_iinc, U_goto, U_invokevirtual1, U_dup, U_icmp_le, U_return, UN_cc, UN_cn, UN_nc, UN_nn, UJ, lget, lset, lset2, entL, wsm, wcat, Option.toList_some, Option.toList_none, List.cons_append, List.nil_append, List.mem_cons, List.not_mem_nil, Prod.mk.injEq, or_false, false_or, or_true, true_or, and_true, true_and, and_false, false_and, and_self, ne_eq, not_false_eq_true, not_true_eq_false, forall_const, true_implies, false_implies, Nat.add_zero, Nat.zero_add, Nat.le_refl, Nat.zero_le, List.set_cons_zero, List.set_cons_succ, List.set_nil, ↓reduceIte, Nat.reduceAdd, Nat.reduceSub, Nat.reduceEqDiff, Nat.reduceLeDiff, Int.reduceEq, Int.reduceNe, Int.reduceNeg, reduceCtorEq, kd190, h1, tm]
        exact ⟨rr (by omega), fun e => absurd e (by omega), fun _ => ⟨r3 (by omega), r3 (by omega), r3 (by omega), fun e => absurd e (by omega), fun _ => ⟨rr (by omega), fun _ => nx, fun e => absurd (by omega) e⟩⟩⟩
      · rw [if_neg c] at es
        have hPi : PtA Ni 192 193 (ptl f p.toNat) := by unfold PtA; rw [hF.1 192 (by decide) (by decide), hF.1 193 (by decide) (by decide)]; exact hPt
        have I := l_fcK (p := p) (N := Ni) (Q := Q) (f := f) (g := g) (k := k) (m := (m : Int)) (K := cdL f k) hG hPi hp hd (by omega) (by omega) hl hC (fun N1 F1 C1 r1 r2 j => ?_) (ptl f p.toNat).length 0 Ni (by omega) (FM.rf _ _ _) hC (fun i hi => by omega) (fun i hi => by omega)
        · refine WP.run [(227, 22), (227, 43)] [] 60 ?_
          simp only [bk227_0, bk227_22, bk227_27, bk227_33, bk227_41, bk227_43, bk227_51, bk227_109, bk227_135, bk227_139, bk227_140, bk227_144, bk227_150, U_aload_n, U_iconst, U_putfield, U_getfield, U_isub, U_istore_n, U_iload_n, U_icmp_gt, U_irem, U_if_eq, U_icmp_lt, U_icmp_ge, U_bipush, U_imul, U_iadd, U_invokevirtual2, U_iast, U_iald, U_iinc, U_goto, U_invokevirtual1, U_dup, U_icmp_le, U_return, UN_cc, UN_cn, UN_nc, UN_nn, UJ, lget, lset, lset2, entL, wsm, wcat, Option.toList_some, Option.toList_none, List.cons_append, List.nil_append, List.mem_cons, List.not_mem_nil, Prod.mk.injEq, or_false, false_or, or_true, true_or, and_true, true_and, and_false, false_and, and_self, ne_eq, not_false_eq_true, not_true_eq_false, forall_const, true_implies, false_implies, Nat.add_zero, Nat.zero_add, Nat.le_refl, Nat.zero_le, List.set_cons_zero, List.set_cons_succ, List.set_nil, ↓reduceIte, Nat.reduceAdd, Nat.reduceSub, Nat.reduceEqDiff, Nat.reduceLeDiff, Int.reduceEq, Int.reduceNe, Int.reduceNeg, reduceCtorEq, kd190, h1, tm]
          by_cases c2 : k % 2 = 0
          · refine ⟨rr (by omega), fun e => absurd e (by omega), fun _ => ⟨r3 (by omega), r3 (by omega), r3 (by omega), fun _ => I, fun e => absurd (by omega) e⟩⟩
          · refine ⟨rr (by omega), fun e => absurd e (by omega), fun _ => ⟨r3 (by omega), r3 (by omega), r3 (by omega), fun e => absurd e (by omega), fun _ => ⟨rr (by omega), fun e => absurd e (by omega), fun _ => I⟩⟩⟩
        · have G1 := hG.fm F1 (fzk rfl rfl) (by decide) (by decide) (by simp) (by simp) (by simp) (by simp)
          have hWb : (ptl f p.toNat).length * (cdL f k).length ≤ 26 * 26 := Nat.mul_le_mul h26 (by omega)
          obtain ⟨q1, q2, q3, q4⟩ := C1
          have e32 : N1 190 32 = ((cdL f k).length : Int) := by have := q3.1; rw [List.length_map] at this; exact this
          have lm : (clrs (cdL f k)).length = (cdL f k).length := List.length_map ..
          refine WP.run [(227, 22)] [] 60 ?_
          simp only [bk227_0, bk227_22, bk227_27, bk227_33, bk227_41, bk227_43, bk227_51, bk227_109, bk227_135, bk227_139, bk227_140, bk227_144, bk227_150, U_aload_n, U_iconst, U_putfield, U_getfield, U_isub, U_istore_n, U_iload_n, U_icmp_gt, U_irem, U_if_eq, U_icmp_lt, U_icmp_ge, U_bipush, U_imul, U_iadd, U_invokevirtual2, U_iast, U_iald, U_iinc, U_goto, U_invokevirtual1, U_dup, U_icmp_le, U_return, UN_cc, UN_cn, UN_nc, UN_nn, UJ, lget, lset, lset2, entL, wsm, wcat, Option.toList_some, Option.toList_none, List.cons_append, List.nil_append, List.mem_cons, List.not_mem_nil, Prod.mk.injEq, or_false, false_or, or_true, true_or, and_true, true_and, and_false, false_and, and_self, ne_eq, not_false_eq_true, not_true_eq_false, forall_const, true_implies, false_implies, Nat.add_zero, Nat.zero_add, Nat.le_refl, Nat.zero_le, List.set_cons_zero, List.set_cons_succ, List.set_nil, ↓reduceIte, Nat.reduceAdd, Nat.reduceSub, Nat.reduceEqDiff, Nat.reduceLeDiff, Int.reduceEq, Int.reduceNe, Int.reduceNeg, reduceCtorEq, kd190, q2, e32]
          refine m_condition (R := clrs (cdL f k)) (v := wdF f k) hp G1.mt.1 G1.mt.2 (by omega) (by rw [lm]; omega) hech (wdF_rg hp f k) q3 (by rw [lm]; exact r2) fun N2 F2 X2 => ?_
          have e35 : N2 190 35 = ((cdL f k).length : Int) := by rw [F2.2 35 (by decide)]; exact q1
          have e36 : N2 190 36 = ((ptl f p.toNat).length : Int) := by rw [F2.2 36 (by decide)]; exact q2
          have w7 : N2 217 = N1 217 := F2.1 217 (by decide) (by decide)
          have G2 := G1.fm F2 ok_mx (by decide) (by decide) (by decide) (by decide) (by decide) (by decide)
          have FF : FM [214, 217] [32, 35, 36] N N2 := hF.tr ((F1.mo rfl rfl).tr (F2.mo rfl rfl))
          have X32 := X2.1
          simp only [bk227_0, bk227_22, bk227_27, bk227_33, bk227_41, bk227_43, bk227_51, bk227_109, bk227_135, bk227_139, bk227_140, bk227_144, bk227_150, U_aload_n, U_iconst, U_putfield, U_getfield, U_isub, U_istore_n, U_iload_n, U_icmp_gt, U_irem, U_if_eq, U_icmp_lt, U_icmp_ge, U_bipush, U_imul, U_iadd, U_invokevirtual2, U_iast, U_iald, U_iinc, U_goto, U_invokevirtual1, U_dup, U_icmp_le, U_return, UN_cc, UN_cn, UN_nc, UN_nn, UJ, lget, lset, lset2, entL, wsm, wcat, Option.toList_some, Option.toList_none, List.cons_append, List.nil_append, List.mem_cons, List.not_mem_nil, Prod.mk.injEq, or_false, false_or, or_true, true_or, and_true, true_and, and_false, false_and, and_self, ne_eq, not_false_eq_true, not_true_eq_false, forall_const, true_implies, false_implies, Nat.add_zero, Nat.zero_add, Nat.le_refl, Nat.zero_le, List.set_cons_zero, List.set_cons_succ, List.set_nil, ↓reduceIte, Nat.reduceAdd, Nat.reduceSub, Nat.reduceEqDiff, Nat.reduceLeDiff, Int.reduceEq, Int.reduceNe, Int.reduceNeg, reduceCtorEq, kd190, e35, X32]
          have ee : ech1 p (ptl f p.toNat).length (clrs (cdL f k)) (wdF f k) = if ld (rdA p (ptl f p.toNat).length (clrs (cdL f k)) (wdF f k)) (ptl f p.toNat).length < (ptl f p.toNat).length then clrs (cdL f k) ++ [nrm p (ptl f p.toNat).length (rdA p (ptl f p.toNat).length (clrs (cdL f k)) (wdF f k))] else clrs (cdL f k) := rfl
          by_cases w : ld (rdA p (ptl f p.toNat).length (clrs (cdL f k)) (wdF f k)) (ptl f p.toNat).length < (ptl f p.toNat).length
          · rw [if_pos w] at ee es
            rw [ee] at X2
            have el : ((ech1 p (ptl f p.toNat).length (clrs (cdL f k)) (wdF f k)).length : Int) = ((cdL f k).length : Int) + 1 := by rw [ee, List.length_append, lm]; rfl
            rw [el]
            have F3 : FM [] [35] N2 (ust N2 190 35 (((cdL f k).length : Int) + 1)) := (FM.rf _ _ _).uf _ (by simp)
            refine ⟨rr (by omega), fun _ => ?_, fun e => absurd (by omega) e⟩
            repeat (first | refine And.intro (by first | omega | exact not_false) ?_ | refine And.intro (rr (by omega)) ?_ | refine And.intro (r3 (by omega)) ?_ | refine And.intro (r6 (by omega)) ?_)
            refine ih (k + 1) _ _ (by omega) (G2.fm F3 (fzk rfl rfl) (by simp) (by simp) (by decide) (by decide) (by decide) (by decide)) (FF.tr (F3.mo rfl rfl)) ?_
            rw [es]
            refine ⟨by rw [ust_at, if_pos rfl, List.length_append]; rfl, by rw [ust_at, if_neg (by decide)]; exact e36, ?_, fun i e he j hj => ?_⟩
            · have : clrs (cdL f k ++ [(k, wdF f k, nrm p (ptl f p.toNat).length (rdA p (ptl f p.toNat).length (clrs (cdL f k)) (wdF f k)))]) = clrs (cdL f k) ++ [nrm p (ptl f p.toNat).length (rdA p (ptl f p.toNat).length (clrs (cdL f k)) (wdF f k))] := List.map_append
              rw [this]
              exact ⟨by rw [ust_at, if_neg (by decide)]; exact X2.1, fun i r hr j hj => by rw [ust_ne (by decide)]; exact X2.2 i r hr j hj⟩
            · rw [ust_ne (by decide), w7]
              by_cases hi : i < (cdL f k).length
              · rw [List.getElem?_append_left hi] at he
                exact q4 i e he j hj
              · rw [List.getElem?_append_right (by omega)] at he
                have hi2 : i - (cdL f k).length < 1 := by
                  have := (List.getElem?_eq_some_iff.mp he).1
                  simpa using this
                obtain rfl : i = (cdL f k).length := by omega
                rw [Nat.sub_self] at he
                have he2 : (k, wdF f k, nrm p (ptl f p.toNat).length (rdA p (ptl f p.toNat).length (clrs (cdL f k)) (wdF f k))) = e := by simpa using he
                rw [← he2]
                exact r1 j hj
          · rw [if_neg w] at ee es
            rw [ee] at X2
            have el : ((ech1 p (ptl f p.toNat).length (clrs (cdL f k)) (wdF f k)).length : Int) = ((cdL f k).length : Int) := by rw [ee, lm]
            rw [el]
            have e0 : ust N2 190 35 (((cdL f k).length : Int) + 0) = N2 := by
              funext a i
              rw [ust_r]
              split
              · rename_i q; rw [q.1, q.2, e35, Int.add_zero]
              · rfl
            refine ⟨rr (by omega), fun e => absurd e (by omega), fun _ => ?_⟩
            repeat (first | refine And.intro (by first | omega | exact not_false) ?_ | refine And.intro (rr (by omega)) ?_ | refine And.intro (r3 (by omega)) ?_ | refine And.intro (r6 (by omega)) ?_)
            rw [e0]
            refine ih (k + 1) _ _ (by omega) G2 FF ?_
            rw [es]
            exact ⟨e35, e36, X2, fun i e he j hj => by rw [w7]; exact q4 i e he j hj⟩
  have F0 : FM [214, 217] [32, 35, 36] N (ust (ust (ust N 190 35 0) 190 36 ((ptl f p.toNat).length : Int)) 190 32 0) := (((FM.rf _ _ _).uf _ (by simp)).uf _ (by simp)).uf _ (by simp)
  have G0 := h.fm F0 ok_cd (by decide) (by decide) (by decide) (by decide) (by decide) (by decide)
  have h5 := h.2.2.2
  have e5 : ((ptl f p.toNat).length : Int) + 1 - 1 = (ptl f p.toNat).length := by omega
  refine WP.run [(227, 22)] [] 60 ?_
  simp only [bk227_0, bk227_22, bk227_27, bk227_33, bk227_41, bk227_43, bk227_51, bk227_109, bk227_135, bk227_139, bk227_140, bk227_144, bk227_150, U_aload_n, U_iconst, U_putfield, U_getfield, U_isub, U_istore_n, U_iload_n, U_icmp_gt, U_irem, U_if_eq, U_icmp_lt, U_icmp_ge, U_bipush, U_imul, U_iadd, U_invokevirtual2, U_iast, U_iald, U_iinc, U_goto, U_invokevirtual1, U_dup, U_icmp_le, U_return, UN_cc, UN_cn, UN_nc, UN_nn, UJ, lget, lset, lset2, entL, wsm, wcat, Option.toList_some, Option.toList_none, List.cons_append, List.nil_append, List.mem_cons, List.not_mem_nil, Prod.mk.injEq, or_false, false_or, or_true, true_or, and_true, true_and, and_false, false_and, and_self, ne_eq, not_false_eq_true, not_true_eq_false, forall_const, true_implies, false_implies, Nat.add_zero, Nat.zero_add, Nat.le_refl, Nat.zero_le, List.set_cons_zero, List.set_cons_succ, List.set_nil, ↓reduceIte, Nat.reduceAdd, Nat.reduceSub, Nat.reduceEqDiff, Nat.reduceLeDiff, Int.reduceEq, Int.reduceNe, Int.reduceNeg, reduceCtorEq, kd190, ust_r, h5, Int.reduceEq, and_false, ↓reduceIte, e5]
  refine key (m + 1) 0 _ _ (by omega) G0 F0 ⟨by simp [ust_r]; rfl, by simp [ust_r], ⟨by simp [ust_r]; rfl, fun i r hr => by cases hr⟩, fun i e he => by cases he⟩
