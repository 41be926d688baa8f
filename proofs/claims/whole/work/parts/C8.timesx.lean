/-! ROWS OF THE MODEL'S CONDITIONS: powers of the series -/
theorem isum_md {p : Int} {F G : Nat → Int} : ∀ n, (∀ i, i < n → F i % p = G i % p) → isum F n % p = isum G n % p
  | 0, _ => rfl
  | n + 1, h => md_add (isum_md n (fun i hi => h i (by omega))) (h n (by omega))
theorem cv_isum (b : Nat → Int) (P : Nat → Nat → Int) (Y : Nat → Int) (t : Nat) : ∀ n, cv (fun k => isum (fun i => b i * P i k) n) Y t = isum (fun i => b i * cv (P i) Y t) n
  | 0 => cv_zero_l t _ _ (fun _ => rfl)
  | n + 1 => by
    show cv (fun k => isum (fun i => b i * P i k) n + (fun k => b n * P n k) k) Y t = isum (fun i => b i * cv (P i) Y t) n + b n * cv (P n) Y t
    rw [cv_add_l, cv_isum b P Y t n, cv_smul_l]
def exR (p : Int) (X : Nat → Int) (Y : Nat → Int) (n1 : Nat) (n : Nat) : Nat → Int := if n < n1 then xrw p X (cs 1) n else xrw p X Y (n - n1)
def rwT (p : Int) (X Y : Nat → Int) (n1 W t : Nat) : Nat → Int := fun n => if n < W then exR p X Y n1 n t else 0
theorem xrw_rg {p : Int} (hp : Pr p) {X r0 : Nat → Int} (h : ∀ k, 0 ≤ r0 k ∧ r0 k < p) : ∀ n k, 0 ≤ xrw p X r0 n k ∧ xrw p X r0 n k < p
  | 0, k => h k
  | n + 1, k => by have := hp.pos; exact ⟨Int.emod_nonneg _ (by omega), Int.emod_lt_of_pos _ (by omega)⟩
theorem cs1_rg {p : Int} (hp : Pr p) (k : Nat) : 0 ≤ cs 1 k ∧ cs 1 k < p := by have := hp.pos; unfold cs; split <;> omega
theorem Sz.rg {p : Int} (hp : Pr p) (Y : Sz p) (k : Nat) : 0 ≤ Y.1 k ∧ Y.1 k < p := hp.lt (Y.2 k)
theorem exR_rg {p : Int} (hp : Pr p) (X : Nat → Int) (Y : Sz p) (n1 n k : Nat) : 0 ≤ exR p X Y.1 n1 n k ∧ exR p X Y.1 n1 n k < p := by
  unfold exR
  split
  · exact xrw_rg hp (cs1_rg hp) _ _
  · exact xrw_rg hp (Y.rg hp) _ _
theorem rwT_rg {p : Int} (hp : Pr p) (X : Nat → Int) (Y : Sz p) (n1 W t : Nat) : RgV p (rwT p X Y.1 n1 W t) := fun j => by
  have := hp.pos
  unfold rwT
  split
  · exact exR_rg hp X Y n1 _ _
  · omega
theorem dt_psi {p : Int} (hp : Pr p) {f : Pz p} (X : Nat → Int) (Y : Sz p) (n1 n2 t : Nat) {w : Nat → Int} (hw : VcP p (n1 + n2) w) : dt (n1 + n2) (rwT p X Y.1 n1 (n1 + n2) t) w % p = (psi (f := f) X Y (vcA n1 w, vcB n1 n2 w)).1 t := by
  have wn : ∀ j, w j % p = w j := fun j => hp.of (hw.2 j).1 (hw.2 j).2
  have eA : isum (fun j => rwT p X Y.1 n1 (n1 + n2) t j * w j) n1 % p = (sv X (vcA n1 w : Pz p)).1 t := by
    rw [sv_n X _ (n := n1) (vcA_dg n1 w), hev_sum]
    refine isum_md n1 (fun i hi => ?_)
    unfold rwT exR
    rw [if_pos (by omega), if_pos hi, vcA_c, if_pos hi, wn, Int.mul_comm (w i)]
    refine md_mul ?_ rfl
    rw [xrw_XP, cv_comm, cv_cs, Int.one_mul]
  have eB : isum (fun j => rwT p X Y.1 n1 (n1 + n2) t (n1 + j) * w (n1 + j)) n2 % p = (smul (sv X (vcB n1 n2 w : Pz p)) Y).1 t := by
    rw [smul_c, cv_md t p (sv X (vcB n1 n2 w : Pz p)).1 (fun k => isum (fun i => (vcB n1 n2 w : Pz p).1 i * XP X i k) n2) Y.1 Y.1 (fun i => by rw [Sz.nm, sv_n X _ (n := n2) (vcB_dg n1 n2 w), hev_sum]) (fun _ => rfl), cv_isum]
    refine isum_md n2 (fun i hi => ?_)
    unfold rwT exR
    rw [if_pos (by omega), if_neg (by omega), vcB_c, if_pos hi, wn, Int.mul_comm (w (n1 + i)), show n1 + i - n1 = i by omega]
    exact md_mul (xrw_XP p X Y.1 i t) rfl
  show isum (fun j => rwT p X Y.1 n1 (n1 + n2) t j * w j) (n1 + n2) % p = ((sv X (vcA n1 w : Pz p)).1 t + (smul (sv X (vcB n1 n2 w : Pz p)) Y).1 t) % p
  rw [isum_cat, ← eA, ← eB]
  exact (md_add (md_md _ _) (md_md _ _)).symm
/-- the places of one row of powers -/
def RwX (N : Mem) (n : Nat) (r : Nat → Int) : Prop := ∀ k : Nat, k < 8 → N 213 (((8 * n : Nat) : Int) + (k : Int)) = r k
set_option maxHeartbeats 16000000 in
theorem l_tx1 {p : Int} {N : Mem} {Q : Post} {to fr k : Nat} {r X : Nat → Int} (hp : Pr p) (hz : Fz N) (hk : k < 8) (hf : fr < 240) (hr : RwX N fr r) (hrr : ∀ k, 0 ≤ r k ∧ r k < p) (hX : ∀ k : Nat, k < 8 → N 209 (k : Int) = X k ∧ 0 ≤ X k ∧ X k < p) (hQ : ∀ e : V, WP 220 (0, 0) 53 [(2, 190), (0, (to : Int)), (0, (fr : Int)), (0, (k : Int)), (0, cv r X k), e] [] NN N Q) :
    ∀ (n i : Nat), i + n = k + 1 → WP 220 (0, 0) 14 [(2, 190), (0, (to : Int)), (0, (fr : Int)), (0, (k : Int)), (0, isum (fun i => r i * X (k - i)) i), (0, (i : Int))] [] NN N Q := by
  have hpp := hp.pos
  have sb : ∀ i, i ≤ k + 1 → 0 ≤ isum (fun i => r i * X (k - i)) i ∧ isum (fun i => r i * X (k - i)) i ≤ i * 169 := fun i => by
    induction i with
    | zero => intro _; exact ⟨Int.le_refl _, by show (0 : Int) ≤ 0 * 169; omega⟩
    | succ i ih =>
      intro hi
      have a := ih (by omega)
      have r1 := hrr i
      have r2 := hX (k - i) (by omega)
      have b := mb (x := r i) (y := X (k - i)) (by omega) (by omega)
      show 0 ≤ isum (fun i => r i * X (k - i)) i + r i * X (k - i) ∧ isum (fun i => r i * X (k - i)) i + r i * X (k - i) ≤ _
      omega
  intro n
  induction n with
  | zero =>
    intro i hi
    obtain rfl : i = k + 1 := by omega
    have nx := hQ (0, ((k + 1 : Nat) : Int))
    rw [cv_is] at nx
    refine WP.run [(220, 14), (220, 53)] [] 60 ?_
    simp only [bk220_0, bk220_2, bk220_8, bk220_14, bk220_20, bk220_53, bk220_72, bk220_74, bk220_80, bk220_103, U_iconst, U_istore_n, U_iload_n, U_bipush, U_icmp_ge, U_istore, U_iload, U_icmp_gt, U_aload_n, U_getfield, U_imul, U_iadd, U_iald, U_isub, U_iinc, U_goto, U_irem, U_iast, U_return, UN_cc, UN_cn, UN_nc, UN_nn, UJ, lget, lset, lset2, entL, wsm, wcat, Option.toList_some, Option.toList_none, List.cons_append, List.nil_append, List.mem_cons, List.not_mem_nil, Prod.mk.injEq, or_false, false_or, or_true, true_or, and_true, true_and, and_false, false_and, and_self, ne_eq, not_false_eq_true, not_true_eq_false, forall_const, true_implies, false_implies, Nat.add_zero, Nat.zero_add, Nat.le_refl, Nat.zero_le, List.set_cons_zero, List.set_cons_succ, List.set_nil, ↓reduceIte, Nat.reduceAdd, Nat.reduceSub, Nat.reduceEqDiff, Nat.reduceLeDiff, Int.reduceEq, Int.reduceNe, Int.reduceNeg, reduceCtorEq]
    repeat' (first | refine And.intro (by omega) ?_ | refine And.intro (rr (by omega)) ?_ | refine And.intro (r3 (by omega)) ?_ | refine And.intro (r6 (by omega)) ?_ | ((fail_if_success (show WP _ _ _ _ _ _ _ _)); (first | refine And.intro ?_ ?_ | intro _)))
    all_goals first | (exfalso; omega) | exact nx
  | succ n ih =>
    intro i hi
    have v1 := hr i (by omega)
    have v2 := (hX (k - i) (by omega)).1
    rw [show ((k - i : Nat) : Int) = (k : Int) - (i : Int) by omega] at v2
    have r1 := hrr i
    have r2 := (hX (k - i) (by omega)).2
    have b := mb (x := r i) (y := X (k - i)) (by omega) (by omega)
    have s := sb i (by omega)
    have nx : WP 220 (0, 0) 14 [(2, 190), (0, (to : Int)), (0, (fr : Int)), (0, (k : Int)), (0, isum (fun i => r i * X (k - i)) i + r i * X (k - i)), (0, ((i + 1 : Nat) : Int))] [] NN N Q := ih (i + 1) (by omega)
    have e8 : (8 : Int) * (fr : Int) = ((8 * fr : Nat) : Int) := by omega
    refine WP.run [(220, 14), (220, 53)] [] 60 ?_
    simp only [bk220_0, bk220_2, bk220_8, bk220_14, bk220_20, bk220_53, bk220_72, bk220_74, bk220_80, bk220_103, U_iconst, U_istore_n, U_iload_n, U_bipush, U_icmp_ge, U_istore, U_iload, U_icmp_gt, U_aload_n, U_getfield, U_imul, U_iadd, U_iald, U_isub, U_iinc, U_goto, U_irem, U_iast, U_return, UN_cc, UN_cn, UN_nc, UN_nn, UJ, lget, lset, lset2, entL, wsm, wcat, Option.toList_some, Option.toList_none, List.cons_append, List.nil_append, List.mem_cons, List.not_mem_nil, Prod.mk.injEq, or_false, false_or, or_true, true_or, and_true, true_and, and_false, false_and, and_self, ne_eq, not_false_eq_true, not_true_eq_false, forall_const, true_implies, false_implies, Nat.add_zero, Nat.zero_add, Nat.le_refl, Nat.zero_le, List.set_cons_zero, List.set_cons_succ, List.set_nil, ↓reduceIte, Nat.reduceAdd, Nat.reduceSub, Nat.reduceEqDiff, Nat.reduceLeDiff, Int.reduceEq, Int.reduceNe, Int.reduceNeg, reduceCtorEq, kd190, kd209, kd213, ln209, ln213, z190_26 hz, z190_30 hz, e8, v1, v2]
    repeat' (first | refine And.intro (by omega) ?_ | refine And.intro (rr (by omega)) ?_ | refine And.intro (r3 (by omega)) ?_ | refine And.intro (r6 (by omega)) ?_ | ((fail_if_success (show WP _ _ _ _ _ _ _ _)); (first | refine And.intro ?_ ?_ | intro _)))
    all_goals first | (exfalso; omega) | exact nx
set_option maxHeartbeats 16000000 in
theorem m_timesX {p : Int} {N : Mem} {Q : Post} {to fr : Nat} {r X : Nat → Int} (hp : Pr p) (hz : Fz N) (h0 : N 190 0 = p) (hf : fr < 240) (ht : to < 240) (hr : RwX N fr r) (hrr : ∀ k, 0 ≤ r k ∧ r k < p) (hX : ∀ k : Nat, k < 8 → N 209 (k : Int) = X k ∧ 0 ≤ X k ∧ X k < p)
    (hQ : ∀ N', FM [212, 213] [] N N' → RwX N' to (fun k => cv r X k % p) → (∀ n, n ≠ to → ∀ k : Nat, k < 8 → N' 213 (((8 * n : Nat) : Int) + (k : Int)) = N 213 (((8 * n : Nat) : Int) + (k : Int))) → Q none NN N') : CL 220 [(2, 190), (0, (to : Int)), (0, (fr : Int)), (9, 0), (9, 0), (9, 0)] NN N Q := by
  have hpp := hp.pos
  have cb : ∀ k, k < 8 → 0 ≤ cv r X k ∧ cv r X k ≤ 8 * 169 := fun k hk => by
    rw [cv_is]
    have sb : ∀ i, i ≤ k + 1 → 0 ≤ isum (fun i => r i * X (k - i)) i ∧ isum (fun i => r i * X (k - i)) i ≤ i * 169 := fun i => by
      induction i with
      | zero => intro _; exact ⟨Int.le_refl _, by show (0 : Int) ≤ 0 * 169; omega⟩
      | succ i ih =>
        intro hi
        have a := ih (by omega)
        have r1 := hrr i
        have r2 := hX (k - i) (by omega)
        have b := mb (x := r i) (y := X (k - i)) (by omega) (by omega)
        show 0 ≤ isum (fun i => r i * X (k - i)) i + r i * X (k - i) ∧ isum (fun i => r i * X (k - i)) i + r i * X (k - i) ≤ _
        omega
    have := sb (k + 1) (Nat.le_refl _)
    omega
  have l2 : ∀ (n k : Nat) (d e : V) (Ni : Mem), k + n = 8 → FM [212, 213] [] N Ni → (∀ l : Nat, l < 8 → Ni 212 (l : Int) = cv r X l % p) → (∀ l : Nat, l < k → Ni 213 (((8 * to : Nat) : Int) + (l : Int)) = cv r X l % p) → (∀ n, n ≠ to → ∀ k : Nat, k < 8 → Ni 213 (((8 * n : Nat) : Int) + (k : Int)) = N 213 (((8 * n : Nat) : Int) + (k : Int))) → WP 220 (0, 0) 74 [(2, 190), (0, (to : Int)), (0, (fr : Int)), (0, (k : Int)), d, e] [] NN Ni Q := by
    intro n
    induction n with
    | zero =>
      intro k d e Ni hk hF hA hB hC
      obtain rfl : k = 8 := by omega
      have nx := hQ Ni hF hB hC
      refine WP.run [(220, 74)] [] 60 ?_
      simp only [bk220_0, bk220_2, bk220_8, bk220_14, bk220_20, bk220_53, bk220_72, bk220_74, bk220_80, bk220_103, U_iconst, U_istore_n, U_iload_n, U_bipush, U_icmp_ge, U_istore, U_iload, U_icmp_gt, U_aload_n, U_getfield, U_imul, U_iadd, U_iald, U_isub, U_iinc, U_goto, U_irem, U_iast, U_return, UN_cc, UN_cn, UN_nc, UN_nn, UJ, lget, lset, lset2, entL, wsm, wcat, Option.toList_some, Option.toList_none, List.cons_append, List.nil_append, List.mem_cons, List.not_mem_nil, Prod.mk.injEq, or_false, false_or, or_true, true_or, and_true, true_and, and_false, false_and, and_self, ne_eq, not_false_eq_true, not_true_eq_false, forall_const, true_implies, false_implies, Nat.add_zero, Nat.zero_add, Nat.le_refl, Nat.zero_le, List.set_cons_zero, List.set_cons_succ, List.set_nil, ↓reduceIte, Nat.reduceAdd, Nat.reduceSub, Nat.reduceEqDiff, Nat.reduceLeDiff, Int.reduceEq, Int.reduceNe, Int.reduceNeg, reduceCtorEq]
      repeat' (first | refine And.intro (by omega) ?_ | refine And.intro (rr (by omega)) ?_ | refine And.intro (r3 (by omega)) ?_ | refine And.intro (r6 (by omega)) ?_ | ((fail_if_success (show WP _ _ _ _ _ _ _ _)); (first | refine And.intro ?_ ?_ | intro _)))
      all_goals first | (exfalso; omega) | exact nx
    | succ n ih =>
      intro k d e Ni hk hF hA hB hC
      have hz' := hF.fz (fzk rfl rfl) hz
      have v := hA k (by omega)
      have e8 : (8 : Int) * (to : Int) = ((8 * to : Nat) : Int) := by omega
      have nx : WP 220 (0, 0) 74 [(2, 190), (0, (to : Int)), (0, (fr : Int)), (0, ((k + 1 : Nat) : Int)), d, e] [] NN (ust Ni 213 (((8 * to : Nat) : Int) + (k : Int)) (cv r X k % p)) Q := by
        refine ih (k + 1) d e _ (by omega) (hF.us _ _ (by simp) (by decide)) (fun l hl => by rw [ust_ne (show (212 : Int) ≠ 213 by decide)]; exact hA l hl) (fun l hl => ?_) (fun m hm l hl => ?_)
        · rw [ust_at]
          by_cases q : l = k
          · rw [if_pos (by omega), q]
          · rw [if_neg (by omega)]; exact hB l (by omega)
        · rw [ust_at, if_neg (by omega)]; exact hC m hm l hl
      refine WP.run [(220, 74)] [] 60 ?_
      simp only [bk220_0, bk220_2, bk220_8, bk220_14, bk220_20, bk220_53, bk220_72, bk220_74, bk220_80, bk220_103, U_iconst, U_istore_n, U_iload_n, U_bipush, U_icmp_ge, U_istore, U_iload, U_icmp_gt, U_aload_n, U_getfield, U_imul, U_iadd, U_iald, U_isub, U_iinc, U_goto, U_irem, U_iast, U_return, UN_cc, UN_cn, UN_nc, UN_nn, UJ, lget, lset, lset2, entL, wsm, wcat, Option.toList_some, Option.toList_none, List.cons_append, List.nil_append, List.mem_cons, List.not_mem_nil, Prod.mk.injEq, or_false, false_or, or_true, true_or, and_true, true_and, and_false, false_and, and_self, ne_eq, not_false_eq_true, not_true_eq_false, forall_const, true_implies, false_implies, Nat.add_zero, Nat.zero_add, Nat.le_refl, Nat.zero_le, List.set_cons_zero, List.set_cons_succ, List.set_nil, ↓reduceIte, Nat.reduceAdd, Nat.reduceSub, Nat.reduceEqDiff, Nat.reduceLeDiff, Int.reduceEq, Int.reduceNe, Int.reduceNeg, reduceCtorEq, kd190, kd212, kd213, ln212, ln213, z190_29 hz', z190_30 hz', e8, v]
      repeat' (first | refine And.intro (by omega) ?_ | refine And.intro (rr (by omega)) ?_ | refine And.intro (r3 (by omega)) ?_ | refine And.intro (r6 (by omega)) ?_ | ((fail_if_success (show WP _ _ _ _ _ _ _ _)); (first | refine And.intro ?_ ?_ | intro _)))
      all_goals first | (exfalso; omega) | exact nx
  have l1 : ∀ (n k : Nat) (d e : V) (Ni : Mem), k + n = 8 → FM [212] [] N Ni → (∀ l : Nat, l < k → Ni 212 (l : Int) = cv r X l % p) → WP 220 (0, 0) 2 [(2, 190), (0, (to : Int)), (0, (fr : Int)), (0, (k : Int)), d, e] [] NN Ni Q := by
    intro n
    induction n with
    | zero =>
      intro k d e Ni hk hF hA
      obtain rfl : k = 8 := by omega
      have nx : WP 220 (0, 0) 74 [(2, 190), (0, (to : Int)), (0, (fr : Int)), (0, ((0 : Nat) : Int)), d, e] [] NN Ni Q := l2 8 0 d e Ni (by omega) (hF.mo rfl rfl) hA (fun l hl => absurd hl (Nat.not_lt_zero l)) (fun m hm l hl => by rw [hF.1 213 (by decide) (by decide)])
      refine WP.run [(220, 2), (220, 74)] [] 60 ?_
      simp only [bk220_0, bk220_2, bk220_8, bk220_14, bk220_20, bk220_53, bk220_72, bk220_74, bk220_80, bk220_103, U_iconst, U_istore_n, U_iload_n, U_bipush, U_icmp_ge, U_istore, U_iload, U_icmp_gt, U_aload_n, U_getfield, U_imul, U_iadd, U_iald, U_isub, U_iinc, U_goto, U_irem, U_iast, U_return, UN_cc, UN_cn, UN_nc, UN_nn, UJ, lget, lset, lset2, entL, wsm, wcat, Option.toList_some, Option.toList_none, List.cons_append, List.nil_append, List.mem_cons, List.not_mem_nil, Prod.mk.injEq, or_false, false_or, or_true, true_or, and_true, true_and, and_false, false_and, and_self, ne_eq, not_false_eq_true, not_true_eq_false, forall_const, true_implies, false_implies, Nat.add_zero, Nat.zero_add, Nat.le_refl, Nat.zero_le, List.set_cons_zero, List.set_cons_succ, List.set_nil, ↓reduceIte, Nat.reduceAdd, Nat.reduceSub, Nat.reduceEqDiff, Nat.reduceLeDiff, Int.reduceEq, Int.reduceNe, Int.reduceNeg, reduceCtorEq]
      repeat' (first | refine And.intro (by omega) ?_ | refine And.intro (rr (by omega)) ?_ | refine And.intro (r3 (by omega)) ?_ | refine And.intro (r6 (by omega)) ?_ | ((fail_if_success (show WP _ _ _ _ _ _ _ _)); (first | refine And.intro ?_ ?_ | intro _)))
      all_goals first | (exfalso; omega) | exact nx
    | succ n ih =>
      intro k d e Ni hk hF hA
      have hz' := hF.fz (fzk rfl rfl) hz
      have hP := hF.2 0 (by simp)
      rw [h0] at hP
      have c := cb k (by omega)
      have nx : WP 220 (0, 0) 14 [(2, 190), (0, (to : Int)), (0, (fr : Int)), (0, (k : Int)), (0, 0), (0, 0)] [] NN Ni Q := by
        refine l_tx1 (N := Ni) (r := r) (X := X) hp hz' (by omega) hf (fun l hl => by rw [hF.1 213 (by decide) (by decide)]; exact hr l hl) hrr (fun l hl => by rw [hF.1 209 (by decide) (by decide)]; exact hX l hl) (fun e2 => ?_) (k + 1) 0 (by omega)
        have nx2 : WP 220 (0, 0) 2 [(2, 190), (0, (to : Int)), (0, (fr : Int)), (0, ((k + 1 : Nat) : Int)), (0, cv r X k), e2] [] NN (ust Ni 212 (k : Int) (cv r X k % p)) Q := by
          refine ih (k + 1) _ _ _ (by omega) (hF.us _ _ (by simp) (by decide)) (fun l hl => ?_)
          rw [ust_at]
          by_cases q : l = k
          · rw [if_pos (by omega), q]
          · rw [if_neg (by omega)]; exact hA l (by omega)
        refine WP.run [(220, 2)] [] 60 ?_
        simp only [bk220_0, bk220_2, bk220_8, bk220_14, bk220_20, bk220_53, bk220_72, bk220_74, bk220_80, bk220_103, U_iconst, U_istore_n, U_iload_n, U_bipush, U_icmp_ge, U_istore, U_iload, U_icmp_gt, U_aload_n, U_getfield, U_imul, U_iadd, U_iald, U_isub, U_iinc, U_goto, U_irem, U_iast, U_return, UN_cc, UN_cn, UN_nc, UN_nn, UJ, lget, lset, lset2, entL, wsm, wcat, Option.toList_some, Option.toList_none, List.cons_append, List.nil_append, List.mem_cons, List.not_mem_nil, Prod.mk.injEq, or_false, false_or, or_true, true_or, and_true, true_and, and_false, false_and, and_self, ne_eq, not_false_eq_true, not_true_eq_false, forall_const, true_implies, false_implies, Nat.add_zero, Nat.zero_add, Nat.le_refl, Nat.zero_le, List.set_cons_zero, List.set_cons_succ, List.set_nil, ↓reduceIte, Nat.reduceAdd, Nat.reduceSub, Nat.reduceEqDiff, Nat.reduceLeDiff, Int.reduceEq, Int.reduceNe, Int.reduceNeg, reduceCtorEq, kd190, kd212, ln212, z190_29 hz', hP]
        rw [tm_nn c.1]
        repeat' (first | refine And.intro (by omega) ?_ | refine And.intro (rr (by omega)) ?_ | refine And.intro (r3 (by omega)) ?_ | refine And.intro (r6 (by omega)) ?_ | ((fail_if_success (show WP _ _ _ _ _ _ _ _)); (first | refine And.intro ?_ ?_ | intro _)))
        all_goals first | (exfalso; omega) | exact nx2
      refine WP.run [(220, 2), (220, 14), (220, 74)] [] 60 ?_
      simp only [bk220_0, bk220_2, bk220_8, bk220_14, bk220_20, bk220_53, bk220_72, bk220_74, bk220_80, bk220_103, U_iconst, U_istore_n, U_iload_n, U_bipush, U_icmp_ge, U_istore, U_iload, U_icmp_gt, U_aload_n, U_getfield, U_imul, U_iadd, U_iald, U_isub, U_iinc, U_goto, U_irem, U_iast, U_return, UN_cc, UN_cn, UN_nc, UN_nn, UJ, lget, lset, lset2, entL, wsm, wcat, Option.toList_some, Option.toList_none, List.cons_append, List.nil_append, List.mem_cons, List.not_mem_nil, Prod.mk.injEq, or_false, false_or, or_true, true_or, and_true, true_and, and_false, false_and, and_self, ne_eq, not_false_eq_true, not_true_eq_false, forall_const, true_implies, false_implies, Nat.add_zero, Nat.zero_add, Nat.le_refl, Nat.zero_le, List.set_cons_zero, List.set_cons_succ, List.set_nil, ↓reduceIte, Nat.reduceAdd, Nat.reduceSub, Nat.reduceEqDiff, Nat.reduceLeDiff, Int.reduceEq, Int.reduceNe, Int.reduceNeg, reduceCtorEq]
      repeat' (first | refine And.intro (by omega) ?_ | refine And.intro (rr (by omega)) ?_ | refine And.intro (r3 (by omega)) ?_ | refine And.intro (r6 (by omega)) ?_ | ((fail_if_success (show WP _ _ _ _ _ _ _ _)); (first | refine And.intro ?_ ?_ | intro _)))
      all_goals first | (exfalso; omega) | exact nx
  have nx := l1 8 0 (9, 0) (9, 0) N (by omega) (FM.rf _ _ _) (fun l hl => absurd hl (Nat.not_lt_zero l))
  refine WP.run [(220, 2)] [] 60 ?_
  simp only [bk220_0, bk220_2, bk220_8, bk220_14, bk220_20, bk220_53, bk220_72, bk220_74, bk220_80, bk220_103, U_iconst, U_istore_n, U_iload_n, U_bipush, U_icmp_ge, U_istore, U_iload, U_icmp_gt, U_aload_n, U_getfield, U_imul, U_iadd, U_iald, U_isub, U_iinc, U_goto, U_irem, U_iast, U_return, UN_cc, UN_cn, UN_nc, UN_nn, UJ, lget, lset, lset2, entL, wsm, wcat, Option.toList_some, Option.toList_none, List.cons_append, List.nil_append, List.mem_cons, List.not_mem_nil, Prod.mk.injEq, or_false, false_or, or_true, true_or, and_true, true_and, and_false, false_and, and_self, ne_eq, not_false_eq_true, not_true_eq_false, forall_const, true_implies, false_implies, Nat.add_zero, Nat.zero_add, Nat.le_refl, Nat.zero_le, List.set_cons_zero, List.set_cons_succ, List.set_nil, ↓reduceIte, Nat.reduceAdd, Nat.reduceSub, Nat.reduceEqDiff, Nat.reduceLeDiff, Int.reduceEq, Int.reduceNe, Int.reduceNeg, reduceCtorEq]
  exact nx
