/-! THE GROUP OBJECT: its numbers -/
theorem rlq_is {q : Nat} (hq : 2 ≤ q) : ∀ t n, t < n → rlq q n (q ^ t) = t
  | 0, n, h => by
    obtain ⟨m, rfl⟩ : ∃ m, n = m + 1 := ⟨n - 1, by omega⟩
    show (if q ≤ q ^ 0 then _ else 0) = 0
    rw [Nat.pow_zero, if_neg (by omega)]
  | t + 1, n, h => by
    obtain ⟨m, rfl⟩ : ∃ m, n = m + 1 := ⟨n - 1, by omega⟩
    have h1 : q ≤ q ^ (t + 1) := by
      have := Nat.pow_le_pow_right (show 0 < q by omega) (show 1 ≤ t + 1 by omega)
      rwa [Nat.pow_one] at this
    show (if q ≤ q ^ (t + 1) then rlq q m (q ^ (t + 1) / q) + 1 else 0) = t + 1
    rw [if_pos h1, Nat.pow_succ, Nat.mul_div_cancel _ (by omega), rlq_is hq t m (by omega)]
def NmA (N : Mem) (nu : Nat → Nat) (mx : Nat) : Prop := N 94 5 = (mx : Int) ∧ ∀ k : Nat, k < 8 → N 97 (k : Int) = (nu k : Int)
theorem fz94_5 : fz 94 5 = none := rfl
theorem fz94_6 : fz 94 6 = none := rfl
/-- all orders known -/
def OrF {p : Int} {f : Pz p} {g : Nat} (ad : Gq f g → Gq f g → Gq f g) (z : Gq f g) (N : Mem) : Prop := ∀ (i : Nat) (x : Gq f g), (cll f g z)[i]? = some x → ∃ o : Nat, N 95 (i : Int) = (o : Int) ∧ o ≤ 450 ∧ IsOrd ad z x o
theorem klN_take {G : Type} (ad : G → G → G) (z : G) (L : List G) (n i : Nat) {x : G} (h : L[i]? = some x) : klN ad z (L.take (i + 1)) n = klN ad z (L.take i) n + @ite _ (nsm ad z n x = z) (Classical.propDecidable _) 1 0 := by
  unfold klN
  rw [List.take_add_one, h, List.filter_append, List.length_append]
  congr 1
  by_cases e : nsm ad z n x = z
  · rw [if_pos e]; simp [e]
  · rw [if_neg e]; simp [e]
set_option maxHeartbeats 16000000 in
theorem l_kill {p : Int} {N : Mem} {Q : Post} {f : Pz p} {g : Nat} {ad : Gq f g → Gq f g → Gq f g} {z : Gq f g} {ng : Gq f g → Gq f g} {q b P : Nat} (hG : GG f g ad z ng) (hz : Fz N) (hl : (tkl f g).length ≤ 450) (h3 : N 88 3 = (tkl f g).length) (hO : OrF ad z N) (hP : P ≤ 1000000)
    (hQ : ∀ w : V, WP 87 (0, 0) 74 [(2, 94), (0, (q : Int)), (0, (b : Int)), (0, (P : Int)), (0, (klN ad z (cll f g z) P : Int)), (0, ((tkl f g).length : Int)), w] [] NN N Q) :
    ∀ (n i : Nat) (w : V), i + n = (tkl f g).length → WP 87 (0, 0) 21 [(2, 94), (0, (q : Int)), (0, (b : Int)), (0, (P : Int)), (0, (klN ad z ((cll f g z).take i) P : Int)), (0, (i : Int)), w] [] NN N Q := by
  intro n
  induction n with
  | zero =>
    intro i w hi
    obtain rfl : i = (tkl f g).length := by omega
    have hQ' := hQ w
    rw [List.take_of_length_le (by rw [cll_len]; exact Nat.le_refl _)]
    refine WP.run [(87, 21), (87, 74)] [] 60 ?_
    simp only [bk87_0, bk87_4, bk87_15, bk87_21, bk87_33, bk87_43, bk87_53, bk87_65, bk87_68, bk87_74, bk87_83, bk87_89, bk87_99, bk87_122, bk87_149, U_iconst, U_istore_n, U_iload_n, U_aload_n, U_getfield, U_icmp_gt, U_istore, U_iload, U_icmp_ge, U_alen, U_iald, U_if_le, U_irem, U_if_ne, U_iinc, U_goto, U_idiv, U_icmp_lt, U_dup2, U_imul, U_iast, U_max, U_putfield, U_return, UN_cc, UN_cn, UN_nc, UN_nn, UJ, lget, lset, lset2, entL, wsm, wcat, Option.toList_some, Option.toList_none, List.cons_append, List.nil_append, List.mem_cons, List.not_mem_nil, Prod.mk.injEq, or_false, false_or, or_true, true_or, and_true, true_and, and_false, false_and, and_self, ne_eq, not_false_eq_true, not_true_eq_false, forall_const, true_implies, false_implies, Nat.add_zero, Nat.zero_add, Nat.le_refl, Nat.zero_le, List.set_cons_zero, List.set_cons_succ, List.set_nil, ↓reduceIte, Nat.reduceAdd, Nat.reduceSub, Nat.reduceEqDiff, Nat.reduceLeDiff, Int.reduceEq, Int.reduceNe, Int.reduceNeg, reduceCtorEq, kd94, kd88, z94_1 hz, h3]
    exact ⟨rr (by omega), fun e => absurd e (by omega), fun _ => hQ'⟩
  | succ n ih =>
    intro i w hi
    obtain ⟨x, hx⟩ : ∃ x, (cll f g z)[i]? = some x := ⟨_, List.getElem?_eq_getElem (by rw [cll_len]; omega)⟩
    obtain ⟨o, e1, e2, e3⟩ := hO i x hx
    have ho0 := e3.1
    have hk := klN_take ad z (cll f g z) P i hx
    have hd := ord_dvd hG.1 e3 P
    have hmod : P % o < o := Nat.mod_lt _ ho0
    refine WP.run [(87, 21), (87, 74)] [] 60 ?_
    simp only [bk87_0, bk87_4, bk87_15, bk87_21, bk87_33, bk87_43, bk87_53, bk87_65, bk87_68, bk87_74, bk87_83, bk87_89, bk87_99, bk87_122, bk87_149, U_iconst, U_istore_n, U_iload_n, U_aload_n, U_getfield, U_icmp_gt, U_istore, U_iload, U_icmp_ge, U_alen, U_iald, U_if_le, U_irem, U_if_ne, U_iinc, U_goto, U_idiv, U_icmp_lt, U_dup2, U_imul, U_iast, U_max, U_putfield, U_return, UN_cc, UN_cn, UN_nc, UN_nn, UJ, lget, lset, lset2, entL, wsm, wcat, Option.toList_some, Option.toList_none, List.cons_append, List.nil_append, List.mem_cons, List.not_mem_nil, Prod.mk.injEq, or_false, false_or, or_true, true_or, and_true, true_and, and_false, false_and, and_self, ne_eq, not_false_eq_true, not_true_eq_false, forall_const, true_implies, false_implies, Nat.add_zero, Nat.zero_add, Nat.le_refl, Nat.zero_le, List.set_cons_zero, List.set_cons_succ, List.set_nil, ↓reduceIte, Nat.reduceAdd, Nat.reduceSub, Nat.reduceEqDiff, Nat.reduceLeDiff, Int.reduceEq, Int.reduceNe, Int.reduceNeg, reduceCtorEq, kd94, kd88, kd95, ln95, z94_1 hz, z94_2 hz, h3, e1]
    rw [tmod_nat]
    refine ⟨rr (by omega), fun _ => ⟨rr (by omega), fun _ => ⟨by omega, by omega, r3 (by omega), fun _ => ⟨by omega, by omega, r3 (by omega), r3 (by omega), by omega, r3 (by omega), fun e => ?_, fun e => ?_⟩, fun e => absurd (by omega) e⟩, fun e => absurd (by omega) e⟩, fun e => absurd (by omega) e⟩
    · rw [if_pos (hd.mpr (Nat.dvd_of_mod_eq_zero (by omega)))] at hk
      have := ih (i + 1) w (by omega)
      rw [hk] at this; exact this
    · rw [if_neg (fun h => e (by rw [Nat.mod_eq_zero_of_dvd (hd.mp h)]; rfl)), Nat.add_zero] at hk
      have := ih (i + 1) w (by omega)
      rw [hk] at this; exact this
def adP (q t : Nat) (nu : Nat → Nat) : Nat → Nat := fun k => nu k * (if k < t then q else 1)
set_option maxHeartbeats 16000000 in
theorem l_place {p : Int} {N : Mem} {ρ : Int → Option (Pz p)} {Q : Post} {q b P kl t : Nat} {nu : Nat → Nat} {mx : Nat} (hS : ST p N ρ) (hq : 2 ≤ q ∧ q ≤ 450) (ht : t ≤ 4) (hqt : q ^ t ≤ 450)
    (hQ : ∀ N', ST p N' ρ → FX [97] N N' → NmA N' (adP q t nu) mx → ∀ r : Int, WP 87 (0, 0) 122 [(2, 94), (0, (q : Int)), (0, (b : Int)), (0, (P : Int)), (0, (kl : Int)), (0, r), (0, (t : Int))] [] NN N' Q) :
    ∀ (n s : Nat) (Ni : Mem), s + n = t → ST p Ni ρ → FX [97] N Ni → NmA Ni (adP q s nu) mx → WP 87 (0, 0) 83 [(2, 94), (0, (q : Int)), (0, (b : Int)), (0, (P : Int)), (0, (kl : Int)), (0, ((q ^ n : Nat) : Int)), (0, (s : Int))] [] NN Ni Q := by
  have hb : ∀ n, n ≤ t → 1 ≤ q ^ n ∧ q ^ n ≤ 450 := fun n hn => ⟨Nat.pow_pos (by omega), Nat.le_trans (Nat.pow_le_pow_right (by omega) hn) hqt⟩
  intro n
  induction n with
  | zero =>
    intro s Ni hs hS hF hA
    obtain rfl : s = t := by omega
    rw [Nat.pow_zero]
    refine WP.run [(87, 83), (87, 122)] [] 60 ?_
    simp only [bk87_0, bk87_4, bk87_15, bk87_21, bk87_33, bk87_43, bk87_53, bk87_65, bk87_68, bk87_74, bk87_83, bk87_89, bk87_99, bk87_122, bk87_149, U_iconst, U_istore_n, U_iload_n, U_aload_n, U_getfield, U_icmp_gt, U_istore, U_iload, U_icmp_ge, U_alen, U_iald, U_if_le, U_irem, U_if_ne, U_iinc, U_goto, U_idiv, U_icmp_lt, U_dup2, U_imul, U_iast, U_max, U_putfield, U_return, UN_cc, UN_cn, UN_nc, UN_nn, UJ, lget, lset, lset2, entL, wsm, wcat, Option.toList_some, Option.toList_none, List.cons_append, List.nil_append, List.mem_cons, List.not_mem_nil, Prod.mk.injEq, or_false, false_or, or_true, true_or, and_true, true_and, and_false, false_and, and_self, ne_eq, not_false_eq_true, not_true_eq_false, forall_const, true_implies, false_implies, Nat.add_zero, Nat.zero_add, Nat.le_refl, Nat.zero_le, List.set_cons_zero, List.set_cons_succ, List.set_nil, ↓reduceIte, Nat.reduceAdd, Nat.reduceSub, Nat.reduceEqDiff, Nat.reduceLeDiff, Int.reduceEq, Int.reduceNe, Int.reduceNeg, reduceCtorEq]
    exact ⟨rr (by omega), fun _ => hQ Ni hS hF hA _, fun e => absurd (by omega) e⟩
  | succ n ih =>
    intro s Ni hs hSi hF hA
    have es := hA.2 s (by omega)
    have e1 : adP q s nu s = nu s := by show nu s * (if s < s then q else 1) = nu s; rw [if_neg (by omega), Nat.mul_one]
    rw [e1] at es
    have hpw := hb (n + 1) (by omega)
    have hge : q ≤ q ^ (n + 1) := by
      have := Nat.pow_le_pow_right (show 0 < q by omega) (show 1 ≤ n + 1 by omega)
      rwa [Nat.pow_one] at this
    have ed : q ^ (n + 1) / q = q ^ n := by rw [Nat.pow_succ, Nat.mul_div_cancel _ (by omega)]
    refine WP.run [(87, 83), (87, 122)] [] 60 ?_
    simp only [bk87_0, bk87_4, bk87_15, bk87_21, bk87_33, bk87_43, bk87_53, bk87_65, bk87_68, bk87_74, bk87_83, bk87_89, bk87_99, bk87_122, bk87_149, U_iconst, U_istore_n, U_iload_n, U_aload_n, U_getfield, U_icmp_gt, U_istore, U_iload, U_icmp_ge, U_alen, U_iald, U_if_le, U_irem, U_if_ne, U_iinc, U_goto, U_idiv, U_icmp_lt, U_dup2, U_imul, U_iast, U_max, U_putfield, U_return, UN_cc, UN_cn, UN_nc, UN_nn, UJ, lget, lset, lset2, entL, wsm, wcat, Option.toList_some, Option.toList_none, List.cons_append, List.nil_append, List.mem_cons, List.not_mem_nil, Prod.mk.injEq, or_false, false_or, or_true, true_or, and_true, true_and, and_false, false_and, and_self, ne_eq, not_false_eq_true, not_true_eq_false, forall_const, true_implies, false_implies, Nat.add_zero, Nat.zero_add, Nat.le_refl, Nat.zero_le, List.set_cons_zero, List.set_cons_succ, List.set_nil, ↓reduceIte, Nat.reduceAdd, Nat.reduceSub, Nat.reduceEqDiff, Nat.reduceLeDiff, Int.reduceEq, Int.reduceNe, Int.reduceNeg, reduceCtorEq, kd94, kd97, ln97, z94_4 hSi.1.1, es]
    rw [tdiv_nat, ed]
    refine ⟨rr (by omega), fun e => absurd e (by omega), fun _ => ⟨rr (by omega), fun _ => ⟨by omega, by omega, by omega, by omega, r3 (by omega), r3 (by omega), by omega, ?_⟩, fun e => absurd (by omega) e⟩⟩
    refine ih (s + 1) _ (by omega) (hSi.ust _ _ (fz_arr (Or.inl rfl) _) (by decide) (by decide) (by decide)) (hF.us _ _ (by simp)) ⟨by rw [ust_ne (by decide)]; exact hA.1, fun k hk => ?_⟩
    rw [ust_at]
    show _ = ((nu k * (if k < s + 1 then q else 1) : Nat) : Int)
    by_cases e : k = s
    · subst e; rw [if_pos rfl, if_pos (by omega), Int.natCast_mul]
    · rw [if_neg (by omega), hA.2 k hk]
      show ((nu k * (if k < s then q else 1) : Nat) : Int) = _
      by_cases e2 : k < s
      · rw [if_pos e2, if_pos (by omega)]
      · rw [if_neg e2, if_neg (by omega)]
set_option maxHeartbeats 16000000 in
theorem l_rounds {p : Int} {N : Mem} {ρ : Int → Option (Pz p)} {Q : Post} {f : Pz p} {g : Nat} {ad : Gq f g → Gq f g → Gq f g} {z : Gq f g} {ng : Gq f g → Gq f g} {q v : Nat} {nu : Nat → Nat} {mx : Nat} (hG : GG f g ad z ng) (hp : Pr p) (hcv : Cv f g) (hl : (tkl f g).length ≤ 450) (h3 : N 88 3 = (tkl f g).length) (hO : OrF ad z N) (hq : Prm q) (hq2 : q ≤ 450) (hv : q ^ v ≤ (tkl f g).length) (hT : ∀ j, tqN ad z (cll f g z) q j ≤ 4) (hT0 : ∀ j, v ≤ j → tqN ad z (cll f g z) q j = 0) (hmx4 : mx ≤ 4)
    (hQ : ∀ N', ST p N' ρ → FX [94, 97] N N' → (∀ i, i ≠ 5 → N' 94 i = N 94 i) → NmA N' (nmT q (tqN ad z (cll f g z) q) v nu) (mxT (tqN ad z (cll f g z) q) v mx) → Q none NN N') :
    ∀ (n j : Nat) (x4 x5 x6 : V) (Ni : Mem), j + n = (tkl f g).length → q ^ j ≤ (tkl f g).length → ST p Ni ρ → FX [94, 97] N Ni → (∀ i, i ≠ 5 → Ni 94 i = N 94 i) → NmA Ni (nmT q (tqN ad z (cll f g z) q) j nu) (mxT (tqN ad z (cll f g z) q) j mx) → WP 87 (0, 0) 4 [(2, 94), (0, (q : Int)), (0, (klN ad z (cll f g z) (q ^ j) : Int)), (0, ((q ^ (j + 1) : Nat) : Int)), x4, x5, x6] [] NN Ni Q := by
  have hg12 : g = 1 ∨ g = 2 := hcv.1
  have hq0 := hq.1
  obtain ⟨c1, c2⟩ := cll_is hp hg12 z
  -- out of the loop
  have out : ∀ (j : Nat) (x4 x5 x6 : V) (Ni : Mem), (tkl f g).length < q ^ (j + 1) → q ^ (j + 1) ≤ 450 * 450 → ST p Ni ρ → FX [94, 97] N Ni → (∀ i, i ≠ 5 → Ni 94 i = N 94 i) → NmA Ni (nmT q (tqN ad z (cll f g z) q) j nu) (mxT (tqN ad z (cll f g z) q) j mx) → WP 87 (0, 0) 4 [(2, 94), (0, (q : Int)), (0, (klN ad z (cll f g z) (q ^ j) : Int)), (0, ((q ^ (j + 1) : Nat) : Int)), x4, x5, x6] [] NN Ni Q := by
    intro j x4 x5 x6 Ni hlt hle hS hF hI hA
    have e3 : Ni 88 3 = ((tkl f g).length : Int) := by rw [hF 88 (by decide) (by decide)]; exact h3
    have hvj : v ≤ j := by
      false_or_by_contra
      have := Nat.pow_le_pow_right (show 0 < q by omega) (show j + 1 ≤ v by omega)
      omega
    obtain ⟨d, rfl⟩ : ∃ d, j = v + d := ⟨j - v, by omega⟩
    rw [nmT_more _ _ _ hT0, mxT_more _ _ hT0] at hA
    refine WP.run [(87, 4)] [] 60 ?_
    simp only [bk87_0, bk87_4, bk87_15, bk87_21, bk87_33, bk87_43, bk87_53, bk87_65, bk87_68, bk87_74, bk87_83, bk87_89, bk87_99, bk87_122, bk87_149, U_iconst, U_istore_n, U_iload_n, U_aload_n, U_getfield, U_icmp_gt, U_istore, U_iload, U_icmp_ge, U_alen, U_iald, U_if_le, U_irem, U_if_ne, U_iinc, U_goto, U_idiv, U_icmp_lt, U_dup2, U_imul, U_iast, U_max, U_putfield, U_return, UN_cc, UN_cn, UN_nc, UN_nn, UJ, lget, lset, lset2, entL, wsm, wcat, Option.toList_some, Option.toList_none, List.cons_append, List.nil_append, List.mem_cons, List.not_mem_nil, Prod.mk.injEq, or_false, false_or, or_true, true_or, and_true, true_and, and_false, false_and, and_self, ne_eq, not_false_eq_true, not_true_eq_false, forall_const, true_implies, false_implies, Nat.add_zero, Nat.zero_add, Nat.le_refl, Nat.zero_le, List.set_cons_zero, List.set_cons_succ, List.set_nil, ↓reduceIte, Nat.reduceAdd, Nat.reduceSub, Nat.reduceEqDiff, Nat.reduceLeDiff, Int.reduceEq, Int.reduceNe, Int.reduceNeg, reduceCtorEq, kd94, kd88, z94_1 hS.1.1, e3]
    exact ⟨rr (by omega), fun _ => hQ Ni hS hF hI hA, fun e => absurd (by omega) e⟩
  intro n
  induction n with
  | zero =>
    intro j x4 x5 x6 Ni hj hjl hS hF hI hA
    have h1 : j + 1 < q ^ (j + 1) := Nat.lt_pow_self (by omega)
    refine out j x4 x5 x6 Ni (by omega) ?_ hS hF hI hA
    rw [Nat.pow_succ]
    exact Nat.mul_le_mul (by omega) hq2
  | succ n ih =>
    intro j x4 x5 x6 Ni hj hjl hS hF hI hA
    have hle : q ^ (j + 1) ≤ 450 * 450 := by rw [Nat.pow_succ]; exact Nat.mul_le_mul (by omega) hq2
    by_cases hlt : (tkl f g).length < q ^ (j + 1)
    · exact out j x4 x5 x6 Ni hlt hle hS hF hI hA
    · have e3 : Ni 88 3 = ((tkl f g).length : Int) := by rw [hF 88 (by decide) (by decide)]; exact h3
      have hOi : OrF ad z Ni := fun i x hx => by rw [hF 95 (by decide) (by decide)]; exact hO i x hx
      refine WP.run [(87, 21), (87, 4)] [] 60 ?_
      simp only [bk87_0, bk87_4, bk87_15, bk87_21, bk87_33, bk87_43, bk87_53, bk87_65, bk87_68, bk87_74, bk87_83, bk87_89, bk87_99, bk87_122, bk87_149, U_iconst, U_istore_n, U_iload_n, U_aload_n, U_getfield, U_icmp_gt, U_istore, U_iload, U_icmp_ge, U_alen, U_iald, U_if_le, U_irem, U_if_ne, U_iinc, U_goto, U_idiv, U_icmp_lt, U_dup2, U_imul, U_iast, U_max, U_putfield, U_return, UN_cc, UN_cn, UN_nc, UN_nn, UJ, lget, lset, lset2, entL, wsm, wcat, Option.toList_some, Option.toList_none, List.cons_append, List.nil_append, List.mem_cons, List.not_mem_nil, Prod.mk.injEq, or_false, false_or, or_true, true_or, and_true, true_and, and_false, false_and, and_self, ne_eq, not_false_eq_true, not_true_eq_false, forall_const, true_implies, false_implies, Nat.add_zero, Nat.zero_add, Nat.le_refl, Nat.zero_le, List.set_cons_zero, List.set_cons_succ, List.set_nil, ↓reduceIte, Nat.reduceAdd, Nat.reduceSub, Nat.reduceEqDiff, Nat.reduceLeDiff, Int.reduceEq, Int.reduceNe, Int.reduceNeg, reduceCtorEq, kd94, kd88, z94_1 hS.1.1, e3]
      refine ⟨rr (by omega), fun e => absurd e (by omega), fun _ => ?_⟩
      have hk0 := klN_pos hG.1 c1 c2 (q ^ j)
      have hkl := klN_le ad z (cll f g z) (q ^ j)
      have hkl2 := klN_le ad z (cll f g z) (q ^ (j + 1))
      rw [cll_len] at hkl hkl2
      have ht := (tqN_is hG.1 c1 c2 hq j).1
      have hk1 := klN_pos hG.1 c1 c2 (q ^ (j + 1))
      refine l_kill (q := q) (b := klN ad z (cll f g z) (q ^ j)) (P := q ^ (j + 1)) hG hS.1.1 hl e3 hOi (by omega) (fun w => ?_) (tkl f g).length 0 _ (by omega)
      refine WP.run [(87, 83)] [] 60 ?_
      simp only [bk87_0, bk87_4, bk87_15, bk87_21, bk87_33, bk87_43, bk87_53, bk87_65, bk87_68, bk87_74, bk87_83, bk87_89, bk87_99, bk87_122, bk87_149, U_iconst, U_istore_n, U_iload_n, U_aload_n, U_getfield, U_icmp_gt, U_istore, U_iload, U_icmp_ge, U_alen, U_iald, U_if_le, U_irem, U_if_ne, U_iinc, U_goto, U_idiv, U_icmp_lt, U_dup2, U_imul, U_iast, U_max, U_putfield, U_return, UN_cc, UN_cn, UN_nc, UN_nn, UJ, lget, lset, lset2, entL, wsm, wcat, Option.toList_some, Option.toList_none, List.cons_append, List.nil_append, List.mem_cons, List.not_mem_nil, Prod.mk.injEq, or_false, false_or, or_true, true_or, and_true, true_and, and_false, false_and, and_self, ne_eq, not_false_eq_true, not_true_eq_false, forall_const, true_implies, false_implies, Nat.add_zero, Nat.zero_add, Nat.le_refl, Nat.zero_le, List.set_cons_zero, List.set_cons_succ, List.set_nil, ↓reduceIte, Nat.reduceAdd, Nat.reduceSub, Nat.reduceEqDiff, Nat.reduceLeDiff, Int.reduceEq, Int.reduceNe, Int.reduceNeg, reduceCtorEq]
      rw [tdiv_nat]
      have ed : klN ad z (cll f g z) (q ^ (j + 1)) / klN ad z (cll f g z) (q ^ j) = q ^ tqN ad z (cll f g z) q j := by rw [ht, Nat.mul_div_cancel _ hk0]
      rw [ed]
      refine ⟨r3 (by omega), r3 (by omega), by omega, ?_⟩
      refine l_place (N := Ni) (ρ := ρ) (nu := nmT q (tqN ad z (cll f g z) q) j nu) (mx := mxT (tqN ad z (cll f g z) q) j mx) (t := tqN ad z (cll f g z) q j) hS ⟨hq0, hq2⟩ (hT j) (by have := (tqN_is hG.1 c1 c2 hq j).2; have h2 := klN_le ad z (cll f g z) q; rw [cll_len] at h2; omega) (fun N2 S2 F2 A2 r => ?_) (tqN ad z (cll f g z) q j) 0 Ni (by omega) hS (FX.rf _ _) ⟨hA.1, fun k hk => by rw [hA.2 k hk]; show _ = ((nmT q (tqN ad z (cll f g z) q) j nu k * (if k < 0 then q else 1) : Nat) : Int); rw [if_neg (by omega), Nat.mul_one]⟩
      have e942 : N2 94 = Ni 94 := F2 94 (by decide) (by decide)
      have hmx : (max (mxT (tqN ad z (cll f g z) q) j mx : Int) (tqN ad z (cll f g z) q j : Int)) = ((mxT (tqN ad z (cll f g z) q) (j + 1) mx : Nat) : Int) := by
        show _ = ((max (mxT (tqN ad z (cll f g z) q) j mx) (tqN ad z (cll f g z) q j) : Nat) : Int)
        omega
      have hkm : max (klN ad z (cll f g z) (q ^ (j + 1)) : Int) 1 = (klN ad z (cll f g z) (q ^ (j + 1)) : Int) := by omega
      have hm4 := mxT_le hT hmx4 j
      have ht4 := hT j
      refine WP.run [(87, 4)] [] 60 ?_
      simp only [bk87_0, bk87_4, bk87_15, bk87_21, bk87_33, bk87_43, bk87_53, bk87_65, bk87_68, bk87_74, bk87_83, bk87_89, bk87_99, bk87_122, bk87_149, U_iconst, U_istore_n, U_iload_n, U_aload_n, U_getfield, U_icmp_gt, U_istore, U_iload, U_icmp_ge, U_alen, U_iald, U_if_le, U_irem, U_if_ne, U_iinc, U_goto, U_idiv, U_icmp_lt, U_dup2, U_imul, U_iast, U_max, U_putfield, U_return, UN_cc, UN_cn, UN_nc, UN_nn, UJ, lget, lset, lset2, entL, wsm, wcat, Option.toList_some, Option.toList_none, List.cons_append, List.nil_append, List.mem_cons, List.not_mem_nil, Prod.mk.injEq, or_false, false_or, or_true, true_or, and_true, true_and, and_false, false_and, and_self, ne_eq, not_false_eq_true, not_true_eq_false, forall_const, true_implies, false_implies, Nat.add_zero, Nat.zero_add, Nat.le_refl, Nat.zero_le, List.set_cons_zero, List.set_cons_succ, List.set_nil, ↓reduceIte, Nat.reduceAdd, Nat.reduceSub, Nat.reduceEqDiff, Nat.reduceLeDiff, Int.reduceEq, Int.reduceNe, Int.reduceNeg, reduceCtorEq, kd94, A2.1]
      rw [hmx, hkm, ← Int.natCast_mul, ← Nat.pow_succ]
      refine ⟨r3 (by omega), r3 (by omega), r3 (by omega), r3 (by omega), ?_⟩
      refine ih (j + 1) _ _ _ _ (by omega) (by omega) (S2.ust _ _ fz94_5 (by decide) (by decide) (by decide)) ((hF.tr (F2.mo (by simp))).us _ _ (by simp)) (fun i hi => ?_) ⟨by rw [ust_at, if_pos rfl], fun k hk => ?_⟩
      · rw [ust_at, if_neg hi, e942]; exact hI i hi
      · rw [ust_ne (by decide)]; exact A2.2 k hk
set_option maxHeartbeats 16000000 in
theorem s_rounds {p : Int} {N : Mem} {ρ : Int → Option (Pz p)} {Q : Post} {f : Pz p} {g : Nat} {ad : Gq f g → Gq f g → Gq f g} {z : Gq f g} {ng : Gq f g → Gq f g} {q v : Nat} {nu : Nat → Nat} {mx : Nat} (hG : GG f g ad z ng) (hS : ST p N ρ) (hcv : Cv f g) (hl : (tkl f g).length ≤ 450) (h3 : N 88 3 = (tkl f g).length) (hO : OrF ad z N) (hq : Prm q) (hq2 : q ≤ 450) (hv : q ^ v ≤ (tkl f g).length) (hT : ∀ j, tqN ad z (cll f g z) q j ≤ 4) (hT0 : ∀ j, v ≤ j → tqN ad z (cll f g z) q j = 0) (hmx4 : mx ≤ 4) (hA : NmA N nu mx)
    (hQ : ∀ N', ST p N' ρ → FX [94, 97] N N' → (∀ i, i ≠ 5 → N' 94 i = N 94 i) → NmA N' (nmT q (tqN ad z (cll f g z) q) v nu) (mxT (tqN ad z (cll f g z) q) v mx) → Q none NN N') : CL 87 [(2, 94), (0, (q : Int)), (9, 0), (9, 0), (9, 0), (9, 0), (9, 0)] NN N Q := by
  have hp := hS.1.2.1
  have hg12 : g = 1 ∨ g = 2 := hcv.1
  obtain ⟨c1, c2⟩ := cll_is hp hg12 z
  refine WP.run [(87, 4)] [] 60 ?_
  simp only [bk87_0, bk87_4, bk87_15, bk87_21, bk87_33, bk87_43, bk87_53, bk87_65, bk87_68, bk87_74, bk87_83, bk87_89, bk87_99, bk87_122, bk87_149, U_iconst, U_istore_n, U_iload_n, U_aload_n, U_getfield, U_icmp_gt, U_istore, U_iload, U_icmp_ge, U_alen, U_iald, U_if_le, U_irem, U_if_ne, U_iinc, U_goto, U_idiv, U_icmp_lt, U_dup2, U_imul, U_iast, U_max, U_putfield, U_return, UN_cc, UN_cn, UN_nc, UN_nn, UJ, lget, lset, lset2, entL, wsm, wcat, Option.toList_some, Option.toList_none, List.cons_append, List.nil_append, List.mem_cons, List.not_mem_nil, Prod.mk.injEq, or_false, false_or, or_true, true_or, and_true, true_and, and_false, false_and, and_self, ne_eq, not_false_eq_true, not_true_eq_false, forall_const, true_implies, false_implies, Nat.add_zero, Nat.zero_add, Nat.le_refl, Nat.zero_le, List.set_cons_zero, List.set_cons_succ, List.set_nil, ↓reduceIte, Nat.reduceAdd, Nat.reduceSub, Nat.reduceEqDiff, Nat.reduceLeDiff, Int.reduceEq, Int.reduceNe, Int.reduceNeg, reduceCtorEq]
  have := l_rounds (N := N) (ρ := ρ) (Q := Q) (mx := mx) (nu := nu) hG hp hcv hl h3 hO hq hq2 hv hT hT0 hmx4 hQ (tkl f g).length 0 (9, 0) (9, 0) (9, 0) N (by omega) (by rw [Nat.pow_zero]; exact tkl_pos f g) hS (FX.rf _ _) (fun _ _ => rfl) hA
  rw [Nat.pow_zero, klN_1 hG.1 c1 c2, Nat.zero_add, Nat.pow_one] at this
  exact this
/-- all that the group's numbers are -/
noncomputable def gNm {p : Int} {f : Pz p} {g : Nat} (ad : Gq f g → Gq f g → Gq f g) (z : Gq f g) (n : Nat) : Nat × (Nat → Nat) × Nat := gFn (tqN ad z (cll f g z)) (tkl f g).length n
set_option maxHeartbeats 8000000 in
theorem l_strip {N : Mem} {Q : Post} {q : Nat} (hq : 2 ≤ q ∧ q ≤ 450) : ∀ (n l : Nat), l ≤ n → 0 < l → l ≤ 450 → WP 88 (0, 0) 66 [(2, 94), (0, (stp q n l : Int)), (0, (q : Int))] [] NN N Q → WP 88 (0, 0) 48 [(2, 94), (0, (l : Int)), (0, (q : Int))] [] NN N Q := by
  intro n
  induction n with
  | zero => intro l h1 h2; omega
  | succ n ih =>
    intro l h1 h2 h3 hQ
    unfold stp at hQ
    have hm : l % q < q := Nat.mod_lt _ (by omega)
    have hdl := Nat.div_le_self l q
    refine WP.run [(88, 48), (88, 66)] [] 60 ?_
    simp only [bk88_0, bk88_23, bk88_34, bk88_40, bk88_43, bk88_48, bk88_53, bk88_59, bk88_66, bk88_72, U_aload_n, U_iconst, U_putfield, U_getfield, U_invokestatic2, U_istore_n, U_iload_n, U_icmp_gt, U_irem, U_if_eq, U_goto, U_invokevirtual1, U_icmp_le, U_if_ne, U_idiv, U_iinc, U_return, UN_cc, UN_cn, UN_nc, UN_nn, UJ, lget, lset, lset2, entL, wsm, wcat, Option.toList_some, Option.toList_none, List.cons_append, List.nil_append, List.mem_cons, List.not_mem_nil, Prod.mk.injEq, or_false, false_or, or_true, true_or, and_true, true_and, and_false, false_and, and_self, ne_eq, not_false_eq_true, not_true_eq_false, forall_const, true_implies, false_implies, Nat.add_zero, Nat.zero_add, Nat.le_refl, Nat.zero_le, List.set_cons_zero, List.set_cons_succ, List.set_nil, ↓reduceIte, Nat.reduceAdd, Nat.reduceSub, Nat.reduceEqDiff, Nat.reduceLeDiff, Int.reduceEq, Int.reduceNe, Int.reduceNeg, reduceCtorEq]
    rw [tmod_nat, tdiv_nat]
    refine ⟨rr (by omega), fun e => ⟨r3 (by omega), r3 (by omega), by omega, r3 (by omega), fun e2 => ?_, fun e2 => ?_⟩, fun e => ?_⟩
    · rw [if_pos ⟨by omega, by omega⟩] at hQ
      have hlt : l / q < l := Nat.div_lt_self h2 (by omega)
      have hp0 : 0 < l / q := Nat.div_pos (Nat.le_of_dvd h2 (Nat.dvd_of_mod_eq_zero (by omega))) (by omega)
      exact ⟨r3 (by omega), r3 (by omega), by omega, ih (l / q) (by omega) hp0 (by omega) hQ⟩
    · rw [if_neg (by omega)] at hQ; exact hQ
    · rw [if_neg (by omega)] at hQ; exact hQ
set_option maxHeartbeats 16000000 in
theorem l_numbers {p : Int} {N : Mem} {ρ : Int → Option (Pz p)} {Q : Post} {f : Pz p} {g : Nat} {ad : Gq f g → Gq f g → Gq f g} {z : Gq f g} {ng : Gq f g → Gq f g} (hG : GG f g ad z ng) (hp : Pr p) (hcv : Cv f g) (hl : (tkl f g).length ≤ 450) (h3 : N 88 3 = (tkl f g).length) (hO : OrF ad z N) (hk : ∀ q, Prm q → klN ad z (cll f g z) q < q ^ 5)
    (hQ : ∀ N', ST p N' ρ → FX [94, 97] N N' → (∀ i, i ≠ 5 → N' 94 i = N 94 i) → NmA N' (gNm ad z ((tkl f g).length - 1)).2.1 (gNm ad z ((tkl f g).length - 1)).2.2 → Q none NN N') :
    ∀ (m n : Nat) (Ni : Mem), n + m + 1 = (tkl f g).length → ST p Ni ρ → FX [94, 97] N Ni → (∀ i, i ≠ 5 → Ni 94 i = N 94 i) → NmA Ni (gNm ad z n).2.1 (gNm ad z n).2.2 → WP 88 (0, 0) 23 [(2, 94), (0, ((gNm ad z n).1 : Int)), (0, ((n + 2 : Nat) : Int))] [] NN Ni Q := by
  have hg12 : g = 1 ∨ g = 2 := hcv.1
  obtain ⟨c1, c2⟩ := cll_is hp hg12 z
  have hh : 0 < (tkl f g).length := tkl_pos f g
  have hT4 : ∀ q, Prm q → ∀ j, tqN ad z (cll f g z) q j ≤ 4 := fun q hq j => tqN_le hG.1 c1 c2 hk hq j
  have hmx : ∀ n, (gNm ad z n).2.2 ≤ 4 := fun n => by
    unfold gNm
    induction n with
    | zero => exact Nat.zero_le _
    | succ n ih =>
      rw [gFn_s]
      by_cases q : (gFn (tqN ad z (cll f g z)) (tkl f g).length n).1 % (n + 2) = 0
      · rw [if_pos q]
        exact mxT_le (hT4 _ (gIn_prm (gIn_all _ hh n) q)) ih _
      · rw [if_neg q]; exact ih
  intro m
  induction m with
  | zero =>
    intro n Ni hm hS hF hI hA
    have e3 : Ni 88 3 = ((tkl f g).length : Int) := by rw [hF 88 (by decide) (by decide)]; exact h3
    have en : n = (tkl f g).length - 1 := by omega
    rw [← en] at hQ
    refine WP.run [(88, 23)] [] 60 ?_
    simp only [bk88_0, bk88_23, bk88_34, bk88_40, bk88_43, bk88_48, bk88_53, bk88_59, bk88_66, bk88_72, U_aload_n, U_iconst, U_putfield, U_getfield, U_invokestatic2, U_istore_n, U_iload_n, U_icmp_gt, U_irem, U_if_eq, U_goto, U_invokevirtual1, U_icmp_le, U_if_ne, U_idiv, U_iinc, U_return, UN_cc, UN_cn, UN_nc, UN_nn, UJ, lget, lset, lset2, entL, wsm, wcat, Option.toList_some, Option.toList_none, List.cons_append, List.nil_append, List.mem_cons, List.not_mem_nil, Prod.mk.injEq, or_false, false_or, or_true, true_or, and_true, true_and, and_false, false_and, and_self, ne_eq, not_false_eq_true, not_true_eq_false, forall_const, true_implies, false_implies, Nat.add_zero, Nat.zero_add, Nat.le_refl, Nat.zero_le, List.set_cons_zero, List.set_cons_succ, List.set_nil, ↓reduceIte, Nat.reduceAdd, Nat.reduceSub, Nat.reduceEqDiff, Nat.reduceLeDiff, Int.reduceEq, Int.reduceNe, Int.reduceNeg, reduceCtorEq, kd94, kd88, z94_1 hS.1.1, e3]
    exact ⟨rr (by omega), fun _ => hQ Ni hS hF hI hA, fun e => absurd (by omega) e⟩
  | succ m ih =>
    intro n Ni hm hS hF hI hA
    have e3 : Ni 88 3 = ((tkl f g).length : Int) := by rw [hF 88 (by decide) (by decide)]; exact h3
    have hi := gIn_all (tqN ad z (cll f g z)) hh n
    have hle : (gNm ad z n).1 ≤ (tkl f g).length := by
      obtain ⟨-, ⟨c, i2, -⟩, -⟩ := hi
      exact Nat.le_of_dvd hh ⟨c, i2⟩
    have hpos : 0 < (gNm ad z n).1 := hi.1
    have hmod : (gNm ad z n).1 % (n + 2) < n + 2 := Nat.mod_lt _ (by omega)
    have es : gNm ad z (n + 1) = if (gNm ad z n).1 % (n + 2) = 0 then (stp (n + 2) (gNm ad z n).1 (gNm ad z n).1, nmT (n + 2) (tqN ad z (cll f g z) (n + 2)) (vqn (n + 2) (gNm ad z n).1 (gNm ad z n).1) (gNm ad z n).2.1, mxT (tqN ad z (cll f g z) (n + 2)) (vqn (n + 2) (gNm ad z n).1 (gNm ad z n).1) (gNm ad z n).2.2) else gNm ad z n := rfl
    have nxt : ∀ (N' : Mem), ST p N' ρ → FX [94, 97] N N' → (∀ i, i ≠ 5 → N' 94 i = N 94 i) → NmA N' (gNm ad z (n + 1)).2.1 (gNm ad z (n + 1)).2.2 → WP 88 (0, 0) 66 [(2, 94), (0, ((gNm ad z (n + 1)).1 : Int)), (0, ((n + 2 : Nat) : Int))] [] NN N' Q := fun N' a1 a2 a3 a4 => by
      refine WP.run [(88, 23)] [] 60 ?_
      simp only [bk88_0, bk88_23, bk88_34, bk88_40, bk88_43, bk88_48, bk88_53, bk88_59, bk88_66, bk88_72, U_aload_n, U_iconst, U_putfield, U_getfield, U_invokestatic2, U_istore_n, U_iload_n, U_icmp_gt, U_irem, U_if_eq, U_goto, U_invokevirtual1, U_icmp_le, U_if_ne, U_idiv, U_iinc, U_return, UN_cc, UN_cn, UN_nc, UN_nn, UJ, lget, lset, lset2, entL, wsm, wcat, Option.toList_some, Option.toList_none, List.cons_append, List.nil_append, List.mem_cons, List.not_mem_nil, Prod.mk.injEq, or_false, false_or, or_true, true_or, and_true, true_and, and_false, false_and, and_self, ne_eq, not_false_eq_true, not_true_eq_false, forall_const, true_implies, false_implies, Nat.add_zero, Nat.zero_add, Nat.le_refl, Nat.zero_le, List.set_cons_zero, List.set_cons_succ, List.set_nil, ↓reduceIte, Nat.reduceAdd, Nat.reduceSub, Nat.reduceEqDiff, Nat.reduceLeDiff, Int.reduceEq, Int.reduceNe, Int.reduceNeg, reduceCtorEq]
      exact ih (n + 1) N' (by omega) a1 a2 a3 a4
    refine WP.run [(88, 23), (88, 48), (88, 66)] [] 60 ?_
    simp only [bk88_0, bk88_23, bk88_34, bk88_40, bk88_43, bk88_48, bk88_53, bk88_59, bk88_66, bk88_72, U_aload_n, U_iconst, U_putfield, U_getfield, U_invokestatic2, U_istore_n, U_iload_n, U_icmp_gt, U_irem, U_if_eq, U_goto, U_invokevirtual1, U_icmp_le, U_if_ne, U_idiv, U_iinc, U_return, UN_cc, UN_cn, UN_nc, UN_nn, UJ, lget, lset, lset2, entL, wsm, wcat, Option.toList_some, Option.toList_none, List.cons_append, List.nil_append, List.mem_cons, List.not_mem_nil, Prod.mk.injEq, or_false, false_or, or_true, true_or, and_true, true_and, and_false, false_and, and_self, ne_eq, not_false_eq_true, not_true_eq_false, forall_const, true_implies, false_implies, Nat.add_zero, Nat.zero_add, Nat.le_refl, Nat.zero_le, List.set_cons_zero, List.set_cons_succ, List.set_nil, ↓reduceIte, Nat.reduceAdd, Nat.reduceSub, Nat.reduceEqDiff, Nat.reduceLeDiff, Int.reduceEq, Int.reduceNe, Int.reduceNeg, reduceCtorEq, kd94, kd88, z94_1 hS.1.1, e3]
    rw [tmod_nat]
    refine ⟨rr (by omega), fun e => absurd e (by omega), fun _ => ⟨r3 (by omega), r3 (by omega), by omega, r3 (by omega), fun e => ?_, fun e => ?_⟩⟩
    · have h0 : (gNm ad z n).1 % (n + 2) = 0 := by omega
      rw [if_pos h0] at es
      have hpr := gIn_prm hi h0
      have hst := stp_is (q := n + 2) (by omega) _ _ hpos (Nat.le_refl _)
      have hv : (n + 2) ^ vqn (n + 2) (gNm ad z n).1 (gNm ad z n).1 ≤ (tkl f g).length := by
        have := Nat.le_of_dvd hpos ⟨_, hst.1⟩
        omega
      refine s_rounds (q := n + 2) (v := vqn (n + 2) (gNm ad z n).1 (gNm ad z n).1) (nu := (gNm ad z n).2.1) (mx := (gNm ad z n).2.2) hG hS hcv hl e3 (fun i x hx => by rw [hF 95 (by decide) (by decide)]; exact hO i x hx) hpr (by omega) hv (hT4 _ hpr) (tq_zero hG.1 c1 c2 (by rw [cll_len]; exact hi) (by rw [cll_len]; exact h0) |> fun h => by rw [cll_len] at h; exact h) (hmx n) hA fun N2 S2 F2 I2 A2 => ?_
      simp only [bk88_0, bk88_23, bk88_34, bk88_40, bk88_43, bk88_48, bk88_53, bk88_59, bk88_66, bk88_72, U_aload_n, U_iconst, U_putfield, U_getfield, U_invokestatic2, U_istore_n, U_iload_n, U_icmp_gt, U_irem, U_if_eq, U_goto, U_invokevirtual1, U_icmp_le, U_if_ne, U_idiv, U_iinc, U_return, UN_cc, UN_cn, UN_nc, UN_nn, UJ, lget, lset, lset2, entL, wsm, wcat, Option.toList_some, Option.toList_none, List.cons_append, List.nil_append, List.mem_cons, List.not_mem_nil, Prod.mk.injEq, or_false, false_or, or_true, true_or, and_true, true_and, and_false, false_and, and_self, ne_eq, not_false_eq_true, not_true_eq_false, forall_const, true_implies, false_implies, Nat.add_zero, Nat.zero_add, Nat.le_refl, Nat.zero_le, List.set_cons_zero, List.set_cons_succ, List.set_nil, ↓reduceIte, Nat.reduceAdd, Nat.reduceSub, Nat.reduceEqDiff, Nat.reduceLeDiff, Int.reduceEq, Int.reduceNe, Int.reduceNeg, reduceCtorEq]
      refine l_strip ⟨by omega, by omega⟩ (gNm ad z n).1 (gNm ad z n).1 (Nat.le_refl _) hpos (by omega) ?_
      have := nxt N2 S2 (hF.tr F2) (fun i hi => by rw [I2 i hi]; exact hI i hi) (by rw [es]; exact A2)
      rw [es] at this
      exact this
    · rw [if_neg (by omega)] at es
      have := nxt Ni hS hF hI (by rw [es]; exact hA)
      rw [es] at this
      exact this
