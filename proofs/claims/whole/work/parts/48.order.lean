/-! ORDERS, STEPS FROM ONE CLASS TO ANOTHER -/
/-- a whole list of the classes, h of them -/
def CN {p : Int} (f : Pz p) (g h : Nat) : Prop := ∃ L : List (Gq f g), L.Nodup ∧ (∀ x, x ∈ L) ∧ L.length = h
theorem Gq_z {p : Int} {f : Pz p} {g : Nat} {ad : Gq f g → Gq f g → Gq f g} {z : Gq f g} {ng : Gq f g → Gq f g} (hG : GG f g ad z ng) (hp : Pr p) (x : Gq f g) : dg x.1.1 = 1 ↔ x = z := by
  constructor
  · intro h
    refine Subtype.ext ?_
    rw [hG.2.2.1]
    have hm : pmo x.1.1 := x.2.1
    have hv : dg x.1.2 < dg x.1.1 := x.2.2.2.1
    refine Prod.ext ?_ (dg_zero.mp (by omega))
    have e := dg_1 h
    have e2 := hm.2
    rw [h] at e2
    rw [e, e2]
  · intro h
    rw [h, hG.2.2.1]
    have hpp := hp.pos
    exact dg_C (by rw [Int.emod_eq_of_lt (by omega) (by omega)]; omega)
def oinv {G : Type} (ad : G → G → G) (z : G) (a : G) (h q n : Nat) : Prop := 0 < n ∧ n ≤ h ∧ nsm ad z n a = z ∧ ∀ q', 2 ≤ q' → q' < q → q' ∣ n → nsm ad z (n / q') a ≠ z
theorem oinv_end {G : Type} {ad : G → G → G} {z : G} {ng : G → G} (A : Grp G ad z ng) {a : G} {h q n : Nat} (hi : oinv ad z a h q n) (hq : h < q) : IsOrd ad z a n := by
  obtain ⟨h0, h1, h2, h3⟩ := hi
  obtain ⟨o, ho⟩ := ord_ex h0 h2
  obtain ⟨m, hm⟩ := (ord_dvd A ho n).mp h2
  have o0 := ho.1
  by_cases e : m ≤ 1
  · have : m = 1 := by
      rcases Nat.eq_zero_or_pos m with z0 | z0
      · rw [z0] at hm; omega
      · omega
    rw [this, Nat.mul_one] at hm; rw [hm]; exact ho
  · exfalso
    have hmn : m ≤ n := by rw [hm]; exact Nat.le_mul_of_pos_left m o0
    refine h3 m (by omega) (by omega) ⟨o, by rw [hm, Nat.mul_comm]⟩ ?_
    rw [hm, Nat.mul_div_cancel _ (by omega)]; exact ho.2.1
theorem oinv_div {G : Type} {ad : G → G → G} {z : G} {ng : G → G} (A : Grp G ad z ng) {a : G} {h q n : Nat} (hi : oinv ad z a h q n) (hq : 2 ≤ q) (hd : q ∣ n) (hz : nsm ad z (n / q) a = z) : oinv ad z a h q (n / q) ∧ n / q < n := by
  obtain ⟨h0, h1, h2, h3⟩ := hi
  obtain ⟨k, hk⟩ := hd
  have hk0 : 0 < k := by
    rcases Nat.eq_zero_or_pos k with z0 | z0
    · rw [z0] at hk; omega
    · exact z0
  have e : n / q = k := by rw [hk, Nat.mul_div_cancel_left _ (by omega)]
  have hlt : k < n := by
    have : 2 * k ≤ q * k := Nat.mul_le_mul_right _ hq
    omega
  rw [e] at hz ⊢
  refine ⟨⟨hk0, by omega, hz, fun q' g1 g2 g3 g4 => ?_⟩, hlt⟩
  obtain ⟨j, hj⟩ := g3
  have ej : k / q' = j := by rw [hj, Nat.mul_div_cancel_left _ (by omega)]
  rw [ej] at g4
  refine h3 q' g1 g2 ⟨q * j, by rw [hk, hj, ← Nat.mul_assoc, ← Nat.mul_assoc, Nat.mul_comm q q']⟩ ?_
  have e2 : n / q' = j * q := by
    rw [hk, hj, ← Nat.mul_assoc, Nat.mul_comm q q', Nat.mul_assoc, Nat.mul_div_cancel_left _ (by omega), Nat.mul_comm]
  rw [e2, nsm_mul A, g4, nsm_z A]
theorem oinv_next {G : Type} {ad : G → G → G} {z : G} {a : G} {h q n : Nat} (hi : oinv ad z a h q n) (hq : q ∣ n → nsm ad z (n / q) a ≠ z) : oinv ad z a h (q + 1) n := by
  refine ⟨hi.1, hi.2.1, hi.2.2.1, fun q' g1 g2 g3 => ?_⟩
  by_cases e : q' = q
  · subst e; exact hq g3
  · exact hi.2.2.2 q' g1 (by omega) g3
theorem tdiv_nat (n q : Nat) : ((n : Int)).tdiv (q : Int) = ((n / q : Nat) : Int) := by
  rw [Int.tdiv_eq_ediv_of_nonneg (by omega), Int.natCast_ediv]
theorem tmod_nat (n q : Nat) : ((n : Int)).tmod (q : Int) = ((n % q : Nat) : Int) := by
  rw [tm_nn (by omega), Int.natCast_emod]
set_option maxHeartbeats 32000000 in
theorem l_order {p : Int} {N : Mem} {ρ : Int → Option (Pz p)} {Q : Post} {f : Pz p} {g : Nat} {ad : Gq f g → Gq f g → Gq f g} {z : Gq f g} {ng : Gq f g → Gq f g} {pa : Int} {a : Gq f g} {h : Nat} (hG : GG f g ad z ng) (hp : Pr p) (hcv : Cv f g) (hf : ρ 22 = some f) (hg : N 21 3 = g) (hh : N 21 13 = (h : Int)) (hh2 : h ≤ 100000) (ka : KD pa = 16) (a47 : pa ≠ 47) (a52 : pa ≠ 52)
    (hQ : ∀ N' ρ' n, ST p N' ρ' → FR N N' → IsOrd ad z a n → (∀ r, ¬ scr r → r ≠ 48 → r ≠ 50 → r ≠ 53 → r ≠ 55 → ρ' r = ρ r) → Q (some (0, (n : Int))) NN N') :
    ∀ (k q : Nat), q + k = h + 1 → 2 ≤ q → ∀ (Ni : Mem) (ρi : Int → Option (Pz p)) (n : Nat), ST p Ni ρi → FR N Ni → PH ρi pa a.1 → (∀ r, ¬ scr r → r ≠ 48 → r ≠ 50 → r ≠ 53 → r ≠ 55 → ρi r = ρ r) → oinv ad z a h q n → WP 30 (0, 0) 10 [(2, 32), (2, pa), (0, (n : Int)), (0, (q : Int))] [] NN Ni Q := by
  have k52 : KD 52 = 16 := rfl
  have k47 : KD 47 = 16 := rfl
  intro k
  induction k with
  | zero =>
    intro q hk hq Ni ρi n hS hF ha hρ hi
    have h21 : Ni 21 13 = (h : Int) := by rw [hF 21 (by decide)]; exact hh
    have h1 := hi.2.1
    refine WP.run [(30, 10)] [] 60 ?_
    simp only [bk30_0, bk30_10, bk30_21, bk30_26, bk30_32, bk30_54, bk30_57, bk30_64, bk30_70, U_aload_n, U_getfield, U_istore_n, U_iconst, U_iload_n, U_icmp_gt, U_icmp_lt, U_irem, U_if_ne, U_idiv, U_invokevirtual3, U_invokevirtual0, U_goto, U_iinc, U_ireturn, UN_cc, UN_cn, UN_nc, UN_nn, UJ, lget, lset, lset2, entL, wsm, wcat, Option.toList_some, Option.toList_none, List.cons_append, List.nil_append, List.mem_cons, List.not_mem_nil, Prod.mk.injEq, or_false, false_or, or_true, true_or, and_true, true_and, and_false, false_and, and_self, ne_eq, not_false_eq_true, not_true_eq_false, forall_const, true_implies, false_implies, Nat.add_zero, Nat.zero_add, Nat.le_refl, Nat.zero_le, ↓reduceIte, Nat.reduceAdd, Nat.reduceSub, Nat.reduceEqDiff, Nat.reduceLeDiff, Int.reduceEq, Int.reduceNe, Int.reduceNeg, reduceCtorEq, kd2, kd21, kd22, kd32, kd33, kd35, kd37, kd39, kd41, kd43, kd45, z32_1 hS.1.1, h21]
    exact ⟨rr (by omega), fun _ => hQ Ni ρi n hS hF (oinv_end hG.1 hi (by omega)) hρ, fun e => absurd e (by omega)⟩
  | succ k ih =>
    intro q hk hq Ni ρi n hS hF ha hρ hi
    have h21 : Ni 21 13 = (h : Int) := by rw [hF 21 (by decide)]; exact hh
    have h1 := hi.2.1
    refine WP.run [(30, 10), (30, 21), (30, 64)] [] 60 ?_
    simp only [bk30_0, bk30_10, bk30_21, bk30_26, bk30_32, bk30_54, bk30_57, bk30_64, bk30_70, U_aload_n, U_getfield, U_istore_n, U_iconst, U_iload_n, U_icmp_gt, U_icmp_lt, U_irem, U_if_ne, U_idiv, U_invokevirtual3, U_invokevirtual0, U_goto, U_iinc, U_ireturn, UN_cc, UN_cn, UN_nc, UN_nn, UJ, lget, lset, lset2, entL, wsm, wcat, Option.toList_some, Option.toList_none, List.cons_append, List.nil_append, List.mem_cons, List.not_mem_nil, Prod.mk.injEq, or_false, false_or, or_true, true_or, and_true, true_and, and_false, false_and, and_self, ne_eq, not_false_eq_true, not_true_eq_false, forall_const, true_implies, false_implies, Nat.add_zero, Nat.zero_add, Nat.le_refl, Nat.zero_le, ↓reduceIte, Nat.reduceAdd, Nat.reduceSub, Nat.reduceEqDiff, Nat.reduceLeDiff, Int.reduceEq, Int.reduceNe, Int.reduceNeg, reduceCtorEq, kd2, kd21, kd22, kd32, kd33, kd35, kd37, kd39, kd41, kd43, kd45, z32_1 hS.1.1, h21]
    refine ⟨rr (by omega), fun e => absurd e (by omega), fun _ => ?_⟩
    clear h21 h1
    -- the next q
    have nxt : ∀ (Nj : Mem) (ρj : Int → Option (Pz p)) (m : Nat), ST p Nj ρj → FR N Nj → PH ρj pa a.1 → (∀ r, ¬ scr r → r ≠ 48 → r ≠ 50 → r ≠ 53 → r ≠ 55 → ρj r = ρ r) → oinv ad z a h (q + 1) m → WP 30 (0, 0) 64 [(2, 32), (2, pa), (0, (m : Int)), (0, (q : Int))] [] NN Nj Q := fun Nj ρj m g1 g2 g3 g4 g5 => by
      refine WP.run [(30, 10)] [] 60 ?_
      simp only [bk30_0, bk30_10, bk30_21, bk30_26, bk30_32, bk30_54, bk30_57, bk30_64, bk30_70, U_aload_n, U_getfield, U_istore_n, U_iconst, U_iload_n, U_icmp_gt, U_icmp_lt, U_irem, U_if_ne, U_idiv, U_invokevirtual3, U_invokevirtual0, U_goto, U_iinc, U_ireturn, UN_cc, UN_cn, UN_nc, UN_nn, UJ, lget, lset, lset2, entL, wsm, wcat, Option.toList_some, Option.toList_none, List.cons_append, List.nil_append, List.mem_cons, List.not_mem_nil, Prod.mk.injEq, or_false, false_or, or_true, true_or, and_true, true_and, and_false, false_and, and_self, ne_eq, not_false_eq_true, not_true_eq_false, forall_const, true_implies, false_implies, Nat.add_zero, Nat.zero_add, Nat.le_refl, Nat.zero_le, ↓reduceIte, Nat.reduceAdd, Nat.reduceSub, Nat.reduceEqDiff, Nat.reduceLeDiff, Int.reduceEq, Int.reduceNe, Int.reduceNeg, reduceCtorEq]
      exact ih (q + 1) (by omega) (by omega) Nj ρj m g1 g2 g3 g4 g5
    induction n using Nat.strongRecOn generalizing Ni ρi with
    | _ n ihn =>
    have h1 := hi.2.1
    have h0 := hi.1
    refine WP.run [(30, 21), (30, 64)] [] 120 ?_
    simp only [bk30_0, bk30_10, bk30_21, bk30_26, bk30_32, bk30_54, bk30_57, bk30_64, bk30_70, U_aload_n, U_getfield, U_istore_n, U_iconst, U_iload_n, U_icmp_gt, U_icmp_lt, U_irem, U_if_ne, U_idiv, U_invokevirtual3, U_invokevirtual0, U_goto, U_iinc, U_ireturn, UN_cc, UN_cn, UN_nc, UN_nn, UJ, lget, lset, lset2, entL, wsm, wcat, Option.toList_some, Option.toList_none, List.cons_append, List.nil_append, List.mem_cons, List.not_mem_nil, Prod.mk.injEq, or_false, false_or, or_true, true_or, and_true, true_and, and_false, false_and, and_self, ne_eq, not_false_eq_true, not_true_eq_false, forall_const, true_implies, false_implies, Nat.add_zero, Nat.zero_add, Nat.le_refl, Nat.zero_le, ↓reduceIte, Nat.reduceAdd, Nat.reduceSub, Nat.reduceEqDiff, Nat.reduceLeDiff, Int.reduceEq, Int.reduceNe, Int.reduceNeg, reduceCtorEq, kd2, kd21, kd22, kd32, kd33, kd35, kd37, kd39, kd41, kd43, kd45, z32_10 hS.1.1, kd52]
    rw [tmod_nat, tdiv_nat]
    refine ⟨rr (by omega), fun e => nxt Ni ρi n hS hF ha hρ (oinv_next hi (fun d => absurd (Nat.le_of_dvd h0 d) (by omega))), fun e => ⟨r3 (by omega), r3 (by omega), by omega, r3 (by have := Nat.mod_lt n (show 0 < q by omega); omega), fun e2 => ?_, fun e2 => nxt Ni ρi n hS hF ha hρ (oinv_next hi (fun d => absurd (Nat.mod_eq_zero_of_dvd d) (by omega)))⟩⟩
    have hd : q ∣ n := Nat.dvd_of_mod_eq_zero (by omega)
    have hle := Nat.div_le_self n q
    have hle0 : (0 : Int) ≤ ((n / q : Nat) : Int) := Int.natCast_nonneg _
    refine ⟨r3 (by omega), r3 (by omega), by omega, ?_⟩
    have hf1 : ρi 22 = some f := (hρ 22 (by unfold scr tmp; omega) (by omega) (by omega) (by omega) (by omega)).trans hf
    refine s_multiply (n := ((n / q : Nat) : Int)) hG hS hcv hf1 (by rw [hF 21 (by decide)]; exact hg) k52 ka (by decide) a47 ⟨by omega, by omega⟩ ha fun N1 ρ1 hS1 hF1 hx1 hρ1 => ?_
    rw [if_pos (by omega), Int.toNat_natCast] at hx1
    have la := (zpr hS.1.1 ka).2.2.2.2.1
    obtain ⟨u1, u2, u3, u4⟩ := pr_ne hS.1.1 ka k47 a47
    obtain ⟨w1, w2, w3, w4⟩ := pr_ne hS.1.1 ka k52 a52
    have ha1 : PH ρ1 pa a.1 := ⟨(hρ1 _ (by unfold scr tmp; omega) (by omega) (by omega) (by omega) (by omega)).trans ha.1, (hρ1 _ (by unfold scr tmp; omega) (by omega) (by omega) (by omega) (by omega)).trans ha.2⟩
    have hρ1' : ∀ r, ¬ scr r → r ≠ 48 → r ≠ 50 → r ≠ 53 → r ≠ 55 → ρ1 r = ρ r := fun r r0 r1 r2 r3 r4 => (hρ1 r r0 r1 r2 (by omega) (by omega)).trans (hρ r r0 r1 r2 r3 r4)
    simp only [bk30_0, bk30_10, bk30_21, bk30_26, bk30_32, bk30_54, bk30_57, bk30_64, bk30_70, U_aload_n, U_getfield, U_istore_n, U_iconst, U_iload_n, U_icmp_gt, U_icmp_lt, U_irem, U_if_ne, U_idiv, U_invokevirtual3, U_invokevirtual0, U_goto, U_iinc, U_ireturn, UN_cc, UN_cn, UN_nc, UN_nn, UJ, lget, lset, lset2, entL, wsm, wcat, Option.toList_some, Option.toList_none, List.cons_append, List.nil_append, List.mem_cons, List.not_mem_nil, Prod.mk.injEq, or_false, false_or, or_true, true_or, and_true, true_and, and_false, false_and, and_self, ne_eq, not_false_eq_true, not_true_eq_false, forall_const, true_implies, false_implies, Nat.add_zero, Nat.zero_add, Nat.le_refl, Nat.zero_le, ↓reduceIte, Nat.reduceAdd, Nat.reduceSub, Nat.reduceEqDiff, Nat.reduceLeDiff, Int.reduceEq, Int.reduceNe, Int.reduceNeg, reduceCtorEq, kd2, kd21, kd22, kd32, kd33, kd35, kd37, kd39, kd41, kd43, kd45, z32_10 hS1.1.1, kd52]
    refine s_isNought hS1 k52 hx1 (fun e3 => ?_) (fun e3 => ?_)
    · simp only [bk30_0, bk30_10, bk30_21, bk30_26, bk30_32, bk30_54, bk30_57, bk30_64, bk30_70, U_aload_n, U_getfield, U_istore_n, U_iconst, U_iload_n, U_icmp_gt, U_icmp_lt, U_irem, U_if_ne, U_idiv, U_invokevirtual3, U_invokevirtual0, U_goto, U_iinc, U_ireturn, UN_cc, UN_cn, UN_nc, UN_nn, UJ, lget, lset, lset2, entL, wsm, wcat, Option.toList_some, Option.toList_none, List.cons_append, List.nil_append, List.mem_cons, List.not_mem_nil, Prod.mk.injEq, or_false, false_or, or_true, true_or, and_true, true_and, and_false, false_and, and_self, ne_eq, not_false_eq_true, not_true_eq_false, forall_const, true_implies, false_implies, Nat.add_zero, Nat.zero_add, Nat.le_refl, Nat.zero_le, ↓reduceIte, Nat.reduceAdd, Nat.reduceSub, Nat.reduceEqDiff, Nat.reduceLeDiff, Int.reduceEq, Int.reduceNe, Int.reduceNeg, reduceCtorEq, kd2, kd21, kd22, kd32, kd33, kd35, kd37, kd39, kd41, kd43, kd45]
      rw [tdiv_nat]
      have hz := (Gq_z hG hp _).mp e3
      obtain ⟨o1, o2⟩ := oinv_div hG.1 hi hq hd hz
      refine ⟨r3 (by omega), r3 (by omega), r3 (by omega), by omega, ?_⟩
      exact ihn (n / q) o2 N1 ρ1 hS1 (hF.tr hF1) ha1 hρ1' o1
    · simp only [bk30_0, bk30_10, bk30_21, bk30_26, bk30_32, bk30_54, bk30_57, bk30_64, bk30_70, U_aload_n, U_getfield, U_istore_n, U_iconst, U_iload_n, U_icmp_gt, U_icmp_lt, U_irem, U_if_ne, U_idiv, U_invokevirtual3, U_invokevirtual0, U_goto, U_iinc, U_ireturn, UN_cc, UN_cn, UN_nc, UN_nn, UJ, lget, lset, lset2, entL, wsm, wcat, Option.toList_some, Option.toList_none, List.cons_append, List.nil_append, List.mem_cons, List.not_mem_nil, Prod.mk.injEq, or_false, false_or, or_true, true_or, and_true, true_and, and_false, false_and, and_self, ne_eq, not_false_eq_true, not_true_eq_false, forall_const, true_implies, false_implies, Nat.add_zero, Nat.zero_add, Nat.le_refl, Nat.zero_le, ↓reduceIte, Nat.reduceAdd, Nat.reduceSub, Nat.reduceEqDiff, Nat.reduceLeDiff, Int.reduceEq, Int.reduceNe, Int.reduceNeg, reduceCtorEq, kd2, kd21, kd22, kd32, kd33, kd35, kd37, kd39, kd41, kd43, kd45]
      refine ⟨r3 (by omega), ?_⟩
      exact nxt N1 ρ1 n hS1 (hF.tr hF1) ha1 hρ1' (oinv_next hi (fun _ e4 => e3 ((Gq_z hG hp _).mpr e4)))
set_option maxHeartbeats 16000000 in
theorem s_order {p : Int} {N : Mem} {ρ : Int → Option (Pz p)} {Q : Post} {f : Pz p} {g : Nat} {ad : Gq f g → Gq f g → Gq f g} {z : Gq f g} {ng : Gq f g → Gq f g} {pa : Int} {a : Gq f g} {h : Nat} (hG : GG f g ad z ng) (hS : ST p N ρ) (hcv : Cv f g) (hf : ρ 22 = some f) (hg : N 21 3 = g) (hh : N 21 13 = (h : Int)) (hh2 : h ≤ 100000) (hN : CN f g h) (ka : KD pa = 16) (a47 : pa ≠ 47) (a52 : pa ≠ 52) (ha : PH ρ pa a.1)
    (hQ : ∀ N' ρ' n, ST p N' ρ' → FR N N' → IsOrd ad z a n → (∀ r, ¬ scr r → r ≠ 48 → r ≠ 50 → r ≠ 53 → r ≠ 55 → ρ' r = ρ r) → Q (some (0, (n : Int))) NN N') :
    CL 30 [(2, 32), (2, pa), (9, 0), (9, 0)] NN N Q := by
  obtain ⟨L, l1, l2, l3⟩ := hN
  have hz := lagr hG.1 l1 l2 a
  rw [l3] at hz
  have h0 : 0 < h := by rw [← l3]; exact List.length_pos_of_mem (l2 z)
  refine WP.run [(30, 10)] [] 60 ?_
  simp only [bk30_0, bk30_10, bk30_21, bk30_26, bk30_32, bk30_54, bk30_57, bk30_64, bk30_70, U_aload_n, U_getfield, U_istore_n, U_iconst, U_iload_n, U_icmp_gt, U_icmp_lt, U_irem, U_if_ne, U_idiv, U_invokevirtual3, U_invokevirtual0, U_goto, U_iinc, U_ireturn, UN_cc, UN_cn, UN_nc, UN_nn, UJ, lget, lset, lset2, entL, wsm, wcat, Option.toList_some, Option.toList_none, List.cons_append, List.nil_append, List.mem_cons, List.not_mem_nil, Prod.mk.injEq, or_false, false_or, or_true, true_or, and_true, true_and, and_false, false_and, and_self, ne_eq, not_false_eq_true, not_true_eq_false, forall_const, true_implies, false_implies, Nat.add_zero, Nat.zero_add, Nat.le_refl, Nat.zero_le, ↓reduceIte, Nat.reduceAdd, Nat.reduceSub, Nat.reduceEqDiff, Nat.reduceLeDiff, Int.reduceEq, Int.reduceNe, Int.reduceNeg, reduceCtorEq, kd2, kd21, kd22, kd32, kd33, kd35, kd37, kd39, kd41, kd43, kd45, z32_1 hS.1.1, hh]
  by_cases h1 : h = 1
  · subst h1
    refine WP.run [] [] 60 ?_
    simp only [bk30_0, bk30_10, bk30_21, bk30_26, bk30_32, bk30_54, bk30_57, bk30_64, bk30_70, U_aload_n, U_getfield, U_istore_n, U_iconst, U_iload_n, U_icmp_gt, U_icmp_lt, U_irem, U_if_ne, U_idiv, U_invokevirtual3, U_invokevirtual0, U_goto, U_iinc, U_ireturn, UN_cc, UN_cn, UN_nc, UN_nn, UJ, lget, lset, lset2, entL, wsm, wcat, Option.toList_some, Option.toList_none, List.cons_append, List.nil_append, List.mem_cons, List.not_mem_nil, Prod.mk.injEq, or_false, false_or, or_true, true_or, and_true, true_and, and_false, false_and, and_self, ne_eq, not_false_eq_true, not_true_eq_false, forall_const, true_implies, false_implies, Nat.add_zero, Nat.zero_add, Nat.le_refl, Nat.zero_le, ↓reduceIte, Nat.reduceAdd, Nat.reduceSub, Nat.reduceEqDiff, Nat.reduceLeDiff, Int.reduceEq, Int.reduceNe, Int.reduceNeg, reduceCtorEq, kd2, kd21, kd22, kd32, kd33, kd35, kd37, kd39, kd41, kd43, kd45, z32_1 hS.1.1, hh]
    refine ⟨rr (by omega), fun _ => hQ N ρ 1 hS (FR.rf N) ⟨by omega, hz, fun m m0 _ => m0⟩ (fun _ _ _ _ _ _ => rfl), fun e => absurd e (by omega)⟩
  · exact l_order hG hS.1.2.1 hcv hf hg hh hh2 ka a47 a52 hQ (h - 1) 2 (by omega) (by omega) N ρ h hS (FR.rf N) ha (fun _ _ _ _ _ _ => rfl) ⟨h0, Nat.le_refl _, hz, fun q' _ _ => by omega⟩
/-- the least number of steps of a that brings to b, or -1 -/
def IsLog {G : Type} (ad : G → G → G) (z : G) (a b : G) (r : Int) : Prop := (∃ n : Nat, r = n ∧ nsm ad z n a = b ∧ ∀ m, m < n → nsm ad z m a ≠ b) ∨ (r = -1 ∧ ∀ m, nsm ad z m a ≠ b)
theorem log_none {G : Type} {ad : G → G → G} {z : G} {ng : G → G} (A : Grp G ad z ng) {a b : G} {n : Nat} (hz : nsm ad z (n + 1) a = z) (hb : ∀ m, m < n + 1 → nsm ad z m a ≠ b) (m : Nat) : nsm ad z m a ≠ b := fun e => by
  refine hb (m % (n + 1)) (Nat.mod_lt _ (by omega)) ?_
  rw [← e]
  have e2 : nsm ad z m a = nsm ad z ((n + 1) * (m / (n + 1)) + m % (n + 1)) a := by rw [Nat.div_add_mod]
  rw [e2, nsm_add A, nsm_mul A, hz, nsm_z A, A.2.2.1]
set_option maxHeartbeats 32000000 in
theorem l_steps {p : Int} {N : Mem} {ρ : Int → Option (Pz p)} {Q : Post} {f : Pz p} {g : Nat} {ad : Gq f g → Gq f g → Gq f g} {z : Gq f g} {ng : Gq f g → Gq f g} {pa pb : Int} {a b : Gq f g} {h : Nat} (hG : GG f g ad z ng) (hp : Pr p) (hcv : Cv f g) (hf : ρ 22 = some f) (hg : N 21 3 = g) (hh : N 21 13 = (h : Int)) (hh2 : h ≤ 100000) (hz : nsm ad z h a = z) (h0 : 0 < h) (ka : KD pa = 16) (kb : KD pb = 16) (a52 : pa ≠ 52) (b52 : pb ≠ 52)
    (hQ : ∀ N' ρ' r, ST p N' ρ' → FR N N' → IsLog ad z a b r → (∀ r, ¬ scr r → r ≠ 53 → r ≠ 55 → ρ' r = ρ r) → Q (some (0, r)) NN N') :
    ∀ (k n : Nat), n + k = h → ∀ (Ni : Mem) (ρi : Int → Option (Pz p)), ST p Ni ρi → FR N Ni → PH ρi pa a.1 → PH ρi pb b.1 → PH ρi 52 (nsm ad z n a).1 → (∀ r, ¬ scr r → r ≠ 53 → r ≠ 55 → ρi r = ρ r) → (∀ m, m < n → nsm ad z m a ≠ b) → (∀ m, 0 < m → m ≤ n → nsm ad z m a ≠ z) → WP 33 (0, 0) 9 [(2, 32), (2, pa), (2, pb), (0, (n : Int))] [] NN Ni Q := by
  have k52 : KD 52 = 16 := rfl
  intro k
  induction k with
  | zero =>
    intro n hn Ni ρi hS hF ha hb hw hρ i1 i2
    exact absurd hz (i2 h h0 (by omega))
  | succ k ih =>
    intro n hn Ni ρi hS hF ha hb hw hρ i1 i2
    have h21 : Ni 21 13 = (h : Int) := by rw [hF 21 (by decide)]; exact hh
    have la := (zpr hS.1.1 ka).2.2.2.2.1
    have lb := (zpr hS.1.1 kb).2.2.2.2.1
    obtain ⟨u1, u2, u3, u4⟩ := pr_ne hS.1.1 ka k52 a52
    obtain ⟨w1, w2, w3, w4⟩ := pr_ne hS.1.1 kb k52 b52
    refine WP.run [(33, 9)] [] 120 ?_
    simp only [bk33_0, bk33_9, bk33_20, bk33_31, bk33_33, bk33_56, bk33_58, bk33_64, U_aload_n, U_getfield, U_invokevirtual0, U_iconst, U_istore_n, U_iload_n, U_icmp_ge, U_invokevirtual1, U_if_eq, U_ireturn, U_invokevirtual3, U_iinc, U_goto, UN_cc, UN_cn, UN_nc, UN_nn, UJ, lget, lset, lset2, entL, wsm, wcat, Option.toList_some, Option.toList_none, List.cons_append, List.nil_append, List.mem_cons, List.not_mem_nil, Prod.mk.injEq, or_false, false_or, or_true, true_or, and_true, true_and, and_false, false_and, and_self, ne_eq, not_false_eq_true, not_true_eq_false, forall_const, true_implies, false_implies, Nat.add_zero, Nat.zero_add, Nat.le_refl, Nat.zero_le, ↓reduceIte, Nat.reduceAdd, Nat.reduceSub, Nat.reduceEqDiff, Nat.reduceLeDiff, Int.reduceEq, Int.reduceNe, Int.reduceNeg, reduceCtorEq, kd2, kd21, kd22, kd32, kd33, kd35, kd37, kd39, kd41, kd43, kd45, z32_1 hS.1.1, z32_10 hS.1.1, h21, kd52]
    refine ⟨rr (by omega), fun _ => ?_, fun e => absurd e (by omega)⟩
    refine s_pairLike hS k52 kb hw hb (fun e => ?_) (fun e => ?_)
    · simp only [bk33_0, bk33_9, bk33_20, bk33_31, bk33_33, bk33_56, bk33_58, bk33_64, U_aload_n, U_getfield, U_invokevirtual0, U_iconst, U_istore_n, U_iload_n, U_icmp_ge, U_invokevirtual1, U_if_eq, U_ireturn, U_invokevirtual3, U_iinc, U_goto, UN_cc, UN_cn, UN_nc, UN_nn, UJ, lget, lset, lset2, entL, wsm, wcat, Option.toList_some, Option.toList_none, List.cons_append, List.nil_append, List.mem_cons, List.not_mem_nil, Prod.mk.injEq, or_false, false_or, or_true, true_or, and_true, true_and, and_false, false_and, and_self, ne_eq, not_false_eq_true, not_true_eq_false, forall_const, true_implies, false_implies, Nat.add_zero, Nat.zero_add, Nat.le_refl, Nat.zero_le, ↓reduceIte, Nat.reduceAdd, Nat.reduceSub, Nat.reduceEqDiff, Nat.reduceLeDiff, Int.reduceEq, Int.reduceNe, Int.reduceNeg, reduceCtorEq, kd2, kd21, kd22, kd32, kd33, kd35, kd37, kd39, kd41, kd43, kd45]
      exact ⟨r3 (by omega), hQ Ni ρi n hS hF (Or.inl ⟨n, rfl, Subtype.ext e, i1⟩) hρ⟩
    · simp only [bk33_0, bk33_9, bk33_20, bk33_31, bk33_33, bk33_56, bk33_58, bk33_64, U_aload_n, U_getfield, U_invokevirtual0, U_iconst, U_istore_n, U_iload_n, U_icmp_ge, U_invokevirtual1, U_if_eq, U_ireturn, U_invokevirtual3, U_iinc, U_goto, UN_cc, UN_cn, UN_nc, UN_nn, UJ, lget, lset, lset2, entL, wsm, wcat, Option.toList_some, Option.toList_none, List.cons_append, List.nil_append, List.mem_cons, List.not_mem_nil, Prod.mk.injEq, or_false, false_or, or_true, true_or, and_true, true_and, and_false, false_and, and_self, ne_eq, not_false_eq_true, not_true_eq_false, forall_const, true_implies, false_implies, Nat.add_zero, Nat.zero_add, Nat.le_refl, Nat.zero_le, ↓reduceIte, Nat.reduceAdd, Nat.reduceSub, Nat.reduceEqDiff, Nat.reduceLeDiff, Int.reduceEq, Int.reduceNe, Int.reduceNeg, reduceCtorEq, kd2, kd21, kd22, kd32, kd33, kd35, kd37, kd39, kd41, kd43, kd45, z32_10 hS.1.1, kd52]
      refine ⟨r3 (by omega), ?_⟩
      have hf1 : ρi 22 = some f := (hρ 22 (by unfold scr tmp; omega) (by omega) (by omega)).trans hf
      refine s_addG hG hS hcv hf1 (by rw [hF 21 (by decide)]; exact hg) k52 k52 ka hw ha fun N1 ρ1 hS1 hF1 hx1 hρ1 => ?_
      simp only [bk33_0, bk33_9, bk33_20, bk33_31, bk33_33, bk33_56, bk33_58, bk33_64, U_aload_n, U_getfield, U_invokevirtual0, U_iconst, U_istore_n, U_iload_n, U_icmp_ge, U_invokevirtual1, U_if_eq, U_ireturn, U_invokevirtual3, U_iinc, U_goto, UN_cc, UN_cn, UN_nc, UN_nn, UJ, lget, lset, lset2, entL, wsm, wcat, Option.toList_some, Option.toList_none, List.cons_append, List.nil_append, List.mem_cons, List.not_mem_nil, Prod.mk.injEq, or_false, false_or, or_true, true_or, and_true, true_and, and_false, false_and, and_self, ne_eq, not_false_eq_true, not_true_eq_false, forall_const, true_implies, false_implies, Nat.add_zero, Nat.zero_add, Nat.le_refl, Nat.zero_le, ↓reduceIte, Nat.reduceAdd, Nat.reduceSub, Nat.reduceEqDiff, Nat.reduceLeDiff, Int.reduceEq, Int.reduceNe, Int.reduceNeg, reduceCtorEq, kd2, kd21, kd22, kd32, kd33, kd35, kd37, kd39, kd41, kd43, kd45, z32_10 hS1.1.1, kd52]
      have i1' : ∀ m, m < n + 1 → nsm ad z m a ≠ b := fun m hm => by
        by_cases q : m = n
        · subst q; exact fun e2 => e (congrArg Subtype.val e2)
        · exact i1 m (by omega)
      have hρ1' : ∀ r, ¬ scr r → r ≠ 53 → r ≠ 55 → ρ1 r = ρ r := fun r r0 r1 r2 => (hρ1 r r0 (by omega) (by omega)).trans (hρ r r0 r1 r2)
      refine s_isNought hS1 k52 hx1 (fun e3 => ?_) (fun e3 => ?_)
      · simp only [bk33_0, bk33_9, bk33_20, bk33_31, bk33_33, bk33_56, bk33_58, bk33_64, U_aload_n, U_getfield, U_invokevirtual0, U_iconst, U_istore_n, U_iload_n, U_icmp_ge, U_invokevirtual1, U_if_eq, U_ireturn, U_invokevirtual3, U_iinc, U_goto, UN_cc, UN_cn, UN_nc, UN_nn, UJ, lget, lset, lset2, entL, wsm, wcat, Option.toList_some, Option.toList_none, List.cons_append, List.nil_append, List.mem_cons, List.not_mem_nil, Prod.mk.injEq, or_false, false_or, or_true, true_or, and_true, true_and, and_false, false_and, and_self, ne_eq, not_false_eq_true, not_true_eq_false, forall_const, true_implies, false_implies, Nat.add_zero, Nat.zero_add, Nat.le_refl, Nat.zero_le, ↓reduceIte, Nat.reduceAdd, Nat.reduceSub, Nat.reduceEqDiff, Nat.reduceLeDiff, Int.reduceEq, Int.reduceNe, Int.reduceNeg, reduceCtorEq, kd2, kd21, kd22, kd32, kd33, kd35, kd37, kd39, kd41, kd43, kd45]
        have e4 := (Gq_z hG hp _).mp e3
        exact ⟨r3 (by omega), hQ N1 ρ1 (-1) hS1 (hF.tr hF1) (Or.inr ⟨rfl, log_none hG.1 e4 i1'⟩) hρ1'⟩
      · simp only [bk33_0, bk33_9, bk33_20, bk33_31, bk33_33, bk33_56, bk33_58, bk33_64, U_aload_n, U_getfield, U_invokevirtual0, U_iconst, U_istore_n, U_iload_n, U_icmp_ge, U_invokevirtual1, U_if_eq, U_ireturn, U_invokevirtual3, U_iinc, U_goto, UN_cc, UN_cn, UN_nc, UN_nn, UJ, lget, lset, lset2, entL, wsm, wcat, Option.toList_some, Option.toList_none, List.cons_append, List.nil_append, List.mem_cons, List.not_mem_nil, Prod.mk.injEq, or_false, false_or, or_true, true_or, and_true, true_and, and_false, false_and, and_self, ne_eq, not_false_eq_true, not_true_eq_false, forall_const, true_implies, false_implies, Nat.add_zero, Nat.zero_add, Nat.le_refl, Nat.zero_le, ↓reduceIte, Nat.reduceAdd, Nat.reduceSub, Nat.reduceEqDiff, Nat.reduceLeDiff, Int.reduceEq, Int.reduceNe, Int.reduceNeg, reduceCtorEq, kd2, kd21, kd22, kd32, kd33, kd35, kd37, kd39, kd41, kd43, kd45]
        refine ⟨r3 (by omega), ?_⟩
        refine ih (n + 1) (by omega) N1 ρ1 hS1 (hF.tr hF1) ⟨(hρ1 _ (by unfold scr tmp; omega) (by omega) (by omega)).trans ha.1, (hρ1 _ (by unfold scr tmp; omega) (by omega) (by omega)).trans ha.2⟩ ⟨(hρ1 _ (by unfold scr tmp; omega) (by omega) (by omega)).trans hb.1, (hρ1 _ (by unfold scr tmp; omega) (by omega) (by omega)).trans hb.2⟩ hx1 hρ1' i1' (fun m m0 m1 e5 => ?_)
        by_cases q : m = n + 1
        · subst q; exact e3 ((Gq_z hG hp _).mpr e5)
        · exact i2 m m0 (by omega) e5
set_option maxHeartbeats 16000000 in
theorem s_steps {p : Int} {N : Mem} {ρ : Int → Option (Pz p)} {Q : Post} {f : Pz p} {g : Nat} {ad : Gq f g → Gq f g → Gq f g} {z : Gq f g} {ng : Gq f g → Gq f g} {pa pb : Int} {a b : Gq f g} {h : Nat} (hG : GG f g ad z ng) (hS : ST p N ρ) (hcv : Cv f g) (hf : ρ 22 = some f) (hg : N 21 3 = g) (hh : N 21 13 = (h : Int)) (hh2 : h ≤ 100000) (hN : CN f g h) (ka : KD pa = 16) (kb : KD pb = 16) (a52 : pa ≠ 52) (b52 : pb ≠ 52) (ha : PH ρ pa a.1) (hb : PH ρ pb b.1)
    (hQ : ∀ N' ρ' r, ST p N' ρ' → FR N N' → IsLog ad z a b r → (∀ r, ¬ scr r → r ≠ 53 → r ≠ 55 → ρ' r = ρ r) → Q (some (0, r)) NN N') :
    CL 33 [(2, 32), (2, pa), (2, pb), (9, 0)] NN N Q := by
  have k52 : KD 52 = 16 := rfl
  obtain ⟨L, l1, l2, l3⟩ := hN
  have hz := lagr hG.1 l1 l2 a
  rw [l3] at hz
  have h0 : 0 < h := by rw [← l3]; exact List.length_pos_of_mem (l2 z)
  refine WP.run [(33, 9)] [] 60 ?_
  simp only [bk33_0, bk33_9, bk33_20, bk33_31, bk33_33, bk33_56, bk33_58, bk33_64, U_aload_n, U_getfield, U_invokevirtual0, U_iconst, U_istore_n, U_iload_n, U_icmp_ge, U_invokevirtual1, U_if_eq, U_ireturn, U_invokevirtual3, U_iinc, U_goto, UN_cc, UN_cn, UN_nc, UN_nn, UJ, lget, lset, lset2, entL, wsm, wcat, Option.toList_some, Option.toList_none, List.cons_append, List.nil_append, List.mem_cons, List.not_mem_nil, Prod.mk.injEq, or_false, false_or, or_true, true_or, and_true, true_and, and_false, false_and, and_self, ne_eq, not_false_eq_true, not_true_eq_false, forall_const, true_implies, false_implies, Nat.add_zero, Nat.zero_add, Nat.le_refl, Nat.zero_le, ↓reduceIte, Nat.reduceAdd, Nat.reduceSub, Nat.reduceEqDiff, Nat.reduceLeDiff, Int.reduceEq, Int.reduceNe, Int.reduceNeg, reduceCtorEq, kd2, kd21, kd22, kd32, kd33, kd35, kd37, kd39, kd41, kd43, kd45, z32_10 hS.1.1, kd52]
  refine s_makeNought hS k52 fun N1 h1 f1 => ?_
  simp only [bk33_0, bk33_9, bk33_20, bk33_31, bk33_33, bk33_56, bk33_58, bk33_64, U_aload_n, U_getfield, U_invokevirtual0, U_iconst, U_istore_n, U_iload_n, U_icmp_ge, U_invokevirtual1, U_if_eq, U_ireturn, U_invokevirtual3, U_iinc, U_goto, UN_cc, UN_cn, UN_nc, UN_nn, UJ, lget, lset, lset2, entL, wsm, wcat, Option.toList_some, Option.toList_none, List.cons_append, List.nil_append, List.mem_cons, List.not_mem_nil, Prod.mk.injEq, or_false, false_or, or_true, true_or, and_true, true_and, and_false, false_and, and_self, ne_eq, not_false_eq_true, not_true_eq_false, forall_const, true_implies, false_implies, Nat.add_zero, Nat.zero_add, Nat.le_refl, Nat.zero_le, ↓reduceIte, Nat.reduceAdd, Nat.reduceSub, Nat.reduceEqDiff, Nat.reduceLeDiff, Int.reduceEq, Int.reduceNe, Int.reduceNeg, reduceCtorEq]
  refine l_steps (ρ := upq (upq ρ (52 + 1) (pC p 1)) (52 + 3) (pC p 0)) (h := h) hG hS.1.2.1 hcv (by repeat (first | assumption | rw [upq_e] | rw [upq_n (by omega)])) (by rw [f1 21 (by decide)]; exact hg) (by rw [f1 21 (by decide)]; exact hh) hh2 hz h0 ka kb a52 b52 (fun N' ρ' r g1 g2 g3 g4 => hQ N' ρ' r g1 (f1.tr g2) g3 (fun r r0 r1 r2 => ?_)) h 0 (by omega) N1 _ h1 (FR.rf _) (ha.upq2 hS.1.1 k52 ka (fun e => a52 e.symm)) (hb.upq2 hS.1.1 k52 kb (fun e => b52 e.symm)) ?_ (fun _ _ _ _ => rfl) (fun m hm => by omega) (fun m m0 m1 => by omega)
  · rw [g4 r r0 r1 r2, upq_n (by omega), upq_n (by omega)]
  · show PH _ 52 z.1
    rw [hG.2.2.1]
    exact ⟨(by repeat (first | assumption | rw [upq_e] | rw [upq_n (by omega)])), (by repeat (first | assumption | rw [upq_e] | rw [upq_n (by omega)]))⟩
