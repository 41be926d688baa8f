/-! MULTIPLES OF CLASSES -/
abbrev Gq {p : Int} (f : Pz p) (g : Nat) : Type := @Gt (Pz p) (pring p) dg pmo f g
def GG {p : Int} (f : Pz p) (g : Nat) (ad : Gq f g → Gq f g → Gq f g) (z : Gq f g) (ng : Gq f g → Gq f g) : Prop := Grp _ ad z ng ∧ (∀ a b c : Gq f g, pSum f a.1 b.1 c.1 ↔ c = ad a b) ∧ z.1 = (pC p 1, pC p 0) ∧ ∀ a : Gq f g, (ng a).1 = (a.1.1, pneg a.1.2)
theorem pmo_1 {p : Int} (hp : Pr p) : pmo (pC p 1) := by
  have hpp := hp.pos
  have e : dg (pC p 1) = 1 := dg_C (by rw [Int.emod_eq_of_lt (by omega) (by omega)]; omega)
  exact ⟨by omega, by rw [e]; show (1 : Int) % p = 1; exact Int.emod_eq_of_lt (by omega) (by omega)⟩
theorem GG_ex {p : Int} (hp : Pr p) {f : Pz p} {g : Nat} (hcv : Cv f g) : ∃ ad z ng, GG f g ad z ng := by
  obtain ⟨ad, z, ng, h1, h2, h3, h4⟩ := @grp_ex (Pz p) (pring p) dg pmo (Euc_Pz hp) f g hcv.2.1 hcv.2.2.2 (pmo_1 hp)
  exact ⟨ad, z, ng, h1, h2, h3, h4⟩
set_option maxHeartbeats 8000000 in
theorem s_addG {p : Int} {N : Mem} {ρ : Int → Option (Pz p)} {Q : Post} {f : Pz p} {g : Nat} {ad : Gq f g → Gq f g → Gq f g} {z : Gq f g} {ng : Gq f g → Gq f g} {po pa pb : Int} {a b : Gq f g} (hG : GG f g ad z ng) (h : ST p N ρ) (hcv : Cv f g) (hf : ρ 22 = some f) (hg : N 21 3 = g) (ko : KD po = 16) (ka : KD pa = 16) (kb : KD pb = 16)
    (ha : PH ρ pa a.1) (hb : PH ρ pb b.1) (hQ : ∀ N' ρ', ST p N' ρ' → FR N N' → PH ρ' po (ad a b).1 → (∀ r, ¬ scr r → r ≠ po + 1 → r ≠ po + 3 → ρ' r = ρ r) → Q none NN N') :
    CL 26 [(2, 32), (2, po), (2, pa), (2, pb)] NN N Q :=
  s_add h hcv hf hg ko ka kb ha.1 ha.2 hb.1 hb.2 a.2 b.2 fun N' ρ' c h' f' hr hs u v hρ => by
    have e := (hG.2.1 a b ⟨c, hr⟩).mp hs
    refine hQ N' ρ' h' f' ?_ hρ
    rw [← e]; exact ⟨u, v⟩
theorem shn (m k : Nat) : (m : Int) / 2 ^ k = ((m / 2 ^ k : Nat) : Int) := by
  rw [Int.natCast_ediv, Int.natCast_pow]; rfl
theorem half_up {G : Type} {ad : G → G → G} {z : G} {ng : G → G} (A : Grp G ad z ng) (x : G) (m n : Nat) : (m / 2 ^ n % 2 = 1 → ad (ad (nsm ad z (m / 2 ^ (n + 1)) x) (nsm ad z (m / 2 ^ (n + 1)) x)) x = nsm ad z (m / 2 ^ n) x) ∧ (¬ m / 2 ^ n % 2 = 1 → ad (nsm ad z (m / 2 ^ (n + 1)) x) (nsm ad z (m / 2 ^ (n + 1)) x) = nsm ad z (m / 2 ^ n) x) := by
  have e : m / 2 ^ (n + 1) = m / 2 ^ n / 2 := by rw [Nat.pow_succ, Nat.div_div_eq_div_mul]
  rw [e, ← nsm_add A]
  generalize m / 2 ^ n = k
  refine ⟨fun h => ?_, fun h => ?_⟩
  · show nsm ad z (k / 2 + k / 2 + 1) x = _
    congr 1; omega
  · congr 1; omega
set_option maxHeartbeats 16000000 in
theorem l_mul2 {p : Int} {N : Mem} {ρ : Int → Option (Pz p)} {Q : Post} {f : Pz p} {g : Nat} {ad : Gq f g → Gq f g → Gq f g} {z : Gq f g} {ng : Gq f g → Gq f g} {po pa n0 top : Int} {x : Gq f g} {many : Nat} (hG : GG f g ad z ng) (hcv : Cv f g) (hf : ρ 22 = some f) (hg : N 21 3 = g) (ko : KD po = 16) (ho : po ≠ 47) (hm : many < 2147483648)
    (hQ : ∀ N' ρ', ST p N' ρ' → FR N N' → PH ρ' po (nsm ad z many x).1 → (∀ r, ¬ scr r → r ≠ po + 1 → r ≠ po + 3 → ρ' r = ρ r) → Q none NN N') :
    ∀ (n : Nat) (b : Int) (Ni : Mem) (ρi : Int → Option (Pz p)), b + 1 = n → n ≤ 31 → ST p Ni ρi → FR N Ni → PH ρi po (nsm ad z (many / 2 ^ n) x).1 → PH ρi 47 x.1 → (∀ r, ¬ scr r → r ≠ po + 1 → r ≠ po + 3 → ρi r = ρ r) → WP 28 (0, 0) 59 [(2, 32), (2, po), (2, pa), (0, n0), (0, (many : Int)), (0, top), (0, b)] [] NN Ni Q := by
  have k47 : KD 47 = 16 := rfl
  intro n
  induction n with
  | zero =>
    intro b Ni ρi h1 h2 hS hF hx hb hρ
    refine WP.run [(28, 59)] [] 60 ?_
    simp only [bk28_0, bk28_12, bk28_20, bk28_29, bk28_36, bk28_45, bk28_51, bk28_59, bk28_64, bk28_82, bk28_92, bk28_98, U_aload_n, U_getfield, U_invokevirtual1, U_iload_n, U_if_ge, U_abs, U_istore, U_iconst, U_iload, U_bipush, U_icmp_ge, U_ishr, U_icmp_le, U_iinc, U_goto, U_invokevirtual0, U_if_lt, U_invokevirtual3, U_iand, U_icmp_ne, U_return, UN_cc, UN_cn, UN_nc, UN_nn, UJ, lget, lset, lset2, entL, wsm, wcat, Option.toList_some, Option.toList_none, List.cons_append, List.nil_append, List.mem_cons, List.not_mem_nil, Prod.mk.injEq, or_false, false_or, or_true, true_or, and_true, true_and, and_false, false_and, and_self, ne_eq, not_false_eq_true, not_true_eq_false, forall_const, true_implies, false_implies, Nat.add_zero, Nat.zero_add, Nat.le_refl, Nat.zero_le, ↓reduceIte, Nat.reduceAdd, Nat.reduceSub, Nat.reduceEqDiff, Nat.reduceLeDiff, Int.reduceEq, Int.reduceNe, Int.reduceNeg, reduceCtorEq]
    refine ⟨r3 (by omega), fun _ => hQ Ni ρi hS hF ?_ hρ, fun h => by omega⟩
    rw [Nat.pow_zero, Nat.div_one] at hx; exact hx
  | succ n ih =>
    intro b Ni ρi h1 h2 hS hF hx hb hρ
    obtain rfl : b = (n : Int) := by omega
    have lo := (zpr hS.1.1 ko).2.2.2.2.1
    obtain ⟨n1, n2, n3, n4⟩ := pr_ne hS.1.1 ko k47 ho
    have hf0 : ρi 22 = some f := (hρ 22 (by unfold scr tmp; omega) (by omega) (by omega)).trans hf
    refine WP.run [(28, 59)] [] 120 ?_
    simp only [bk28_0, bk28_12, bk28_20, bk28_29, bk28_36, bk28_45, bk28_51, bk28_59, bk28_64, bk28_82, bk28_92, bk28_98, U_aload_n, U_getfield, U_invokevirtual1, U_iload_n, U_if_ge, U_abs, U_istore, U_iconst, U_iload, U_bipush, U_icmp_ge, U_ishr, U_icmp_le, U_iinc, U_goto, U_invokevirtual0, U_if_lt, U_invokevirtual3, U_iand, U_icmp_ne, U_return, UN_cc, UN_cn, UN_nc, UN_nn, UJ, lget, lset, lset2, entL, wsm, wcat, Option.toList_some, Option.toList_none, List.cons_append, List.nil_append, List.mem_cons, List.not_mem_nil, Prod.mk.injEq, or_false, false_or, or_true, true_or, and_true, true_and, and_false, false_and, and_self, ne_eq, not_false_eq_true, not_true_eq_false, forall_const, true_implies, false_implies, Nat.add_zero, Nat.zero_add, Nat.le_refl, Nat.zero_le, ↓reduceIte, Nat.reduceAdd, Nat.reduceSub, Nat.reduceEqDiff, Nat.reduceLeDiff, Int.reduceEq, Int.reduceNe, Int.reduceNeg, reduceCtorEq, kd2, kd21, kd22, kd32, kd33, kd35, kd37, kd39, kd41, kd43, kd45]
    refine ⟨r3 (by omega), fun h => by omega, fun _ => s_addG hG hS hcv hf0 (by rw [hF 21 (by decide)]; exact hg) ko ko ko hx hx fun N1 ρ1 hS1 hF1 hx1 hρ1 => ?_⟩
    have hb1 : PH ρ1 47 x.1 := ⟨(hρ1 _ (by unfold scr tmp; omega) (fun e => n1 e.symm) (fun e => n3 e.symm)).trans hb.1, (hρ1 _ (by unfold scr tmp; omega) (fun e => n2 e.symm) (fun e => n4 e.symm)).trans hb.2⟩
    have hρ1' : ∀ r, ¬ scr r → r ≠ po + 1 → r ≠ po + 3 → ρ1 r = ρ r := fun r a1 a2 a3 => (hρ1 r a1 a2 a3).trans (hρ r a1 a2 a3)
    have hsh : (many : Int) / 2 ^ ((n : Int)).toNat = ((many / 2 ^ n : Nat) : Int) := by rw [Int.toNat_natCast]; exact shn many n
    have hle : many / 2 ^ n ≤ many := Nat.div_le_self _ _
    have hu := half_up hG.1 x many n
    generalize hkk : many / 2 ^ n = kk at hsh hle hu
    have hbd := band_1 (x := (kk : Int)) (by omega) (by omega)
    simp only [bk28_0, bk28_12, bk28_20, bk28_29, bk28_36, bk28_45, bk28_51, bk28_59, bk28_64, bk28_82, bk28_92, bk28_98, U_aload_n, U_getfield, U_invokevirtual1, U_iload_n, U_if_ge, U_abs, U_istore, U_iconst, U_iload, U_bipush, U_icmp_ge, U_ishr, U_icmp_le, U_iinc, U_goto, U_invokevirtual0, U_if_lt, U_invokevirtual3, U_iand, U_icmp_ne, U_return, UN_cc, UN_cn, UN_nc, UN_nn, UJ, lget, lset, lset2, entL, wsm, wcat, Option.toList_some, Option.toList_none, List.cons_append, List.nil_append, List.mem_cons, List.not_mem_nil, Prod.mk.injEq, or_false, false_or, or_true, true_or, and_true, true_and, and_false, false_and, and_self, ne_eq, not_false_eq_true, not_true_eq_false, forall_const, true_implies, false_implies, Nat.add_zero, Nat.zero_add, Nat.le_refl, Nat.zero_le, ↓reduceIte, Nat.reduceAdd, Nat.reduceSub, Nat.reduceEqDiff, Nat.reduceLeDiff, Int.reduceEq, Int.reduceNe, Int.reduceNeg, reduceCtorEq, kd2, kd21, kd22, kd32, kd33, kd35, kd37, kd39, kd41, kd43, kd45, z32_9 hS1.1.1, hsh, hbd]
    refine ⟨r3 (by omega), by omega, by omega, rr (by omega), fun h => ?_, fun h => ?_⟩
    · have hf1 : ρ1 22 = some f := (hρ1' 22 (by unfold scr tmp; omega) (by omega) (by omega)).trans hf
      refine s_addG hG hS1 hcv hf1 (by rw [hF1 21 (by decide), hF 21 (by decide)]; exact hg) ko ko k47 hx1 hb1 fun N2 ρ2 hS2 hF2 hx2 hρ2 => ?_
      simp only [bk28_0, bk28_12, bk28_20, bk28_29, bk28_36, bk28_45, bk28_51, bk28_59, bk28_64, bk28_82, bk28_92, bk28_98, U_aload_n, U_getfield, U_invokevirtual1, U_iload_n, U_if_ge, U_abs, U_istore, U_iconst, U_iload, U_bipush, U_icmp_ge, U_ishr, U_icmp_le, U_iinc, U_goto, U_invokevirtual0, U_if_lt, U_invokevirtual3, U_iand, U_icmp_ne, U_return, UN_cc, UN_cn, UN_nc, UN_nn, UJ, lget, lset, lset2, entL, wsm, wcat, Option.toList_some, Option.toList_none, List.cons_append, List.nil_append, List.mem_cons, List.not_mem_nil, Prod.mk.injEq, or_false, false_or, or_true, true_or, and_true, true_and, and_false, false_and, and_self, ne_eq, not_false_eq_true, not_true_eq_false, forall_const, true_implies, false_implies, Nat.add_zero, Nat.zero_add, Nat.le_refl, Nat.zero_le, ↓reduceIte, Nat.reduceAdd, Nat.reduceSub, Nat.reduceEqDiff, Nat.reduceLeDiff, Int.reduceEq, Int.reduceNe, Int.reduceNeg, reduceCtorEq, kd2, kd21, kd22, kd32, kd33, kd35, kd37, kd39, kd41, kd43, kd45]
      rw [hu.1 (by omega), ← hkk] at hx2
      refine ih ((n : Int) + -1) N2 ρ2 (by omega) (by omega) hS2 ((hF.tr hF1).tr hF2) hx2 ⟨(hρ2 _ (by unfold scr tmp; omega) (fun e => n1 e.symm) (fun e => n3 e.symm)).trans hb1.1, (hρ2 _ (by unfold scr tmp; omega) (fun e => n2 e.symm) (fun e => n4 e.symm)).trans hb1.2⟩ (fun r a1 a2 a3 => (hρ2 r a1 a2 a3).trans (hρ1' r a1 a2 a3))
    · rw [hu.2 (by omega), ← hkk] at hx1
      exact ih ((n : Int) + -1) N1 ρ1 (by omega) (by omega) hS1 (hF.tr hF1) hx1 hb1 hρ1'
set_option maxHeartbeats 16000000 in
theorem l_mul1 {N : Mem} {Q : Post} {po pa n0 : Int} {many : Nat} {v : V} (hm : many < 2147483648) (hQ : ∀ t : Nat, t ≤ 30 → many / 2 ^ (t + 1) = 0 → WP 28 (0, 0) 51 [(2, 32), (2, po), (2, pa), (0, n0), (0, (many : Int)), (0, (t : Int)), v] [] NN N Q) :
    ∀ (n t : Nat), t + n = 30 → WP 28 (0, 0) 29 [(2, 32), (2, po), (2, pa), (0, n0), (0, (many : Int)), (0, (t : Int)), v] [] NN N Q := by
  intro n
  induction n with
  | zero =>
    intro t h
    obtain rfl : t = 30 := by omega
    refine WP.run [(28, 29), (28, 51)] [] 60 ?_
    simp only [bk28_0, bk28_12, bk28_20, bk28_29, bk28_36, bk28_45, bk28_51, bk28_59, bk28_64, bk28_82, bk28_92, bk28_98, U_aload_n, U_getfield, U_invokevirtual1, U_iload_n, U_if_ge, U_abs, U_istore, U_iconst, U_iload, U_bipush, U_icmp_ge, U_ishr, U_icmp_le, U_iinc, U_goto, U_invokevirtual0, U_if_lt, U_invokevirtual3, U_iand, U_icmp_ne, U_return, UN_cc, UN_cn, UN_nc, UN_nn, UJ, lget, lset, lset2, entL, wsm, wcat, Option.toList_some, Option.toList_none, List.cons_append, List.nil_append, List.mem_cons, List.not_mem_nil, Prod.mk.injEq, or_false, false_or, or_true, true_or, and_true, true_and, and_false, false_and, and_self, ne_eq, not_false_eq_true, not_true_eq_false, forall_const, true_implies, false_implies, Nat.add_zero, Nat.zero_add, Nat.le_refl, Nat.zero_le, ↓reduceIte, Nat.reduceAdd, Nat.reduceSub, Nat.reduceEqDiff, Nat.reduceLeDiff, Int.reduceEq, Int.reduceNe, Int.reduceNeg, reduceCtorEq]
    exact ⟨rr (by omega), fun h => absurd h (by omega), fun _ => hQ 30 (by omega) (Nat.div_eq_of_lt hm)⟩
  | succ n ih =>
    intro t h
    have hle : many / 2 ^ t ≤ many := Nat.div_le_self _ _
    have hsh : (many : Int) / 2 ^ ((t : Int)).toNat = ((many / 2 ^ t : Nat) : Int) := by rw [Int.toNat_natCast]; exact shn many t
    have hnx : many / 2 ^ (t + 1) = many / 2 ^ t / 2 := by rw [Nat.pow_succ, Nat.div_div_eq_div_mul]
    generalize hkk : many / 2 ^ t = kk at hsh hle hnx
    refine WP.run [(28, 29), (28, 51)] [] 60 ?_
    simp only [bk28_0, bk28_12, bk28_20, bk28_29, bk28_36, bk28_45, bk28_51, bk28_59, bk28_64, bk28_82, bk28_92, bk28_98, U_aload_n, U_getfield, U_invokevirtual1, U_iload_n, U_if_ge, U_abs, U_istore, U_iconst, U_iload, U_bipush, U_icmp_ge, U_ishr, U_icmp_le, U_iinc, U_goto, U_invokevirtual0, U_if_lt, U_invokevirtual3, U_iand, U_icmp_ne, U_return, UN_cc, UN_cn, UN_nc, UN_nn, UJ, lget, lset, lset2, entL, wsm, wcat, Option.toList_some, Option.toList_none, List.cons_append, List.nil_append, List.mem_cons, List.not_mem_nil, Prod.mk.injEq, or_false, false_or, or_true, true_or, and_true, true_and, and_false, false_and, and_self, ne_eq, not_false_eq_true, not_true_eq_false, forall_const, true_implies, false_implies, Nat.add_zero, Nat.zero_add, Nat.le_refl, Nat.zero_le, ↓reduceIte, Nat.reduceAdd, Nat.reduceSub, Nat.reduceEqDiff, Nat.reduceLeDiff, Int.reduceEq, Int.reduceNe, Int.reduceNeg, reduceCtorEq, hsh]
    refine ⟨rr (by omega), fun _ => ⟨r3 (by omega), by omega, by omega, rr (by omega), fun h1 => ?_, fun h1 => ?_⟩, fun h1 => absurd h1 (by omega)⟩
    · exact ih (t + 1) (by omega)
    · refine hQ t (by omega) ?_
      rw [hnx]; omega
set_option maxHeartbeats 16000000 in
theorem s_multiply {p : Int} {N : Mem} {ρ : Int → Option (Pz p)} {Q : Post} {f : Pz p} {g : Nat} {ad : Gq f g → Gq f g → Gq f g} {z : Gq f g} {ng : Gq f g → Gq f g} {po pa n : Int} {a : Gq f g} (hG : GG f g ad z ng) (h : ST p N ρ) (hcv : Cv f g) (hf : ρ 22 = some f) (hg : N 21 3 = g) (ko : KD po = 16) (ka : KD pa = 16) (ho : po ≠ 47) (ha47 : pa ≠ 47) (hn : -100000 ≤ n ∧ n ≤ 100000)
    (ha : PH ρ pa a.1) (hQ : ∀ N' ρ', ST p N' ρ' → FR N N' → PH ρ' po (if 0 ≤ n then nsm ad z n.toNat a else nsm ad z (-n).toNat (ng a)).1 → (∀ r, ¬ scr r → r ≠ 48 → r ≠ 50 → r ≠ po + 1 → r ≠ po + 3 → ρ' r = ρ r) → Q none NN N') :
    CL 28 [(2, 32), (2, po), (2, pa), (0, n), (9, 0), (9, 0), (9, 0)] NN N Q := by
  have k47 : KD 47 = 16 := rfl
  have lo := (zpr h.1.1 ko).2.2.2.2.1
  obtain ⟨n1, n2, n3, n4⟩ := pr_ne h.1.1 ko k47 ho
  -- from the base on
  have rest : ∀ (N1 : Mem) (ρ1 : Int → Option (Pz p)) (x : Gq f g) (many : Nat) (v5 v6 : V), many ≤ 100000 → ST p N1 ρ1 → FR N N1 → PH ρ1 47 x.1 → (∀ r, ¬ scr r → r ≠ 48 → r ≠ 50 → ρ1 r = ρ r) → (∀ N' ρ', ST p N' ρ' → FR N N' → PH ρ' po (nsm ad z many x).1 → (∀ r, ¬ scr r → r ≠ 48 → r ≠ 50 → r ≠ po + 1 → r ≠ po + 3 → ρ' r = ρ r) → Q none NN N') → (n = many ∨ n = -(many : Int)) →
      WP 28 (0, 0) 20 [(2, 32), (2, po), (2, pa), (0, n), (9, 0), v5, v6] [] NN N1 Q := by
    intro N1 ρ1 x many v5 v6 hm hS hF hx hρ hQ1 hnm
    refine WP.run [(28, 29)] [] 60 ?_
    have hab : (if 0 ≤ n then n else -n) = (many : Int) := by split <;> omega
    simp only [bk28_0, bk28_12, bk28_20, bk28_29, bk28_36, bk28_45, bk28_51, bk28_59, bk28_64, bk28_82, bk28_92, bk28_98, U_aload_n, U_getfield, U_invokevirtual1, U_iload_n, U_if_ge, U_abs, U_istore, U_iconst, U_iload, U_bipush, U_icmp_ge, U_ishr, U_icmp_le, U_iinc, U_goto, U_invokevirtual0, U_if_lt, U_invokevirtual3, U_iand, U_icmp_ne, U_return, UN_cc, UN_cn, UN_nc, UN_nn, UJ, lget, lset, lset2, entL, wsm, wcat, Option.toList_some, Option.toList_none, List.cons_append, List.nil_append, List.mem_cons, List.not_mem_nil, Prod.mk.injEq, or_false, false_or, or_true, true_or, and_true, true_and, and_false, false_and, and_self, ne_eq, not_false_eq_true, not_true_eq_false, forall_const, true_implies, false_implies, Nat.add_zero, Nat.zero_add, Nat.le_refl, Nat.zero_le, ↓reduceIte, Nat.reduceAdd, Nat.reduceSub, Nat.reduceEqDiff, Nat.reduceLeDiff, Int.reduceEq, Int.reduceNe, Int.reduceNeg, reduceCtorEq, hab]
    refine ⟨r3 (by omega), l_mul1 (by omega) (fun t ht ht0 => ?_) 30 0 (by omega)⟩
    refine WP.run [(28, 59)] [] 60 ?_
    simp only [bk28_0, bk28_12, bk28_20, bk28_29, bk28_36, bk28_45, bk28_51, bk28_59, bk28_64, bk28_82, bk28_92, bk28_98, U_aload_n, U_getfield, U_invokevirtual1, U_iload_n, U_if_ge, U_abs, U_istore, U_iconst, U_iload, U_bipush, U_icmp_ge, U_ishr, U_icmp_le, U_iinc, U_goto, U_invokevirtual0, U_if_lt, U_invokevirtual3, U_iand, U_icmp_ne, U_return, UN_cc, UN_cn, UN_nc, UN_nn, UJ, lget, lset, lset2, entL, wsm, wcat, Option.toList_some, Option.toList_none, List.cons_append, List.nil_append, List.mem_cons, List.not_mem_nil, Prod.mk.injEq, or_false, false_or, or_true, true_or, and_true, true_and, and_false, false_and, and_self, ne_eq, not_false_eq_true, not_true_eq_false, forall_const, true_implies, false_implies, Nat.add_zero, Nat.zero_add, Nat.le_refl, Nat.zero_le, ↓reduceIte, Nat.reduceAdd, Nat.reduceSub, Nat.reduceEqDiff, Nat.reduceLeDiff, Int.reduceEq, Int.reduceNe, Int.reduceNeg, reduceCtorEq, kd2, kd21, kd22, kd32, kd33, kd35, kd37, kd39, kd41, kd43, kd45, kd_of ko (by decide)]
    refine s_makeNought hS ko fun N2 hS2 hF2 => ?_
    simp only [bk28_0, bk28_12, bk28_20, bk28_29, bk28_36, bk28_45, bk28_51, bk28_59, bk28_64, bk28_82, bk28_92, bk28_98, U_aload_n, U_getfield, U_invokevirtual1, U_iload_n, U_if_ge, U_abs, U_istore, U_iconst, U_iload, U_bipush, U_icmp_ge, U_ishr, U_icmp_le, U_iinc, U_goto, U_invokevirtual0, U_if_lt, U_invokevirtual3, U_iand, U_icmp_ne, U_return, UN_cc, UN_cn, UN_nc, UN_nn, UJ, lget, lset, lset2, entL, wsm, wcat, Option.toList_some, Option.toList_none, List.cons_append, List.nil_append, List.mem_cons, List.not_mem_nil, Prod.mk.injEq, or_false, false_or, or_true, true_or, and_true, true_and, and_false, false_and, and_self, ne_eq, not_false_eq_true, not_true_eq_false, forall_const, true_implies, false_implies, Nat.add_zero, Nat.zero_add, Nat.le_refl, Nat.zero_le, ↓reduceIte, Nat.reduceAdd, Nat.reduceSub, Nat.reduceEqDiff, Nat.reduceLeDiff, Int.reduceEq, Int.reduceNe, Int.reduceNeg, reduceCtorEq]
    have hx2 : PH (upq (upq ρ1 (po + 1) (pC p 1)) (po + 3) (pC p 0)) 47 x.1 := hx.upq2 hS.1.1 ko k47 ho
    have hf2 : ρ1 22 = some f := (hρ 22 (by unfold scr tmp; omega) (by omega) (by omega)).trans hf
    refine l_mul2 (ρ := upq (upq ρ1 (po + 1) (pC p 1)) (po + 3) (pC p 0)) (x := x) hG hcv (by rw [upq_n (by omega), upq_n (by omega)]; exact hf2) (by rw [hF2 21 (by decide), hF 21 (by decide)]; exact hg) ko ho (by omega) (fun N' ρ' g1 g2 g3 g4 => hQ1 N' ρ' g1 ((hF.tr hF2).tr g2) g3 (fun r r0 r1 r2 r3 r4 => ?_)) (t + 1) _ N2 _ (by omega) (by omega) hS2 (FR.rf _) ?_ hx2 (fun _ _ _ _ => rfl)
    · rw [g4 r r0 r3 r4, upq_n r4, upq_n r3]; exact hρ r r0 r1 r2
    · rw [ht0]
      show PH _ po z.1
      rw [hG.2.2.1]
      exact ⟨by rw [upq_n (by omega)]; exact upq_e _ _ _, upq_e _ _ _⟩
  refine WP.run [(28, 20)] [] 60 ?_
  simp only [bk28_0, bk28_12, bk28_20, bk28_29, bk28_36, bk28_45, bk28_51, bk28_59, bk28_64, bk28_82, bk28_92, bk28_98, U_aload_n, U_getfield, U_invokevirtual1, U_iload_n, U_if_ge, U_abs, U_istore, U_iconst, U_iload, U_bipush, U_icmp_ge, U_ishr, U_icmp_le, U_iinc, U_goto, U_invokevirtual0, U_if_lt, U_invokevirtual3, U_iand, U_icmp_ne, U_return, UN_cc, UN_cn, UN_nc, UN_nn, UJ, lget, lset, lset2, entL, wsm, wcat, Option.toList_some, Option.toList_none, List.cons_append, List.nil_append, List.mem_cons, List.not_mem_nil, Prod.mk.injEq, or_false, false_or, or_true, true_or, and_true, true_and, and_false, false_and, and_self, ne_eq, not_false_eq_true, not_true_eq_false, forall_const, true_implies, false_implies, Nat.add_zero, Nat.zero_add, Nat.le_refl, Nat.zero_le, ↓reduceIte, Nat.reduceAdd, Nat.reduceSub, Nat.reduceEqDiff, Nat.reduceLeDiff, Int.reduceEq, Int.reduceNe, Int.reduceNeg, reduceCtorEq, kd2, kd21, kd22, kd32, kd33, kd35, kd37, kd39, kd41, kd43, kd45, kd47, z32_9 h.1.1]
  refine s_pairCopy h k47 ka (fun e => ha47 e.symm) ha fun N1 h1 f1 => ?_
  simp only [bk28_0, bk28_12, bk28_20, bk28_29, bk28_36, bk28_45, bk28_51, bk28_59, bk28_64, bk28_82, bk28_92, bk28_98, U_aload_n, U_getfield, U_invokevirtual1, U_iload_n, U_if_ge, U_abs, U_istore, U_iconst, U_iload, U_bipush, U_icmp_ge, U_ishr, U_icmp_le, U_iinc, U_goto, U_invokevirtual0, U_if_lt, U_invokevirtual3, U_iand, U_icmp_ne, U_return, UN_cc, UN_cn, UN_nc, UN_nn, UJ, lget, lset, lset2, entL, wsm, wcat, Option.toList_some, Option.toList_none, List.cons_append, List.nil_append, List.mem_cons, List.not_mem_nil, Prod.mk.injEq, or_false, false_or, or_true, true_or, and_true, true_and, and_false, false_and, and_self, ne_eq, not_false_eq_true, not_true_eq_false, forall_const, true_implies, false_implies, Nat.add_zero, Nat.zero_add, Nat.le_refl, Nat.zero_le, ↓reduceIte, Nat.reduceAdd, Nat.reduceSub, Nat.reduceEqDiff, Nat.reduceLeDiff, Int.reduceEq, Int.reduceNe, Int.reduceNeg, reduceCtorEq, kd2, kd21, kd22, kd32, kd33, kd35, kd37, kd39, kd41, kd43, kd45, kd47, z32_9 h1.1.1]
  refine ⟨r3 (by omega), fun hneg => ?_, fun hpos => ?_⟩
  · refine s_turnAbout (q := 47) (a := a.1) h1 k47 ⟨(by repeat (first | assumption | rw [upq_e] | rw [upq_n (by omega)])), (by repeat (first | assumption | rw [upq_e] | rw [upq_n (by omega)]))⟩ fun N2 h2 f2 => ?_
    simp only [bk28_0, bk28_12, bk28_20, bk28_29, bk28_36, bk28_45, bk28_51, bk28_59, bk28_64, bk28_82, bk28_92, bk28_98, U_aload_n, U_getfield, U_invokevirtual1, U_iload_n, U_if_ge, U_abs, U_istore, U_iconst, U_iload, U_bipush, U_icmp_ge, U_ishr, U_icmp_le, U_iinc, U_goto, U_invokevirtual0, U_if_lt, U_invokevirtual3, U_iand, U_icmp_ne, U_return, UN_cc, UN_cn, UN_nc, UN_nn, UJ, lget, lset, lset2, entL, wsm, wcat, Option.toList_some, Option.toList_none, List.cons_append, List.nil_append, List.mem_cons, List.not_mem_nil, Prod.mk.injEq, or_false, false_or, or_true, true_or, and_true, true_and, and_false, false_and, and_self, ne_eq, not_false_eq_true, not_true_eq_false, forall_const, true_implies, false_implies, Nat.add_zero, Nat.zero_add, Nat.le_refl, Nat.zero_le, ↓reduceIte, Nat.reduceAdd, Nat.reduceSub, Nat.reduceEqDiff, Nat.reduceLeDiff, Int.reduceEq, Int.reduceNe, Int.reduceNeg, reduceCtorEq]
    refine rest N2 _ (ng a) (-n).toNat _ _ (by omega) h2 (f1.tr f2) ?_ (fun r r0 r1 r2 => ?_) (fun N' ρ' g1 g2 g3 g4 => hQ N' ρ' g1 g2 (by rw [if_neg (by omega)]; exact g3) g4) (by omega)
    · rw [hG.2.2.2 a]; exact ⟨(by repeat (first | assumption | rw [upq_e] | rw [upq_n (by omega)])), (by repeat (first | assumption | rw [upq_e] | rw [upq_n (by omega)]))⟩
    · rw [upq_n (by omega), upq_n (by omega), upq_n (by omega)]
  · refine rest N1 _ a n.toNat _ _ (by omega) h1 f1 ⟨(by repeat (first | assumption | rw [upq_e] | rw [upq_n (by omega)])), (by repeat (first | assumption | rw [upq_e] | rw [upq_n (by omega)]))⟩ (fun r r0 r1 r2 => ?_) (fun N' ρ' g1 g2 g3 g4 => hQ N' ρ' g1 g2 (by rw [if_pos (by omega)]; exact g3) g4) (by omega)
    rw [upq_n (by omega), upq_n (by omega)]
