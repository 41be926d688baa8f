/-! CODES: a word taken off by those that are left, kept where anything is left of it -/
/-- what stands in the code's cells: functions left so far -/
def CdA {p : Int} (N : Mem) (f : Pz p) (K : List CdE) : Prop := N 120 7 = (K.length : Int) ∧ N 120 8 = (ptl f p.toNat).length ∧ ∀ (i : Nat) (e : CdE), K[i]? = some e → N 176 (i : Int) = (e.1 : Int) ∧ N 177 (i : Int) = (ld e.2.2 (ptl f p.toNat).length : Int) ∧ ∀ j : Nat, j < (ptl f p.toNat).length → N (123 + (i : Int)) (j : Int) = e.2.1 j ∧ N (150 + (i : Int)) (j : Int) = e.2.2 j
theorem CdA.fc {p : Int} {N N' : Mem} {f : Pz p} {K : List CdE} (h : CdA N f K) (h7 : N' 120 7 = N 120 7) (h8 : N' 120 8 = N 120 8) (hp : N' 176 = N 176) (hv : N' 177 = N 177) (hw : ∀ i : Nat, i < K.length → N' (123 + (i : Int)) = N (123 + (i : Int)) ∧ N' (150 + (i : Int)) = N (150 + (i : Int))) : CdA N' f K := by
  refine ⟨by rw [h7]; exact h.1, by rw [h8]; exact h.2.1, fun i e he => ?_⟩
  obtain ⟨w1, w2⟩ := hw i (List.getElem?_eq_some_iff.mp he).1
  rw [hp, hv, w1, w2]; exact h.2.2 i e he
set_option maxHeartbeats 8000000 in
theorem l_clC {N : Mem} {Q : Post} {l L : Nat} {w : Nat → Int} (hz : Fz N) (hl : l < 26) (hL : L ≤ 26) (h7 : N 120 7 = l) (h8 : N 120 8 = L) (hw : ∀ j : Nat, j < L → N (123 + (l : Int)) (j : Int) = w j)
    (hQ : ∀ N', Fr [150 + (l : Int)] N N' → (∀ j : Nat, j < L → N' (150 + (l : Int)) (j : Int) = w j) → WP 40 (0, 0) 40 [(2, 120), (2, 150 + (l : Int)), (0, (L : Int)), (9, 0), (9, 0), (9, 0)] [] NN N' Q) :
    ∀ (n j : Nat) (Ni : Mem), j + n = L → Fr [150 + (l : Int)] N Ni → (∀ i : Nat, i < j → Ni (150 + (l : Int)) (i : Int) = w i) → WP 40 (0, 0) 12 [(2, 120), (2, 150 + (l : Int)), (0, (j : Int)), (9, 0), (9, 0), (9, 0)] [] NN Ni Q := by
  obtain ⟨k1, k2, l1, l2, -, -⟩ := cdk (i := (l : Int)) (by omega) (by omega)
  have nz : ¬ (123 + (l : Int) = 0) := by omega
  intro n
  induction n with
  | zero =>
    intro j Ni hj hF hA
    have e8 : Ni 120 8 = (L : Int) := by rw [hF 120 (by simp <;> omega)]; exact h8
    obtain rfl : j = L := by omega
    refine WP.run [(40, 12), (40, 40)] [] 60 ?_
    simp only [bk40_0, bk40_12, bk40_20, bk40_40, bk40_42, bk40_50, bk40_61, bk40_69, bk40_72, bk40_88, bk40_97, bk40_132, bk40_138, U_aload_n, U_getfield, U_aald, U_astore_n, U_iconst, U_istore_n, U_iload_n, U_icmp_ge, U_iald, U_iast, U_iinc, U_goto, U_if_lt, U_icmp_lt, U_isub, U_istore, U_iload, U_imul, U_iadd, U_irem, U_return, UN_cc, UN_cn, UN_nc, UN_nn, UJ, lget, lset, lset2, entL, wsm, wcat, Option.toList_some, Option.toList_none, List.cons_append, List.nil_append, List.mem_cons, List.not_mem_nil, Prod.mk.injEq, or_false, false_or, or_true, true_or, and_true, true_and, and_false, false_and, and_self, ne_eq, not_false_eq_true, not_true_eq_false, forall_const, true_implies, false_implies, Nat.add_zero, Nat.zero_add, Nat.le_refl, Nat.zero_le, List.set_cons_zero, List.set_cons_succ, List.set_nil, ↓reduceIte, Nat.reduceAdd, Nat.reduceSub, Nat.reduceEqDiff, Nat.reduceLeDiff, Int.reduceEq, Int.reduceNe, Int.reduceNeg, reduceCtorEq, kd120, e8]
    exact ⟨rr (by omega), fun e => absurd e (by omega), fun _ => hQ Ni hF hA⟩
  | succ n ih =>
    intro j Ni hj hF hA
    have fc := FC.fr hF (by unfold cdC; omega) (by omega)
    have e8 : Ni 120 8 = (L : Int) := by rw [hF 120 (by simp <;> omega)]; exact h8
    have e7 : Ni 120 7 = (l : Int) := by rw [hF 120 (by simp <;> omega)]; exact h7
    have ew : Ni (123 + (l : Int)) (j : Int) = w j := by rw [hF (123 + (l : Int)) (by simp <;> omega)]; exact hw j (by omega)
    have z2 := (z122 (fc.fz hz) (l : Int) (by omega) (by omega)).1
    refine WP.run [(40, 12), (40, 40)] [] 60 ?_
    simp only [bk40_0, bk40_12, bk40_20, bk40_40, bk40_42, bk40_50, bk40_61, bk40_69, bk40_72, bk40_88, bk40_97, bk40_132, bk40_138, U_aload_n, U_getfield, U_aald, U_astore_n, U_iconst, U_istore_n, U_iload_n, U_icmp_ge, U_iald, U_iast, U_iinc, U_goto, U_if_lt, U_icmp_lt, U_isub, U_istore, U_iload, U_imul, U_iadd, U_irem, U_return, UN_cc, UN_cn, UN_nc, UN_nn, UJ, lget, lset, lset2, entL, wsm, wcat, Option.toList_some, Option.toList_none, List.cons_append, List.nil_append, List.mem_cons, List.not_mem_nil, Prod.mk.injEq, or_false, false_or, or_true, true_or, and_true, true_and, and_false, false_and, and_self, ne_eq, not_false_eq_true, not_true_eq_false, forall_const, true_implies, false_implies, Nat.add_zero, Nat.zero_add, Nat.le_refl, Nat.zero_le, List.set_cons_zero, List.set_cons_succ, List.set_nil, ↓reduceIte, Nat.reduceAdd, Nat.reduceSub, Nat.reduceEqDiff, Nat.reduceLeDiff, Int.reduceEq, Int.reduceNe, Int.reduceNeg, reduceCtorEq, kd120, kd122, ln122, z120_3 (fc.fz hz), e8, e7, z2, nz, k1, k2, l1, l2, ew]
    refine ⟨rr (by omega), fun _ => ⟨by omega, by omega, by omega, by omega, by omega, by omega, ?_⟩, fun e => absurd (by omega) e⟩
    refine ih (j + 1) _ (by omega) (fun b hb => ?_) (fun i hi => ?_)
    · rw [ust_ne (fun e => hb (by simp [e]))]; exact hF b hb
    · rw [ust_at]
      by_cases e : i = j
      · subst e; rw [if_pos rfl]
      · rw [if_neg (by omega)]; exact hA i (by omega)
set_option maxHeartbeats 8000000 in
theorem l_clJ {p : Int} {N : Mem} {Q : Post} {l L i0 pv : Nat} {k : Int} {v r : Nat → Int} (hC : CB p N) (hl : l < 26) (hL : L ≤ 26) (hi0 : i0 < l) (h8 : N 120 8 = L) (hv : RgV p v) (hr : RgV p r) (hk : 0 ≤ k ∧ k ≤ p) (hkv : k = p - v pv)
    (hA : ∀ j : Nat, j < L → N (150 + (l : Int)) (j : Int) = v j) (hB : ∀ j : Nat, j < L → N (150 + (i0 : Int)) (j : Int) = r j)
    (hQ : ∀ N' (x : V), Fr [150 + (l : Int)] N N' → (∀ j : Nat, j < L → N' (150 + (l : Int)) (j : Int) = rd1 p r pv v j) → WP 40 (0, 0) 132 [(2, 120), (2, 150 + (l : Int)), (0, (i0 : Int)), (0, (pv : Int)), (0, k), x] [] NN N' Q) :
    ∀ (n j : Nat) (Ni : Mem), j + n = L → Fr [150 + (l : Int)] N Ni → (∀ i : Nat, i < L → Ni (150 + (l : Int)) (i : Int) = if i < j then rd1 p r pv v i else v i) → WP 40 (0, 0) 88 [(2, 120), (2, 150 + (l : Int)), (0, (i0 : Int)), (0, (pv : Int)), (0, k), (0, (j : Int))] [] NN Ni Q := by
  have hp := hC.2.1
  have hpp := hp.pos
  obtain ⟨-, k2, -, l2, -, -⟩ := cdk (i := (l : Int)) (by omega) (by omega)
  obtain ⟨-, k3, -, l3, -, -⟩ := cdk (i := (i0 : Int)) (by omega) (by omega)
  have nz : ¬ (150 + (i0 : Int) = 0) := by omega
  intro n
  induction n with
  | zero =>
    intro j Ni hj hF hI
    have e8 : Ni 120 8 = (L : Int) := by rw [hF 120 (by simp <;> omega)]; exact h8
    obtain rfl : j = L := by omega
    refine WP.run [(40, 88), (40, 132)] [] 60 ?_
    simp only [bk40_0, bk40_12, bk40_20, bk40_40, bk40_42, bk40_50, bk40_61, bk40_69, bk40_72, bk40_88, bk40_97, bk40_132, bk40_138, U_aload_n, U_getfield, U_aald, U_astore_n, U_iconst, U_istore_n, U_iload_n, U_icmp_ge, U_iald, U_iast, U_iinc, U_goto, U_if_lt, U_icmp_lt, U_isub, U_istore, U_iload, U_imul, U_iadd, U_irem, U_return, UN_cc, UN_cn, UN_nc, UN_nn, UJ, lget, lset, lset2, entL, wsm, wcat, Option.toList_some, Option.toList_none, List.cons_append, List.nil_append, List.mem_cons, List.not_mem_nil, Prod.mk.injEq, or_false, false_or, or_true, true_or, and_true, true_and, and_false, false_and, and_self, ne_eq, not_false_eq_true, not_true_eq_false, forall_const, true_implies, false_implies, Nat.add_zero, Nat.zero_add, Nat.le_refl, Nat.zero_le, List.set_cons_zero, List.set_cons_succ, List.set_nil, ↓reduceIte, Nat.reduceAdd, Nat.reduceSub, Nat.reduceEqDiff, Nat.reduceLeDiff, Int.reduceEq, Int.reduceNe, Int.reduceNeg, reduceCtorEq, kd120, e8]
    exact ⟨rr (by omega), fun e => absurd e (by omega), fun _ => hQ Ni _ hF (fun i hi => by rw [hI i hi, if_pos hi])⟩
  | succ n ih =>
    intro j Ni hj hF hI
    have fc := FC.fr hF (by unfold cdC; omega) (by omega)
    have hz := fc.fz hC.1
    have e8 : Ni 120 8 = (L : Int) := by rw [hF 120 (by simp <;> omega)]; exact h8
    have ew : Ni (150 + (l : Int)) (j : Int) = v j := by rw [hI j (by omega), if_neg (by omega)]
    have er : Ni (150 + (i0 : Int)) (j : Int) = r j := by rw [hF (150 + (i0 : Int)) (by simp <;> omega)]; exact hB j (by omega)
    have ep : Ni 2 0 = p := by rw [hF 2 (by simp <;> omega)]; exact hC.2.2.1
    have z2 := (z122 hz (i0 : Int) (by omega) (by omega)).2
    obtain ⟨a1, a2⟩ := hv j
    obtain ⟨b1, b2⟩ := hr j
    have m1 := ab_mul (A := 13) (B := 13) (a := k) (b := r j) (by omega) (by omega)
    have m0 : 0 ≤ k * r j := Int.mul_nonneg hk.1 b1
    refine WP.run [(40, 88), (40, 132)] [] 60 ?_
    simp only [bk40_0, bk40_12, bk40_20, bk40_40, bk40_42, bk40_50, bk40_61, bk40_69, bk40_72, bk40_88, bk40_97, bk40_132, bk40_138, U_aload_n, U_getfield, U_aald, U_astore_n, U_iconst, U_istore_n, U_iload_n, U_icmp_ge, U_iald, U_iast, U_iinc, U_goto, U_if_lt, U_icmp_lt, U_isub, U_istore, U_iload, U_imul, U_iadd, U_irem, U_return, UN_cc, UN_cn, UN_nc, UN_nn, UJ, lget, lset, lset2, entL, wsm, wcat, Option.toList_some, Option.toList_none, List.cons_append, List.nil_append, List.mem_cons, List.not_mem_nil, Prod.mk.injEq, or_false, false_or, or_true, true_or, and_true, true_and, and_false, false_and, and_self, ne_eq, not_false_eq_true, not_true_eq_false, forall_const, true_implies, false_implies, Nat.add_zero, Nat.zero_add, Nat.le_refl, Nat.zero_le, List.set_cons_zero, List.set_cons_succ, List.set_nil, ↓reduceIte, Nat.reduceAdd, Nat.reduceSub, Nat.reduceEqDiff, Nat.reduceLeDiff, Int.reduceEq, Int.reduceNe, Int.reduceNeg, reduceCtorEq, kd120, kd2, kd149, ln149, z120_0 hz, z120_4 hz, e8, z2, nz, k2, k3, l2, l3, ew, er, ep]
    rw [tm_nn (by omega)]
    refine ⟨rr (by omega), fun _ => ⟨by omega, by omega, by omega, by omega, by omega, by omega, r3 (by omega), r3 (by omega), by omega, by omega, by omega, ?_⟩, fun e => absurd (by omega) e⟩
    have e3 : (v j + k * r j) % p = rd1 p r pv v j := by
      show _ = (v j - v pv * r j) % p
      rw [hkv, Int.sub_mul]
      have e4 : v j + (p * r j - v pv * r j) = (v j - v pv * r j) + p * r j := by omega
      rw [e4, Int.add_mul_emod_self_left]
    refine ih (j + 1) _ (by omega) (fun b hb => ?_) (fun i hi => ?_)
    · rw [ust_ne (fun e => hb (by simp [e]))]; exact hF b hb
    · rw [ust_at]
      by_cases e : i = j
      · subst e; rw [if_pos rfl, if_pos (by omega), e3]
      · rw [if_neg (by omega), hI i hi]
        by_cases q : i < j
        · rw [if_pos q, if_pos (by omega)]
        · rw [if_neg q, if_neg (by omega)]
theorem rdA_take {p : Int} {L : Nat} {R : List (Nat → Int)} {v : Nat → Int} {i : Nat} {r : Nat → Int} (h : R[i]? = some r) : rdA p L (R.take (i + 1)) v = rd1 p r (ld r L) (rdA p L (R.take i) v) := by
  rw [List.take_add_one, h, rdA_app]; rfl
set_option maxHeartbeats 16000000 in
theorem l_clI {p : Int} {N : Mem} {ρ : Int → Option (Pz p)} {Q : Post} {f : Pz p} {K : List CdE} {w : Nat → Int} (hS : ST p N ρ) (hA : CdA N f K) (hw : RgV p w) (hl : K.length < 26) (hE : Ech p (ptl f p.toNat).length (clrs K))
    (hQ : ∀ N', Fr [150 + (K.length : Int)] N N' → (∀ j : Nat, j < (ptl f p.toNat).length → N' (150 + (K.length : Int)) (j : Int) = rdA p (ptl f p.toNat).length (clrs K) w j) → Q none NN N') :
    ∀ (n i : Nat) (x3 x4 x5 : V) (Ni : Mem), i + n = K.length → Fr [150 + (K.length : Int)] N Ni → (∀ j : Nat, j < (ptl f p.toNat).length → Ni (150 + (K.length : Int)) (j : Int) = rdA p (ptl f p.toNat).length ((clrs K).take i) w j) → WP 40 (0, 0) 42 [(2, 120), (2, 150 + (K.length : Int)), (0, (i : Int)), x3, x4, x5] [] NN Ni Q := by
  have hp := hS.1.2.1
  have hpp := hp.pos
  have h26 := ptl_26 hp f
  obtain ⟨-, k2, -, l2, -, -⟩ := cdk (i := (K.length : Int)) (by omega) (by omega)
  intro n
  induction n with
  | zero =>
    intro i x3 x4 x5 Ni hi hF hI
    obtain rfl : i = K.length := by omega
    have e7 : Ni 120 7 = (K.length : Int) := by rw [hF 120 (by simp <;> omega)]; exact hA.1
    refine WP.run [(40, 42)] [] 60 ?_
    simp only [bk40_0, bk40_12, bk40_20, bk40_40, bk40_42, bk40_50, bk40_61, bk40_69, bk40_72, bk40_88, bk40_97, bk40_132, bk40_138, U_aload_n, U_getfield, U_aald, U_astore_n, U_iconst, U_istore_n, U_iload_n, U_icmp_ge, U_iald, U_iast, U_iinc, U_goto, U_if_lt, U_icmp_lt, U_isub, U_istore, U_iload, U_imul, U_iadd, U_irem, U_return, UN_cc, UN_cn, UN_nc, UN_nn, UJ, lget, lset, lset2, entL, wsm, wcat, Option.toList_some, Option.toList_none, List.cons_append, List.nil_append, List.mem_cons, List.not_mem_nil, Prod.mk.injEq, or_false, false_or, or_true, true_or, and_true, true_and, and_false, false_and, and_self, ne_eq, not_false_eq_true, not_true_eq_false, forall_const, true_implies, false_implies, Nat.add_zero, Nat.zero_add, Nat.le_refl, Nat.zero_le, List.set_cons_zero, List.set_cons_succ, List.set_nil, ↓reduceIte, Nat.reduceAdd, Nat.reduceSub, Nat.reduceEqDiff, Nat.reduceLeDiff, Int.reduceEq, Int.reduceNe, Int.reduceNeg, reduceCtorEq, kd120, e7]
    refine ⟨rr (by omega), fun e => absurd e (by omega), fun _ => hQ Ni hF (fun j hj => ?_)⟩
    rw [hI j hj, List.take_of_length_le (by rw [List.length_map]; exact Nat.le_refl _)]
  | succ n ih =>
    intro i x3 x4 x5 Ni hi hF hI
    have fc := FC.fr hF (by unfold cdC; omega) (by omega)
    have hz := fc.fz hS.1.1
    have hSi := fc.st hS
    have e7 : Ni 120 7 = (K.length : Int) := by rw [hF 120 (by simp <;> omega)]; exact hA.1
    have e8 : Ni 120 8 = ((ptl f p.toNat).length : Int) := by rw [hF 120 (by simp <;> omega)]; exact hA.2.1
    obtain ⟨e, he⟩ : ∃ e, K[i]? = some e := ⟨_, List.getElem?_eq_getElem (by omega)⟩
    obtain ⟨c1, c2, c3⟩ := hA.2.2 i e he
    have hc : (clrs K)[i]? = some e.2.2 := by rw [List.getElem?_map, he]; rfl
    have hgd := hE.gd e.2.2 (List.mem_of_getElem? hc)
    have e177 : Ni 177 (i : Int) = (ld e.2.2 (ptl f p.toNat).length : Int) := by rw [hF 177 (by simp <;> omega)]; exact c2
    have et := rdA_take (p := p) (L := (ptl f p.toNat).length) (v := w) hc
    generalize hv0 : rdA p (ptl f p.toNat).length ((clrs K).take i) w = v0 at *
    have hrg0 : RgV p v0 := by rw [← hv0]; exact rdA_rg hp _ _ _ hw
    generalize hpv : ld e.2.2 (ptl f p.toNat).length = pv at *
    have hpl : pv < (ptl f p.toNat).length := by rw [← hpv]; exact hgd.1
    have epv := hI pv hpl
    obtain ⟨a1, a2⟩ := hrg0 pv
    refine WP.run [(40, 42), (40, 88)] [] 90 ?_
    simp only [bk40_0, bk40_12, bk40_20, bk40_40, bk40_42, bk40_50, bk40_61, bk40_69, bk40_72, bk40_88, bk40_97, bk40_132, bk40_138, U_aload_n, U_getfield, U_aald, U_astore_n, U_iconst, U_istore_n, U_iload_n, U_icmp_ge, U_iald, U_iast, U_iinc, U_goto, U_if_lt, U_icmp_lt, U_isub, U_istore, U_iload, U_imul, U_iadd, U_irem, U_return, UN_cc, UN_cn, UN_nc, UN_nn, UJ, lget, lset, lset2, entL, wsm, wcat, Option.toList_some, Option.toList_none, List.cons_append, List.nil_append, List.mem_cons, List.not_mem_nil, Prod.mk.injEq, or_false, false_or, or_true, true_or, and_true, true_and, and_false, false_and, and_self, ne_eq, not_false_eq_true, not_true_eq_false, forall_const, true_implies, false_implies, Nat.add_zero, Nat.zero_add, Nat.le_refl, Nat.zero_le, List.set_cons_zero, List.set_cons_succ, List.set_nil, ↓reduceIte, Nat.reduceAdd, Nat.reduceSub, Nat.reduceEqDiff, Nat.reduceLeDiff, Int.reduceEq, Int.reduceNe, Int.reduceNeg, reduceCtorEq, kd120, kd2, kd177, ln177, z120_0 hz, z120_6 hz, e7, e8, e177, k2, l2, epv, hSi.1.2.2.1]
    refine ⟨rr (by omega), fun _ => ⟨by omega, by omega, r3 (by omega), fun e => absurd e (by omega), fun _ => ⟨rr (by omega), fun _ => ⟨by omega, by omega, ?_⟩, fun e => absurd (by omega) e⟩⟩, fun e => absurd (by omega) e⟩
    refine l_clJ (p := p) (N := Ni) (r := e.2.2) (v := v0) (l := K.length) (L := (ptl f p.toNat).length) (i0 := i) (pv := pv) (k := p - v0 pv) hSi.1 hl h26 (by omega) e8 hrg0 hgd.2.2 (by omega) rfl hI (fun j hj => by rw [hF (150 + (i : Int)) (by simp <;> omega)]; exact (c3 j hj).2) (fun N' x g1 g2 => ?_) (ptl f p.toNat).length 0 Ni (by omega) (Fr.rf _ _) (fun j hj => by rw [if_neg (by omega)]; exact hI j hj)
    refine WP.run [(40, 42)] [] 60 ?_
    simp only [bk40_0, bk40_12, bk40_20, bk40_40, bk40_42, bk40_50, bk40_61, bk40_69, bk40_72, bk40_88, bk40_97, bk40_132, bk40_138, U_aload_n, U_getfield, U_aald, U_astore_n, U_iconst, U_istore_n, U_iload_n, U_icmp_ge, U_iald, U_iast, U_iinc, U_goto, U_if_lt, U_icmp_lt, U_isub, U_istore, U_iload, U_imul, U_iadd, U_irem, U_return, UN_cc, UN_cn, UN_nc, UN_nn, UJ, lget, lset, lset2, entL, wsm, wcat, Option.toList_some, Option.toList_none, List.cons_append, List.nil_append, List.mem_cons, List.not_mem_nil, Prod.mk.injEq, or_false, false_or, or_true, true_or, and_true, true_and, and_false, false_and, and_self, ne_eq, not_false_eq_true, not_true_eq_false, forall_const, true_implies, false_implies, Nat.add_zero, Nat.zero_add, Nat.le_refl, Nat.zero_le, List.set_cons_zero, List.set_cons_succ, List.set_nil, ↓reduceIte, Nat.reduceAdd, Nat.reduceSub, Nat.reduceEqDiff, Nat.reduceLeDiff, Int.reduceEq, Int.reduceNe, Int.reduceNeg, reduceCtorEq]
    exact ih (i + 1) _ _ _ N' (by omega) (hF.tr g1) (fun j hj => by rw [g2 j hj, et])
set_option maxHeartbeats 16000000 in
theorem s_clear2 {p : Int} {N : Mem} {ρ : Int → Option (Pz p)} {Q : Post} {f : Pz p} {K : List CdE} {w : Nat → Int} (hS : ST p N ρ) (hA : CdA N f K) (hw : RgV p w) (hww : ∀ j : Nat, j < (ptl f p.toNat).length → N (123 + (K.length : Int)) (j : Int) = w j) (hl : K.length < 26) (hE : Ech p (ptl f p.toNat).length (clrs K))
    (hQ : ∀ N', Fr [150 + (K.length : Int)] N N' → (∀ j : Nat, j < (ptl f p.toNat).length → N' (150 + (K.length : Int)) (j : Int) = rdA p (ptl f p.toNat).length (clrs K) w j) → Q none NN N') : CL 40 [(2, 120), (9, 0), (9, 0), (9, 0), (9, 0), (9, 0)] NN N Q := by
  have hp := hS.1.2.1
  have h26 := ptl_26 hp f
  have z2 := (z122 hS.1.1 (K.length : Int) (by omega) (by omega)).2
  have nz : ¬ (150 + (K.length : Int) = 0) := by omega
  refine WP.run [(40, 12)] [] 60 ?_
  simp only [bk40_0, bk40_12, bk40_20, bk40_40, bk40_42, bk40_50, bk40_61, bk40_69, bk40_72, bk40_88, bk40_97, bk40_132, bk40_138, U_aload_n, U_getfield, U_aald, U_astore_n, U_iconst, U_istore_n, U_iload_n, U_icmp_ge, U_iald, U_iast, U_iinc, U_goto, U_if_lt, U_icmp_lt, U_isub, U_istore, U_iload, U_imul, U_iadd, U_irem, U_return, UN_cc, UN_cn, UN_nc, UN_nn, UJ, lget, lset, lset2, entL, wsm, wcat, Option.toList_some, Option.toList_none, List.cons_append, List.nil_append, List.mem_cons, List.not_mem_nil, Prod.mk.injEq, or_false, false_or, or_true, true_or, and_true, true_and, and_false, false_and, and_self, ne_eq, not_false_eq_true, not_true_eq_false, forall_const, true_implies, false_implies, Nat.add_zero, Nat.zero_add, Nat.le_refl, Nat.zero_le, List.set_cons_zero, List.set_cons_succ, List.set_nil, ↓reduceIte, Nat.reduceAdd, Nat.reduceSub, Nat.reduceEqDiff, Nat.reduceLeDiff, Int.reduceEq, Int.reduceNe, Int.reduceNeg, reduceCtorEq, kd120, kd149, ln149, z120_4 hS.1.1, hA.1, z2, nz]
  refine ⟨by omega, by omega, ?_⟩
  refine l_clC (N := N) (l := K.length) (L := (ptl f p.toNat).length) (w := w) hS.1.1 hl h26 hA.1 hA.2.1 hww (fun N' g1 g2 => ?_) (ptl f p.toNat).length 0 N (by omega) (Fr.rf _ _) (fun i hi => by omega)
  refine WP.run [(40, 42)] [] 60 ?_
  simp only [bk40_0, bk40_12, bk40_20, bk40_40, bk40_42, bk40_50, bk40_61, bk40_69, bk40_72, bk40_88, bk40_97, bk40_132, bk40_138, U_aload_n, U_getfield, U_aald, U_astore_n, U_iconst, U_istore_n, U_iload_n, U_icmp_ge, U_iald, U_iast, U_iinc, U_goto, U_if_lt, U_icmp_lt, U_isub, U_istore, U_iload, U_imul, U_iadd, U_irem, U_return, UN_cc, UN_cn, UN_nc, UN_nn, UJ, lget, lset, lset2, entL, wsm, wcat, Option.toList_some, Option.toList_none, List.cons_append, List.nil_append, List.mem_cons, List.not_mem_nil, Prod.mk.injEq, or_false, false_or, or_true, true_or, and_true, true_and, and_false, false_and, and_self, ne_eq, not_false_eq_true, not_true_eq_false, forall_const, true_implies, false_implies, Nat.add_zero, Nat.zero_add, Nat.le_refl, Nat.zero_le, List.set_cons_zero, List.set_cons_succ, List.set_nil, ↓reduceIte, Nat.reduceAdd, Nat.reduceSub, Nat.reduceEqDiff, Nat.reduceLeDiff, Int.reduceEq, Int.reduceNe, Int.reduceNeg, reduceCtorEq]
  have fc := FC.fr g1 (by unfold cdC; omega) (by omega)
  refine l_clI (N := N') (ρ := ρ) (f := f) (K := K) (w := w) (fc.st hS) (hA.fc (by rw [g1 120 (by simp <;> omega)]) (by rw [g1 120 (by simp <;> omega)]) (g1 176 (by simp <;> omega)) (g1 177 (by simp <;> omega)) (fun i hi => ⟨g1 _ (by simp <;> omega), g1 _ (by simp <;> omega)⟩)) hw hl hE (fun N2 a b => hQ N2 (g1.tr a) b) K.length 0 _ _ _ N' (by omega) (Fr.rf _ _) (fun j hj => ?_)
  rw [List.take_zero]; exact g2 j hj
