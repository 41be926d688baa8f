/-! PLACES BY DEGREE: what the class answers -/
theorem tdiv2_rg {a A : Int} (h : -(2 * A) ≤ a ∧ a ≤ 2 * A) : -A ≤ a.tdiv 2 ∧ a.tdiv 2 ≤ A := by
  have e : (a.tdiv 2).natAbs = a.natAbs / 2 := Int.natAbs_tdiv a 2
  omega
theorem shs_rg {p : Int} (hp : Pr p) (f : Pz p) {g : Nat} (hg : g = 1 ∨ g = 2) : (-26 ≤ shs f g 1 ∧ shs f g 1 ≤ 26) ∧ (-16000 ≤ shs f g 2 ∧ shs f g 2 ≤ 16000) ∧ (-400 ≤ shs f g 3 ∧ shs f g 3 ≤ 400) ∧ (-200 ≤ shs f g 4 ∧ shs f g 4 ≤ 200) ∧ shs f g 5 = 0 ∧ shs f g 6 = 0 ∧ shs f g 0 = 1 := by
  have hpp := hp.pos
  have h169 := pp_le hp
  have l1 := ptl_26 hp f
  have l2 := nn2_rg hp f
  unfold shs
  obtain ⟨n1, hn⟩ : ∃ n1 : Int, n1 = ((ptl f p.toNat).length : Int) := ⟨_, rfl⟩
  have b1 : 0 ≤ n1 ∧ n1 ≤ 26 := by omega
  rw [← hn]
  generalize nn2 f = n2 at *
  have q1 : -26 ≤ n1 - p ∧ n1 - p ≤ 26 := by omega
  have q2 := ab_mul q1 q1
  have q3 := ab_mul q1 (show -13 ≤ p ∧ p ≤ 13 by omega)
  have q4 := tdiv2_rg (A := 16000) (a := n2 - p * p + (n1 - p) * (n1 - p)) (by omega)
  rcases hg with rfl | rfl
  · refine ⟨q1, ?_, ?_, ?_, rfl, rfl, rfl⟩ <;> simp only [shF] <;> simp <;> omega
  · refine ⟨q1, q4, ?_, ?_, rfl, rfl, rfl⟩
    · show -400 ≤ (n1 - p) * p ∧ _ ≤ _
      constructor
      · omega
      · show (n1 - p) * p ≤ 400
        omega
    · show -200 ≤ p * p ∧ p * p ≤ 200
      omega
theorem ov_shs {p : Int} (hp : Pr p) (f : Pz p) {g : Nat} (hg : g = 1 ∨ g = 2) (k : Nat) (k1 : 1 ≤ k) (k2 : k ≤ 6) : -20000000000000 ≤ ovT (shs f g) 6 k ∧ ovT (shs f g) 6 k ≤ 20000000000000 := by
  obtain ⟨a1, a2, a3, a4, a5, a6, -⟩ := shs_rg hp f hg
  exact ov_rg a1 a2 a3 a4 a5 a6 k k1 k2
theorem pw6 {p : Int} (hp : Pr p) (k : Nat) (k2 : k ≤ 6) : 1 ≤ p ^ k ∧ p ^ k ≤ 4826809 := by
  have h := hp
  have : k = 0 ∨ k = 1 ∨ k = 2 ∨ k = 3 ∨ k = 4 ∨ k = 5 ∨ k = 6 := by omega
  rcases h with rfl | rfl | rfl | rfl | rfl <;> rcases this with rfl | rfl | rfl | rfl | rfl | rfl | rfl <;> decide
theorem ptO_rg {p : Int} (hp : Pr p) (f : Pz p) {g : Nat} (hg : g = 1 ∨ g = 2) (k : Nat) (k1 : 1 ≤ k) (k2 : k ≤ 6) : -30000000000000 ≤ ptO f g k ∧ ptO f g k ≤ 30000000000000 := by
  have h1 := ov_shs hp f hg k k1 k2
  have h2 := pw6 hp k k2
  unfold ptO; omega
/-- places of degree d by the class -/
noncomputable def plc {p : Int} (f : Pz p) (g : Nat) (d : Nat) : Int := plN (ptO f g) 6 d
set_option maxHeartbeats 4000000 in
theorem s_placesOf {p : Int} {N : Mem} {ρ : Int → Option (Pz p)} {Q : Post} {f : Pz p} {g d : Nat} (h : ST p N ρ) (hC : CvN N f g) (hg : g = 1 ∨ g = 2) (hd : 1 ≤ d ∧ d ≤ 6) (hQ : ∀ N', ST p N' ρ → FX [31] N N' → Q (some (1, plc f g d)) NN N') : CL 76 [(2, 21), (0, (d : Int)), (9, 0), (9, 0), (9, 0), (9, 0)] NN N Q := by
  refine WP.run [(76, 15)] [] 60 ?_
  simp only [bk76_0, bk76_5, bk76_11, bk76_13, bk76_15, bk76_20, bk76_29, bk76_35, bk76_42, bk76_56, bk76_62, bk76_78, U_iload_n, U_iconst, U_icmp_lt, U_bipush, U_icmp_le, U_lconst, U_lreturn, U_istore_n, U_icmp_gt, U_aload_n, U_invokevirtual1, U_lstore_n, U_istore, U_iload, U_icmp_ge, U_irem, U_if_ne, U_lload_n, U_i2l, U_getfield, U_lald, U_lmul, U_lsub, U_iinc, U_goto, U_ldiv, U_last, UN_cc, UN_cn, UN_nc, UN_nn, UJ, lget, lset, lset2, entL, wsm, wcat, Option.toList_some, Option.toList_none, List.cons_append, List.nil_append, List.mem_cons, List.not_mem_nil, Prod.mk.injEq, or_false, false_or, or_true, true_or, and_true, true_and, and_false, false_and, and_self, ne_eq, not_false_eq_true, not_true_eq_false, forall_const, true_implies, false_implies, Nat.add_zero, Nat.zero_add, Nat.le_refl, Nat.zero_le, List.set_cons_zero, List.set_cons_succ, List.set_nil, ↓reduceIte, Nat.reduceAdd, Nat.reduceSub, Nat.reduceEqDiff, Nat.reduceLeDiff, Int.reduceEq, Int.reduceNe, Int.reduceNeg, reduceCtorEq]
  refine ⟨rr (by omega), fun e => absurd e (by omega), fun _ => ⟨rr (by omega), fun e => absurd e (by omega), fun _ => ?_⟩⟩
  refine l_plO (d := d) hC hd (fun k k1 k2 => ?_) hQ d 1 _ _ _ N (by omega) (by omega) h (FX.rf _ _) (fun j j1 j2 => by omega)
  have := (pl_rg (P := ptO f g) (fun k k1 k2 => ptO_rg h.1.2.1 f hg k k1 k2) k k1 k2).1
  exact r6 (by omega)
