/-! THE MODEL'S ROWS TAKEN TO STEPS -/
def MxA (N : Mem) (W : Nat) (R : List (Nat → Int)) : Prop := N 190 32 = (R.length : Int) ∧ ∀ (i : Nat) (r : Nat → Int), R[i]? = some r → ∀ j : Nat, j < W → N 214 (((W * i : Nat) : Int) + (j : Int)) = r j
def RwA (N : Mem) (B W : Nat) (v : Nat → Int) : Prop := ∀ j : Nat, j < W → N 214 ((B : Int) + (j : Int)) = v j
/-- only W places of the matrix from B on change -/
def ChB (B W : Nat) (N N' : Mem) : Prop := (∀ b, b ≠ 214 → N' b = N b) ∧ ∀ x, ¬ ((B : Int) ≤ x ∧ x < (B : Int) + W) → N' 214 x = N 214 x
theorem ChB.rf (B W : Nat) (N : Mem) : ChB B W N N := ⟨fun _ _ => rfl, fun _ _ => rfl⟩
theorem ChB.tr {B W : Nat} {N N' N'' : Mem} (h1 : ChB B W N N') (h2 : ChB B W N' N'') : ChB B W N N'' := ⟨fun b x => (h2.1 b x).trans (h1.1 b x), fun x y => (h2.2 x y).trans (h1.2 x y)⟩
theorem ChB.us {B W : Nat} {N N' : Mem} (h : ChB B W N N') {j : Nat} (x : Int) (hj : j < W) : ChB B W N (ust N' 214 ((B : Int) + (j : Int)) x) := ⟨fun b hb => by rw [ust_ne hb]; exact h.1 b hb, fun y hy => by rw [ust_at, if_neg (by omega)]; exact h.2 y hy⟩
theorem ChB.fm {B W : Nat} {N N' : Mem} (h : ChB B W N N') : FM [214] [] N N' := ⟨fun b _ y => h.1 b (fun q => y (by simp [q])), fun i _ => by rw [h.1 190 (by decide)]⟩
theorem ok_mx : FZK [214] [32] := fzk rfl rfl
theorem ChB.fz {B W : Nat} {N N' : Mem} (h : ChB B W N N') (hz : Fz N) : Fz N' := h.fm.fz (fzk rfl rfl) hz
theorem rgv32 {p : Int} (hp : Pr p) {v : Nat → Int} (h : RgV p v) (j : Nat) : 0 ≤ v j ∧ v j ≤ 12 := by have := hp.pos; have := h j; omega
set_option maxHeartbeats 8000000 in
/-- where a row begins -/
theorem l_cdL {p : Int} {N : Mem} {Q : Post} {W B Bi : Nat} {i : Int} {x y : V} {r : Nat → Int} (hp : Pr p) (hz : Fz N) (hW : W ≤ 200) (hi : (W : Int) * i = (Bi : Int)) (hl : Bi + W ≤ 36000) (hr : RwA N Bi W r) (hg : ld r W < W) (hrg : RgV p r) (hQ : WP 221 (0, 0) 40 [(2, 190), (0, (W : Int)), (0, (B : Int)), (0, i), (0, (ld r W : Int)), x, y] [] NN N Q) :
    ∀ (n l : Nat), l + n = ld r W → WP 221 (0, 0) 20 [(2, 190), (0, (W : Int)), (0, (B : Int)), (0, i), (0, (l : Int)), x, y] [] NN N Q := by
  intro n
  induction n with
  | zero =>
    intro l hl2
    obtain rfl : l = ld r W := by omega
    have e1 := hr (ld r W) hg
    have ne := ld_ne hg
    have rg := rgv32 hp hrg (ld r W)
    refine WP.run [(221, 20), (221, 40)] [] 60 ?_
    simp only [bk221_0, bk221_9, bk221_17, bk221_20, bk221_34, bk221_40, bk221_54, bk221_60, bk221_65, bk221_108, bk221_114, bk221_116, bk221_121, bk221_132, bk221_138, bk221_143, bk221_160, bk221_166, bk221_198, bk221_208, U_iload_n, U_aload_n, U_getfield, U_imul, U_istore_n, U_iconst, U_icmp_ge, U_istore, U_iload, U_iadd, U_iald, U_if_ne, U_iinc, U_goto, U_if_eq, U_isub, U_invokevirtual1, U_iast, U_irem, U_dup, U_putfield, U_return, UN_cc, UN_cn, UN_nc, UN_nn, UJ, lget, lset, lset2, entL, wsm, wcat, Option.toList_some, Option.toList_none, List.cons_append, List.nil_append, List.mem_cons, List.not_mem_nil, Prod.mk.injEq, or_false, false_or, or_true, true_or, and_true, true_and, and_false, false_and, and_self, ne_eq, not_false_eq_true, not_true_eq_false, forall_const, true_implies, false_implies, Nat.add_zero, Nat.zero_add, Nat.le_refl, Nat.zero_le, List.set_cons_zero, List.set_cons_succ, List.set_nil, ↓reduceIte, Nat.reduceAdd, Nat.reduceSub, Nat.reduceEqDiff, Nat.reduceLeDiff, Int.reduceEq, Int.reduceNe, Int.reduceNeg, reduceCtorEq, kd190, kd214, ln214, z190_31 hz, hi, e1]
    exact ⟨by omega, by omega, r3 (by omega), fun e => absurd e ne, fun _ => hQ⟩
  | succ n ih =>
    intro l hl2
    have e1 := hr l (by omega)
    have zr : r l = 0 := ld_lo (L := W) (by omega)
    refine WP.run [(221, 20), (221, 40)] [] 60 ?_
    simp only [bk221_0, bk221_9, bk221_17, bk221_20, bk221_34, bk221_40, bk221_54, bk221_60, bk221_65, bk221_108, bk221_114, bk221_116, bk221_121, bk221_132, bk221_138, bk221_143, bk221_160, bk221_166, bk221_198, bk221_208, U_iload_n, U_aload_n, U_getfield, U_imul, U_istore_n, U_iconst, U_icmp_ge, U_istore, U_iload, U_iadd, U_iald, U_if_ne, U_iinc, U_goto, U_if_eq, U_isub, U_invokevirtual1, U_iast, U_irem, U_dup, U_putfield, U_return, UN_cc, UN_cn, UN_nc, UN_nn, UJ, lget, lset, lset2, entL, wsm, wcat, Option.toList_some, Option.toList_none, List.cons_append, List.nil_append, List.mem_cons, List.not_mem_nil, Prod.mk.injEq, or_false, false_or, or_true, true_or, and_true, true_and, and_false, false_and, and_self, ne_eq, not_false_eq_true, not_true_eq_false, forall_const, true_implies, false_implies, Nat.add_zero, Nat.zero_add, Nat.le_refl, Nat.zero_le, List.set_cons_zero, List.set_cons_succ, List.set_nil, ↓reduceIte, Nat.reduceAdd, Nat.reduceSub, Nat.reduceEqDiff, Nat.reduceLeDiff, Int.reduceEq, Int.reduceNe, Int.reduceNeg, reduceCtorEq, kd190, kd214, ln214, z190_31 hz, hi, e1, zr]
    refine ⟨by omega, by omega, r3 (by omega), ?_⟩
    exact ih (l + 1) (by omega)
set_option maxHeartbeats 8000000 in
/-- one row taken away -/
theorem l_cdK {p : Int} {N : Mem} {Q : Post} {W B Bi l : Nat} {i : Int} {r u : Nat → Int} (hp : Pr p) (hz : Fz N) (h0 : N 190 0 = p) (hW : W ≤ 200) (hi : (W : Int) * i = (Bi : Int)) (hl : B + W ≤ 36000) (hBi : Bi + W ≤ B) (hr : RwA N Bi W r) (hu : RwA N B W u) (hrg : RgV p r) (hug : RgV p u) (hnz : u l ≠ 0) (hQ : ∀ N', ChB B W N N' → RwA N' B W (rd1 p r l u) → ∀ a : Int, WP 221 (0, 0) 9 [(2, 190), (0, (W : Int)), (0, (B : Int)), (0, i + 1), (0, (l : Int)), (0, u l), (0, a)] [] NN N' Q) :
    ∀ (n k : Nat) (Ni : Mem), k + n = W → ChB B W N Ni → (∀ j : Nat, j < W → Ni 214 ((B : Int) + (j : Int)) = if j < k then rd1 p r l u j else u j) → WP 221 (0, 0) 54 [(2, 190), (0, (W : Int)), (0, (B : Int)), (0, i), (0, (l : Int)), (0, u l), (0, (k : Int))] [] NN Ni Q := by
  have hpp := hp.pos
  intro n
  induction n with
  | zero =>
    intro k Ni hk hC hA
    obtain rfl : k = W := by omega
    refine WP.run [(221, 9), (221, 54)] [] 60 ?_
    simp only [bk221_0, bk221_9, bk221_17, bk221_20, bk221_34, bk221_40, bk221_54, bk221_60, bk221_65, bk221_108, bk221_114, bk221_116, bk221_121, bk221_132, bk221_138, bk221_143, bk221_160, bk221_166, bk221_198, bk221_208, U_iload_n, U_aload_n, U_getfield, U_imul, U_istore_n, U_iconst, U_icmp_ge, U_istore, U_iload, U_iadd, U_iald, U_if_ne, U_iinc, U_goto, U_if_eq, U_isub, U_invokevirtual1, U_iast, U_irem, U_dup, U_putfield, U_return, UN_cc, UN_cn, UN_nc, UN_nn, UJ, lget, lset, lset2, entL, wsm, wcat, Option.toList_some, Option.toList_none, List.cons_append, List.nil_append, List.mem_cons, List.not_mem_nil, Prod.mk.injEq, or_false, false_or, or_true, true_or, and_true, true_and, and_false, false_and, and_self, ne_eq, not_false_eq_true, not_true_eq_false, forall_const, true_implies, false_implies, Nat.add_zero, Nat.zero_add, Nat.le_refl, Nat.zero_le, List.set_cons_zero, List.set_cons_succ, List.set_nil, ↓reduceIte, Nat.reduceAdd, Nat.reduceSub, Nat.reduceEqDiff, Nat.reduceLeDiff, Int.reduceEq, Int.reduceNe, Int.reduceNeg, reduceCtorEq]
    exact ⟨rr (by omega), fun e => absurd e (by omega), fun _ => hQ Ni hC (fun j hj => by rw [hA j hj, if_pos hj]) _⟩
  | succ n ih =>
    intro k Ni hk hC hA
    have hzi := hC.fz hz
    have h0i : Ni 190 0 = p := by rw [hC.1 190 (by decide)]; exact h0
    have e1 := hA k (by omega)
    rw [if_neg (by omega)] at e1
    have e2 : Ni 214 ((Bi : Int) + (k : Int)) = r k := by rw [hC.2 _ (by omega)]; exact hr k (by omega)
    have g1 := rgv32 hp hug k
    have g2 := rgv32 hp hrg k
    have g3 := rgv32 hp hug l
    have b := ab_mul (A := 12) (B := 12) (a := u l) (b := r k) (by omega) (by omega)
    refine WP.run [(221, 9), (221, 54)] [] 60 ?_
    simp only [bk221_0, bk221_9, bk221_17, bk221_20, bk221_34, bk221_40, bk221_54, bk221_60, bk221_65, bk221_108, bk221_114, bk221_116, bk221_121, bk221_132, bk221_138, bk221_143, bk221_160, bk221_166, bk221_198, bk221_208, U_iload_n, U_aload_n, U_getfield, U_imul, U_istore_n, U_iconst, U_icmp_ge, U_istore, U_iload, U_iadd, U_iald, U_if_ne, U_iinc, U_goto, U_if_eq, U_isub, U_invokevirtual1, U_iast, U_irem, U_dup, U_putfield, U_return, UN_cc, UN_cn, UN_nc, UN_nn, UJ, lget, lset, lset2, entL, wsm, wcat, Option.toList_some, Option.toList_none, List.cons_append, List.nil_append, List.mem_cons, List.not_mem_nil, Prod.mk.injEq, or_false, false_or, or_true, true_or, and_true, true_and, and_false, false_and, and_self, ne_eq, not_false_eq_true, not_true_eq_false, forall_const, true_implies, false_implies, Nat.add_zero, Nat.zero_add, Nat.le_refl, Nat.zero_le, List.set_cons_zero, List.set_cons_succ, List.set_nil, ↓reduceIte, Nat.reduceAdd, Nat.reduceSub, Nat.reduceEqDiff, Nat.reduceLeDiff, Int.reduceEq, Int.reduceNe, Int.reduceNeg, reduceCtorEq, kd190, kd214, ln214, z190_31 hzi, hi, e1, e2]
    refine ⟨rr (by omega), fun _ => ⟨r3 (by omega), fun e => absurd e hnz, fun _ => ?_⟩, fun e => absurd (by omega) e⟩
    repeat (first | refine And.intro (by first | omega | exact not_false) ?_ | refine And.intro (rr (by omega)) ?_ | refine And.intro (r3 (by omega)) ?_ | refine And.intro (r6 (by omega)) ?_)
    refine m_mod hp h0i (r3 (by omega)) ?_
    simp only [bk221_0, bk221_9, bk221_17, bk221_20, bk221_34, bk221_40, bk221_54, bk221_60, bk221_65, bk221_108, bk221_114, bk221_116, bk221_121, bk221_132, bk221_138, bk221_143, bk221_160, bk221_166, bk221_198, bk221_208, U_iload_n, U_aload_n, U_getfield, U_imul, U_istore_n, U_iconst, U_icmp_ge, U_istore, U_iload, U_iadd, U_iald, U_if_ne, U_iinc, U_goto, U_if_eq, U_isub, U_invokevirtual1, U_iast, U_irem, U_dup, U_putfield, U_return, UN_cc, UN_cn, UN_nc, UN_nn, UJ, lget, lset, lset2, entL, wsm, wcat, Option.toList_some, Option.toList_none, List.cons_append, List.nil_append, List.mem_cons, List.not_mem_nil, Prod.mk.injEq, or_false, false_or, or_true, true_or, and_true, true_and, and_false, false_and, and_self, ne_eq, not_false_eq_true, not_true_eq_false, forall_const, true_implies, false_implies, Nat.add_zero, Nat.zero_add, Nat.le_refl, Nat.zero_le, List.set_cons_zero, List.set_cons_succ, List.set_nil, ↓reduceIte, Nat.reduceAdd, Nat.reduceSub, Nat.reduceEqDiff, Nat.reduceLeDiff, Int.reduceEq, Int.reduceNe, Int.reduceNeg, reduceCtorEq, kd214, ln214]
    repeat (first | refine And.intro (by first | omega | exact not_false) ?_ | refine And.intro (rr (by omega)) ?_ | refine And.intro (r3 (by omega)) ?_ | refine And.intro (r6 (by omega)) ?_)
    refine ih (k + 1) _ (by omega) (hC.us _ (by omega)) (fun j hj => ?_)
    rw [ust_at]
    by_cases c : j = k
    · subst c; rw [if_pos rfl, if_pos (by omega)]; rfl
    · rw [if_neg (by omega), hA j hj]
      by_cases c2 : j < k
      · rw [if_pos c2, if_pos (by omega)]
      · rw [if_neg c2, if_neg (by omega)]
theorem rd1_0 {p : Int} {r u : Nat → Int} {l : Nat} (hu : RgV p u) (h : u l = 0) : rd1 p r l u = u := funext fun j => by
  show (u j - u l * r j) % p = u j
  rw [h, Int.zero_mul, Int.sub_zero]
  have := hu j
  exact Int.emod_eq_of_lt this.1 this.2
theorem wmul {W i n : Nat} (h : i < n) : W * i + W ≤ W * n := by
  have := Nat.mul_le_mul_left W (show i + 1 ≤ n by omega)
  rw [Nat.mul_succ] at this; exact this
set_option maxHeartbeats 8000000 in
/-- all rows taken away -/
theorem l_cdR {p : Int} {N : Mem} {Q : Post} {W : Nat} {R : List (Nat → Int)} {v : Nat → Int} (hp : Pr p) (hz : Fz N) (h0 : N 190 0 = p) (hW : W ≤ 200) (hl : W * R.length + W ≤ 36000) (hR : Ech p W R) (hv : RgV p v) (hA : MxA N W R) (hQ : ∀ N', ChB (W * R.length) W N N' → RwA N' (W * R.length) W (rdA p W R v) → ∀ a b c : V, WP 221 (0, 0) 114 [(2, 190), (0, (W : Int)), (0, ((W * R.length : Nat) : Int)), (0, (R.length : Int)), a, b, c] [] NN N' Q) :
    ∀ (n i : Nat) (a b c : V) (Ni : Mem), i + n = R.length → ChB (W * R.length) W N Ni → RwA Ni (W * R.length) W (rdA p W (R.take i) v) → WP 221 (0, 0) 9 [(2, 190), (0, (W : Int)), (0, ((W * R.length : Nat) : Int)), (0, (i : Int)), a, b, c] [] NN Ni Q := by
  have hpp := hp.pos
  have hln := hR.len.1
  intro n
  induction n with
  | zero =>
    intro i a b c Ni hi hC hu
    obtain rfl : i = R.length := by omega
    rw [List.take_of_length_le (Nat.le_refl _)] at hu
    have e32 : Ni 190 32 = (R.length : Int) := by rw [hC.1 190 (by decide)]; exact hA.1
    refine WP.run [(221, 9), (221, 114)] [] 60 ?_
    simp only [bk221_0, bk221_9, bk221_17, bk221_20, bk221_34, bk221_40, bk221_54, bk221_60, bk221_65, bk221_108, bk221_114, bk221_116, bk221_121, bk221_132, bk221_138, bk221_143, bk221_160, bk221_166, bk221_198, bk221_208, U_iload_n, U_aload_n, U_getfield, U_imul, U_istore_n, U_iconst, U_icmp_ge, U_istore, U_iload, U_iadd, U_iald, U_if_ne, U_iinc, U_goto, U_if_eq, U_isub, U_invokevirtual1, U_iast, U_irem, U_dup, U_putfield, U_return, UN_cc, UN_cn, UN_nc, UN_nn, UJ, lget, lset, lset2, entL, wsm, wcat, Option.toList_some, Option.toList_none, List.cons_append, List.nil_append, List.mem_cons, List.not_mem_nil, Prod.mk.injEq, or_false, false_or, or_true, true_or, and_true, true_and, and_false, false_and, and_self, ne_eq, not_false_eq_true, not_true_eq_false, forall_const, true_implies, false_implies, Nat.add_zero, Nat.zero_add, Nat.le_refl, Nat.zero_le, List.set_cons_zero, List.set_cons_succ, List.set_nil, ↓reduceIte, Nat.reduceAdd, Nat.reduceSub, Nat.reduceEqDiff, Nat.reduceLeDiff, Int.reduceEq, Int.reduceNe, Int.reduceNeg, reduceCtorEq, kd190, e32]
    exact ⟨rr (by omega), fun e => absurd e (by omega), fun _ => hQ Ni hC hu _ _ _⟩
  | succ n ih =>
    intro i a b c Ni hi hC hu
    have hzi := hC.fz hz
    have h0i : Ni 190 0 = p := by rw [hC.1 190 (by decide)]; exact h0
    have e32 : Ni 190 32 = (R.length : Int) := by rw [hC.1 190 (by decide)]; exact hA.1
    obtain ⟨r, hr⟩ : ∃ r, R[i]? = some r := ⟨_, List.getElem?_eq_getElem (by omega)⟩
    obtain ⟨g1, g2, g3⟩ := hR.gd r (List.mem_of_getElem? hr)
    have hw := wmul (W := W) (show i < R.length by omega)
    have hri : RwA Ni (W * i) W r := fun j hj => by rw [hC.2 _ (by omega)]; exact hA.2 i r hr j hj
    have es : rdA p W (R.take (i + 1)) v = rd1 p r (ld r W) (rdA p W (R.take i) v) := by
      rw [List.take_add_one, hr, rdA_app]; rfl
    have hug : RgV p (rdA p W (R.take i) v) := rdA_rg hp W _ v hv
    have hWi : (W : Int) * (i : Int) = ((W * i : Nat) : Int) := (Int.natCast_mul W i).symm
    generalize rdA p W (R.take i) v = u at *
    have e1 := hu (ld r W) g1
    generalize hBi : W * i = Bi at *
    generalize hBB : W * R.length = B at *
    have nx := fun (N' : Mem) (a b c : V) (k1 : ChB B W Ni N') (k2 : RwA N' B W (rd1 p r (ld r W) u)) => ih (i + 1) a b c N' (by omega) (hC.tr k1) (by rw [es]; exact k2)
    have g40 : WP 221 (0, 0) 40 [(2, 190), (0, (W : Int)), (0, (B : Int)), (0, (i : Int)), (0, (ld r W : Int)), b, c] [] NN Ni Q := by
      refine WP.run [(221, 54)] [] 60 ?_
      simp only [bk221_0, bk221_9, bk221_17, bk221_20, bk221_34, bk221_40, bk221_54, bk221_60, bk221_65, bk221_108, bk221_114, bk221_116, bk221_121, bk221_132, bk221_138, bk221_143, bk221_160, bk221_166, bk221_198, bk221_208, U_iload_n, U_aload_n, U_getfield, U_imul, U_istore_n, U_iconst, U_icmp_ge, U_istore, U_iload, U_iadd, U_iald, U_if_ne, U_iinc, U_goto, U_if_eq, U_isub, U_invokevirtual1, U_iast, U_irem, U_dup, U_putfield, U_return, UN_cc, UN_cn, UN_nc, UN_nn, UJ, lget, lset, lset2, entL, wsm, wcat, Option.toList_some, Option.toList_none, List.cons_append, List.nil_append, List.mem_cons, List.not_mem_nil, Prod.mk.injEq, or_false, false_or, or_true, true_or, and_true, true_and, and_false, false_and, and_self, ne_eq, not_false_eq_true, not_true_eq_false, forall_const, true_implies, false_implies, Nat.add_zero, Nat.zero_add, Nat.le_refl, Nat.zero_le, List.set_cons_zero, List.set_cons_succ, List.set_nil, ↓reduceIte, Nat.reduceAdd, Nat.reduceSub, Nat.reduceEqDiff, Nat.reduceLeDiff, Int.reduceEq, Int.reduceNe, Int.reduceNeg, reduceCtorEq, kd190, kd214, ln214, z190_31 hzi, e1]
      repeat (first | refine And.intro (by first | omega | exact not_false) ?_ | refine And.intro (rr (by omega)) ?_ | refine And.intro (r3 (by omega)) ?_ | refine And.intro (r6 (by omega)) ?_)
      by_cases z0 : u (ld r W) = 0
      · have := nx Ni (0, (ld r W : Int)) (0, u (ld r W)) (0, 0) (ChB.rf _ _ _) (by rw [rd1_0 hug z0]; exact hu)
        refine WP.run [(221, 9)] [] 60 ?_
        simp only [bk221_0, bk221_9, bk221_17, bk221_20, bk221_34, bk221_40, bk221_54, bk221_60, bk221_65, bk221_108, bk221_114, bk221_116, bk221_121, bk221_132, bk221_138, bk221_143, bk221_160, bk221_166, bk221_198, bk221_208, U_iload_n, U_aload_n, U_getfield, U_imul, U_istore_n, U_iconst, U_icmp_ge, U_istore, U_iload, U_iadd, U_iald, U_if_ne, U_iinc, U_goto, U_if_eq, U_isub, U_invokevirtual1, U_iast, U_irem, U_dup, U_putfield, U_return, UN_cc, UN_cn, UN_nc, UN_nn, UJ, lget, lset, lset2, entL, wsm, wcat, Option.toList_some, Option.toList_none, List.cons_append, List.nil_append, List.mem_cons, List.not_mem_nil, Prod.mk.injEq, or_false, false_or, or_true, true_or, and_true, true_and, and_false, false_and, and_self, ne_eq, not_false_eq_true, not_true_eq_false, forall_const, true_implies, false_implies, Nat.add_zero, Nat.zero_add, Nat.le_refl, Nat.zero_le, List.set_cons_zero, List.set_cons_succ, List.set_nil, ↓reduceIte, Nat.reduceAdd, Nat.reduceSub, Nat.reduceEqDiff, Nat.reduceLeDiff, Int.reduceEq, Int.reduceNe, Int.reduceNeg, reduceCtorEq]
        refine ⟨rr (by omega), fun _ => ⟨r3 (by omega), fun _ => this, fun e => absurd z0 e⟩, fun e => absurd (by omega) e⟩
      · exact l_cdK (N := Ni) (B := B) (Bi := Bi) (l := ld r W) (i := (i : Int)) (r := r) (u := u) hp hzi h0i hW hWi hl (by omega) hri hu g3 hug z0 (fun N' k1 k2 a => nx N' _ _ _ k1 k2) W 0 Ni (by omega) (ChB.rf _ _ _) (fun j hj => by rw [if_neg (by omega)]; exact hu j hj)
    have L := l_cdL (p := p) (N := Ni) (Q := Q) (W := W) (B := B) (Bi := Bi) (i := (i : Int)) (x := b) (y := c) (r := r) hp hzi hW hWi (by omega) hri g1 g3 g40 (ld r W) 0 (by omega)
    refine WP.run [(221, 9), (221, 20), (221, 114)] [] 60 ?_
    simp only [bk221_0, bk221_9, bk221_17, bk221_20, bk221_34, bk221_40, bk221_54, bk221_60, bk221_65, bk221_108, bk221_114, bk221_116, bk221_121, bk221_132, bk221_138, bk221_143, bk221_160, bk221_166, bk221_198, bk221_208, U_iload_n, U_aload_n, U_getfield, U_imul, U_istore_n, U_iconst, U_icmp_ge, U_istore, U_iload, U_iadd, U_iald, U_if_ne, U_iinc, U_goto, U_if_eq, U_isub, U_invokevirtual1, U_iast, U_irem, U_dup, U_putfield, U_return, UN_cc, UN_cn, UN_nc, UN_nn, UJ, lget, lset, lset2, entL, wsm, wcat, Option.toList_some, Option.toList_none, List.cons_append, List.nil_append, List.mem_cons, List.not_mem_nil, Prod.mk.injEq, or_false, false_or, or_true, true_or, and_true, true_and, and_false, false_and, and_self, ne_eq, not_false_eq_true, not_true_eq_false, forall_const, true_implies, false_implies, Nat.add_zero, Nat.zero_add, Nat.le_refl, Nat.zero_le, List.set_cons_zero, List.set_cons_succ, List.set_nil, ↓reduceIte, Nat.reduceAdd, Nat.reduceSub, Nat.reduceEqDiff, Nat.reduceLeDiff, Int.reduceEq, Int.reduceNe, Int.reduceNeg, reduceCtorEq, kd190, e32]
    exact ⟨rr (by omega), fun _ => L, fun e => absurd (by omega) e⟩
set_option maxHeartbeats 8000000 in
/-- where what is left begins -/
theorem l_cdF {p : Int} {N : Mem} {Q : Post} {W B : Nat} {a b c : V} {u : Nat → Int} (hp : Pr p) (hz : Fz N) (hW : W ≤ 200) (hl : B + W ≤ 36000) (hu : RwA N B W u) (hug : RgV p u) (hQ : WP 221 (0, 0) 138 [(2, 190), (0, (W : Int)), (0, (B : Int)), (0, (ld u W : Int)), a, b, c] [] NN N Q) :
    ∀ (n l : Nat), l + n = ld u W → WP 221 (0, 0) 116 [(2, 190), (0, (W : Int)), (0, (B : Int)), (0, (l : Int)), a, b, c] [] NN N Q := by
  have hle := ld_le u W
  intro n
  induction n with
  | zero =>
    intro l hl2
    obtain rfl : l = ld u W := by omega
    refine WP.run [(221, 116), (221, 138)] [] 60 ?_
    by_cases c : ld u W < W
    · have e1 := hu (ld u W) c
      have ne := ld_ne c
      have rg := rgv32 hp hug (ld u W)
      simp only [bk221_0, bk221_9, bk221_17, bk221_20, bk221_34, bk221_40, bk221_54, bk221_60, bk221_65, bk221_108, bk221_114, bk221_116, bk221_121, bk221_132, bk221_138, bk221_143, bk221_160, bk221_166, bk221_198, bk221_208, U_iload_n, U_aload_n, U_getfield, U_imul, U_istore_n, U_iconst, U_icmp_ge, U_istore, U_iload, U_iadd, U_iald, U_if_ne, U_iinc, U_goto, U_if_eq, U_isub, U_invokevirtual1, U_iast, U_irem, U_dup, U_putfield, U_return, UN_cc, UN_cn, UN_nc, UN_nn, UJ, lget, lset, lset2, entL, wsm, wcat, Option.toList_some, Option.toList_none, List.cons_append, List.nil_append, List.mem_cons, List.not_mem_nil, Prod.mk.injEq, or_false, false_or, or_true, true_or, and_true, true_and, and_false, false_and, and_self, ne_eq, not_false_eq_true, not_true_eq_false, forall_const, true_implies, false_implies, Nat.add_zero, Nat.zero_add, Nat.le_refl, Nat.zero_le, List.set_cons_zero, List.set_cons_succ, List.set_nil, ↓reduceIte, Nat.reduceAdd, Nat.reduceSub, Nat.reduceEqDiff, Nat.reduceLeDiff, Int.reduceEq, Int.reduceNe, Int.reduceNeg, reduceCtorEq, kd190, kd214, ln214, z190_31 hz, e1]
      exact ⟨rr (by omega), fun _ => ⟨by omega, by omega, r3 (by omega), fun e => absurd e ne, fun _ => hQ⟩, fun _ => hQ⟩
    · simp only [bk221_0, bk221_9, bk221_17, bk221_20, bk221_34, bk221_40, bk221_54, bk221_60, bk221_65, bk221_108, bk221_114, bk221_116, bk221_121, bk221_132, bk221_138, bk221_143, bk221_160, bk221_166, bk221_198, bk221_208, U_iload_n, U_aload_n, U_getfield, U_imul, U_istore_n, U_iconst, U_icmp_ge, U_istore, U_iload, U_iadd, U_iald, U_if_ne, U_iinc, U_goto, U_if_eq, U_isub, U_invokevirtual1, U_iast, U_irem, U_dup, U_putfield, U_return, UN_cc, UN_cn, UN_nc, UN_nn, UJ, lget, lset, lset2, entL, wsm, wcat, Option.toList_some, Option.toList_none, List.cons_append, List.nil_append, List.mem_cons, List.not_mem_nil, Prod.mk.injEq, or_false, false_or, or_true, true_or, and_true, true_and, and_false, false_and, and_self, ne_eq, not_false_eq_true, not_true_eq_false, forall_const, true_implies, false_implies, Nat.add_zero, Nat.zero_add, Nat.le_refl, Nat.zero_le, List.set_cons_zero, List.set_cons_succ, List.set_nil, ↓reduceIte, Nat.reduceAdd, Nat.reduceSub, Nat.reduceEqDiff, Nat.reduceLeDiff, Int.reduceEq, Int.reduceNe, Int.reduceNeg, reduceCtorEq]
      exact ⟨rr (by omega), fun e => absurd e (by omega), fun _ => hQ⟩
  | succ n ih =>
    intro l hl2
    have e1 := hu l (by omega)
    have zr : u l = 0 := ld_lo (L := W) (by omega)
    refine WP.run [(221, 116), (221, 138)] [] 60 ?_
    simp only [bk221_0, bk221_9, bk221_17, bk221_20, bk221_34, bk221_40, bk221_54, bk221_60, bk221_65, bk221_108, bk221_114, bk221_116, bk221_121, bk221_132, bk221_138, bk221_143, bk221_160, bk221_166, bk221_198, bk221_208, U_iload_n, U_aload_n, U_getfield, U_imul, U_istore_n, U_iconst, U_icmp_ge, U_istore, U_iload, U_iadd, U_iald, U_if_ne, U_iinc, U_goto, U_if_eq, U_isub, U_invokevirtual1, U_iast, U_irem, U_dup, U_putfield, U_return, UN_cc, UN_cn, UN_nc, UN_nn, UJ, lget, lset, lset2, entL, wsm, wcat, Option.toList_some, Option.toList_none, List.cons_append, List.nil_append, List.mem_cons, List.not_mem_nil, Prod.mk.injEq, or_false, false_or, or_true, true_or, and_true, true_and, and_false, false_and, and_self, ne_eq, not_false_eq_true, not_true_eq_false, forall_const, true_implies, false_implies, Nat.add_zero, Nat.zero_add, Nat.le_refl, Nat.zero_le, List.set_cons_zero, List.set_cons_succ, List.set_nil, ↓reduceIte, Nat.reduceAdd, Nat.reduceSub, Nat.reduceEqDiff, Nat.reduceLeDiff, Int.reduceEq, Int.reduceNe, Int.reduceNeg, reduceCtorEq, kd190, kd214, ln214, z190_31 hz, e1, zr]
    refine ⟨rr (by omega), fun _ => ⟨by omega, by omega, r3 (by omega), ?_⟩, fun e => absurd (by omega) e⟩
    exact ih (l + 1) (by omega)
set_option maxHeartbeats 8000000 in
/-- 1 at its beginning -/
theorem l_cdN {p : Int} {N : Mem} {Q : Post} {W B l : Nat} {a : V} {u : Nat → Int} {y : Int} (hp : Pr p) (hz : Fz N) (h0 : N 190 0 = p) (hW : W ≤ 200) (hl : B + W ≤ 36000) (hy : 0 ≤ y ∧ y < p) (hu : RwA N B W u) (hug : RgV p u) (hQ : ∀ N', ChB B W N N' → RwA N' B W (fun j => u j * y % p) → ∀ a b : V, WP 221 (0, 0) 198 [(2, 190), (0, (W : Int)), (0, (B : Int)), (0, (l : Int)), (0, y), a, b] [] NN N' Q) :
    ∀ (n k : Nat) (Ni : Mem), k + n = W → ChB B W N Ni → (∀ j : Nat, j < W → Ni 214 ((B : Int) + (j : Int)) = if j < k then u j * y % p else u j) → WP 221 (0, 0) 160 [(2, 190), (0, (W : Int)), (0, (B : Int)), (0, (l : Int)), (0, y), (0, (k : Int)), a] [] NN Ni Q := by
  have hpp := hp.pos
  intro n
  induction n with
  | zero =>
    intro k Ni hk hC hA
    obtain rfl : k = W := by omega
    refine WP.run [(221, 160), (221, 198)] [] 60 ?_
    simp only [bk221_0, bk221_9, bk221_17, bk221_20, bk221_34, bk221_40, bk221_54, bk221_60, bk221_65, bk221_108, bk221_114, bk221_116, bk221_121, bk221_132, bk221_138, bk221_143, bk221_160, bk221_166, bk221_198, bk221_208, U_iload_n, U_aload_n, U_getfield, U_imul, U_istore_n, U_iconst, U_icmp_ge, U_istore, U_iload, U_iadd, U_iald, U_if_ne, U_iinc, U_goto, U_if_eq, U_isub, U_invokevirtual1, U_iast, U_irem, U_dup, U_putfield, U_return, UN_cc, UN_cn, UN_nc, UN_nn, UJ, lget, lset, lset2, entL, wsm, wcat, Option.toList_some, Option.toList_none, List.cons_append, List.nil_append, List.mem_cons, List.not_mem_nil, Prod.mk.injEq, or_false, false_or, or_true, true_or, and_true, true_and, and_false, false_and, and_self, ne_eq, not_false_eq_true, not_true_eq_false, forall_const, true_implies, false_implies, Nat.add_zero, Nat.zero_add, Nat.le_refl, Nat.zero_le, List.set_cons_zero, List.set_cons_succ, List.set_nil, ↓reduceIte, Nat.reduceAdd, Nat.reduceSub, Nat.reduceEqDiff, Nat.reduceLeDiff, Int.reduceEq, Int.reduceNe, Int.reduceNeg, reduceCtorEq]
    exact ⟨rr (by omega), fun e => absurd e (by omega), fun _ => hQ Ni hC (fun j hj => by rw [hA j hj, if_pos hj]) _ _⟩
  | succ n ih =>
    intro k Ni hk hC hA
    have hzi := hC.fz hz
    have h0i : Ni 190 0 = p := by rw [hC.1 190 (by decide)]; exact h0
    have e1 := hA k (by omega)
    rw [if_neg (by omega)] at e1
    have g1 := rgv32 hp hug k
    have b := ab_mul (A := 12) (B := 13) (a := u k) (b := y) (by omega) (by omega)
    have b0 : 0 ≤ u k * y := Int.mul_nonneg g1.1 hy.1
    refine WP.run [(221, 160), (221, 198)] [] 60 ?_
    simp only [bk221_0, bk221_9, bk221_17, bk221_20, bk221_34, bk221_40, bk221_54, bk221_60, bk221_65, bk221_108, bk221_114, bk221_116, bk221_121, bk221_132, bk221_138, bk221_143, bk221_160, bk221_166, bk221_198, bk221_208, U_iload_n, U_aload_n, U_getfield, U_imul, U_istore_n, U_iconst, U_icmp_ge, U_istore, U_iload, U_iadd, U_iald, U_if_ne, U_iinc, U_goto, U_if_eq, U_isub, U_invokevirtual1, U_iast, U_irem, U_dup, U_putfield, U_return, UN_cc, UN_cn, UN_nc, UN_nn, UJ, lget, lset, lset2, entL, wsm, wcat, Option.toList_some, Option.toList_none, List.cons_append, List.nil_append, List.mem_cons, List.not_mem_nil, Prod.mk.injEq, or_false, false_or, or_true, true_or, and_true, true_and, and_false, false_and, and_self, ne_eq, not_false_eq_true, not_true_eq_false, forall_const, true_implies, false_implies, Nat.add_zero, Nat.zero_add, Nat.le_refl, Nat.zero_le, List.set_cons_zero, List.set_cons_succ, List.set_nil, ↓reduceIte, Nat.reduceAdd, Nat.reduceSub, Nat.reduceEqDiff, Nat.reduceLeDiff, Int.reduceEq, Int.reduceNe, Int.reduceNeg, reduceCtorEq, kd190, kd214, ln214, z190_31 hzi, h0i, e1]
    rw [tm_nn b0]
    refine ⟨rr (by omega), fun _ => ?_, fun e => absurd (by omega) e⟩
    repeat (first | refine And.intro (by first | omega | exact not_false) ?_ | refine And.intro (rr (by omega)) ?_ | refine And.intro (r3 (by omega)) ?_ | refine And.intro (r6 (by omega)) ?_)
    refine ih (k + 1) _ (by omega) (hC.us _ (by omega)) (fun j hj => ?_)
    rw [ust_at]
    by_cases c : j = k
    · subst c; rw [if_pos rfl, if_pos (by omega)]
    · rw [if_neg (by omega), hA j hj]
      by_cases c2 : j < k
      · rw [if_pos c2, if_pos (by omega)]
      · rw [if_neg c2, if_neg (by omega)]
set_option maxHeartbeats 16000000 in
theorem m_condition {p : Int} {N : Mem} {Q : Post} {W : Nat} {R : List (Nat → Int)} {v : Nat → Int} (hp : Pr p) (hz : Fz N) (h0 : N 190 0 = p) (hW : W ≤ 200) (hl : W * R.length + W ≤ 36000) (hR : Ech p W R) (hv : RgV p v) (hA : MxA N W R) (hV : RwA N (W * R.length) W v) (hQ : ∀ N', FM [214] [32] N N' → MxA N' W (ech1 p W R v) → Q none NN N') : CL 221 [(2, 190), (0, (W : Int)), (9, 0), (9, 0), (9, 0), (9, 0), (9, 0)] NN N Q := by
  have hpp := hp.pos
  have hln := hR.len.1
  have hWR : (W : Int) * (R.length : Int) = ((W * R.length : Nat) : Int) := (Int.natCast_mul W R.length).symm
  have keep : ∀ N', ChB (W * R.length) W N N' → MxA N' W R := fun N' hC => ⟨by rw [hC.1 190 (by decide)]; exact hA.1, fun i r hr j hj => by
    have hi := (List.getElem?_eq_some_iff.mp hr).1
    have hw := wmul (W := W) hi
    rw [hC.2 _ (by omega)]; exact hA.2 i r hr j hj⟩
  have hug : RgV p (rdA p W R v) := rdA_rg hp W R v hv
  refine WP.run [(221, 9)] [] 60 ?_
  simp only [bk221_0, bk221_9, bk221_17, bk221_20, bk221_34, bk221_40, bk221_54, bk221_60, bk221_65, bk221_108, bk221_114, bk221_116, bk221_121, bk221_132, bk221_138, bk221_143, bk221_160, bk221_166, bk221_198, bk221_208, U_iload_n, U_aload_n, U_getfield, U_imul, U_istore_n, U_iconst, U_icmp_ge, U_istore, U_iload, U_iadd, U_iald, U_if_ne, U_iinc, U_goto, U_if_eq, U_isub, U_invokevirtual1, U_iast, U_irem, U_dup, U_putfield, U_return, UN_cc, UN_cn, UN_nc, UN_nn, UJ, lget, lset, lset2, entL, wsm, wcat, Option.toList_some, Option.toList_none, List.cons_append, List.nil_append, List.mem_cons, List.not_mem_nil, Prod.mk.injEq, or_false, false_or, or_true, true_or, and_true, true_and, and_false, false_and, and_self, ne_eq, not_false_eq_true, not_true_eq_false, forall_const, true_implies, false_implies, Nat.add_zero, Nat.zero_add, Nat.le_refl, Nat.zero_le, List.set_cons_zero, List.set_cons_succ, List.set_nil, ↓reduceIte, Nat.reduceAdd, Nat.reduceSub, Nat.reduceEqDiff, Nat.reduceLeDiff, Int.reduceEq, Int.reduceNe, Int.reduceNeg, reduceCtorEq, kd190, hA.1, hWR]
  refine l_cdR (N := N) (W := W) (R := R) (v := v) hp hz h0 hW hl hR hv hA (fun N1 c1 u1 a b c => ?_) R.length 0 _ _ _ N (by omega) (ChB.rf _ _ _) (by rw [List.take_zero]; exact hV)
  have z1 := c1.fz hz
  have h01 : N1 190 0 = p := by rw [c1.1 190 (by decide)]; exact h0
  have K1 := keep N1 c1
  have hle := ld_le (rdA p W R v) W
  have he : ech1 p W R v = if ld (rdA p W R v) W < W then R ++ [nrm p W (rdA p W R v)] else R := rfl
  have hnd : nrm p W (rdA p W R v) = fun j => (rdA p W R v) j * pinv p ((rdA p W R v) (ld (rdA p W R v) W)) % p := rfl
  generalize rdA p W R v = u at *
  generalize hBB : W * R.length = B at *
  have go : WP 221 (0, 0) 138 [(2, 190), (0, (W : Int)), (0, (B : Int)), (0, (ld u W : Int)), a, b, c] [] NN N1 Q := by
    by_cases w : ld u W < W
    · have e1 := u1 (ld u W) w
      have ne := ld_ne w
      have rg := hug (ld u W)
      have pi := pinv_ok hp (show 0 < u (ld u W) by omega) rg.2
      refine WP.run [(221, 160)] [] 60 ?_
      simp only [bk221_0, bk221_9, bk221_17, bk221_20, bk221_34, bk221_40, bk221_54, bk221_60, bk221_65, bk221_108, bk221_114, bk221_116, bk221_121, bk221_132, bk221_138, bk221_143, bk221_160, bk221_166, bk221_198, bk221_208, U_iload_n, U_aload_n, U_getfield, U_imul, U_istore_n, U_iconst, U_icmp_ge, U_istore, U_iload, U_iadd, U_iald, U_if_ne, U_iinc, U_goto, U_if_eq, U_isub, U_invokevirtual1, U_iast, U_irem, U_dup, U_putfield, U_return, UN_cc, UN_cn, UN_nc, UN_nn, UJ, lget, lset, lset2, entL, wsm, wcat, Option.toList_some, Option.toList_none, List.cons_append, List.nil_append, List.mem_cons, List.not_mem_nil, Prod.mk.injEq, or_false, false_or, or_true, true_or, and_true, true_and, and_false, false_and, and_self, ne_eq, not_false_eq_true, not_true_eq_false, forall_const, true_implies, false_implies, Nat.add_zero, Nat.zero_add, Nat.le_refl, Nat.zero_le, List.set_cons_zero, List.set_cons_succ, List.set_nil, ↓reduceIte, Nat.reduceAdd, Nat.reduceSub, Nat.reduceEqDiff, Nat.reduceLeDiff, Int.reduceEq, Int.reduceNe, Int.reduceNeg, reduceCtorEq, kd190, kd214, ln214, z190_31 z1, e1]
      refine ⟨rr (by omega), fun _ => ?_, fun e => absurd w (by omega)⟩
      repeat (first | refine And.intro (by first | omega | exact not_false) ?_ | refine And.intro (rr (by omega)) ?_ | refine And.intro (r3 (by omega)) ?_ | refine And.intro (r6 (by omega)) ?_)
      refine m_inv hp h01 rg ?_
      simp only [bk221_0, bk221_9, bk221_17, bk221_20, bk221_34, bk221_40, bk221_54, bk221_60, bk221_65, bk221_108, bk221_114, bk221_116, bk221_121, bk221_132, bk221_138, bk221_143, bk221_160, bk221_166, bk221_198, bk221_208, U_iload_n, U_aload_n, U_getfield, U_imul, U_istore_n, U_iconst, U_icmp_ge, U_istore, U_iload, U_iadd, U_iald, U_if_ne, U_iinc, U_goto, U_if_eq, U_isub, U_invokevirtual1, U_iast, U_irem, U_dup, U_putfield, U_return, UN_cc, UN_cn, UN_nc, UN_nn, UJ, lget, lset, lset2, entL, wsm, wcat, Option.toList_some, Option.toList_none, List.cons_append, List.nil_append, List.mem_cons, List.not_mem_nil, Prod.mk.injEq, or_false, false_or, or_true, true_or, and_true, true_and, and_false, false_and, and_self, ne_eq, not_false_eq_true, not_true_eq_false, forall_const, true_implies, false_implies, Nat.add_zero, Nat.zero_add, Nat.le_refl, Nat.zero_le, List.set_cons_zero, List.set_cons_succ, List.set_nil, ↓reduceIte, Nat.reduceAdd, Nat.reduceSub, Nat.reduceEqDiff, Nat.reduceLeDiff, Int.reduceEq, Int.reduceNe, Int.reduceNeg, reduceCtorEq]
      refine l_cdN (N := N1) (B := B) (l := ld u W) (u := u) (y := pinv p (u (ld u W))) hp z1 h01 hW hl pi.2 u1 hug (fun N2 c2 u2 a b => ?_) W 0 N1 (by omega) (ChB.rf _ _ _) (fun j hj => by rw [if_neg (by omega)]; exact u1 j hj)
      have K2 := keep N2 (c1.tr c2)
      have F2 : FM [214] [32] N (ust N2 190 32 ((R.length : Int) + 1)) := ((c1.tr c2).fm.mo rfl rfl).uf _ (by simp)
      refine WP.run [] [] 60 ?_
      simp only [bk221_0, bk221_9, bk221_17, bk221_20, bk221_34, bk221_40, bk221_54, bk221_60, bk221_65, bk221_108, bk221_114, bk221_116, bk221_121, bk221_132, bk221_138, bk221_143, bk221_160, bk221_166, bk221_198, bk221_208, U_iload_n, U_aload_n, U_getfield, U_imul, U_istore_n, U_iconst, U_icmp_ge, U_istore, U_iload, U_iadd, U_iald, U_if_ne, U_iinc, U_goto, U_if_eq, U_isub, U_invokevirtual1, U_iast, U_irem, U_dup, U_putfield, U_return, UN_cc, UN_cn, UN_nc, UN_nn, UJ, lget, lset, lset2, entL, wsm, wcat, Option.toList_some, Option.toList_none, List.cons_append, List.nil_append, List.mem_cons, List.not_mem_nil, Prod.mk.injEq, or_false, false_or, or_true, true_or, and_true, true_and, and_false, false_and, and_self, ne_eq, not_false_eq_true, not_true_eq_false, forall_const, true_implies, false_implies, Nat.add_zero, Nat.zero_add, Nat.le_refl, Nat.zero_le, List.set_cons_zero, List.set_cons_succ, List.set_nil, ↓reduceIte, Nat.reduceAdd, Nat.reduceSub, Nat.reduceEqDiff, Nat.reduceLeDiff, Int.reduceEq, Int.reduceNe, Int.reduceNeg, reduceCtorEq, kd190, K2.1]
      repeat (first | refine And.intro (by first | omega | exact not_false) ?_ | refine And.intro (rr (by omega)) ?_ | refine And.intro (r3 (by omega)) ?_ | refine And.intro (r6 (by omega)) ?_)
      refine hQ _ F2 ?_
      rw [he, if_pos w]
      refine ⟨by rw [ust_at, if_pos rfl, List.length_append]; simp, fun i r hr j hj => ?_⟩
      rw [ust_ne (by decide)]
      by_cases hi : i < R.length
      · rw [List.getElem?_append_left hi] at hr
        exact K2.2 i r hr j hj
      · rw [List.getElem?_append_right (by omega)] at hr
        have hi2 : i - R.length < 1 := by
          have := (List.getElem?_eq_some_iff.mp hr).1
          simpa using this
        obtain rfl : i = R.length := by omega
        rw [Nat.sub_self] at hr
        obtain rfl : nrm p W u = r := by simpa using hr
        rw [hBB, hnd]; exact u2 j hj
    · refine WP.run [(221, 160)] [] 60 ?_
      simp only [bk221_0, bk221_9, bk221_17, bk221_20, bk221_34, bk221_40, bk221_54, bk221_60, bk221_65, bk221_108, bk221_114, bk221_116, bk221_121, bk221_132, bk221_138, bk221_143, bk221_160, bk221_166, bk221_198, bk221_208, U_iload_n, U_aload_n, U_getfield, U_imul, U_istore_n, U_iconst, U_icmp_ge, U_istore, U_iload, U_iadd, U_iald, U_if_ne, U_iinc, U_goto, U_if_eq, U_isub, U_invokevirtual1, U_iast, U_irem, U_dup, U_putfield, U_return, UN_cc, UN_cn, UN_nc, UN_nn, UJ, lget, lset, lset2, entL, wsm, wcat, Option.toList_some, Option.toList_none, List.cons_append, List.nil_append, List.mem_cons, List.not_mem_nil, Prod.mk.injEq, or_false, false_or, or_true, true_or, and_true, true_and, and_false, false_and, and_self, ne_eq, not_false_eq_true, not_true_eq_false, forall_const, true_implies, false_implies, Nat.add_zero, Nat.zero_add, Nat.le_refl, Nat.zero_le, List.set_cons_zero, List.set_cons_succ, List.set_nil, ↓reduceIte, Nat.reduceAdd, Nat.reduceSub, Nat.reduceEqDiff, Nat.reduceLeDiff, Int.reduceEq, Int.reduceNe, Int.reduceNeg, reduceCtorEq]
      refine ⟨rr (by omega), fun e => absurd e (by omega), fun _ => hQ N1 (c1.fm.mo rfl rfl) ?_⟩
      rw [he, if_neg w]; exact K1
  have F := l_cdF (p := p) (N := N1) (Q := Q) (W := W) (B := B) (a := a) (b := b) (c := c) (u := u) hp z1 hW hl u1 hug go (ld u W) 0 (by omega)
  refine WP.run [(221, 116)] [] 60 ?_
  simp only [bk221_0, bk221_9, bk221_17, bk221_20, bk221_34, bk221_40, bk221_54, bk221_60, bk221_65, bk221_108, bk221_114, bk221_116, bk221_121, bk221_132, bk221_138, bk221_143, bk221_160, bk221_166, bk221_198, bk221_208, U_iload_n, U_aload_n, U_getfield, U_imul, U_istore_n, U_iconst, U_icmp_ge, U_istore, U_iload, U_iadd, U_iald, U_if_ne, U_iinc, U_goto, U_if_eq, U_isub, U_invokevirtual1, U_iast, U_irem, U_dup, U_putfield, U_return, UN_cc, UN_cn, UN_nc, UN_nn, UJ, lget, lset, lset2, entL, wsm, wcat, Option.toList_some, Option.toList_none, List.cons_append, List.nil_append, List.mem_cons, List.not_mem_nil, Prod.mk.injEq, or_false, false_or, or_true, true_or, and_true, true_and, and_false, false_and, and_self, ne_eq, not_false_eq_true, not_true_eq_false, forall_const, true_implies, false_implies, Nat.add_zero, Nat.zero_add, Nat.le_refl, Nat.zero_le, List.set_cons_zero, List.set_cons_succ, List.set_nil, ↓reduceIte, Nat.reduceAdd, Nat.reduceSub, Nat.reduceEqDiff, Nat.reduceLeDiff, Int.reduceEq, Int.reduceNe, Int.reduceNeg, reduceCtorEq]
  exact F
