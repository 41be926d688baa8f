/-! THE MODEL'S LIST OF CLASSES -/
/-- five numbers and the token of their class -/
def Tk5 (p d u0 u1 v0 v1 t : Int) : Prop := ((0 ≤ u0 ∧ u0 < p) ∧ (0 ≤ u1 ∧ u1 < p) ∧ (0 ≤ v0 ∧ v0 < p) ∧ (0 ≤ v1 ∧ v1 < p)) ∧ ((d = 0 ∧ u0 = 0 ∧ u1 = 0 ∧ v0 = 0 ∧ v1 = 0 ∧ t = 0) ∨ (d = 1 ∧ u1 = 0 ∧ v1 = 0 ∧ t = p * p * p * p + u0 * p + v0) ∨ (d = 2 ∧ t = tk0 p u1 u0 + v1 * p + v0))
def LsE (p : Int) (N : Mem) (i : Nat) (t : Int) : Prop := ∃ d u0 u1 v0 v1 : Int, (N 203 (5 * (i : Int)) = d ∧ N 203 (5 * (i : Int) + 1) = u0 ∧ N 203 (5 * (i : Int) + 2) = u1 ∧ N 203 (5 * (i : Int) + 3) = v0 ∧ N 203 (5 * (i : Int) + 4) = v1) ∧ Tk5 p d u0 u1 v0 v1 t
def MlA (p : Int) (N : Mem) (L : List Int) : Prop := N 190 19 = (L.length : Int) ∧ ∀ (i : Nat) (t : Int), L[i]? = some t → LsE p N i t
theorem MlA.fm {p : Int} {K M : List Int} {N N' : Mem} {L : List Int} (h : MlA p N L) (e : FM K M N N') (h1 : 203 ∉ K) (h2 : 19 ∉ M) : MlA p N' L := by
  refine ⟨by rw [e.2 19 h2]; exact h.1, fun i t q => ?_⟩
  have := h.2 i t q
  unfold LsE at this ⊢
  rw [e.1 203 (by decide) h1]; exact this
theorem ok_ls : FZK [203] [19] := fzk rfl rfl
set_option maxHeartbeats 8000000 in
theorem m_put {p : Int} {N : Mem} {Q : Post} {L : List Int} {d u0 u1 v0 v1 t : Int} (hz : Fz N) (h : MlA p N L) (hl : L.length < 520) (T : Tk5 p d u0 u1 v0 v1 t) (hQ : ∀ N', FM [203] [19] N N' → MlA p N' (L ++ [t]) → Q none NN N') : CL 191 [(2, 190), (0, u0), (0, u1), (0, d), (0, v0), (0, v1)] NN N Q := by
  have h1 := h.1
  refine WP.run [] [] 90 ?_
  simp only [bk191_0, U_aload_n, U_getfield, U_iconst, U_imul, U_iload_n, U_iast, U_iadd, U_iload, U_dup, U_putfield, U_return, UN_cc, UN_cn, UN_nc, UN_nn, UJ, lget, lset, lset2, entL, wsm, wcat, Option.toList_some, Option.toList_none, List.cons_append, List.nil_append, List.mem_cons, List.not_mem_nil, Prod.mk.injEq, or_false, false_or, or_true, true_or, and_true, true_and, and_false, false_and, and_self, ne_eq, not_false_eq_true, not_true_eq_false, forall_const, true_implies, false_implies, Nat.add_zero, Nat.zero_add, Nat.le_refl, Nat.zero_le, List.set_cons_zero, List.set_cons_succ, List.set_nil, ↓reduceIte, Nat.reduceAdd, Nat.reduceSub, Nat.reduceEqDiff, Nat.reduceLeDiff, Int.reduceEq, Int.reduceNe, Int.reduceNeg, reduceCtorEq, kd190, kd203, ln203, ust_r, z190_18 hz, h1]
  refine ⟨by omega, by omega, by omega, by omega, by omega, by omega, by omega, by omega, by omega, by omega, ?_⟩
  refine hQ _ ?_ ?_
  · exact (((((((FM.rf _ _ _).us _ _ (by simp) (by decide)).us _ _ (by simp) (by decide)).us _ _ (by simp) (by decide)).us _ _ (by simp) (by decide)).us _ _ (by simp) (by decide))).uf _ (by simp)
  · refine ⟨?_, fun i s q => ?_⟩
    · rw [ust_at, if_pos rfl, List.length_append]; simp
    · by_cases hi : i < L.length
      · rw [List.getElem?_append_left hi] at q
        obtain ⟨a, b, c, e, k, ⟨e1, e2, e3, e4, e5⟩, T'⟩ := h.2 i s q
        refine ⟨a, b, c, e, k, ⟨?_, ?_, ?_, ?_, ?_⟩, T'⟩
        all_goals (rw [ust_ne (by decide), ust_at, if_neg (by omega), ust_at, if_neg (by omega), ust_at, if_neg (by omega), ust_at, if_neg (by omega), ust_at, if_neg (by omega)]; assumption)
      · rw [List.getElem?_append_right (by omega)] at q
        have hi2 : i - L.length < 1 := by
          have := (List.getElem?_eq_some_iff.mp q).1
          simpa using this
        obtain rfl : i = L.length := by omega
        rw [Nat.sub_self] at q
        obtain rfl : t = s := by simpa using q
        refine ⟨d, u0, u1, v0, v1, ⟨?_, ?_, ?_, ?_, ?_⟩, T⟩
        all_goals (simp only [ust_r, Int.reduceEq, and_true, true_and, false_and, ↓reduceIte]; repeat (first | rw [if_pos (by omega)] | rw [if_neg (by omega)] | rfl))
/-- in flat order -/
theorem selT_cat (b : Nat → Bool) (t : Nat → Int) (m : Nat) : ∀ n, selT b t (m + n) = selT b t m ++ selT (fun j => b (m + j)) (fun j => t (m + j)) n
  | 0 => by show selT b t m = selT b t m ++ []; rw [List.append_nil]
  | n + 1 => by
    show selT b t (m + n) ++ _ = selT b t m ++ (selT _ _ n ++ _)
    rw [selT_cat b t m n, List.append_assoc]; rfl
theorem catT_cat (L : Nat → List Int) (m : Nat) : ∀ n, catT L (m + n) = catT L m ++ catT (fun j => L (m + j)) n
  | 0 => by show catT L m = catT L m ++ []; rw [List.append_nil]
  | n + 1 => by
    show catT L (m + n) ++ _ = catT L m ++ (catT _ n ++ _)
    rw [catT_cat L m n, List.append_assoc]; rfl
theorem selT_cg {b b' : Nat → Bool} {t t' : Nat → Int} : ∀ n, (∀ j, j < n → b j = b' j ∧ t j = t' j) → selT b t n = selT b' t' n
  | 0, _ => rfl
  | n + 1, h => by
    show selT b t n ++ (if b n then [t n] else []) = selT b' t' n ++ (if b' n then [t' n] else [])
    rw [selT_cg n (fun j hj => h j (by omega)), (h n (by omega)).1, (h n (by omega)).2]
theorem catT_cg {L M : Nat → List Int} : ∀ n, (∀ j, j < n → L j = M j) → catT L n = catT M n
  | 0, _ => rfl
  | n + 1, h => by show catT L n ++ L n = catT M n ++ M n; rw [catT_cg n (fun j hj => h j (by omega)), h n (by omega)]
theorem selT_flat (B : Nat → Bool) (T : Nat → Int) (q : Nat) : ∀ m, catT (fun i => selT (fun j => B (i * q + j)) (fun j => T (i * q + j)) q) m = selT B T (m * q)
  | 0 => by rw [Nat.zero_mul]; rfl
  | m + 1 => by
    show catT _ m ++ _ = _
    rw [selT_flat B T q m, Nat.succ_mul, selT_cat]
theorem catT_flat (L : Nat → List Int) (q : Nat) : ∀ m, catT (fun i => catT (fun j => L (i * q + j)) q) m = catT L (m * q)
  | 0 => by rw [Nat.zero_mul]; rfl
  | m + 1 => by
    show catT _ m ++ _ = _
    rw [catT_flat L q m, Nat.succ_mul, catT_cat]
theorem dm_n {q i j : Nat} (hj : j < q) : (i * q + j) / q = i ∧ (i * q + j) % q = j := by
  refine ⟨?_, ?_⟩
  · rw [Nat.mul_comm, Nat.mul_add_div (by omega), Nat.div_eq_of_lt hj, Nat.add_zero]
  · rw [Nat.mul_comm, Nat.mul_add_mod, Nat.mod_eq_of_lt hj]
/-- the classes of one u, in flat order -/
noncomputable def mlR {p : Int} (f : Pz p) (u1 u0 : Int) (n : Nat) : List Int := selT (fun k => decide (2 * ((k / p.toNat : Nat) : Int) * ((k % p.toNat : Nat) : Int) % p = hiR f u1 u0 ((k / p.toNat : Nat) : Int)) && decide (((k % p.toNat : Nat) : Int) * ((k % p.toNat : Nat) : Int) % p = loR f u1 u0 ((k / p.toNat : Nat) : Int))) (fun k => tk0 p u1 u0 + ((k / p.toNat : Nat) : Int) * p + ((k % p.toNat : Nat) : Int)) n
theorem mlR_is {p : Int} (f : Pz p) (u1 u0 : Int) : mlR f u1 u0 (p.toNat * p.toNat) = tkR f u1 u0 p.toNat := by
  unfold mlR tkR
  rw [← selT_flat]
  refine catT_cg _ fun i _ => ?_
  unfold tkRr
  refine selT_cg _ fun j hj => ?_
  obtain ⟨h1, h2⟩ := dm_n (i := i) hj
  simp only [h1, h2]
  exact ⟨trivial, trivial⟩
noncomputable def mlS {p : Int} (f : Pz p) (n : Nat) : List Int := catT (fun k => tkR f ((k / p.toNat : Nat) : Int) ((k % p.toNat : Nat) : Int) p.toNat) n
theorem mlS_is {p : Int} (f : Pz p) : mlS f (p.toNat * p.toNat) = tkS f p.toNat := by
  unfold mlS tkS
  rw [← catT_flat]
  refine catT_cg _ fun i _ => ?_
  unfold tkS1
  refine catT_cg _ fun j hj => ?_
  obtain ⟨h1, h2⟩ := dm_n (i := i) hj
  simp only [h1, h2]
theorem hl_ok {p x r s u : Int} (hr : 0 ≤ r ∧ r < p) : (x - s % p * u) % p = r ↔ x % p = (r + s * u) % p := by
  have hs : (s % p * u) % p = (s * u) % p := md_mul (md_md _ _) rfl
  constructor
  · intro h
    have e : x = (x - s % p * u) + s % p * u := by omega
    rw [e]
    refine md_add ?_ hs
    rw [h, Int.emod_eq_of_lt hr.1 hr.2]
  · intro h
    have e : (x - s % p * u) % p = ((r + s * u) - s * u) % p := md_sub h hs
    rw [e, show r + s * u - s * u = r by omega, Int.emod_eq_of_lt hr.1 hr.2]
theorem selT_le {b : Nat → Bool} {t : Nat → Int} {m n : Nat} (h : m ≤ n) : (selT b t m).length ≤ (selT b t n).length := by
  obtain ⟨d, rfl⟩ := Nat.exists_eq_add_of_le h
  rw [selT_cat, List.length_append]; omega
theorem catT_le {L : Nat → List Int} {m n : Nat} (h : m ≤ n) : (catT L m).length ≤ (catT L n).length := by
  obtain ⟨d, rfl⟩ := Nat.exists_eq_add_of_le h
  rw [catT_cat, List.length_append]; omega
set_option maxHeartbeats 8000000 in
theorem l_mlY {p : Int} {N : Mem} {Q : Post} {f : Pz p} {g u : Nat} {L : List Int} (hp : Pr p) (hu : (u : Int) < p) (hB : L.length + (tkPr f u p.toNat).length ≤ 450) (hQ : ∀ N', MG f g N' → FM [203] [19] N N' → MlA p N' (L ++ tkPr f u p.toNat) → ∀ y : V, WP 192 (0, 0) 19 [(2, 190), (0, (u : Int) + 1), y, (9, 0), (9, 0), (9, 0), (9, 0), (9, 0), (9, 0), (9, 0)] [] NN N' Q) :
    ∀ (n v : Nat) (Ni : Mem), (v : Int) + n = p → MG f g Ni → FM [203] [19] N Ni → MlA p Ni (L ++ tkPr f u v) → WP 192 (0, 0) 29 [(2, 190), (0, (u : Int)), (0, (v : Int)), (9, 0), (9, 0), (9, 0), (9, 0), (9, 0), (9, 0), (9, 0)] [] NN Ni Q := by
  have hpp := hp.pos
  have hev := pev_rg hp f ((p - u) % p)
  have eu : (-(u : Int)) % p = (p - u) % p := by rw [show p - (u : Int) = -(u : Int) + p by omega, Int.add_emod_right]
  have u1 := Int.emod_nonneg (p - (u : Int)) (show p ≠ 0 by omega)
  have u2 := Int.emod_lt_of_pos (p - (u : Int)) (show 0 < p by omega)
  intro n
  induction n with
  | zero =>
    intro v Ni hk hG hF hA
    have e : v = p.toNat := by omega
    subst e
    obtain ⟨hz, hP⟩ := hG.mt
    refine WP.run [(192, 19), (192, 29)] [] 60 ?_
    simp only [bk192_0, bk192_7, bk192_8, bk192_19, bk192_27, bk192_29, bk192_37, bk192_59, bk192_68, bk192_74, bk192_80, bk192_82, bk192_91, bk192_103, bk192_104, bk192_107, bk192_163, bk192_177, bk192_252, bk192_263, bk192_274, bk192_280, bk192_286, U_aload_n, U_getfield, U_if_le, U_return, U_iconst, U_invokevirtual5, U_istore_n, U_iload_n, U_icmp_ge, U_imul, U_irem, U_ineg, U_invokevirtual1, U_invokevirtual2, U_icmp_ne, U_iinc, U_goto, U_idiv, U_bipush, U_iast, U_invokevirtual4, U_istore, U_iload, U_isub, UN_cc, UN_cn, UN_nc, UN_nn, UJ, lget, lset, lset2, entL, wsm, wcat, Option.toList_some, Option.toList_none, List.cons_append, List.nil_append, List.mem_cons, List.not_mem_nil, Prod.mk.injEq, or_false, false_or, or_true, true_or, and_true, true_and, and_false, false_and, and_self, ne_eq, not_false_eq_true, not_true_eq_false, forall_const, true_implies, false_implies, Nat.add_zero, Nat.zero_add, Nat.le_refl, Nat.zero_le, List.set_cons_zero, List.set_cons_succ, List.set_nil, ↓reduceIte, Nat.reduceAdd, Nat.reduceSub, Nat.reduceEqDiff, Nat.reduceLeDiff, Int.reduceEq, Int.reduceNe, Int.reduceNeg, reduceCtorEq, kd190, hP]
    exact ⟨rr (by omega), fun e => absurd e (by omega), fun _ => hQ Ni hG hF hA _⟩
  | succ n ih =>
    intro v Ni hk hG hF hA
    obtain ⟨hz, hP⟩ := hG.mt
    obtain ⟨⟨μ, hM, h0⟩, -⟩ := id hG
    have hvv := sq_le hp (v := (v : Int)) (by omega)
    have hm := Int.emod_lt_of_pos ((v : Int) * v) (show 0 < p by omega)
    have hm0 := Int.emod_nonneg ((v : Int) * v) (show p ≠ 0 by omega)
    have hlen : (tkPr f u v).length ≤ (tkPr f u p.toNat).length := selT_le (by omega)
    have es : tkPr f u (v + 1) = tkPr f u v ++ (if decide ((v : Int) * v % p = pev f ((p - u) % p)) then [p * p * p * p + u * p + v] else []) := rfl
    refine WP.run [(192, 19), (192, 29)] [] 60 ?_
    simp only [bk192_0, bk192_7, bk192_8, bk192_19, bk192_27, bk192_29, bk192_37, bk192_59, bk192_68, bk192_74, bk192_80, bk192_82, bk192_91, bk192_103, bk192_104, bk192_107, bk192_163, bk192_177, bk192_252, bk192_263, bk192_274, bk192_280, bk192_286, U_aload_n, U_getfield, U_if_le, U_return, U_iconst, U_invokevirtual5, U_istore_n, U_iload_n, U_icmp_ge, U_imul, U_irem, U_ineg, U_invokevirtual1, U_invokevirtual2, U_icmp_ne, U_iinc, U_goto, U_idiv, U_bipush, U_iast, U_invokevirtual4, U_istore, U_iload, U_isub, UN_cc, UN_cn, UN_nc, UN_nn, UJ, lget, lset, lset2, entL, wsm, wcat, Option.toList_some, Option.toList_none, List.cons_append, List.nil_append, List.mem_cons, List.not_mem_nil, Prod.mk.injEq, or_false, false_or, or_true, true_or, and_true, true_and, and_false, false_and, and_self, ne_eq, not_false_eq_true, not_true_eq_false, forall_const, true_implies, false_implies, Nat.add_zero, Nat.zero_add, Nat.le_refl, Nat.zero_le, List.set_cons_zero, List.set_cons_succ, List.set_nil, ↓reduceIte, Nat.reduceAdd, Nat.reduceSub, Nat.reduceEqDiff, Nat.reduceLeDiff, Int.reduceEq, Int.reduceNe, Int.reduceNeg, reduceCtorEq, kd190, hP]
    refine ⟨rr (by omega), fun _ => ⟨r3 (by omega), r3 (by omega), by omega, m_mod hp hP (r3 (by omega)) ?_⟩, fun e => absurd (by omega) e⟩
    rw [eu, tm_nn hvv.1]
    simp only [bk192_0, bk192_7, bk192_8, bk192_19, bk192_27, bk192_29, bk192_37, bk192_59, bk192_68, bk192_74, bk192_80, bk192_82, bk192_91, bk192_103, bk192_104, bk192_107, bk192_163, bk192_177, bk192_252, bk192_263, bk192_274, bk192_280, bk192_286, U_aload_n, U_getfield, U_if_le, U_return, U_iconst, U_invokevirtual5, U_istore_n, U_iload_n, U_icmp_ge, U_imul, U_irem, U_ineg, U_invokevirtual1, U_invokevirtual2, U_icmp_ne, U_iinc, U_goto, U_idiv, U_bipush, U_iast, U_invokevirtual4, U_istore, U_iload, U_isub, UN_cc, UN_cn, UN_nc, UN_nn, UJ, lget, lset, lset2, entL, wsm, wcat, Option.toList_some, Option.toList_none, List.cons_append, List.nil_append, List.mem_cons, List.not_mem_nil, Prod.mk.injEq, or_false, false_or, or_true, true_or, and_true, true_and, and_false, false_and, and_self, ne_eq, not_false_eq_true, not_true_eq_false, forall_const, true_implies, false_implies, Nat.add_zero, Nat.zero_add, Nat.le_refl, Nat.zero_le, List.set_cons_zero, List.set_cons_succ, List.set_nil, ↓reduceIte, Nat.reduceAdd, Nat.reduceSub, Nat.reduceEqDiff, Nat.reduceLeDiff, Int.reduceEq, Int.reduceNe, Int.reduceNeg, reduceCtorEq, kd190]
    refine m_val hM h0 u1 (by omega) ?_
    simp only [bk192_0, bk192_7, bk192_8, bk192_19, bk192_27, bk192_29, bk192_37, bk192_59, bk192_68, bk192_74, bk192_80, bk192_82, bk192_91, bk192_103, bk192_104, bk192_107, bk192_163, bk192_177, bk192_252, bk192_263, bk192_274, bk192_280, bk192_286, U_aload_n, U_getfield, U_if_le, U_return, U_iconst, U_invokevirtual5, U_istore_n, U_iload_n, U_icmp_ge, U_imul, U_irem, U_ineg, U_invokevirtual1, U_invokevirtual2, U_icmp_ne, U_iinc, U_goto, U_idiv, U_bipush, U_iast, U_invokevirtual4, U_istore, U_iload, U_isub, UN_cc, UN_cn, UN_nc, UN_nn, UJ, lget, lset, lset2, entL, wsm, wcat, Option.toList_some, Option.toList_none, List.cons_append, List.nil_append, List.mem_cons, List.not_mem_nil, Prod.mk.injEq, or_false, false_or, or_true, true_or, and_true, true_and, and_false, false_and, and_self, ne_eq, not_false_eq_true, not_true_eq_false, forall_const, true_implies, false_implies, Nat.add_zero, Nat.zero_add, Nat.le_refl, Nat.zero_le, List.set_cons_zero, List.set_cons_succ, List.set_nil, ↓reduceIte, Nat.reduceAdd, Nat.reduceSub, Nat.reduceEqDiff, Nat.reduceLeDiff, Int.reduceEq, Int.reduceNe, Int.reduceNeg, reduceCtorEq, kd190]
    refine ⟨rr (by omega), fun e => ?_, fun e => ?_⟩
    · rw [if_pos (decide_eq_true e)] at es
      refine m_put hz hA (by rw [List.length_append]; omega) (t := p * p * p * p + u * p + v) ⟨⟨by omega, by omega, by omega, by omega⟩, Or.inr (Or.inl ⟨rfl, rfl, rfl, rfl⟩)⟩ fun N1 s1 s2 => ?_
      simp only [bk192_0, bk192_7, bk192_8, bk192_19, bk192_27, bk192_29, bk192_37, bk192_59, bk192_68, bk192_74, bk192_80, bk192_82, bk192_91, bk192_103, bk192_104, bk192_107, bk192_163, bk192_177, bk192_252, bk192_263, bk192_274, bk192_280, bk192_286, U_aload_n, U_getfield, U_if_le, U_return, U_iconst, U_invokevirtual5, U_istore_n, U_iload_n, U_icmp_ge, U_imul, U_irem, U_ineg, U_invokevirtual1, U_invokevirtual2, U_icmp_ne, U_iinc, U_goto, U_idiv, U_bipush, U_iast, U_invokevirtual4, U_istore, U_iload, U_isub, UN_cc, UN_cn, UN_nc, UN_nn, UJ, lget, lset, lset2, entL, wsm, wcat, Option.toList_some, Option.toList_none, List.cons_append, List.nil_append, List.mem_cons, List.not_mem_nil, Prod.mk.injEq, or_false, false_or, or_true, true_or, and_true, true_and, and_false, false_and, and_self, ne_eq, not_false_eq_true, not_true_eq_false, forall_const, true_implies, false_implies, Nat.add_zero, Nat.zero_add, Nat.le_refl, Nat.zero_le, List.set_cons_zero, List.set_cons_succ, List.set_nil, ↓reduceIte, Nat.reduceAdd, Nat.reduceSub, Nat.reduceEqDiff, Nat.reduceLeDiff, Int.reduceEq, Int.reduceNe, Int.reduceNeg, reduceCtorEq]
      rw [List.append_assoc, ← es] at s2
      exact ih (v + 1) N1 (by omega) (hG.fm s1 ok_ls (by decide) (by decide) (by decide) (by decide) (by decide) (by decide)) (hF.tr s1) s2
    · rw [if_neg (fun q => e (of_decide_eq_true q)), List.append_nil] at es
      rw [← es] at hA
      exact ih (v + 1) Ni (by omega) hG hF hA
set_option maxHeartbeats 8000000 in
theorem l_mlX {p : Int} {N : Mem} {Q : Post} {f : Pz p} {g : Nat} {L : List Int} (hp : Pr p) (hB : L.length + (tkP f p.toNat).length ≤ 450) (hQ : ∀ N', MG f g N' → FM [203] [19] N N' → MlA p N' (L ++ tkP f p.toNat) → ∀ y : V, WP 192 (0, 0) 82 [(2, 190), (0, 0), y, (9, 0), (9, 0), (9, 0), (9, 0), (9, 0), (9, 0), (9, 0)] [] NN N' Q) :
    ∀ (n u : Nat) (y : V) (Ni : Mem), (u : Int) + n = p → MG f g Ni → FM [203] [19] N Ni → MlA p Ni (L ++ tkP f u) → WP 192 (0, 0) 19 [(2, 190), (0, (u : Int)), y, (9, 0), (9, 0), (9, 0), (9, 0), (9, 0), (9, 0), (9, 0)] [] NN Ni Q := by
  have hpp := hp.pos
  intro n
  induction n with
  | zero =>
    intro u y Ni hk hG hF hA
    have e : u = p.toNat := by omega
    subst e
    obtain ⟨hz, hP⟩ := hG.mt
    refine WP.run [(192, 19), (192, 82)] [] 60 ?_
    simp only [bk192_0, bk192_7, bk192_8, bk192_19, bk192_27, bk192_29, bk192_37, bk192_59, bk192_68, bk192_74, bk192_80, bk192_82, bk192_91, bk192_103, bk192_104, bk192_107, bk192_163, bk192_177, bk192_252, bk192_263, bk192_274, bk192_280, bk192_286, U_aload_n, U_getfield, U_if_le, U_return, U_iconst, U_invokevirtual5, U_istore_n, U_iload_n, U_icmp_ge, U_imul, U_irem, U_ineg, U_invokevirtual1, U_invokevirtual2, U_icmp_ne, U_iinc, U_goto, U_idiv, U_bipush, U_iast, U_invokevirtual4, U_istore, U_iload, U_isub, UN_cc, UN_cn, UN_nc, UN_nn, UJ, lget, lset, lset2, entL, wsm, wcat, Option.toList_some, Option.toList_none, List.cons_append, List.nil_append, List.mem_cons, List.not_mem_nil, Prod.mk.injEq, or_false, false_or, or_true, true_or, and_true, true_and, and_false, false_and, and_self, ne_eq, not_false_eq_true, not_true_eq_false, forall_const, true_implies, false_implies, Nat.add_zero, Nat.zero_add, Nat.le_refl, Nat.zero_le, List.set_cons_zero, List.set_cons_succ, List.set_nil, ↓reduceIte, Nat.reduceAdd, Nat.reduceSub, Nat.reduceEqDiff, Nat.reduceLeDiff, Int.reduceEq, Int.reduceNe, Int.reduceNeg, reduceCtorEq, kd190, hP]
    exact ⟨rr (by omega), fun e => absurd e (by omega), fun _ => hQ Ni hG hF hA _⟩
  | succ n ih =>
    intro u y Ni hk hG hF hA
    obtain ⟨hz, hP⟩ := hG.mt
    have es : tkP f (u + 1) = tkP f u ++ tkPr f u p.toNat := rfl
    have hlen : (tkP f (u + 1)).length ≤ (tkP f p.toNat).length := catT_le (by omega)
    rw [es, List.length_append] at hlen
    refine WP.run [(192, 19), (192, 29)] [] 60 ?_
    simp only [bk192_0, bk192_7, bk192_8, bk192_19, bk192_27, bk192_29, bk192_37, bk192_59, bk192_68, bk192_74, bk192_80, bk192_82, bk192_91, bk192_103, bk192_104, bk192_107, bk192_163, bk192_177, bk192_252, bk192_263, bk192_274, bk192_280, bk192_286, U_aload_n, U_getfield, U_if_le, U_return, U_iconst, U_invokevirtual5, U_istore_n, U_iload_n, U_icmp_ge, U_imul, U_irem, U_ineg, U_invokevirtual1, U_invokevirtual2, U_icmp_ne, U_iinc, U_goto, U_idiv, U_bipush, U_iast, U_invokevirtual4, U_istore, U_iload, U_isub, UN_cc, UN_cn, UN_nc, UN_nn, UJ, lget, lset, lset2, entL, wsm, wcat, Option.toList_some, Option.toList_none, List.cons_append, List.nil_append, List.mem_cons, List.not_mem_nil, Prod.mk.injEq, or_false, false_or, or_true, true_or, and_true, true_and, and_false, false_and, and_self, ne_eq, not_false_eq_true, not_true_eq_false, forall_const, true_implies, false_implies, Nat.add_zero, Nat.zero_add, Nat.le_refl, Nat.zero_le, List.set_cons_zero, List.set_cons_succ, List.set_nil, ↓reduceIte, Nat.reduceAdd, Nat.reduceSub, Nat.reduceEqDiff, Nat.reduceLeDiff, Int.reduceEq, Int.reduceNe, Int.reduceNeg, reduceCtorEq, kd190, hP]
    refine ⟨rr (by omega), fun _ => ?_, fun e => absurd (by omega) e⟩
    refine l_mlY (N := Ni) (f := f) (g := g) (L := L ++ tkP f u) hp (by omega) (by rw [List.length_append]; omega) (fun N1 s1 s2 s3 y => ?_) p.toNat 0 Ni (by omega) hG (FM.rf _ _ _) (by show MlA p Ni (_ ++ []); rw [List.append_nil]; exact hA)
    rw [List.append_assoc, ← es] at s3
    exact ih (u + 1) y N1 (by omega) s1 (hF.tr s2) s3
set_option maxHeartbeats 16000000 in
theorem l_mlN {p : Int} {N : Mem} {μ : Int → Option (Pz p)} {Q : Post} {f R : Pz p} {u1 u0 K : Int} {L : List Int} (hM : MT p N μ) (h3 : μ 3 = some R) (hR : rmd f (qd p u1 u0) = R) (hu1 : 0 ≤ u1 ∧ u1 < p) (hu0 : 0 ≤ u0 ∧ u0 < p) (hB : L.length + (mlR f u1 u0 (p.toNat * p.toNat)).length ≤ 450) (hQ : ∀ N', FM [203] [19] N N' → MlA p N' (L ++ mlR f u1 u0 (p.toNat * p.toNat)) → ∀ a4 a5 a6 a7 a8 a9 : V, WP 192 (0, 0) 82 [(2, 190), (0, K + 1), (0, u1), (0, u0), a4, a5, a6, a7, a8, a9] [] NN N' Q) :
    ∀ (n v : Nat) (a5 a6 a7 a8 a9 : V) (Ni : Mem), v + n = p.toNat * p.toNat → FM [203] [19] N Ni → MlA p Ni (L ++ mlR f u1 u0 v) → WP 192 (0, 0) 163 [(2, 190), (0, K), (0, u1), (0, u0), (0, (v : Int)), a5, a6, a7, a8, a9] [] NN Ni Q := by
  have hp := hM.2.1
  have hpp := hp.pos
  have hpn : ((p.toNat : Nat) : Int) = p := by omega
  have hpq : p * p = ((p.toNat * p.toNat : Nat) : Int) := by rw [Int.natCast_mul, hpn]
  have h169 := pp_le hp
  intro n
  induction n with
  | zero =>
    intro v a5 a6 a7 a8 a9 Ni hk hF hA
    obtain rfl : v = p.toNat * p.toNat := by omega
    have hMi := hM.fm hF ok_ls (by decide) (by decide) (by decide)
    refine WP.run [(192, 82), (192, 163)] [] 60 ?_
    simp only [bk192_0, bk192_7, bk192_8, bk192_19, bk192_27, bk192_29, bk192_37, bk192_59, bk192_68, bk192_74, bk192_80, bk192_82, bk192_91, bk192_103, bk192_104, bk192_107, bk192_163, bk192_177, bk192_252, bk192_263, bk192_274, bk192_280, bk192_286, U_aload_n, U_getfield, U_if_le, U_return, U_iconst, U_invokevirtual5, U_istore_n, U_iload_n, U_icmp_ge, U_imul, U_irem, U_ineg, U_invokevirtual1, U_invokevirtual2, U_icmp_ne, U_iinc, U_goto, U_idiv, U_bipush, U_iast, U_invokevirtual4, U_istore, U_iload, U_isub, UN_cc, UN_cn, UN_nc, UN_nn, UJ, lget, lset, lset2, entL, wsm, wcat, Option.toList_some, Option.toList_none, List.cons_append, List.nil_append, List.mem_cons, List.not_mem_nil, Prod.mk.injEq, or_false, false_or, or_true, true_or, and_true, true_and, and_false, false_and, and_self, ne_eq, not_false_eq_true, not_true_eq_false, forall_const, true_implies, false_implies, Nat.add_zero, Nat.zero_add, Nat.le_refl, Nat.zero_le, List.set_cons_zero, List.set_cons_succ, List.set_nil, ↓reduceIte, Nat.reduceAdd, Nat.reduceSub, Nat.reduceEqDiff, Nat.reduceLeDiff, Int.reduceEq, Int.reduceNe, Int.reduceNeg, reduceCtorEq, kd190, hMi.2.2.1]
    exact ⟨rr (by omega), fun e => absurd e (by omega), fun _ => hQ Ni hF hA _ _ _ _ _ _⟩
  | succ n ih =>
    intro v a5 a6 a7 a8 a9 Ni hk hF hA
    have hMi := hM.fm hF ok_ls (by decide) (by decide) (by decide)
    have hv1 : v / p.toNat < p.toNat := Nat.div_lt_of_lt_mul (by omega)
    have hv0 : v % p.toNat < p.toNat := Nat.mod_lt _ (by omega)
    have td : (v : Int).tdiv p = ((v / p.toNat : Nat) : Int) := by rw [Int.tdiv_eq_ediv_of_nonneg (by omega), Int.natCast_ediv, hpn]
    have tm : (v : Int).tmod p = ((v % p.toNat : Nat) : Int) := by rw [tm_nn (by omega), Int.natCast_emod, hpn]
    have hlen : (mlR f u1 u0 v).length ≤ (mlR f u1 u0 (p.toNat * p.toNat)).length := selT_le (by omega)
    have es : mlR f u1 u0 (v + 1) = mlR f u1 u0 v ++ (if (decide (2 * ((v / p.toNat : Nat) : Int) * ((v % p.toNat : Nat) : Int) % p = hiR f u1 u0 ((v / p.toNat : Nat) : Int)) && decide (((v % p.toNat : Nat) : Int) * ((v % p.toNat : Nat) : Int) % p = loR f u1 u0 ((v / p.toNat : Nat) : Int))) then [tk0 p u1 u0 + ((v / p.toNat : Nat) : Int) * p + ((v % p.toNat : Nat) : Int)] else []) := rfl
    unfold hiR loR at es
    rw [hR] at es
    generalize v / p.toNat = V1 at *
    generalize v % p.toNat = V0 at *
    have b1 := sq_le hp (v := (V1 : Int)) (by omega)
    have b2 := sq_le hp (v := (V0 : Int)) (by omega)
    have b3 := ab_mul (A := 12) (B := 12) (a := (V1 : Int)) (b := (V0 : Int)) (by omega) (by omega)
    have m1 := Int.emod_nonneg ((V1 : Int) * V1) (show p ≠ 0 by omega)
    have m2 := Int.emod_lt_of_pos ((V1 : Int) * V1) (show 0 < p by omega)
    have b4 := ab_mul (A := 12) (B := 12) (a := (V1 : Int) * V1 % p) (b := u1) (by omega) (by omega)
    have b5 := ab_mul (A := 12) (B := 12) (a := (V1 : Int) * V1 % p) (b := u0) (by omega) (by omega)
    have r1 := pz_rg hp R 1
    have r0 := pz_rg hp R 0
    have k1 := hl_ok (x := 2 * (V1 : Int) * V0) (s := (V1 : Int) * V1) (u := u1) r1
    have k0 := hl_ok (x := (V0 : Int) * V0) (s := (V1 : Int) * V1) (u := u0) r0
    have c1 : 2 * (V1 : Int) * V0 = 2 * ((V1 : Int) * V0) := Int.mul_assoc _ _ _
    refine WP.run [(192, 82), (192, 163)] [] 90 ?_
    simp only [bk192_0, bk192_7, bk192_8, bk192_19, bk192_27, bk192_29, bk192_37, bk192_59, bk192_68, bk192_74, bk192_80, bk192_82, bk192_91, bk192_103, bk192_104, bk192_107, bk192_163, bk192_177, bk192_252, bk192_263, bk192_274, bk192_280, bk192_286, U_aload_n, U_getfield, U_if_le, U_return, U_iconst, U_invokevirtual5, U_istore_n, U_iload_n, U_icmp_ge, U_imul, U_irem, U_ineg, U_invokevirtual1, U_invokevirtual2, U_icmp_ne, U_iinc, U_goto, U_idiv, U_bipush, U_iast, U_invokevirtual4, U_istore, U_iload, U_isub, UN_cc, UN_cn, UN_nc, UN_nn, UJ, lget, lset, lset2, entL, wsm, wcat, Option.toList_some, Option.toList_none, List.cons_append, List.nil_append, List.mem_cons, List.not_mem_nil, Prod.mk.injEq, or_false, false_or, or_true, true_or, and_true, true_and, and_false, false_and, and_self, ne_eq, not_false_eq_true, not_true_eq_false, forall_const, true_implies, false_implies, Nat.add_zero, Nat.zero_add, Nat.le_refl, Nat.zero_le, List.set_cons_zero, List.set_cons_succ, List.set_nil, ↓reduceIte, Nat.reduceAdd, Nat.reduceSub, Nat.reduceEqDiff, Nat.reduceLeDiff, Int.reduceEq, Int.reduceNe, Int.reduceNeg, reduceCtorEq, kd190, hMi.2.2.1, td, tm]
    rw [tm_nn b1.1]
    refine ⟨rr (by omega), fun _ => ⟨r3 (by omega), r3 (by omega), by omega, r3 (by omega), r3 (by omega), by omega, r3 (by omega), r3 (by omega), by omega, m_mod hp hMi.2.2.1 (r3 (by omega)) ?_⟩, fun e => absurd (by omega) e⟩
    simp only [bk192_0, bk192_7, bk192_8, bk192_19, bk192_27, bk192_29, bk192_37, bk192_59, bk192_68, bk192_74, bk192_80, bk192_82, bk192_91, bk192_103, bk192_104, bk192_107, bk192_163, bk192_177, bk192_252, bk192_263, bk192_274, bk192_280, bk192_286, U_aload_n, U_getfield, U_if_le, U_return, U_iconst, U_invokevirtual5, U_istore_n, U_iload_n, U_icmp_ge, U_imul, U_irem, U_ineg, U_invokevirtual1, U_invokevirtual2, U_icmp_ne, U_iinc, U_goto, U_idiv, U_bipush, U_iast, U_invokevirtual4, U_istore, U_iload, U_isub, UN_cc, UN_cn, UN_nc, UN_nn, UJ, lget, lset, lset2, entL, wsm, wcat, Option.toList_some, Option.toList_none, List.cons_append, List.nil_append, List.mem_cons, List.not_mem_nil, Prod.mk.injEq, or_false, false_or, or_true, true_or, and_true, true_and, and_false, false_and, and_self, ne_eq, not_false_eq_true, not_true_eq_false, forall_const, true_implies, false_implies, Nat.add_zero, Nat.zero_add, Nat.le_refl, Nat.zero_le, List.set_cons_zero, List.set_cons_succ, List.set_nil, ↓reduceIte, Nat.reduceAdd, Nat.reduceSub, Nat.reduceEqDiff, Nat.reduceLeDiff, Int.reduceEq, Int.reduceNe, Int.reduceNeg, reduceCtorEq, kd190]
    refine m_mod hp hMi.2.2.1 (r3 (by omega)) ?_
    have x1 := Int.emod_nonneg (2 * (V1 : Int) * V0 - (V1 : Int) * V1 % p * u1) (show p ≠ 0 by omega)
    have x2 := Int.emod_lt_of_pos (2 * (V1 : Int) * V0 - (V1 : Int) * V1 % p * u1) (show 0 < p by omega)
    have y1 := Int.emod_nonneg ((V0 : Int) * V0 - (V1 : Int) * V1 % p * u0) (show p ≠ 0 by omega)
    have y2 := Int.emod_lt_of_pos ((V0 : Int) * V0 - (V1 : Int) * V1 % p * u0) (show 0 < p by omega)
    simp only [bk192_0, bk192_7, bk192_8, bk192_19, bk192_27, bk192_29, bk192_37, bk192_59, bk192_68, bk192_74, bk192_80, bk192_82, bk192_91, bk192_103, bk192_104, bk192_107, bk192_163, bk192_177, bk192_252, bk192_263, bk192_274, bk192_280, bk192_286, U_aload_n, U_getfield, U_if_le, U_return, U_iconst, U_invokevirtual5, U_istore_n, U_iload_n, U_icmp_ge, U_imul, U_irem, U_ineg, U_invokevirtual1, U_invokevirtual2, U_icmp_ne, U_iinc, U_goto, U_idiv, U_bipush, U_iast, U_invokevirtual4, U_istore, U_iload, U_isub, UN_cc, UN_cn, UN_nc, UN_nn, UJ, lget, lset, lset2, entL, wsm, wcat, Option.toList_some, Option.toList_none, List.cons_append, List.nil_append, List.mem_cons, List.not_mem_nil, Prod.mk.injEq, or_false, false_or, or_true, true_or, and_true, true_and, and_false, false_and, and_self, ne_eq, not_false_eq_true, not_true_eq_false, forall_const, true_implies, false_implies, Nat.add_zero, Nat.zero_add, Nat.le_refl, Nat.zero_le, List.set_cons_zero, List.set_cons_succ, List.set_nil, ↓reduceIte, Nat.reduceAdd, Nat.reduceSub, Nat.reduceEqDiff, Nat.reduceLeDiff, Int.reduceEq, Int.reduceNe, Int.reduceNeg, reduceCtorEq, kd190]
    refine m_get hMi h3 (r3 (by omega)) ?_
    rw [if_pos (by omega), show (1 : Int).toNat = 1 from rfl]
    simp only [bk192_0, bk192_7, bk192_8, bk192_19, bk192_27, bk192_29, bk192_37, bk192_59, bk192_68, bk192_74, bk192_80, bk192_82, bk192_91, bk192_103, bk192_104, bk192_107, bk192_163, bk192_177, bk192_252, bk192_263, bk192_274, bk192_280, bk192_286, U_aload_n, U_getfield, U_if_le, U_return, U_iconst, U_invokevirtual5, U_istore_n, U_iload_n, U_icmp_ge, U_imul, U_irem, U_ineg, U_invokevirtual1, U_invokevirtual2, U_icmp_ne, U_iinc, U_goto, U_idiv, U_bipush, U_iast, U_invokevirtual4, U_istore, U_iload, U_isub, UN_cc, UN_cn, UN_nc, UN_nn, UJ, lget, lset, lset2, entL, wsm, wcat, Option.toList_some, Option.toList_none, List.cons_append, List.nil_append, List.mem_cons, List.not_mem_nil, Prod.mk.injEq, or_false, false_or, or_true, true_or, and_true, true_and, and_false, false_and, and_self, ne_eq, not_false_eq_true, not_true_eq_false, forall_const, true_implies, false_implies, Nat.add_zero, Nat.zero_add, Nat.le_refl, Nat.zero_le, List.set_cons_zero, List.set_cons_succ, List.set_nil, ↓reduceIte, Nat.reduceAdd, Nat.reduceSub, Nat.reduceEqDiff, Nat.reduceLeDiff, Int.reduceEq, Int.reduceNe, Int.reduceNeg, reduceCtorEq, kd190]
    have no : ¬ ((2 * (V1 : Int) * V0 - (V1 : Int) * V1 % p * u1) % p = R.1 1 ∧ ((V0 : Int) * V0 - (V1 : Int) * V1 % p * u0) % p = R.1 0) → ∀ a5 a6 a7 a8 a9 : V, WP 192 (0, 0) 163 [(2, 190), (0, K), (0, u1), (0, u0), (0, (v : Int) + 1), a5, a6, a7, a8, a9] [] NN Ni Q := fun q a5 a6 a7 a8 a9 => by
      rw [if_neg (fun w => by
        rw [Bool.and_eq_true, decide_eq_true_eq, decide_eq_true_eq] at w
        exact q ⟨k1.mpr w.1, k0.mpr w.2⟩), List.append_nil] at es
      rw [← es] at hA
      exact ih (v + 1) a5 a6 a7 a8 a9 Ni (by omega) hF hA
    refine ⟨rr (by omega), fun e1 => ?_, fun e1 => no (fun q => e1 q.1) _ _ _ _ _⟩
    refine m_get hMi h3 (r3 (by omega)) ?_
    rw [if_pos (by omega), show (0 : Int).toNat = 0 from rfl]
    simp only [bk192_0, bk192_7, bk192_8, bk192_19, bk192_27, bk192_29, bk192_37, bk192_59, bk192_68, bk192_74, bk192_80, bk192_82, bk192_91, bk192_103, bk192_104, bk192_107, bk192_163, bk192_177, bk192_252, bk192_263, bk192_274, bk192_280, bk192_286, U_aload_n, U_getfield, U_if_le, U_return, U_iconst, U_invokevirtual5, U_istore_n, U_iload_n, U_icmp_ge, U_imul, U_irem, U_ineg, U_invokevirtual1, U_invokevirtual2, U_icmp_ne, U_iinc, U_goto, U_idiv, U_bipush, U_iast, U_invokevirtual4, U_istore, U_iload, U_isub, UN_cc, UN_cn, UN_nc, UN_nn, UJ, lget, lset, lset2, entL, wsm, wcat, Option.toList_some, Option.toList_none, List.cons_append, List.nil_append, List.mem_cons, List.not_mem_nil, Prod.mk.injEq, or_false, false_or, or_true, true_or, and_true, true_and, and_false, false_and, and_self, ne_eq, not_false_eq_true, not_true_eq_false, forall_const, true_implies, false_implies, Nat.add_zero, Nat.zero_add, Nat.le_refl, Nat.zero_le, List.set_cons_zero, List.set_cons_succ, List.set_nil, ↓reduceIte, Nat.reduceAdd, Nat.reduceSub, Nat.reduceEqDiff, Nat.reduceLeDiff, Int.reduceEq, Int.reduceNe, Int.reduceNeg, reduceCtorEq, kd190]
    refine ⟨rr (by omega), fun e2 => ?_, fun e2 => no (fun q => e2 q.2) _ _ _ _ _⟩
    rw [if_pos (by
      rw [Bool.and_eq_true, decide_eq_true_eq, decide_eq_true_eq]
      exact ⟨k1.mp e1, k0.mp e2⟩)] at es
    refine m_put hMi.1 hA (by rw [List.length_append]; omega) (t := tk0 p u1 u0 + (V1 : Int) * p + (V0 : Int)) ⟨⟨by omega, by omega, by omega, by omega⟩, Or.inr (Or.inr ⟨rfl, rfl⟩)⟩ fun N1 s1 s2 => ?_
    simp only [bk192_0, bk192_7, bk192_8, bk192_19, bk192_27, bk192_29, bk192_37, bk192_59, bk192_68, bk192_74, bk192_80, bk192_82, bk192_91, bk192_103, bk192_104, bk192_107, bk192_163, bk192_177, bk192_252, bk192_263, bk192_274, bk192_280, bk192_286, U_aload_n, U_getfield, U_if_le, U_return, U_iconst, U_invokevirtual5, U_istore_n, U_iload_n, U_icmp_ge, U_imul, U_irem, U_ineg, U_invokevirtual1, U_invokevirtual2, U_icmp_ne, U_iinc, U_goto, U_idiv, U_bipush, U_iast, U_invokevirtual4, U_istore, U_iload, U_isub, UN_cc, UN_cn, UN_nc, UN_nn, UJ, lget, lset, lset2, entL, wsm, wcat, Option.toList_some, Option.toList_none, List.cons_append, List.nil_append, List.mem_cons, List.not_mem_nil, Prod.mk.injEq, or_false, false_or, or_true, true_or, and_true, true_and, and_false, false_and, and_self, ne_eq, not_false_eq_true, not_true_eq_false, forall_const, true_implies, false_implies, Nat.add_zero, Nat.zero_add, Nat.le_refl, Nat.zero_le, List.set_cons_zero, List.set_cons_succ, List.set_nil, ↓reduceIte, Nat.reduceAdd, Nat.reduceSub, Nat.reduceEqDiff, Nat.reduceLeDiff, Int.reduceEq, Int.reduceNe, Int.reduceNeg, reduceCtorEq]
    rw [List.append_assoc, ← es] at s2
    exact ih (v + 1) _ _ _ _ _ N1 (by omega) (hF.tr s1) s2
theorem ok_mk : FZK [198, 199, 203] [19] := fzk rfl rfl
theorem MT.q3 {p : Int} {N : Mem} {μ : Int → Option (Pz p)} {u1 u0 : Int} (h : MT p N μ) (hu1 : 0 ≤ u1 ∧ u1 < p) (hu0 : 0 ≤ u0 ∧ u0 < p) : MT p (ust (ust (ust (ust N 198 24 u0) 198 25 u1) 198 26 1) 199 1 2) (upq μ 1 (qd p u1 u0)) := by
  have hp := h.2.1
  have hpp := hp.pos
  have M0 := h.fg 1
  have M1 := ((M0.us (v := u0) (fgt_e μ 1) (k := 0) (i := 24) (by omega) (by omega) (by omega)).us (v := u1) (fgt_e μ 1) (k := 1) (i := 25) (by omega) (by omega) (by omega)).us (v := 1) (fgt_e μ 1) (k := 2) (i := 26) (by omega) (by omega) (by omega)
  have hd := qd_dg (u1 := u1) (u0 := u0) hp
  have M2 := M1.ud (a := 1) (d := 2) (A := qd p u1 u0) (by omega) (by omega) (by rw [hd]; rfl) (by omega) (fun k hk => by
    rw [hd] at hk
    rw [qd_c]
    have : k = 0 ∨ k = 1 ∨ k = 2 := by omega
    rcases this with rfl | rfl | rfl
    · rw [if_pos rfl, Int.emod_eq_of_lt hu0.1 hu0.2]
      simp [ust_r]
    · rw [if_neg (by decide), if_pos rfl, Int.emod_eq_of_lt hu1.1 hu1.2]
      simp [ust_r]
    · rw [if_neg (by decide), if_neg (by decide), if_pos rfl, Int.emod_eq_of_lt (by omega) (by omega)]
      simp [ust_r])
  rw [upq_fgt] at M2
  exact M2
set_option maxHeartbeats 16000000 in
theorem l_mlK {p : Int} {N : Mem} {Q : Post} {f : Pz p} {g M : Nat} {L : List Int} (hp : Pr p) (hg : g = 1 ∨ g = 2) (hM : M = if g = 2 then p.toNat * p.toNat else 0) (hB : L.length + (mlS f M).length ≤ 450) (hQ : ∀ N', MG f g N' → FM [198, 199, 203] [19] N N' → MlA p N' (L ++ mlS f M) → Q none NN N') :
    ∀ (n k : Nat) (a2 a3 a4 a5 a6 a7 a8 a9 : V) (Ni : Mem), k + n = M → MG f g Ni → FM [198, 199, 203] [19] N Ni → MlA p Ni (L ++ mlS f k) → WP 192 (0, 0) 82 [(2, 190), (0, (k : Int)), a2, a3, a4, a5, a6, a7, a8, a9] [] NN Ni Q := by
  have hpp := hp.pos
  have hpn : ((p.toNat : Nat) : Int) = p := by omega
  have hpq : p * p = ((p.toNat * p.toNat : Nat) : Int) := by rw [Int.natCast_mul, hpn]
  have h169 := pp_le hp
  have hMb : M ≤ 169 := by rw [hM]; split <;> omega
  intro n
  induction n with
  | zero =>
    intro k a2 a3 a4 a5 a6 a7 a8 a9 Ni hk hG hF hA
    obtain rfl : k = M := by omega
    obtain ⟨hz, hP⟩ := hG.mt
    have h2 := hG.2.2.1
    refine WP.run [(192, 82), (192, 163)] [] 90 ?_
    simp only [bk192_0, bk192_7, bk192_8, bk192_19, bk192_27, bk192_29, bk192_37, bk192_59, bk192_68, bk192_74, bk192_80, bk192_82, bk192_91, bk192_103, bk192_104, bk192_107, bk192_163, bk192_177, bk192_252, bk192_263, bk192_274, bk192_280, bk192_286, U_aload_n, U_getfield, U_if_le, U_return, U_iconst, U_invokevirtual5, U_istore_n, U_iload_n, U_icmp_ge, U_imul, U_irem, U_ineg, U_invokevirtual1, U_invokevirtual2, U_icmp_ne, U_iinc, U_goto, U_idiv, U_bipush, U_iast, U_invokevirtual4, U_istore, U_iload, U_isub, UN_cc, UN_cn, UN_nc, UN_nn, UJ, lget, lset, lset2, entL, wsm, wcat, Option.toList_some, Option.toList_none, List.cons_append, List.nil_append, List.mem_cons, List.not_mem_nil, Prod.mk.injEq, or_false, false_or, or_true, true_or, and_true, true_and, and_false, false_and, and_self, ne_eq, not_false_eq_true, not_true_eq_false, forall_const, true_implies, false_implies, Nat.add_zero, Nat.zero_add, Nat.le_refl, Nat.zero_le, List.set_cons_zero, List.set_cons_succ, List.set_nil, ↓reduceIte, Nat.reduceAdd, Nat.reduceSub, Nat.reduceEqDiff, Nat.reduceLeDiff, Int.reduceEq, Int.reduceNe, Int.reduceNeg, reduceCtorEq, kd190, hP, h2]
    refine ⟨rr (by omega), fun e => ⟨rr (by omega), fun e2 => ?_, fun _ => hQ Ni hG hF hA⟩, fun e => ⟨rr (by omega), fun e2 => absurd e2 (by omega), fun _ => hQ Ni hG hF hA⟩⟩
    rw [if_pos (by omega)] at hM
    omega
  | succ n ih =>
    intro k a2 a3 a4 a5 a6 a7 a8 a9 Ni hk hG hF hA
    have g2 : g = 2 := by
      rcases hg with rfl | rfl
      · rw [if_neg (by omega)] at hM; omega
      · rfl
    subst g2
    rw [if_pos rfl] at hM
    obtain ⟨hz, hP⟩ := hG.mt
    have h2 := hG.2.2.1
    have hGi := hG
    obtain ⟨⟨μ, hMi, h0⟩, -⟩ := hG
    have hv1 : k / p.toNat < p.toNat := Nat.div_lt_of_lt_mul (by omega)
    have hv0 : k % p.toNat < p.toNat := Nat.mod_lt _ (by omega)
    have td : (k : Int).tdiv p = ((k / p.toNat : Nat) : Int) := by rw [Int.tdiv_eq_ediv_of_nonneg (by omega), Int.natCast_ediv, hpn]
    have tm : (k : Int).tmod p = ((k % p.toNat : Nat) : Int) := by rw [tm_nn (by omega), Int.natCast_emod, hpn]
    have es : mlS f (k + 1) = mlS f k ++ tkR f ((k / p.toNat : Nat) : Int) ((k % p.toNat : Nat) : Int) p.toNat := rfl
    have hlen : (mlS f (k + 1)).length ≤ (mlS f M).length := catT_le (by omega)
    rw [es, List.length_append] at hlen
    generalize k / p.toNat = U1 at *
    generalize k % p.toNat = U0 at *
    have Q3 := hMi.q3 (u1 := (U1 : Int)) (u0 := (U0 : Int)) (by omega) (by omega)
    have F3 : FM [198, 199, 203] [19] Ni (ust (ust (ust (ust Ni 198 24 (U0 : Int)) 198 25 (U1 : Int)) 198 26 1) 199 1 2) := ((((FM.rf _ _ _).us _ _ (by simp) (by decide)).us _ _ (by simp) (by decide)).us _ _ (by simp) (by decide)).us _ _ (by simp) (by decide)
    refine WP.run [(192, 82), (192, 163)] [] 90 ?_
    simp only [bk192_0, bk192_7, bk192_8, bk192_19, bk192_27, bk192_29, bk192_37, bk192_59, bk192_68, bk192_74, bk192_80, bk192_82, bk192_91, bk192_103, bk192_104, bk192_107, bk192_163, bk192_177, bk192_252, bk192_263, bk192_274, bk192_280, bk192_286, U_aload_n, U_getfield, U_if_le, U_return, U_iconst, U_invokevirtual5, U_istore_n, U_iload_n, U_icmp_ge, U_imul, U_irem, U_ineg, U_invokevirtual1, U_invokevirtual2, U_icmp_ne, U_iinc, U_goto, U_idiv, U_bipush, U_iast, U_invokevirtual4, U_istore, U_iload, U_isub, UN_cc, UN_cn, UN_nc, UN_nn, UJ, lget, lset, lset2, entL, wsm, wcat, Option.toList_some, Option.toList_none, List.cons_append, List.nil_append, List.mem_cons, List.not_mem_nil, Prod.mk.injEq, or_false, false_or, or_true, true_or, and_true, true_and, and_false, false_and, and_self, ne_eq, not_false_eq_true, not_true_eq_false, forall_const, true_implies, false_implies, Nat.add_zero, Nat.zero_add, Nat.le_refl, Nat.zero_le, List.set_cons_zero, List.set_cons_succ, List.set_nil, ↓reduceIte, Nat.reduceAdd, Nat.reduceSub, Nat.reduceEqDiff, Nat.reduceLeDiff, Int.reduceEq, Int.reduceNe, Int.reduceNeg, reduceCtorEq, kd190, kd198, kd199, ln198, ln199, hP, h2, td, tm, z190_12 hz, z190_13 hz, ust_r]
    refine ⟨rr (by omega), fun _ => ⟨rr (by omega), fun _ => ⟨r3 (by omega), r3 (by omega), by omega, r3 (by omega), r3 (by omega), by omega, by omega, by omega, by omega, by omega, by omega, by omega, by omega, by omega, ?_⟩, fun e => absurd (by omega) e⟩, fun e => absurd rfl e⟩
    refine m_div (t := 2) (l := 3) (a := 0) (b := 1) (A := f) (B := qd p (U1 : Int) (U0 : Int)) Q3 (by omega) (by omega) (by omega) (by omega) (by omega) (by omega) (by rw [upq_n (by omega)]; exact h0) (upq_e _ _ _) (by rw [qd_dg hp]; omega) fun N1 q R s1 s2 s3 s4 s5 => ?_
    have hr := rmd_is hp s3 s4
    have B1 : MB f 2 N1 := ⟨⟨_, s1, by rw [upq_n (by omega), upq_n (by omega), upq_n (by omega)]; exact h0⟩, by rw [s2 190 (by decide) (by decide), F3.2 2 (by decide)]; exact h2⟩
    have F4 := F3.tr (s2.fm.mo (K' := [198, 199, 203]) (L' := [19]) rfl rfl)
    have G1 := B1.mg hGi F4 (by decide) (by decide)
    have A1 : MlA p N1 (L ++ mlS f k) := by
      have F5 : FM [198, 199] [] Ni N1 := FM.tr (((((FM.rf _ _ _).us _ _ (by simp) (by decide)).us _ _ (by simp) (by decide)).us _ _ (by simp) (by decide)).us _ _ (by simp) (by decide)) s2.fm
      exact hA.fm F5 (by decide) (by decide)
    have hP1 := G1.mt.2
    simp only [bk192_0, bk192_7, bk192_8, bk192_19, bk192_27, bk192_29, bk192_37, bk192_59, bk192_68, bk192_74, bk192_80, bk192_82, bk192_91, bk192_103, bk192_104, bk192_107, bk192_163, bk192_177, bk192_252, bk192_263, bk192_274, bk192_280, bk192_286, U_aload_n, U_getfield, U_if_le, U_return, U_iconst, U_invokevirtual5, U_istore_n, U_iload_n, U_icmp_ge, U_imul, U_irem, U_ineg, U_invokevirtual1, U_invokevirtual2, U_icmp_ne, U_iinc, U_goto, U_idiv, U_bipush, U_iast, U_invokevirtual4, U_istore, U_iload, U_isub, UN_cc, UN_cn, UN_nc, UN_nn, UJ, lget, lset, lset2, entL, wsm, wcat, Option.toList_some, Option.toList_none, List.cons_append, List.nil_append, List.mem_cons, List.not_mem_nil, Prod.mk.injEq, or_false, false_or, or_true, true_or, and_true, true_and, and_false, false_and, and_self, ne_eq, not_false_eq_true, not_true_eq_false, forall_const, true_implies, false_implies, Nat.add_zero, Nat.zero_add, Nat.le_refl, Nat.zero_le, List.set_cons_zero, List.set_cons_succ, List.set_nil, ↓reduceIte, Nat.reduceAdd, Nat.reduceSub, Nat.reduceEqDiff, Nat.reduceLeDiff, Int.reduceEq, Int.reduceNe, Int.reduceNeg, reduceCtorEq, kd190]
    refine l_mlN (R := R) (L := L ++ mlS f k) s1 (upq_e _ _ _) hr (by omega) (by omega) (by rw [mlR_is, List.length_append]; omega) (fun N2 t1 t2 b4 b5 b6 b7 b8 b9 => ?_) (p.toNat * p.toNat) 0 _ _ _ _ _ N1 (by omega) (FM.rf _ _ _) (by show MlA p N1 (_ ++ []); rw [List.append_nil]; exact A1)
    rw [mlR_is, List.append_assoc, ← es] at t2
    exact ih (k + 1) _ _ _ _ _ _ _ _ N2 (by omega) (G1.fm t1 ok_ls (by decide) (by decide) (by decide) (by decide) (by decide) (by decide)) ((hF.tr F4).tr (t1.mo rfl rfl)) t2
set_option maxHeartbeats 8000000 in
theorem m_findList {p : Int} {N : Mem} {Q : Post} {f : Pz p} {g : Nat} (h : MG f g N) (hp : Pr p) (hg : g = 1 ∨ g = 2) (hL : (tkl f g).length ≤ 450) (hA : N 190 19 = 0 ∨ MlA p N (tkl f g)) (hQ : ∀ N', MG f g N' → FM [198, 199, 203] [19] N N' → MlA p N' (tkl f g) → Q none NN N') : CL 192 [(2, 190), (9, 0), (9, 0), (9, 0), (9, 0), (9, 0), (9, 0), (9, 0), (9, 0), (9, 0)] NN N Q := by
  have hpp := hp.pos
  obtain ⟨hz, hP⟩ := h.mt
  have hl := tkl_pos f g
  rcases hA with e0 | hA
  · have et : tkl f g = ([0] ++ tkP f p.toNat) ++ mlS f (if g = 2 then p.toNat * p.toNat else 0) := by
      unfold tkl
      rcases hg with rfl | rfl
      · rw [if_neg (by omega), if_neg (by omega)]; rfl
      · rw [if_pos rfl, if_pos rfl, mlS_is]
    have A0 : MlA p N [] := ⟨e0, fun i t q => by cases q⟩
    have hL' := hL
    rw [et, List.length_append, List.length_append] at hL'
    refine WP.run [(192, 19)] [] 60 ?_
    simp only [bk192_0, bk192_7, bk192_8, bk192_19, bk192_27, bk192_29, bk192_37, bk192_59, bk192_68, bk192_74, bk192_80, bk192_82, bk192_91, bk192_103, bk192_104, bk192_107, bk192_163, bk192_177, bk192_252, bk192_263, bk192_274, bk192_280, bk192_286, U_aload_n, U_getfield, U_if_le, U_return, U_iconst, U_invokevirtual5, U_istore_n, U_iload_n, U_icmp_ge, U_imul, U_irem, U_ineg, U_invokevirtual1, U_invokevirtual2, U_icmp_ne, U_iinc, U_goto, U_idiv, U_bipush, U_iast, U_invokevirtual4, U_istore, U_iload, U_isub, UN_cc, UN_cn, UN_nc, UN_nn, UJ, lget, lset, lset2, entL, wsm, wcat, Option.toList_some, Option.toList_none, List.cons_append, List.nil_append, List.mem_cons, List.not_mem_nil, Prod.mk.injEq, or_false, false_or, or_true, true_or, and_true, true_and, and_false, false_and, and_self, ne_eq, not_false_eq_true, not_true_eq_false, forall_const, true_implies, false_implies, Nat.add_zero, Nat.zero_add, Nat.le_refl, Nat.zero_le, List.set_cons_zero, List.set_cons_succ, List.set_nil, ↓reduceIte, Nat.reduceAdd, Nat.reduceSub, Nat.reduceEqDiff, Nat.reduceLeDiff, Int.reduceEq, Int.reduceNe, Int.reduceNeg, reduceCtorEq, kd190, e0]
    refine ⟨r3 (by omega), fun e => absurd e (by omega), fun _ => ?_⟩
    refine m_put hz A0 (by show 0 < 520; omega) (t := 0) ⟨⟨by omega, by omega, by omega, by omega⟩, Or.inl ⟨rfl, rfl, rfl, rfl, rfl, rfl⟩⟩ fun N1 s1 s2 => ?_
    have G1 := h.fm s1 ok_ls (by decide) (by decide) (by decide) (by decide) (by decide) (by decide)
    simp only [bk192_0, bk192_7, bk192_8, bk192_19, bk192_27, bk192_29, bk192_37, bk192_59, bk192_68, bk192_74, bk192_80, bk192_82, bk192_91, bk192_103, bk192_104, bk192_107, bk192_163, bk192_177, bk192_252, bk192_263, bk192_274, bk192_280, bk192_286, U_aload_n, U_getfield, U_if_le, U_return, U_iconst, U_invokevirtual5, U_istore_n, U_iload_n, U_icmp_ge, U_imul, U_irem, U_ineg, U_invokevirtual1, U_invokevirtual2, U_icmp_ne, U_iinc, U_goto, U_idiv, U_bipush, U_iast, U_invokevirtual4, U_istore, U_iload, U_isub, UN_cc, UN_cn, UN_nc, UN_nn, UJ, lget, lset, lset2, entL, wsm, wcat, Option.toList_some, Option.toList_none, List.cons_append, List.nil_append, List.mem_cons, List.not_mem_nil, Prod.mk.injEq, or_false, false_or, or_true, true_or, and_true, true_and, and_false, false_and, and_self, ne_eq, not_false_eq_true, not_true_eq_false, forall_const, true_implies, false_implies, Nat.add_zero, Nat.zero_add, Nat.le_refl, Nat.zero_le, List.set_cons_zero, List.set_cons_succ, List.set_nil, ↓reduceIte, Nat.reduceAdd, Nat.reduceSub, Nat.reduceEqDiff, Nat.reduceLeDiff, Int.reduceEq, Int.reduceNe, Int.reduceNeg, reduceCtorEq]
    refine l_mlX (N := N1) (f := f) (g := g) (L := [0]) hp (by simp at hL' ⊢; omega) (fun N2 t1 t2 t3 y => ?_) p.toNat 0 _ N1 (by omega) G1 (FM.rf _ _ _) (by show MlA p N1 ([0] ++ []); exact s2)
    have K := l_mlK (p := p) (N := N2) (Q := Q) (f := f) (g := g) (L := [0] ++ tkP f p.toNat) hp hg rfl (by rw [List.length_append]; omega) (fun N3 w1 w2 w3 => ?_) _ 0 y (9, 0) (9, 0) (9, 0) (9, 0) (9, 0) (9, 0) (9, 0) N2 (Nat.zero_add _) t1 (FM.rf _ _ _) (by show MlA p N2 (_ ++ []); rw [List.append_nil]; exact t3)
    · exact K
    · rw [← et] at w3
      exact hQ N3 w1 (((s1.mo rfl rfl).tr (t2.mo rfl rfl)).tr w2) w3
  · refine WP.run [(192, 19)] [] 60 ?_
    simp only [bk192_0, bk192_7, bk192_8, bk192_19, bk192_27, bk192_29, bk192_37, bk192_59, bk192_68, bk192_74, bk192_80, bk192_82, bk192_91, bk192_103, bk192_104, bk192_107, bk192_163, bk192_177, bk192_252, bk192_263, bk192_274, bk192_280, bk192_286, U_aload_n, U_getfield, U_if_le, U_return, U_iconst, U_invokevirtual5, U_istore_n, U_iload_n, U_icmp_ge, U_imul, U_irem, U_ineg, U_invokevirtual1, U_invokevirtual2, U_icmp_ne, U_iinc, U_goto, U_idiv, U_bipush, U_iast, U_invokevirtual4, U_istore, U_iload, U_isub, UN_cc, UN_cn, UN_nc, UN_nn, UJ, lget, lset, lset2, entL, wsm, wcat, Option.toList_some, Option.toList_none, List.cons_append, List.nil_append, List.mem_cons, List.not_mem_nil, Prod.mk.injEq, or_false, false_or, or_true, true_or, and_true, true_and, and_false, false_and, and_self, ne_eq, not_false_eq_true, not_true_eq_false, forall_const, true_implies, false_implies, Nat.add_zero, Nat.zero_add, Nat.le_refl, Nat.zero_le, List.set_cons_zero, List.set_cons_succ, List.set_nil, ↓reduceIte, Nat.reduceAdd, Nat.reduceSub, Nat.reduceEqDiff, Nat.reduceLeDiff, Int.reduceEq, Int.reduceNe, Int.reduceNeg, reduceCtorEq, kd190, hA.1]
    exact ⟨r3 (by omega), fun _ => hQ N h (FM.rf _ _ _) hA, fun e => absurd (by omega) e⟩
theorem tk0_e (p u1 u0 v1 v0 : Int) : tk0 p u1 u0 + v1 * p + v0 = 2 * (p * p * p * p) + (((u1 * p + u0) * p + v1) * p + v0) := by
  unfold tk0
  rw [Int.add_mul ((u1 * p + u0) * p) v1 p]; omega
theorem LsE.wk {p : Int} {N : Mem} {f : Pz p} {g i : Nat} {a : Pz p × Pz p} (hp : Pr p) (hg : g ≤ 2) (ha : pRed f g a) (h : LsE p N i (tkn a)) : WK N 203 i a := by
  have hpp := hp.pos
  have h81 := p4_le hp
  have h4 := pp_p4 hp
  obtain ⟨d, u0, u1, v0, v1, ⟨e1, e2, e3, e4, e5⟩, ⟨b1, b2, b3, b4⟩, T⟩ := h
  have fin : d = wkD a 0 → u0 = wkD a 1 → u1 = wkD a 2 → v0 = wkD a 3 → v1 = wkD a 4 → WK N 203 i a := fun q0 q1 q2 q3 q4 j hj => by
    have : j = 0 ∨ j = 1 ∨ j = 2 ∨ j = 3 ∨ j = 4 := by omega
    rcases this with rfl | rfl | rfl | rfl | rfl
    · rw [show 5 * (i : Int) + ((0 : Nat) : Int) = 5 * (i : Int) by omega, e1, q0]
    · exact e2.trans q1
    · exact e3.trans q2
    · exact e4.trans q3
    · exact e5.trans q4
  rcases red_cases hp hg ha with ⟨r1, r2, r3⟩ | ⟨r1, w0, x0, r2, r3, r4, r5⟩ | ⟨-, r1, w1, w0, x1, x0, r2, r3, r4, r5, r6, r7⟩
  · have hw := wkD_z hp r2
    rcases T with ⟨t0, t1, t2, t3, t4, -⟩ | ⟨-, -, -, t⟩ | ⟨-, t⟩
    · exact fin (by rw [hw]; exact t0) (by rw [hw]; exact t1) (by rw [hw]; exact t2) (by rw [hw]; exact t3) (by rw [hw]; exact t4)
    · have := tk_b1 hp b1 b3; omega
    · have := tk_b2 hp b2 b1 b4 b3; rw [tk0_e] at t; omega
  · have k := tk_b1 hp r2 r3
    rcases T with ⟨-, -, -, -, -, t⟩ | ⟨t0, t1, t2, t⟩ | ⟨-, t⟩
    · omega
    · have k2 := tk_b1 hp b1 b3
      obtain ⟨c1, c2⟩ := dg_un (p := p) (a := u0) (b := v0) (c := w0) (d := x0) (by omega) b3 r3
      have hd : dg a.1 = 2 := r1
      refine fin ?_ ?_ ?_ ?_ ?_
      · rw [wkD_0, hd, t0]; rfl
      · rw [wkD_1, if_pos (by omega), r4]; show u0 = (lin p 1 w0).1 0; rw [lin_c, if_pos rfl, Int.emod_eq_of_lt r2.1 r2.2]; exact c1
      · rw [wkD_2, if_neg (by omega)]; exact t1
      · rw [wkD_3, r4]; show v0 = (pC p x0).1 0; rw [pC_c, if_pos rfl, Int.emod_eq_of_lt r3.1 r3.2]; exact c2
      · rw [wkD_4, r4]; show v1 = (pC p x0).1 1; rw [pC_c, if_neg (by decide), Int.zero_emod]; exact t2
    · have := tk_b2 hp b2 b1 b4 b3; rw [tk0_e] at t; omega
  · have k := tk_b2 hp r2 r3 r4 r5
    rcases T with ⟨-, -, -, -, -, t⟩ | ⟨-, -, -, t⟩ | ⟨t0, t⟩
    · omega
    · have := tk_b1 hp b1 b3; omega
    · rw [tk0_e] at t
      have k2 := tk_b2 hp b2 b1 b4 b3
      obtain ⟨c1, c2⟩ := dg_un (p := p) (a := (u1 * p + u0) * p + v1) (b := v0) (c := (w1 * p + w0) * p + x1) (d := x0) (by omega) b3 r5
      obtain ⟨c3, c4⟩ := dg_un (p := p) c1 b4 r4
      obtain ⟨c5, c6⟩ := dg_un (p := p) c3 b1 r3
      have hd : dg a.1 = 3 := r1
      refine fin ?_ ?_ ?_ ?_ ?_
      · rw [wkD_0, hd, t0]; rfl
      · rw [wkD_1, if_pos (by omega), r6]; show u0 = (qd p w1 w0).1 0; rw [qd_c, if_pos rfl, Int.emod_eq_of_lt r3.1 r3.2]; exact c6
      · rw [wkD_2, if_pos (by omega), r6]; show u1 = (qd p w1 w0).1 1; rw [qd_c, if_neg (by decide), if_pos rfl, Int.emod_eq_of_lt r2.1 r2.2]; exact c5
      · rw [wkD_3, r6]; show v0 = (lin p x1 x0).1 0; rw [lin_c, if_pos rfl, Int.emod_eq_of_lt r5.1 r5.2]; exact c2
      · rw [wkD_4, r6]; show v1 = (lin p x1 x0).1 1; rw [lin_c, if_neg (by decide), if_pos rfl, Int.emod_eq_of_lt r4.1 r4.2]; exact c4
