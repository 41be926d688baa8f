/-! THE STATE: what both sides stand for; how the class's cells hold it -/
/-- g: genus, 0 without a curve; f; the row pushed; registers; amounts; the told row; the cover's amounts -/
def VS {p : Int} (g : Nat) (f : Pz p) (pu : List Int) (rg : Nat → Pz p × Pz p) (A tl : Nat → Int) (E : Nat → Nat) : Prop :=
  Pr p ∧ ((g = 0 ∧ (∀ r, rg r = (pC p 1, pC p 0)) ∧ ∀ i, A i = 0) ∨ (Fit f ∧ g = dg f / 2 - 1 ∧ (∀ r, pRed f g (rg r)) ∧ ∀ i, (ptl f p.toNat).length < i → A i = 0)) ∧ (pu.length ≤ 6 ∧ ∀ v ∈ pu, 0 ≤ v ∧ v < p) ∧ ((-30 ≤ A 0 ∧ A 0 ≤ 30) ∧ ∀ i, i ≠ 0 → -4 ≤ A i ∧ A i ≤ 4) ∧ (∀ j, 0 ≤ tl j ∧ tl j < p) ∧ (∀ a, E a ≤ 20) ∧ ∀ a : Nat, p ≤ (a : Int) → E a = 0
theorem VS.cv {p : Int} {g : Nat} {f : Pz p} {pu : List Int} {rg : Nat → Pz p × Pz p} {A tl : Nat → Int} {E : Nat → Nat} (V : VS g f pu rg A tl E) (hg : g ≠ 0) : Fit f ∧ g = dg f / 2 - 1 ∧ Cv f g ∧ (∀ r, pRed f g (rg r)) ∧ ∀ i, (ptl f p.toNat).length < i → A i = 0 := by
  rcases V.2.1 with ⟨h, -⟩ | ⟨h1, h2, h3, h4⟩
  · exact absurd h hg
  · refine ⟨h1, h2, ?_, h3, h4⟩
    rw [h2]; exact h1.cv V.1
theorem VS.g2 {p : Int} {g : Nat} {f : Pz p} {pu : List Int} {rg : Nat → Pz p × Pz p} {A tl : Nat → Int} {E : Nat → Nat} (V : VS g f pu rg A tl E) : g ≤ 2 := by
  by_cases h : g = 0
  · omega
  · have := (V.cv h).2.2.1.1; omega
def PuA (N : Mem) (pu : List Int) : Prop := N 1 2 = (pu.length : Int) ∧ ∀ (i : Nat) (v : Int), pu[i]? = some v → N 18 (i : Int) = v
def CrA {p : Int} (N : Mem) (f : Pz p) (g : Nat) : Prop := (g = 0 ∧ N 21 3 = 0) ∨ (0 < g ∧ CvN N f g)
def RoA (N : Mem) (A : Nat → Int) : Prop := ∀ i : Nat, i < 27 → N 109 (i : Int) = A i
def TdA (N : Mem) (tl : Nat → Int) : Prop := ∀ j : Nat, j < 26 → N 121 (j : Int) = tl j
def CvA (N : Mem) (E : Nat → Nat) : Prop := ∀ a : Nat, a < 13 → N 189 (a : Int) = (E a : Int)
def RgA {p : Int} (ρ : Int → Option (Pz p)) (g : Nat) (f : Pz p) (rg : Nat → Pz p × Pz p) : Prop := (0 < g → ρ 22 = some f) ∧ ∀ r : Nat, r < 6 → PH ρ (58 + 5 * (r : Int)) (rg r)
def LsA {p : Int} (N : Mem) (f : Pz p) (g : Nat) : Prop := N 88 3 = 0 ∨ (0 < g ∧ TkA N (tkl f g))
def GpA {p : Int} (N : Mem) (f : Pz p) (g : Nat) : Prop := N 94 6 = 0 ∨ (0 < g ∧ N 94 6 = 1 ∧ ∀ ad z ng, GG f g ad z ng → NmA N (gNm ad z ((tkl f g).length - 1)).2.1 (gNm ad z ((tkl f g).length - 1)).2.2)
def TnA {p : Int} (N : Mem) (f : Pz p) (g : Nat) : Prop := N 182 4 = 0 ∨ (0 < g ∧ N 182 4 = 1 ∧ TuA N (tuL f p.toNat))
/-- word k of those left -/
noncomputable def wdK {p : Int} (f : Pz p) (k : Nat) : Nat → Int := match (cdL f 31)[k]? with
  | none => fun _ => 0
  | some e => e.2.1
def CcA {p : Int} (N : Mem) (f : Pz p) (g : Nat) (tl : Nat → Int) : Prop := (N 120 9 = 0 ∨ (0 < g ∧ N 120 9 = 1 ∧ CdA N f (cdL f 31))) ∧ (N 120 13 = -1 ∨ (0 < g ∧ N 120 9 = 1 ∧ ∃ w : Nat, w ≤ 26 ∧ N 120 13 = (w : Int) ∧ (w = 0 → N 120 14 = 0) ∧ (1 ≤ w → NrA (p := p) N (wdK f) tl w (ptl f p.toNat).length)))
def CS {p : Int} (g : Nat) (f : Pz p) (pu : List Int) (rg : Nat → Pz p × Pz p) (A tl : Nat → Int) (E : Nat → Nat) (N : Mem) : Prop :=
  (∃ ρ, ST p N ρ ∧ RgA ρ g f rg) ∧ PuA N pu ∧ CrA N f g ∧ RoA N A ∧ TdA N tl ∧ CvA N E ∧ LsA N f g ∧ GpA N f g ∧ TnA N f g ∧ CcA N f g tl
theorem PuA.fx {N N' : Mem} {pu : List Int} (h : PuA N pu) (h1 : N' 1 = N 1) (h2 : N' 18 = N 18) : PuA N' pu := by unfold PuA; rw [h1, h2]; exact h
theorem CrA.fx {p : Int} {N N' : Mem} {f : Pz p} {g : Nat} (h : CrA N f g) (h1 : N' 21 = N 21) (h2 : N' 26 = N 26) (h3 : N' 27 = N 27) (h4 : N' 29 = N 29) (h5 : N' 30 = N 30) : CrA N' f g := by
  rcases h with ⟨a, b⟩ | ⟨a, b⟩
  · exact Or.inl ⟨a, by rw [h1]; exact b⟩
  · exact Or.inr ⟨a, b.fx h1 h2 h3 h4 h5⟩
theorem LsA.fx {p : Int} {N N' : Mem} {f : Pz p} {g : Nat} (h : LsA N f g) (h1 : N' 88 = N 88) (h2 : N' 89 = N 89) : LsA N' f g := by
  rcases h with a | ⟨a, b⟩
  · exact Or.inl (by rw [h1]; exact a)
  · exact Or.inr ⟨a, b.fx h1 h2⟩
theorem GpA.fx {p : Int} {N N' : Mem} {f : Pz p} {g : Nat} (h : GpA N f g) (h1 : N' 94 = N 94) (h2 : N' 97 = N 97) : GpA N' f g := by
  unfold GpA NmA; rw [h1, h2]; exact h
theorem TnA.fx {p : Int} {N N' : Mem} {f : Pz p} {g : Nat} (h : TnA N f g) (h1 : N' 182 = N 182) (h2 : N' 183 = N 183) : TnA N' f g := by
  unfold TnA TuA; rw [h1, h2]; exact h
theorem CcA.fx {p : Int} {N N' : Mem} {f : Pz p} {g : Nat} {tl : Nat → Int} (h : CcA N f g tl) (hp : Pr p) (h1 : N' 120 = N 120) (h2 : N' 176 = N 176) (h3 : N' 177 = N 177) (h4 : N' 181 = N 181) (h5 : ∀ b, 123 ≤ b → b < 149 → N' b = N b) (h6 : ∀ b, 150 ≤ b → b < 176 → N' b = N b) : CcA N' f g tl := by
  obtain ⟨a, b⟩ := h
  have hl := cdL_len hp f 31
  have h26 := ptl_26 hp f
  refine ⟨?_, ?_⟩
  · rcases a with a | ⟨a1, a2, a3⟩
    · exact Or.inl (by rw [h1]; exact a)
    · exact Or.inr ⟨a1, by rw [h1]; exact a2, a3.fc (by rw [h1]) (by rw [h1]) h2 h3 (fun i hi => ⟨h5 _ (by omega) (by omega), h6 _ (by omega) (by omega)⟩)⟩
  · rcases b with b | ⟨b1, b2, w, b3, b4, b5, b6⟩
    · exact Or.inl (by rw [h1]; exact b)
    · refine Or.inr ⟨b1, by rw [h1]; exact b2, w, b3, by rw [h1]; exact b4, fun q => by rw [h1]; exact b5 q, fun q => ?_⟩
      obtain ⟨x, x1, x2, x3⟩ := b6 q
      exact ⟨x, x1, by rw [h1]; exact x2, fun i hi => by rw [h4]; exact x3 i hi⟩
/-- the cells that tell the state -/
def csC (b : Int) : Bool := [1, 18, 21, 26, 27, 29, 30, 109, 121, 189, 88, 89, 94, 97, 182, 183, 120, 181].contains b || (decide (123 ≤ b) && decide (b < 149)) || (decide (150 ≤ b) && decide (b < 178))
theorem csC_cd {b : Int} (h : (123 ≤ b ∧ b < 149) ∨ (150 ≤ b ∧ b < 178)) : csC b = true := by
  unfold csC
  rcases h with ⟨h1, h2⟩ | ⟨h1, h2⟩
  · simp [h1, h2]
  · simp [h1, h2]
theorem CS.st {p : Int} {g : Nat} {f : Pz p} {pu : List Int} {rg rg' : Nat → Pz p × Pz p} {A tl : Nat → Int} {E : Nat → Nat} {N N' : Mem} {ρ' : Int → Option (Pz p)} (h : CS g f pu rg A tl E N) (S : ST p N' ρ') (R : RgA ρ' g f rg') (hF : ∀ b, csC b = true → N' b = N b) : CS g f pu rg' A tl E N' := by
  obtain ⟨-, a1, a2, a3, a4, a5, a6, a7, a8, a9⟩ := h
  refine ⟨⟨ρ', S, R⟩, a1.fx (hF _ rfl) (hF _ rfl), a2.fx (hF _ rfl) (hF _ rfl) (hF _ rfl) (hF _ rfl) (hF _ rfl), fun i hi => by rw [hF 109 rfl]; exact a3 i hi, fun i hi => by rw [hF 121 rfl]; exact a4 i hi, fun i hi => by rw [hF 189 rfl]; exact a5 i hi, a6.fx (hF _ rfl) (hF _ rfl), a7.fx (hF _ rfl) (hF _ rfl), a8.fx (hF _ rfl) (hF _ rfl), a9.fx S.1.2.1 (hF _ rfl) (hF _ rfl) (hF _ rfl) (hF _ rfl) (fun b h1 h2 => hF b (csC_cd (Or.inl ⟨h1, h2⟩))) (fun b h1 h2 => hF b (csC_cd (Or.inr ⟨h1, by omega⟩)))⟩
theorem inR_lt {b : Int} (h : inR b = true) : 0 < b ∧ b < 190 := by
  have ha : rowArr.all (fun a => decide (0 < a) && decide (a < 190)) = true := by decide +kernel
  have hb : (List.range 218).all (fun a => !decide (KD (a : Int) = 18) || (decide (0 < (a : Int)) && decide ((a : Int) < 190))) = true := by decide +kernel
  unfold inR at h
  rw [Bool.or_eq_true, decide_eq_true_eq] at h
  rcases h with h | h
  · obtain ⟨n, hn, rfl⟩ := KD_lt (a := b) (by omega)
    have := List.all_eq_true.mp hb n (List.mem_range.mpr hn)
    simpa [h] using this
  · have := List.all_eq_true.mp ha b (List.contains_iff_mem.mp h)
    simpa using this
theorem inR_md {b : Int} (h : 190 ≤ b) : inR b = false := by
  cases e : inR b with
  | false => rfl
  | true => have := inR_lt e; omega
theorem csC_r : rowArr.all (fun a => csC a == false) = true := by decide +kernel
theorem csC_k : (List.range 218).all (fun a => !decide (KD (a : Int) = 18) || csC (a : Int) == false) = true := by decide +kernel
theorem csC_inR {b : Int} (h : csC b = true) : inR b = false := by
  cases e : inR b with
  | false => rfl
  | true =>
    exfalso
    unfold inR at e
    rw [Bool.or_eq_true, decide_eq_true_eq] at e
    rcases e with e | e
    · obtain ⟨n, hn, rfl⟩ := KD_lt (a := b) (by omega)
      have := List.all_eq_true.mp csC_k n (List.mem_range.mpr hn)
      simp [e, h] at this
    · have := List.all_eq_true.mp csC_r b (List.contains_iff_mem.mp e)
      simp [h] at this
/-- the model's cells are as they were -/
def mdF (N N' : Mem) : Prop := ∀ b, 190 ≤ b → N' b = N b
theorem mdF.rf (N : Mem) : mdF N N := fun _ _ => rfl
theorem mdF.tr {N N' N'' : Mem} (h1 : mdF N N') (h2 : mdF N' N'') : mdF N N'' := fun b hb => (h2 b hb).trans (h1 b hb)
theorem FR.md {N N' : Mem} (h : FR N N') : mdF N N' := fun b hb => h b (inR_md hb)
theorem FX.md {K : List Int} {N N' : Mem} (h : FX K N N') (hK : K.all (fun a => decide (a < 190)) = true) : mdF N N' := fun b hb => h b (inR_md hb) (fun q => by have := List.all_eq_true.mp hK b q; simp at this; omega)
theorem FC.md {N N' : Mem} (h : FC N N') : mdF N N' := fun b hb => h.1 b (by unfold cdC; omega)
theorem mdF.us {N N' : Mem} (h : mdF N N') {a : Int} (i x : Int) (ha : a < 190) : mdF N (ust N' a i x) := fun b hb => by rw [ust_ne (by omega)]; exact h b hb
theorem mdF.fil {N N' : Mem} (h : mdF N N') {a : Int} (n x : Int) (ha : a < 190) : mdF N (fil N' a n x) := fun b hb => by rw [fil_ne (by omega)]; exact h b hb
theorem FR.cs {N N' : Mem} (h : FR N N') : ∀ b, csC b = true → N' b = N b := fun b hb => h b (csC_inR hb)
theorem kdR {r : Int} (h0 : 0 ≤ r) (h1 : r < 6) : KD (58 + 5 * r) = 16 := by
  have : r = 0 ∨ r = 1 ∨ r = 2 ∨ r = 3 ∨ r = 4 ∨ r = 5 := by omega
  rcases this with rfl | rfl | rfl | rfl | rfl | rfl <;> rfl
/-! small calls -/
set_option maxHeartbeats 4000000 in
theorem c_isReg {N : Mem} {Q : Post} {r : Int} (hr : R32 r) (hQ : Q (some (0, if 0 ≤ r ∧ r < 6 then 1 else 0)) NN N) : CL 129 [(0, r)] NN N Q := by
  have hr' := hr
  obtain ⟨a, b⟩ := hr'
  refine WP.run [] [] 60 ?_
  simp only [bk129_0, bk129_4, bk129_10, bk129_14, bk129_15, U_iload_n, U_if_lt, U_bipush, U_icmp_ge, U_iconst, U_goto, U_ireturn, UN_cc, UN_cn, UN_nc, UN_nn, UJ, lget, lset, lset2, entL, wsm, wcat, Option.toList_some, Option.toList_none, List.cons_append, List.nil_append, List.mem_cons, List.not_mem_nil, Prod.mk.injEq, or_false, false_or, or_true, true_or, and_true, true_and, and_false, false_and, and_self, ne_eq, not_false_eq_true, not_true_eq_false, forall_const, true_implies, false_implies, Nat.add_zero, Nat.zero_add, Nat.le_refl, Nat.zero_le, List.set_cons_zero, List.set_cons_succ, List.set_nil, ↓reduceIte, Nat.reduceAdd, Nat.reduceSub, Nat.reduceEqDiff, Nat.reduceLeDiff, Int.reduceEq, Int.reduceNe, Int.reduceNeg, reduceCtorEq]
  refine ⟨hr, fun e => ?_, fun e => ⟨rr (by omega), fun e2 => ?_, fun e2 => ?_⟩⟩
  · rw [if_neg (by omega)] at hQ; simpa using hQ
  · rw [if_pos (by omega)] at hQ; simpa using hQ
  · rw [if_neg (by omega)] at hQ; simpa using hQ
set_option maxHeartbeats 4000000 in
theorem c_isPole {N : Mem} {Q : Post} {m : Int} (hm : R32 m) (hQ : Q (some (0, if 0 ≤ m ∧ m ≤ 30 then 1 else 0)) NN N) : CL 142 [(0, m)] NN N Q := by
  have hm' := hm
  obtain ⟨a, b⟩ := hm'
  refine WP.run [] [] 60 ?_
  simp only [bk142_0, bk142_4, bk142_10, bk142_14, bk142_15, U_iload_n, U_if_lt, U_bipush, U_icmp_gt, U_iconst, U_goto, U_ireturn, UN_cc, UN_cn, UN_nc, UN_nn, UJ, lget, lset, lset2, entL, wsm, wcat, Option.toList_some, Option.toList_none, List.cons_append, List.nil_append, List.mem_cons, List.not_mem_nil, Prod.mk.injEq, or_false, false_or, or_true, true_or, and_true, true_and, and_false, false_and, and_self, ne_eq, not_false_eq_true, not_true_eq_false, forall_const, true_implies, false_implies, Nat.add_zero, Nat.zero_add, Nat.le_refl, Nat.zero_le, List.set_cons_zero, List.set_cons_succ, List.set_nil, ↓reduceIte, Nat.reduceAdd, Nat.reduceSub, Nat.reduceEqDiff, Nat.reduceLeDiff, Int.reduceEq, Int.reduceNe, Int.reduceNeg, reduceCtorEq]
  refine ⟨hm, fun e => ?_, fun e => ⟨rr (by omega), fun e2 => ?_, fun e2 => ?_⟩⟩
  · rw [if_neg (by omega)] at hQ; simpa using hQ
  · rw [if_neg (by omega)] at hQ; simpa using hQ
  · rw [if_pos (by omega)] at hQ; simpa using hQ
set_option maxHeartbeats 4000000 in
theorem c_isNum {p : Int} {N : Mem} {Q : Post} {v : Int} (hC : CB p N) (hv : R32 v) (hQ : Q (some (0, if 0 ≤ v ∧ v < p then 1 else 0)) NN N) : CL 118 [(2, 1), (0, v)] NN N Q := by
  have hv' := hv
  obtain ⟨a, b⟩ := hv'
  have hpp := hC.2.1.pos
  refine WP.run [] [] 60 ?_
  simp only [bk118_0, bk118_4, bk118_15, bk118_19, bk118_20, U_iload_n, U_if_lt, U_aload_n, U_getfield, U_icmp_ge, U_iconst, U_goto, U_ireturn, UN_cc, UN_cn, UN_nc, UN_nn, UJ, lget, lset, lset2, entL, wsm, wcat, Option.toList_some, Option.toList_none, List.cons_append, List.nil_append, List.mem_cons, List.not_mem_nil, Prod.mk.injEq, or_false, false_or, or_true, true_or, and_true, true_and, and_false, false_and, and_self, ne_eq, not_false_eq_true, not_true_eq_false, forall_const, true_implies, false_implies, Nat.add_zero, Nat.zero_add, Nat.le_refl, Nat.zero_le, List.set_cons_zero, List.set_cons_succ, List.set_nil, ↓reduceIte, Nat.reduceAdd, Nat.reduceSub, Nat.reduceEqDiff, Nat.reduceLeDiff, Int.reduceEq, Int.reduceNe, Int.reduceNeg, reduceCtorEq, kd1, kd2, z1_0 hC.1, hC.2.2.1]
  refine ⟨hv, fun e => ?_, fun e => ⟨rr (by omega), fun e2 => ?_, fun e2 => ?_⟩⟩
  · rw [if_neg (by omega)] at hQ; simpa using hQ
  · rw [if_pos (by omega)] at hQ; simpa using hQ
  · rw [if_neg (by omega)] at hQ; simpa using hQ
/-- whether there is a curve -/
theorem CrA.g3 {p : Int} {N : Mem} {f : Pz p} {g : Nat} (h : CrA N f g) : N 21 3 = (g : Int) := by
  rcases h with ⟨a, b⟩ | ⟨a, b⟩
  · rw [b, a]; rfl
  · exact b.1
set_option maxHeartbeats 4000000 in
theorem c_std {p : Int} {N : Mem} {Q : Post} {f : Pz p} {g : Nat} (h : CrA N f g) (hg : g ≤ 2) (hQ : Q (some (0, if g = 0 then 0 else 1)) NN N) : CL 61 [(2, 21)] NN N Q := by
  have e := h.g3
  refine c_stands (by rw [e]; exact r3 (by omega)) (fun q => ?_) (fun q => ?_)
  · rw [if_neg (by omega)] at hQ; exact hQ
  · rw [if_pos (by omega)] at hQ; exact hQ
/-- how many points can be asked for -/
noncomputable def nPt {p : Int} (g : Nat) (f : Pz p) : Nat := if g = 0 then 27 else (ptl f p.toNat).length + 1
theorem nPt_le {p : Int} (hp : Pr p) (g : Nat) (f : Pz p) : nPt g f ≤ 27 := by
  have := ptl_26 hp f
  unfold nPt; split <;> omega
set_option maxHeartbeats 4000000 in
theorem c_isPt {p : Int} {N : Mem} {Q : Post} {f : Pz p} {g : Nat} {i : Int} (hz : Fz N) (hp : Pr p) (h : CrA N f g) (hg : g ≤ 2) (hi : R32 i) (hQ : Q (some (0, if 0 ≤ i ∧ i < nPt g f then 1 else 0)) NN N) : CL 122 [(2, 1), (0, i)] NN N Q := by
  have hi' := hi
  obtain ⟨a, b⟩ := hi'
  have h26 := ptl_26 hp f
  refine WP.run [] [] 60 ?_
  simp only [bk122_0, bk122_4, bk122_15, bk122_25, bk122_27, bk122_30, bk122_34, bk122_35, U_iload_n, U_if_lt, U_aload_n, U_getfield, U_invokevirtual0, U_if_eq, U_goto, U_bipush, U_icmp_ge, U_iconst, U_ireturn, UN_cc, UN_cn, UN_nc, UN_nn, UJ, lget, lset, lset2, entL, wsm, wcat, Option.toList_some, Option.toList_none, List.cons_append, List.nil_append, List.mem_cons, List.not_mem_nil, Prod.mk.injEq, or_false, false_or, or_true, true_or, and_true, true_and, and_false, false_and, and_self, ne_eq, not_false_eq_true, not_true_eq_false, forall_const, true_implies, false_implies, Nat.add_zero, Nat.zero_add, Nat.le_refl, Nat.zero_le, List.set_cons_zero, List.set_cons_succ, List.set_nil, ↓reduceIte, Nat.reduceAdd, Nat.reduceSub, Nat.reduceEqDiff, Nat.reduceLeDiff, Int.reduceEq, Int.reduceNe, Int.reduceNeg, reduceCtorEq, kd1, z1_4 hz]
  refine ⟨hi, fun e => ?_, fun e => ?_⟩
  · rw [if_neg (by omega)] at hQ; simpa using hQ
  · refine ⟨kd21, c_std h hg ?_⟩
    unfold nPt at hQ
    rcases h with ⟨g0, g1⟩ | ⟨g0, g1⟩
    · subst g0
      rw [if_pos rfl] at hQ ⊢
      simp only [bk122_0, bk122_4, bk122_15, bk122_25, bk122_27, bk122_30, bk122_34, bk122_35, U_iload_n, U_if_lt, U_aload_n, U_getfield, U_invokevirtual0, U_if_eq, U_goto, U_bipush, U_icmp_ge, U_iconst, U_ireturn, UN_cc, UN_cn, UN_nc, UN_nn, UJ, lget, lset, lset2, entL, wsm, wcat, Option.toList_some, Option.toList_none, List.cons_append, List.nil_append, List.mem_cons, List.not_mem_nil, Prod.mk.injEq, or_false, false_or, or_true, true_or, and_true, true_and, and_false, false_and, and_self, ne_eq, not_false_eq_true, not_true_eq_false, forall_const, true_implies, false_implies, Nat.add_zero, Nat.zero_add, Nat.le_refl, Nat.zero_le, List.set_cons_zero, List.set_cons_succ, List.set_nil, ↓reduceIte, Nat.reduceAdd, Nat.reduceSub, Nat.reduceEqDiff, Nat.reduceLeDiff, Int.reduceEq, Int.reduceNe, Int.reduceNeg, reduceCtorEq]
      refine ⟨r3 (by omega), rr (by omega), fun e2 => ?_, fun e2 => ?_⟩
      · rw [if_pos (by omega)] at hQ; simpa using hQ
      · rw [if_neg (by omega)] at hQ; simpa using hQ
    · rw [if_neg (show ¬ g = 0 by omega)] at hQ ⊢
      have e4 := g1.2.1.1
      simp only [bk122_0, bk122_4, bk122_15, bk122_25, bk122_27, bk122_30, bk122_34, bk122_35, U_iload_n, U_if_lt, U_aload_n, U_getfield, U_invokevirtual0, U_if_eq, U_goto, U_bipush, U_icmp_ge, U_iconst, U_ireturn, UN_cc, UN_cn, UN_nc, UN_nn, UJ, lget, lset, lset2, entL, wsm, wcat, Option.toList_some, Option.toList_none, List.cons_append, List.nil_append, List.mem_cons, List.not_mem_nil, Prod.mk.injEq, or_false, false_or, or_true, true_or, and_true, true_and, and_false, false_and, and_self, ne_eq, not_false_eq_true, not_true_eq_false, forall_const, true_implies, false_implies, Nat.add_zero, Nat.zero_add, Nat.le_refl, Nat.zero_le, List.set_cons_zero, List.set_cons_succ, List.set_nil, ↓reduceIte, Nat.reduceAdd, Nat.reduceSub, Nat.reduceEqDiff, Nat.reduceLeDiff, Int.reduceEq, Int.reduceNe, Int.reduceNeg, reduceCtorEq, kd1, kd21, z1_4 hz, e4]
      refine ⟨r3 (by omega), rr (by omega), fun e2 => ?_, fun e2 => ?_⟩
      · rw [if_pos (by omega)] at hQ; simpa using hQ
      · rw [if_neg (by omega)] at hQ; simpa using hQ
