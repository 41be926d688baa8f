/-! THE MODEL'S STATE: over the same pure values -/
def MGp {p : Int} (N : Mem) (f : Pz p) (g : Nat) : Prop := N 190 22 = -1 ∨ (0 < g ∧ ∀ ad z ng, GG f g ad z ng → N 190 22 = ((gNm ad z ((tkl f g).length - 1)).2.2 : Int) ∧ ∀ k : Nat, k < 4 → N 205 (k : Int) = ((gNm ad z ((tkl f g).length - 1)).2.1 k : Int))
def MCu {p : Int} (N : Mem) (f : Pz p) (g : Nat) : Prop := (g = 0 ∧ N 190 1 = 0 ∧ N 190 2 = 0 ∧ N 190 5 = 0) ∨ (0 < g ∧ N 190 1 = (dg f : Int) - 1 ∧ N 190 2 = (g : Int) ∧ N 190 5 = ((ptl f p.toNat).length : Int) + 1 ∧ PtA N 192 193 (ptl f p.toNat))
def MRw {p : Int} (N : Mem) (f : Pz p) (g : Nat) : Prop := ∃ μ, MT p N μ ∧ (0 < g → μ 0 = some f)
def MLs {p : Int} (N : Mem) (f : Pz p) (g : Nat) : Prop := N 190 19 = 0 ∨ (0 < g ∧ MlA p N (tkl f g))
def MS {p : Int} (g : Nat) (f : Pz p) (pu : List Int) (rg : Nat → Pz p × Pz p) (A tl : Nat → Int) (E : Nat → Nat) (N : Mem) : Prop :=
  MRw N f g ∧ MCu N f g ∧ (N 190 4 = (pu.length : Int) ∧ ∀ (i : Nat) (v : Int), pu[i]? = some v → N 191 (i : Int) = v) ∧ (∀ r : Nat, r < 6 → WK N 195 r (rg r)) ∧ (∀ i : Nat, i < 32 → N 194 (i : Int) = A i) ∧ (∀ j : Nat, j < 26 → N 196 (j : Int) = tl j) ∧ (∀ a : Nat, a < 13 → N 197 (a : Int) = (E a : Int)) ∧ MLs N f g ∧ MGp N f g
/-- the model's places for work -/
def scK : List Int := [198, 199, 200, 201, 202, 204, 206, 207, 208, 209, 210, 211, 212, 213, 214, 215, 216, 217]
def scL : List Int := [14, 32, 35, 36]
theorem ok_sc : FZK scK scL := fzk rfl rfl
theorem MGp.fx {p : Int} {N N' : Mem} {f : Pz p} {g : Nat} (h : MGp N f g) (h1 : N' 190 22 = N 190 22) (h2 : N' 205 = N 205) : MGp N' f g := by
  unfold MGp; rw [h1, h2]; exact h
theorem MCu.fx {p : Int} {N N' : Mem} {f : Pz p} {g : Nat} (h : MCu N f g) (h1 : N' 190 1 = N 190 1) (h2 : N' 190 2 = N 190 2) (h5 : N' 190 5 = N 190 5) (hx : N' 192 = N 192) (hy : N' 193 = N 193) : MCu N' f g := by
  unfold MCu PtA; rw [h1, h2, h5, hx, hy]; exact h
theorem MLs.fx {p : Int} {N N' : Mem} {f : Pz p} {g : Nat} (h : MLs N f g) (h1 : N' 190 19 = N 190 19) (h2 : N' 203 = N 203) : MLs N' f g := by
  unfold MLs MlA LsE; rw [h1, h2]; exact h
/-- the state after a call that changes registers, the list and what is for work -/
theorem MS.up {p : Int} {g : Nat} {f : Pz p} {pu : List Int} {rg rg' : Nat → Pz p × Pz p} {A tl : Nat → Int} {E : Nat → Nat} {N N' : Mem} (h : MS g f pu rg A tl E N) (e : FM (195 :: 203 :: 205 :: scK) (19 :: 22 :: scL) N N') (m : MRw N' f g) (hr : ∀ r : Nat, r < 6 → WK N' 195 r (rg' r)) (hl : MLs N' f g) (hgp : MGp N' f g) : MS g f pu rg' A tl E N' := by
  obtain ⟨-, a1, a2, -, a4, a5, a6, -, -⟩ := h
  have c : ∀ b : Int, b ≠ 190 → b ∉ (195 :: 203 :: 205 :: scK) → N' b = N b := e.1
  refine ⟨m, a1.fx (e.2 1 (by decide)) (e.2 2 (by decide)) (e.2 5 (by decide)) (c 192 (by decide) (by decide)) (c 193 (by decide) (by decide)), ?_, hr, ?_, ?_, ?_, hl, hgp⟩
  · rw [e.2 4 (by decide), c 191 (by decide) (by decide)]; exact a2
  · rw [c 194 (by decide) (by decide)]; exact a4
  · rw [c 196 (by decide) (by decide)]; exact a5
  · rw [c 197 (by decide) (by decide)]; exact a6
theorem MS.sc {p : Int} {g : Nat} {f : Pz p} {pu : List Int} {rg : Nat → Pz p × Pz p} {A tl : Nat → Int} {E : Nat → Nat} {N N' : Mem} (h : MS g f pu rg A tl E N) (e : FM scK scL N N') (m : MRw N' f g) : MS g f pu rg A tl E N' :=
  h.up (e.mo rfl rfl) m (fun r hr => (h.2.2.2.1 r hr).fx (e.1 195 (by decide) (by decide))) (h.2.2.2.2.2.2.2.1.fx (e.2 19 (by decide)) (e.1 203 (by decide) (by decide))) (h.2.2.2.2.2.2.2.2.fx (e.2 22 (by decide)) (e.1 205 (by decide) (by decide)))
/-- registers written anew -/
theorem MS.rg {p : Int} {g : Nat} {f : Pz p} {pu : List Int} {rg rg' : Nat → Pz p × Pz p} {A tl : Nat → Int} {E : Nat → Nat} {N N' : Mem} (h : MS g f pu rg A tl E N) (e : FM (195 :: scK) scL N N') (m : MRw N' f g) (hr : ∀ r : Nat, r < 6 → WK N' 195 r (rg' r)) : MS g f pu rg' A tl E N' :=
  h.up (e.mo rfl rfl) m hr (h.2.2.2.2.2.2.2.1.fx (e.2 19 (by decide)) (e.1 203 (by decide) (by decide))) (h.2.2.2.2.2.2.2.2.fx (e.2 22 (by decide)) (e.1 205 (by decide) (by decide)))
/-- the class's cells are as they were -/
def clF (N N' : Mem) : Prop := ∀ b, b < 190 → N' b = N b
theorem clF.rf (N : Mem) : clF N N := fun _ _ => rfl
theorem clF.tr {N N' N'' : Mem} (h1 : clF N N') (h2 : clF N' N'') : clF N N'' := fun b hb => (h2 b hb).trans (h1 b hb)
theorem FM.cl {K L : List Int} {N N' : Mem} (h : FM K L N N') (hK : K.all (fun b => decide (190 ≤ b)) = true) : clF N N' := fun b hb => h.1 b (by omega) (fun q => by have := of_decide_eq_true (List.all_eq_true.mp hK b q); omega)
theorem MS.fz {p : Int} {g : Nat} {f : Pz p} {pu : List Int} {rg : Nat → Pz p × Pz p} {A tl : Nat → Int} {E : Nat → Nat} {N : Mem} (h : MS g f pu rg A tl E N) : Fz N := h.1.elim fun _ q => q.1.1
theorem MS.p0 {p : Int} {g : Nat} {f : Pz p} {pu : List Int} {rg : Nat → Pz p × Pz p} {A tl : Nat → Int} {E : Nat → Nat} {N : Mem} (h : MS g f pu rg A tl E N) : N 190 0 = p := h.1.elim fun _ q => q.1.2.2.1
/-- with a curve -/
theorem MS.mg {p : Int} {g : Nat} {f : Pz p} {pu : List Int} {rg : Nat → Pz p × Pz p} {A tl : Nat → Int} {E : Nat → Nat} {N : Mem} (h : MS g f pu rg A tl E N) (hg : g ≠ 0) : MG f g N ∧ PtA N 192 193 (ptl f p.toNat) := by
  obtain ⟨⟨μ, hM, h0⟩, hC, -⟩ := h
  rcases hC with ⟨q, -⟩ | ⟨q, c1, c2, c3, c4⟩
  · exact absurd q hg
  · exact ⟨⟨⟨μ, hM, h0 q⟩, c1, c2, c3⟩, c4⟩
theorem MG.rw {p : Int} {f : Pz p} {g : Nat} {N : Mem} (h : MG f g N) : MRw N f g := h.1.elim fun μ q => ⟨μ, q.1, fun _ => q.2⟩
theorem MB.rw {p : Int} {f : Pz p} {g : Nat} {N : Mem} (h : MB f g N) : MRw N f g := h.1.elim fun μ q => ⟨μ, q.1, fun _ => q.2⟩
/-- whether there is a curve -/
theorem MS.cu {p : Int} {g : Nat} {f : Pz p} {pu : List Int} {rg : Nat → Pz p × Pz p} {A tl : Nat → Int} {E : Nat → Nat} {N : Mem} (h : MS g f pu rg A tl E N) (V : VS g f pu rg A tl E) : R32 (N 190 1) ∧ (0 < N 190 1 ↔ g ≠ 0) := by
  rcases h.2.1 with ⟨q, c1, -⟩ | ⟨q, c1, -⟩
  · exact ⟨r3 (by omega), by omega⟩
  · have hd := (V.cv (by omega)).2.2.1.2.1
    have h2 := V.g2
    exact ⟨r3 (by omega), by omega⟩
set_option maxHeartbeats 4000000 in
theorem m_std {p : Int} {g : Nat} {f : Pz p} {pu : List Int} {rg : Nat → Pz p × Pz p} {A tl : Nat → Int} {E : Nat → Nat} {N : Mem} {Q : Post} (h : MS g f pu rg A tl E N) (V : VS g f pu rg A tl E) (hQ : Q (some (0, if g = 0 then 0 else 1)) NN N) : CL 161 [(2, 190)] NN N Q := by
  obtain ⟨a, b⟩ := h.cu V
  refine m_isCurve a ?_
  by_cases q : g = 0
  · rw [if_pos q] at hQ
    rw [if_neg (fun e => (b.mp e) q)]; exact hQ
  · rw [if_neg q] at hQ
    rw [if_pos (b.mpr q)]; exact hQ
