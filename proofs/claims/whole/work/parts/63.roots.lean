/-! THE LIST OF CLASSES: classes of two points; what is left of f -/
theorem rg_un {R : Type} [Lean.Grind.CommRing R] {B q r q' r' : R} (h : B * q + r = B * q' + r') : B * (q + -q') = r' + -r := by grind
theorem rg_s0 {R : Type} [Lean.Grind.CommRing R] {a b : R} (h : a + -b = 0) : a = b := by grind
theorem rg_s1 {R : Type} [Lean.Grind.CommRing R] {B q r r' : R} (h : B * q + r = B * q + r') : r = r' := by grind
theorem rem_un {p : Int} (hp : Pr p) {A B q R q' R' : Pz p} (h1 : A = padd (pmul B q) R) (h2 : A = padd (pmul B q') R') (d1 : dg R < dg B) (d2 : dg R' < dg B) : R = R' := by
  have e := @rg_un (Pz p) (pring p) B q R q' R' (h1.symm.trans h2)
  have e' : pmul B (padd q (pneg q')) = padd R' (pneg R) := e
  have hd := dg_add R' (pneg R)
  rw [dg_neg, ← e'] at hd
  have hz : dg (padd q (pneg q')) = 0 := by
    false_or_by_contra
    rename_i hz
    have := dg_mul hp B (padd q (pneg q')) (by omega) hz
    omega
  have hq : q = q' := @rg_s0 (Pz p) (pring p) q q' (dg_zero.mp hz)
  subst hq
  exact @rg_s1 (Pz p) (pring p) B q R R' (h1.symm.trans h2)
noncomputable def rmd {p : Int} (A B : Pz p) : Pz p := @dite _ (∃ R q, A = padd (pmul B q) R ∧ dg R < dg B) (Classical.propDecidable _) (fun h => h.choose) (fun _ => pC p 0)
theorem rmd_is {p : Int} (hp : Pr p) {A B q R : Pz p} (h1 : A = padd (pmul B q) R) (d1 : dg R < dg B) : rmd A B = R := by
  have hE : ∃ R q, A = padd (pmul B q) R ∧ dg R < dg B := ⟨R, q, h1, d1⟩
  unfold rmd
  rw [dif_pos hE]
  obtain ⟨q', e1, e2⟩ := hE.choose_spec
  exact rem_un hp e1 h1 e2 d1
/-- x x + u1 x + u0 -/
noncomputable def qd (p u1 u0 : Int) : Pz p := pput (pput (pput (pC p 0) 2 1) 1 u1) 0 u0
theorem qd_dg {p u1 u0 : Int} (hp : Pr p) : dg (qd p u1 u0) = 3 := by
  have hpp := hp.pos
  refine dg_eq (n := 2) (fun k hk => ?_) ?_
  · unfold qd
    rw [pput_n (by omega), pput_n (by omega), pput_n (by omega)]
    exact dg_far _ (by rw [dg_zero.mpr rfl]; omega)
  · unfold qd
    rw [pput_n (by omega), pput_n (by omega), pput_c, if_pos rfl, Int.emod_eq_of_lt (by omega) (by omega)]
    decide
noncomputable def hiR {p : Int} (f : Pz p) (u1 u0 v1 : Int) : Int := ((rmd f (qd p u1 u0)).1 1 + v1 * v1 * u1) % p
noncomputable def loR {p : Int} (f : Pz p) (u1 u0 v1 : Int) : Int := ((rmd f (qd p u1 u0)).1 0 + v1 * v1 * u0) % p
def tk0 (p u1 u0 : Int) : Int := 2 * (p * p * p * p) + (u1 * p + u0) * p * p
noncomputable def tkRr {p : Int} (f : Pz p) (u1 u0 v1 : Int) (n : Nat) : List Int := selT (fun v0 => decide (2 * v1 * v0 % p = hiR f u1 u0 v1) && decide ((v0 : Int) * v0 % p = loR f u1 u0 v1)) (fun v0 => tk0 p u1 u0 + v1 * p + v0) n
noncomputable def tkR {p : Int} (f : Pz p) (u1 u0 : Int) (n : Nat) : List Int := catT (fun v1 => tkRr f u1 u0 v1 p.toNat) n
