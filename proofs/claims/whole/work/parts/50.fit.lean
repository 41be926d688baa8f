/-! WHAT MAKES A CURVE: no part twice, by what comes of deriving -/
def der (a : Nat → Int) : Nat → Int := fun k => ((k : Int) + 1) * a (k + 1)
theorem dr1 (a0 a1 b0 b1 : Int) : (0 + 1) * (a0 * b1 + a1 * b0) = (0 + 1) * a1 * b0 + a0 * ((0 + 1) * b1) := by grind
theorem dr2 (n a0 b2 x y z w : Int) (h : (n + 1) * x = y + z) : (n + 1 + 1) * (a0 * b2 + x) = (w + y) + (a0 * ((n + 1 + 1) * b2) + z) + (x - w) := by
  have e : (n + 1 + 1) * (a0 * b2 + x) = a0 * ((n + 1 + 1) * b2) + (n + 1) * x + x := by clear h; grind
  rw [e, h]; omega
theorem cv_der : ∀ (k : Nat) (a b : Nat → Int), ((k : Int) + 1) * cv a b (k + 1) = cv (der a) b k + cv a (der b) k
  | 0, a, b => dr1 (a 0) (a 1) (b 0) (b 1)
  | k + 1, a, b => by
    have h := cv_der k (sh a) b
    have e1 : cv a b (k + 1 + 1) = a 0 * b (k + 1 + 1) + cv (sh a) b (k + 1) := rfl
    have e2 : cv a (der b) (k + 1) = a 0 * der b (k + 1) + cv (sh a) (der b) k := rfl
    have e3 : cv (der a) b (k + 1) = der a 0 * b (k + 1) + cv (sh (der a)) b k := rfl
    have e4 : sh (der a) = fun i => sh (sh a) i + der (sh a) i := funext fun i => by
      show (((i + 1 : Nat) : Int) + 1) * a (i + 1 + 1) = a (i + 1 + 1) + ((i : Int) + 1) * a (i + 1 + 1)
      rw [show (((i + 1 : Nat) : Int) + 1) = 1 + ((i : Int) + 1) by omega, Int.add_mul, Int.one_mul]
    have e5 : cv (sh a) b (k + 1) = sh a 0 * b (k + 1) + cv (sh (sh a)) b k := rfl
    have e6 : der a 0 = sh a 0 := by show (((0 : Nat) : Int) + 1) * a 1 = a 1; omega
    have e7 := dr2 (k : Int) (a 0) (b (k + 1 + 1)) (cv (sh a) b (k + 1)) _ _ (cv (sh a) b (k + 1)) h
    rw [e1, e2, e3, e4, cv_add_l, e6]
    have e8 : ((k + 1 : Nat) : Int) + 1 = (k : Int) + 1 + 1 := by omega
    have e9 : der b (k + 1) = ((k : Int) + 1 + 1) * b (k + 1 + 1) := by show (((k + 1 : Nat) : Int) + 1) * b (k + 1 + 1) = _; rw [e8]
    rw [e8, e7, e9]; omega
def pder {p : Int} (a : Pz p) : Pz p := pmk p (der a.1) (a.2.2.elim fun n h => ⟨n, fun k hk => by show ((k : Int) + 1) * a.1 (k + 1) = 0; rw [h (k + 1) (by omega), Int.mul_zero]⟩)
theorem pder_c {p : Int} (a : Pz p) (k : Nat) : (pder a).1 k = (((k : Int) + 1) * a.1 (k + 1)) % p := rfl
theorem pder_mul {p : Int} (a b : Pz p) : pder (pmul a b) = padd (pmul (pder a) b) (pmul a (pder b)) := Pz.ext fun k => by
  rw [padd_c, pder_c, pmul_c, pmul_c, pmul_c]
  rw [cv_md k p (pder a).1 (der a.1) b.1 b.1 (fun i => md_md _ _) (fun i => rfl), cv_md k p a.1 a.1 (pder b).1 (der b.1) (fun i => rfl) (fun i => md_md _ _)]
  rw [md_add (md_md _ _) (md_md _ _), ← cv_der]
  exact md_mul rfl (md_md _ _)
theorem rg_sqf {R : Type} [Lean.Grind.CommRing R] (d c d' c' : R) : (d' * d + d * d') * c + d * d * c' = d * (d' * c + d' * c + d * c') := by grind
theorem dg_der {p : Int} (a : Pz p) : dg (pder a) ≤ dg a - 1 := dg_le fun k hk => by
  rw [pder_c, dg_far a (by omega), Int.mul_zero, Int.zero_emod]
/-- a row that is a curve's: degree 3 or 5, 1 highest, nothing in common with what comes of it by deriving -/
def Fit {p : Int} (a : Pz p) : Prop := (dg a = 4 ∨ dg a = 6) ∧ a.1 (dg a - 1) = 1 ∧ ∃ s t, padd (pmul s a) (pmul t (pder a)) = pC p 1
theorem fit_of {p : Int} {a d s t : Pz p} (h1 : dg a = 4 ∨ dg a = 6) (h2 : a.1 (dg a - 1) = 1) (hb : BZ a (pder a) d s t) : Fit a ↔ dg d = 1 := by
  obtain ⟨b1, b2, b3, b4, -, -⟩ := hb
  constructor
  · rintro ⟨-, -, x, y, e⟩
    obtain ⟨u, hu⟩ := b2
    obtain ⟨v, hv⟩ := b3
    replace hu : a = pmul d u := hu
    replace hv : pder a = pmul d v := hv
    have e2 : pmul d (padd (pmul u x) (pmul v y)) = pC p 1 := by
      rw [← e, hv]
      have e3 : pmul x a = pmul d (pmul u x) := by rw [hu, pmul_comm x, pmul_assoc]
      have e4 : pmul y (pmul d v) = pmul d (pmul v y) := by rw [pmul_comm y, pmul_assoc]
      rw [e3, e4, pmul_comm d, padd_mul, pmul_comm _ d, pmul_comm _ d]
    by_cases hz : dg (padd (pmul u x) (pmul v y)) = 0
    · exfalso
      rw [dg_zero.mp hz, pmul_comm, pC_zero_mul] at e2
      have e5 := congrArg (fun q : Pz p => q.1 0) e2
      have e6 : (0 : Int) % p = 1 % p := e5
      rw [Int.zero_emod] at e6
      have e7 := b4.2
      have e8 := d.2.1 (dg d - 1)
      rw [e7] at e8
      omega
    · have hmul : dg (pmul d (padd (pmul u x) (pmul v y))) + 1 = dg d + dg (padd (pmul u x) (pmul v y)) := by
        have g1 := dg_mul_le d (padd (pmul u x) (pmul v y))
        have g2 : dg (pC p 1) ≤ 1 := dg_le fun k hk => by rw [pC_c, if_neg (by omega)]; exact Int.zero_emod _
        have htop := cv_top (dg d - 1) (dg (padd (pmul u x) (pmul v y)) - 1) d.1 (padd (pmul u x) (pmul v y)).1 (fun i hi => dg_far d (by omega)) (fun i hi => dg_far _ (by omega))
        have hne : (pmul d (padd (pmul u x) (pmul v y))).1 (dg d - 1 + (dg (padd (pmul u x) (pmul v y)) - 1)) ≠ 0 := by
          rw [pmul_c, htop, b4.2, Int.one_mul, (padd (pmul u x) (pmul v y)).2.1]
          exact dg_top _ hz
        have hb4 := b4.1
        have := dg_eq (a := pmul d (padd (pmul u x) (pmul v y))) (n := dg d - 1 + (dg (padd (pmul u x) (pmul v y)) - 1)) (fun k hk => by
          rw [pmul_c, cv_far k (dg d) (dg (padd (pmul u x) (pmul v y))) d.1 _ (fun i hi => dg_far d hi) (fun i hi => dg_far _ hi) (by omega)]; exact Int.zero_emod _) hne
        omega
      have g2 : dg (pC p 1) ≤ 1 := dg_le fun k hk => by rw [pC_c, if_neg (by omega)]; exact Int.zero_emod _
      rw [e2] at hmul
      have := b4.1
      omega
  · intro e
    have e2 : d = pC p 1 := by
      rw [dg_1 e]; congr 1
      have := b4.2; rw [e] at this; exact this
    exact ⟨h1, h2, s, t, by rw [← b1, e2]⟩
theorem Fit.cv {p : Int} {a : Pz p} (hp : Pr p) (h : Fit a) : Cv a (dg a / 2 - 1) := by
  obtain ⟨h1, h2, s, t, e⟩ := h
  refine ⟨by omega, by omega, ⟨by omega, h2⟩, fun d hd => ?_⟩
  obtain ⟨c, hc⟩ := hd
  replace hc : a = pmul (pmul d d) c := hc
  have e1 : pder a = pmul d (padd (padd (pmul (pder d) c) (pmul (pder d) c)) (pmul d (pder c))) := by
    rw [hc, pder_mul, pder_mul]; exact @rg_sqf (Pz p) (pring p) d c (pder d) (pder c)
  generalize padd (padd (pmul (pder d) c) (pmul (pder d) c)) (pmul d (pder c)) = w at e1
  refine ⟨padd (pmul (pmul d c) s) (pmul w t), ?_⟩
  show pmul d (padd (pmul (pmul d c) s) (pmul w t)) = pC p 1
  rw [← e, e1]
  have e3 : pmul s a = pmul d (pmul (pmul d c) s) := by rw [hc, pmul_comm s, pmul_assoc d d c, pmul_assoc]
  have e4 : pmul t (pmul d w) = pmul d (pmul w t) := by rw [pmul_comm t, pmul_assoc]
  rw [e3, e4, pmul_comm d, padd_mul, pmul_comm _ d, pmul_comm _ d]
