/-! WHAT IS LEFT OF f BY (x - a) (x - a) - D, by one number after the other -/
def hrS (p a D : Int) : Nat → (Nat → Int) → Int × Int
  | 0, _ => (0, 0)
  | n + 1, c => (((hrS p a D n (sh c)).2 + a * (hrS p a D n (sh c)).1) % p, (c 0 + a * (hrS p a D n (sh c)).2 + D * (hrS p a D n (sh c)).1) % p)
theorem hrS_rg {p : Int} (hp : Pr p) (a D : Int) : ∀ n c, (0 ≤ (hrS p a D n c).1 ∧ (hrS p a D n c).1 < p) ∧ (0 ≤ (hrS p a D n c).2 ∧ (hrS p a D n c).2 < p)
  | 0, c => by have := hp.pos; exact ⟨⟨Int.le_refl _, by show (0 : Int) < p; omega⟩, ⟨Int.le_refl _, by show (0 : Int) < p; omega⟩⟩
  | n + 1, c => by have := hp.pos; exact ⟨⟨Int.emod_nonneg _ (by omega), Int.emod_lt_of_pos _ (by omega)⟩, ⟨Int.emod_nonneg _ (by omega), Int.emod_lt_of_pos _ (by omega)⟩⟩
def psh {p : Int} (f : Pz p) : Pz p := ⟨sh f.1, fun k => f.2.1 (k + 1), f.2.2.elim fun n h => ⟨n, fun k hk => h (k + 1) (by omega)⟩⟩
theorem psh_dg {p : Int} (f : Pz p) {n : Nat} (h : dg f ≤ n + 1) : dg (psh f) ≤ n := dg_le fun k hk => dg_far f (by omega)
theorem psh_is {p : Int} (f : Pz p) : f = padd (pmul (pM p 1 1) (psh f)) (pC p (f.1 0)) := Pz.ext fun k => by
  rw [padd_c, pM_mul, pC_c]
  by_cases e : k = 0
  · rw [if_neg (by omega), if_pos e, e, Int.zero_emod, Int.zero_add, md_md, f.2.1]
  · rw [if_pos (by omega), if_neg e, Int.zero_emod, Int.add_zero, Int.one_mul, md_md]
    show f.1 k = f.1 (k - 1 + 1) % p
    rw [show k - 1 + 1 = k by omega, f.2.1]
theorem hr_alg {R : Type} [Lean.Grind.CommRing R] {X A Dc U1 U0 q' r s c0 f' : R} (h1 : U1 = -(A + A)) (h0 : U0 = A * A + -Dc) (hf : f' = (X * X + U1 * X + U0) * q' + (r * (X + -A) + s)) : X * f' + c0 = (X * X + U1 * X + U0) * (X * q' + r) + ((s + A * r) * (X + -A) + (c0 + A * s + Dc * r)) := by
  rw [hf, h1, h0]; grind
theorem hrS_rem {p : Int} {u1 u0 a D : Int} (h1 : u1 % p = (-(a + a)) % p) (h0 : u0 % p = (a * a + -D) % p) : ∀ (n : Nat) (f : Pz p), dg f ≤ n → ∃ q, f = padd (pmul (qd p u1 u0) q) (padd (pmul (pC p (hrS p a D n f.1).1) (padd (pM p 1 1) (pneg (pC p a)))) (pC p (hrS p a D n f.1).2))
  | 0, f, h => ⟨pC p 0, by
    have : f = pC p 0 := dg_zero.mp (by omega)
    rw [this]
    show pC p 0 = padd (pmul (qd p u1 u0) (pC p 0)) (padd (pmul (pC p 0) _) (pC p 0))
    rw [pC_zero_mul, pmul_comm, pC_zero_mul, pC_zero_add, pC_zero_add]⟩
  | n + 1, f, h => by
    obtain ⟨q, hq⟩ := hrS_rem h1 h0 n (psh f) (psh_dg f h)
    have e1 : pC p u1 = pneg (padd (pC p a) (pC p a)) := by rw [← pC_add, ← pC_neg]; exact pC_eq h1
    have e0 : pC p u0 = padd (pmul (pC p a) (pC p a)) (pneg (pC p D)) := by rw [pC_pC, ← pC_neg, ← pC_add]; exact pC_eq h0
    have k := @hr_alg (Pz p) (pring p) (pM p 1 1) (pC p a) (pC p D) (pC p u1) (pC p u0) q _ _ (pC p (f.1 0)) (psh f) e1 e0 (by rw [qd_X] at hq; exact hq)
    refine ⟨padd (pmul (pM p 1 1) q) (pC p (hrS p a D n (sh f.1)).1), ?_⟩
    have k2 : f = padd (pmul (qd p u1 u0) (padd (pmul (pM p 1 1) q) (pC p (hrS p a D n (sh f.1)).1))) (padd (pmul (padd (pC p (hrS p a D n (sh f.1)).2) (pmul (pC p a) (pC p (hrS p a D n (sh f.1)).1))) (padd (pM p 1 1) (pneg (pC p a)))) (padd (padd (pC p (f.1 0)) (pmul (pC p a) (pC p (hrS p a D n (sh f.1)).2))) (pmul (pC p D) (pC p (hrS p a D n (sh f.1)).1)))) := by
      rw [qd_X]; exact (psh_is f).trans k
    have k3 : pC p (hrS p a D (n + 1) f.1).1 = padd (pC p (hrS p a D n (sh f.1)).2) (pmul (pC p a) (pC p (hrS p a D n (sh f.1)).1)) := by
      rw [pC_pC, ← pC_add]; exact pC_eq (md_md _ _)
    have k4 : pC p (hrS p a D (n + 1) f.1).2 = padd (padd (pC p (f.1 0)) (pmul (pC p a) (pC p (hrS p a D n (sh f.1)).2))) (pmul (pC p D) (pC p (hrS p a D n (sh f.1)).1)) := by
      rw [pC_pC, pC_pC, ← pC_add, ← pC_add]; exact pC_eq (md_md _ _)
    rw [k3, k4]; exact k2
theorem hrS_rmd {p : Int} (hp : Pr p) {u1 u0 a D : Int} (h1 : u1 % p = (-(a + a)) % p) (h0 : u0 % p = (a * a + -D) % p) {n : Nat} {f : Pz p} (h : dg f ≤ n) : (rmd f (qd p u1 u0)).1 1 = (hrS p a D n f.1).1 ∧ (rmd f (qd p u1 u0)).1 0 = ((hrS p a D n f.1).2 - a * (hrS p a D n f.1).1) % p := by
  have hpp := hp.pos
  obtain ⟨q, hq⟩ := hrS_rem h1 h0 n f h
  obtain ⟨⟨r1, r2⟩, -⟩ := hrS_rg hp a D n f.1
  generalize (hrS p a D n f.1).1 = r at *
  generalize (hrS p a D n f.1).2 = s at *
  have cf : ∀ k, (padd (pmul (pC p r) (padd (pM p 1 1) (pneg (pC p a)))) (pC p s)).1 k = (if k = 0 then s - a * r else if k = 1 then r else 0) % p := fun k => by
    rw [padd_c, pC_mul, padd_c, pM_c, pneg_c, pC_c, pC_c]
    by_cases e : k = 0
    · rw [if_neg (by omega), if_pos e, if_pos e, if_pos e]
      rw [md_add (a' := r * (0 + -a)) (b' := s) ((md_md _ _).trans (md_mul rfl ((md_md _ _).trans (md_add (md_md _ _) ((md_md _ _).trans (md_neg (md_md _ _))))))) (md_md _ _)]
      congr 1; rw [Int.zero_add, Int.mul_neg, Int.mul_comm r a]; omega
    · rw [if_neg e, if_neg e, if_neg e]
      by_cases e2 : k = 1
      · rw [if_pos e2, if_pos e2]
        rw [md_add (a' := r * (1 + -0)) (b' := 0) ((md_md _ _).trans (md_mul rfl ((md_md _ _).trans (md_add (md_md _ _) ((md_md _ _).trans (md_neg (md_md _ _))))))) (md_md _ _)]
        congr 1; omega
      · rw [if_neg e2, if_neg e2]
        rw [md_add (a' := r * (0 + -0)) (b' := 0) ((md_md _ _).trans (md_mul rfl ((md_md _ _).trans (md_add (md_md _ _) ((md_md _ _).trans (md_neg (md_md _ _))))))) (md_md _ _)]
        congr 1; omega
  have hd : dg (padd (pmul (pC p r) (padd (pM p 1 1) (pneg (pC p a)))) (pC p s)) < dg (qd p u1 u0) := by
    rw [qd_dg hp]
    have : dg (padd (pmul (pC p r) (padd (pM p 1 1) (pneg (pC p a)))) (pC p s)) ≤ 2 := dg_le fun k hk => by
      rw [cf, if_neg (by omega), if_neg (by omega)]; exact Int.zero_emod _
    omega
  rw [rmd_is hp hq hd, cf, cf]
  rw [if_neg (by omega), if_pos rfl, if_pos rfl]
  exact ⟨Int.emod_eq_of_lt r1 r2, rfl⟩
/-- the same at a number of the field of P P -/
theorem hrS_hv {p : Int} (hp : Pr p) {a b D ν : Int} (ha : 0 ≤ a ∧ a < p) (hb : 0 ≤ b ∧ b < p) (hD : D % p = (ν * (b * b)) % p) : ∀ n c, hv p ν (a + b * p) n c = (hrS p a D n c).2 + (hrS p a D n c).1 * b % p * p
  | 0, c => by
    show (0 : Int) = 0 + 0 * b % p * p
    rw [Int.zero_mul, Int.zero_emod, Int.zero_mul]; rfl
  | n + 1, c => by
    have hpp := hp.pos
    have ih := hrS_hv hp ha hb hD n (sh c)
    obtain ⟨⟨r1, r2⟩, ⟨s1, s2⟩⟩ := hrS_rg hp a D n (sh c)
    show wpl p (wtc p ν (hv p ν (a + b * p) n (sh c)) (a + b * p)) (c 0) = (c 0 + a * (hrS p a D n (sh c)).2 + D * (hrS p a D n (sh c)).1) % p + ((hrS p a D n (sh c)).2 + a * (hrS p a D n (sh c)).1) % p * b % p * p
    rw [ih]
    generalize (hrS p a D n (sh c)).1 = r at *
    generalize (hrS p a D n (sh c)).2 = s at *
    have t1 := Int.emod_nonneg (r * b) (b := p) (by omega)
    have t2 := Int.emod_lt_of_pos (r * b) (b := p) (by omega)
    have dm : ∀ x y : Int, 0 ≤ x → x < p → (x + y * p) % p = x ∧ (x + y * p) / p = y := fun x y h0 h1 => by
      constructor
      · rw [Int.add_mul_emod_self_right, Int.emod_eq_of_lt h0 h1]
      · rw [Int.add_mul_ediv_right _ _ (by omega), Int.ediv_eq_zero_of_lt h0 h1, Int.zero_add]
    unfold wtc
    rw [(dm s (r * b % p) s1 s2).1, (dm s (r * b % p) s1 s2).2, (dm a b ha.1 ha.2).1, (dm a b ha.1 ha.2).2]
    have u1 := Int.emod_nonneg (s * a + r * b % p * b * ν) (b := p) (by omega)
    have u2 := Int.emod_lt_of_pos (s * a + r * b % p * b * ν) (b := p) (by omega)
    unfold wpl
    rw [(dm _ _ u1 u2).1]
    have e1 : ((s * a + r * b % p * b * ν) % p + c 0) % p = (c 0 + a * s + D * r) % p := by
      have q1 : ((s * a + r * b % p * b * ν) % p + c 0) % p = (s * a + r * b * b * ν + c 0) % p := md_add ((md_md _ _).trans (md_add rfl (md_mul (md_mul (md_md _ _) rfl) rfl))) rfl
      have q2 : (c 0 + a * s + D * r) % p = (c 0 + a * s + ν * (b * b) * r) % p := md_add rfl (md_mul hD rfl)
      rw [q1, q2]; congr 1; grind
    have e2 : (s * b + r * b % p * a) % p = (s + a * r) % p * b % p := by
      have q1 : (s * b + r * b % p * a) % p = (s * b + r * b * a) % p := md_add rfl (md_mul (md_md _ _) rfl)
      have q2 : (s + a * r) % p * b % p = (s + a * r) * b % p := md_mul (md_md _ _) rfl
      rw [q1, q2]; congr 1; grind
    rw [e1, e2]; omega
/-- the same at a number by P -/
theorem hrS_ev {p : Int} {a b D x : Int} (hx : x % p = (a + b) % p) (hD : D % p = (b * b) % p) : ∀ n c, ev x n c % p = ((hrS p a D n c).2 + (hrS p a D n c).1 * b) % p
  | 0, c => by show (0 : Int) % p = (0 + 0 * b) % p; rw [Int.zero_mul]; rfl
  | n + 1, c => by
    have ih := hrS_ev hx hD n (sh c)
    show (c 0 + x * ev x n (sh c)) % p = ((c 0 + a * (hrS p a D n (sh c)).2 + D * (hrS p a D n (sh c)).1) % p + ((hrS p a D n (sh c)).2 + a * (hrS p a D n (sh c)).1) % p * b) % p
    generalize (hrS p a D n (sh c)).1 = r at *
    generalize (hrS p a D n (sh c)).2 = s at *
    have q1 : (c 0 + x * ev x n (sh c)) % p = (c 0 + (a + b) * (s + r * b)) % p := md_add rfl (md_mul hx ih)
    have q2 : ((c 0 + a * s + D * r) % p + (s + a * r) % p * b) % p = (c 0 + a * s + b * b * r + (s + a * r) * b) % p := md_add ((md_md _ _).trans (md_add rfl (md_mul hD rfl))) (md_mul (md_md _ _) rfl)
    rw [q1, q2]; congr 1; grind
theorem hrS_pev {p : Int} {a b D x : Int} (hx : x % p = (a + b) % p) (hD : D % p = (b * b) % p) (f : Pz p) : pev f x = ((hrS p a D (dg f) f.1).2 + (hrS p a D (dg f) f.1).1 * b) % p := hrS_ev hx hD (dg f) f.1
