/-! PAIRS u, v AND THEIR IDEALS: sums, lowering, one reduced pair alone -/
def Euc (R : Type) [Lean.Grind.CommRing R] (dg : R → Nat) (mo : R → Prop) : Prop :=
  (∀ a, dg a = 0 ↔ a = 0) ∧ (∀ a b, dg (a + b) ≤ max (dg a) (dg b)) ∧ (∀ a, dg (-a) = dg a) ∧ (∀ a b, dg a ≠ 0 → dg b ≠ 0 → dg (a * b) + 1 = dg a + dg b) ∧
  (∀ a b, dg b ≠ 0 → ∃ q r, a = b * q + r ∧ dg r < dg b) ∧ (∀ a, dg a = 1 → ∃ b, a * b = 1) ∧ (∃ h : R, h + h = 1) ∧ dg 1 = 1 ∧
  (∀ a b, mo a → mo b → Dv a b → Dv b a → a = b) ∧ (∀ a, a ≠ 0 → ∃ c d, c * d = 1 ∧ mo (a * c)) ∧ (∀ a, mo a → a ≠ 0)
theorem Euc.z {R : Type} [Lean.Grind.CommRing R] {dg : R → Nat} {mo : R → Prop} (E : Euc R dg mo) {a : R} : dg a = 0 ↔ a = 0 := E.1 a
theorem Euc.nz {R : Type} [Lean.Grind.CommRing R] {dg : R → Nat} {mo : R → Prop} (E : Euc R dg mo) {a : R} (h : a ≠ 0) : dg a ≠ 0 := fun e => h (E.z.mp e)
theorem Euc.mul {R : Type} [Lean.Grind.CommRing R] {dg : R → Nat} {mo : R → Prop} (E : Euc R dg mo) {a b : R} (h1 : a ≠ 0) (h2 : b ≠ 0) : dg (a * b) + 1 = dg a + dg b := E.2.2.2.1 a b (E.nz h1) (E.nz h2)
theorem Euc.dom {R : Type} [Lean.Grind.CommRing R] {dg : R → Nat} {mo : R → Prop} (E : Euc R dg mo) : Dom R := by
  refine ⟨fun a b h => ?_, fun h => ?_⟩
  · by_cases h1 : a = 0
    · exact Or.inl h1
    · by_cases h2 : b = 0
      · exact Or.inr h2
      · have := E.mul h1 h2
        rw [h, E.z.mpr rfl] at this
        have := E.nz h1; have := E.nz h2; omega
  · have := E.2.2.2.2.2.2.2.1
    rw [h, E.z.mpr rfl] at this; omega
theorem Euc.add {R : Type} [Lean.Grind.CommRing R] {dg : R → Nat} {mo : R → Prop} (E : Euc R dg mo) (a b : R) : dg (a + b) ≤ max (dg a) (dg b) := E.2.1 a b
theorem Euc.sub {R : Type} [Lean.Grind.CommRing R] {dg : R → Nat} {mo : R → Prop} (E : Euc R dg mo) (a b : R) : dg (a - b) ≤ max (dg a) (dg b) := by
  have e : a - b = a + -b := by grind
  rw [e, ← E.2.2.1 b]; exact E.add _ _
theorem Euc.sub_gt {R : Type} [Lean.Grind.CommRing R] {dg : R → Nat} {mo : R → Prop} (E : Euc R dg mo) {a b : R} (h : dg a < dg b) : dg b ≤ dg (a - b) := by
  have e : b = a - (a - b) := by grind
  have := E.sub a (a - b)
  rw [← e] at this; omega
theorem Euc.sub_lt {R : Type} [Lean.Grind.CommRing R] {dg : R → Nat} {mo : R → Prop} (E : Euc R dg mo) {a b : R} (h : dg b < dg a) : dg a ≤ dg (a - b) := by
  have e : a = (a - b) + b := by grind
  have := E.add (a - b) b
  rw [← e] at this; omega
theorem Euc.small {R : Type} [Lean.Grind.CommRing R] {dg : R → Nat} {mo : R → Prop} (E : Euc R dg mo) {u x : R} (hu : u ≠ 0) (h : Dv u x) (hd : dg x < dg u) : x = 0 := by
  obtain ⟨k, rfl⟩ := h
  by_cases hk : k = 0
  · subst hk; grind
  · have := E.mul hu hk
    have := E.nz hk; omega
theorem Euc.bez {R : Type} [Lean.Grind.CommRing R] {dg : R → Nat} {mo : R → Prop} (E : Euc R dg mo) : ∀ (n : Nat) (a b : R), dg b ≤ n → ∃ d s t, d = s * a + t * b ∧ Dv d a ∧ Dv d b
  | 0, a, b, h => by
    have hb : b = 0 := E.z.mp (by omega)
    subst hb
    exact ⟨a, 1, 0, by grind, Dv.rf a, Dv.zero a⟩
  | n + 1, a, b, h => by
    by_cases hb : b = 0
    · subst hb
      exact ⟨a, 1, 0, by grind, Dv.rf a, Dv.zero a⟩
    · obtain ⟨q, r, e, hr⟩ := E.2.2.2.2.1 a b (E.nz hb)
      obtain ⟨d, s, t, e2, h1, h2⟩ := E.bez n b r (by omega)
      refine ⟨d, t, s - t * q, by grind, ?_, h1⟩
      rw [e]
      have := (h1.mul q).add h2
      have e3 : b * q = q * b := by grind
      rw [e3]; exact this
/-- no part twice -/
def Sqf {R : Type} [Lean.Grind.CommRing R] (f : R) : Prop := ∀ d, Dv (d * d) f → ∃ e, d * e = 1
abbrev bim {R : Type} [Lean.Grind.CommRing R] {f : R} (P Q : BB R f → Prop) : BB R f → Prop := @imul (BB R f) (bring f) P Q
abbrev bsc {R : Type} [Lean.Grind.CommRing R] {f : R} (t : BB R f) (P : BB R f → Prop) : BB R f → Prop := @isc (BB R f) (bring f) t P
abbrev beq {R : Type} [Lean.Grind.CommRing R] {f : R} (P Q : BB R f → Prop) : Prop := @eqv (BB R f) (bring f) P Q
abbrev bis {R : Type} [Lean.Grind.CommRing R] {f : R} (P : BB R f → Prop) : Prop := @IsI (BB R f) (bring f) P
def II {R : Type} [Lean.Grind.CommRing R] (f u v : R) : BB R f → Prop := fun x => Dv u (x.1 + x.2 * v)
theorem II_is {R : Type} [Lean.Grind.CommRing R] {f u v : R} (h : Dv u (v * v - f)) : bis (II f u v) := by
  obtain ⟨w, hw⟩ := h
  refine ⟨⟨0, ?_⟩, ?_, ?_⟩
  · show (OfNat.ofNat 0 : R) + 0 * v = u * 0
    grind
  · rintro ⟨a1, a2⟩ ⟨b1, b2⟩ ⟨x, hx⟩ ⟨y, hy⟩
    refine ⟨x + y, ?_⟩
    show (a1 + b1) + (a2 + b2) * v = u * (x + y)
    replace hx : a1 + a2 * v = u * x := hx
    replace hy : b1 + b2 * v = u * y := hy
    grind
  · rintro ⟨c1, c2⟩ ⟨a1, a2⟩ ⟨x, hx⟩
    refine ⟨c1 * x + c2 * v * x - c2 * a2 * w, ?_⟩
    show (c1 * a1 + c2 * a2 * f) + (c1 * a2 + c2 * a1) * v = u * (c1 * x + c2 * v * x - c2 * a2 * w)
    replace hx : a1 + a2 * v = u * x := hx
    have e : f = v * v - u * w := by grind
    have e2 : a1 = u * x - a2 * v := by grind
    subst e2
    rw [e]; grind
/-- the norm: no part of nought among functions -/
def bnm {R : Type} [Lean.Grind.CommRing R] {f : R} (x : BB R f) : R := x.1 * x.1 - x.2 * x.2 * f
theorem bnm_ne {R : Type} [Lean.Grind.CommRing R] {dg : R → Nat} {mo : R → Prop} (E : Euc R dg mo) {f : R} {g : Nat} (hf : dg f = 2 * g + 2) {x : BB R f} (h : bnm x = 0) : x.1 = 0 ∧ x.2 = 0 := by
  have hD := E.dom
  have hf0 : f ≠ 0 := fun e => by rw [E.z.mpr e] at hf; omega
  by_cases h2 : x.2 = 0
  · refine ⟨?_, h2⟩
    have e : x.1 * x.1 = 0 := by
      have : bnm x = x.1 * x.1 - x.2 * x.2 * f := rfl
      grind
    exact (hD.1 _ _ e).elim id id
  · exfalso
    have e : x.1 * x.1 = x.2 * x.2 * f := by
      have : bnm x = x.1 * x.1 - x.2 * x.2 * f := rfl
      grind
    have n1 := E.mul (hD.ne h2 h2) hf0
    have n2 := E.mul h2 h2
    have n3 := E.nz h2
    by_cases h1 : x.1 = 0
    · rw [h1] at e
      have : x.2 * x.2 * f = 0 := by grind
      rw [E.z.mpr this] at n1; omega
    · have n4 := E.mul h1 h1
      rw [e] at n4
      omega
theorem bdom {R : Type} [Lean.Grind.CommRing R] {dg : R → Nat} {mo : R → Prop} (E : Euc R dg mo) {f : R} {g : Nat} (hf : dg f = 2 * g + 2) : @Dom (BB R f) (bring f) := by
  refine ⟨fun a b h => ?_, fun h => ?_⟩
  · have h1 : a.1 * b.1 + a.2 * b.2 * f = OfNat.ofNat 0 := congrArg Prod.fst h
    have h2 : a.1 * b.2 + a.2 * b.1 = 0 := congrArg Prod.snd h
    have e : bnm a * bnm b = 0 := by
      show (a.1 * a.1 - a.2 * a.2 * f) * (b.1 * b.1 - b.2 * b.2 * f) = 0
      have e2 : (a.1 * a.1 - a.2 * a.2 * f) * (b.1 * b.1 - b.2 * b.2 * f) = (a.1 * b.1 + a.2 * b.2 * f) * (a.1 * b.1 + a.2 * b.2 * f) - (a.1 * b.2 + a.2 * b.1) * (a.1 * b.2 + a.2 * b.1) * f := by grind
      rw [e2, h1, h2]; grind
    rcases E.dom.1 _ _ e with q | q
    · obtain ⟨q1, q2⟩ := bnm_ne E hf q
      exact Or.inl (BB.ext q1 q2)
    · obtain ⟨q1, q2⟩ := bnm_ne E hf q
      exact Or.inr (BB.ext q1 q2)
  · have : (OfNat.ofNat 1 : R) = OfNat.ofNat 0 := congrArg Prod.fst h
    exact E.dom.2 this
theorem pr1 {R : Type} [Lean.Grind.CommRing R] {f u v w d x y z : R} (h1 : u = d * x) (h2 : v = d * y) (h3 : w = d * z) (hw : v * v - f = u * w) : f = d * d * (y * y - x * z) := by
  subst h1; subst h2; subst h3
  have e : f = d * y * (d * y) - d * x * (d * z) := by rw [← hw]; grind
  rw [e]; grind
theorem pr2 {R : Type} [Lean.Grind.CommRing R] {u v w d d1 e s t s' t' h : R} (e1 : d1 = s * u + t * v) (e2 : d = s' * d1 + t' * w) (he : d * e = 1) (hh : h + h = 1) : e * s' * s * u + e * s' * t * h * (v + v) + e * t' * w = 1 := by
  have e3 : e * s' * s * u + e * s' * t * h * (v + v) + e * t' * w = e * (s' * (s * u + t * ((h + h) * v)) + t' * w) := by clear e1 e2 he hh; grind
  rw [e3, hh]
  have e4 : (1 : R) * v = v := by clear e1 e2 he hh e3; grind
  rw [e4, ← e1, ← e2]
  have e5 : e * d = d * e := by clear e1 e2 he hh e3 e4; grind
  rw [e5, he]
theorem primi {R : Type} [Lean.Grind.CommRing R] {dg : R → Nat} {mo : R → Prop} (E : Euc R dg mo) {f u v w : R} (hS : Sqf f) (hw : v * v - f = u * w) : ∃ a b c, a * u + b * (v + v) + c * w = 1 := by
  obtain ⟨d1, s, t, e1, h1, h2⟩ := E.bez _ u v (Nat.le_refl _)
  obtain ⟨d, s', t', e2, h3, h4⟩ := E.bez _ d1 w (Nat.le_refl _)
  obtain ⟨x, hx⟩ := h3.tr h1
  obtain ⟨y, hy⟩ := h3.tr h2
  obtain ⟨z, hz⟩ := h4
  obtain ⟨e, he⟩ := hS d ⟨y * y - x * z, pr1 hx hy hz hw⟩
  obtain ⟨h, hh⟩ := E.2.2.2.2.2.2.1
  exact ⟨e * s' * s, e * s' * t * h, e * t', pr2 e1 e2 he hh⟩
theorem II_1 {R : Type} [Lean.Grind.CommRing R] (f u v : R) : II f u v (u, 0) := ⟨1, by show u + 0 * v = u * 1; grind⟩
theorem II_2 {R : Type} [Lean.Grind.CommRing R] (f u v : R) : II f u v (-v, 1) := ⟨0, by show -v + 1 * v = u * 0; grind⟩
theorem II_e {R : Type} [Lean.Grind.CommRing R] {f u v a b : R} (h : II f u v (a, b)) : ∃ k, a = u * k - b * v := by
  obtain ⟨k, hk⟩ := h
  replace hk : a + b * v = u * k := hk
  exact ⟨k, by rw [← hk]; clear hk; grind⟩
theorem II_m {R : Type} [Lean.Grind.CommRing R] {f u v a b k : R} (h : a = u * k - b * v) : II f u v (a, b) := ⟨k, by show a + b * v = u * k; rw [h]; clear h; grind⟩
theorem cm1 {R : Type} [Lean.Grind.CommRing R] {f u1 v1 u2 v2 d s1 s2 s3 U1 U2 v3 t w2 : R} (hd : d = s1 * u1 + s2 * u2 + s3 * (v1 + v2)) (h2 : u2 = d * U2) (hw : v2 * v2 - f = u2 * w2) (hv : d * v3 = s1 * u1 * v2 + s2 * u2 * v1 + s3 * (v1 * v2 + f) + d * (U1 * U2) * t) :
    d * (v3 - v2) = d * (U2 * (s2 * (v1 - v2) - s3 * w2 + U1 * t)) := by
  have e1 : d * (v3 - v2) = d * v3 - d * v2 := by clear hd h2 hw hv; grind
  have e2 : d * v2 = (s1 * u1 + s2 * u2 + s3 * (v1 + v2)) * v2 := by rw [← hd]
  have e3 : s1 * u1 * v2 + s2 * u2 * v1 + s3 * (v1 * v2 + f) + d * (U1 * U2) * t - (s1 * u1 + s2 * u2 + s3 * (v1 + v2)) * v2 = u2 * (s2 * (v1 - v2)) - s3 * (v2 * v2 - f) + d * (U1 * U2) * t := by clear hd h2 hw hv e1 e2; grind
  rw [e1, hv, e2, e3, hw, h2]
  clear hd h2 hw hv e1 e2 e3; grind
theorem cm2 {R : Type} [Lean.Grind.CommRing R] {f u1 v1 u2 v2 d s1 s2 s3 U1 U2 v3 t w1 : R} (hd : d = s1 * u1 + s2 * u2 + s3 * (v1 + v2)) (h1 : u1 = d * U1) (hw : v1 * v1 - f = u1 * w1) (hv : d * v3 = s1 * u1 * v2 + s2 * u2 * v1 + s3 * (v1 * v2 + f) + d * (U1 * U2) * t) :
    d * (v3 - v1) = d * (U1 * (s1 * (v2 - v1) - s3 * w1 + U2 * t)) := by
  have e1 : d * (v3 - v1) = d * v3 - d * v1 := by clear hd h1 hw hv; grind
  have e2 : d * v1 = (s1 * u1 + s2 * u2 + s3 * (v1 + v2)) * v1 := by rw [← hd]
  have e3 : s1 * u1 * v2 + s2 * u2 * v1 + s3 * (v1 * v2 + f) + d * (U1 * U2) * t - (s1 * u1 + s2 * u2 + s3 * (v1 + v2)) * v1 = u1 * (s1 * (v2 - v1)) - s3 * (v1 * v1 - f) + d * (U1 * U2) * t := by clear hd h1 hw hv e1 e2; grind
  rw [e1, hv, e2, e3, hw, h1]
  clear hd h1 hw hv e1 e2 e3; grind
theorem cm3 {R : Type} [Lean.Grind.CommRing R] {f u1 v1 u2 v2 d s1 s2 s3 U1 U2 v3 t w1 w2 W : R} (hd : d = s1 * u1 + s2 * u2 + s3 * (v1 + v2)) (h1 : u1 = d * U1) (h2 : u2 = d * U2) (h3 : v1 + v2 = d * W) (hw1 : v1 * v1 - f = u1 * w1) (hw2 : v2 * v2 - f = u2 * w2) (hv : d * v3 = s1 * u1 * v2 + s2 * u2 * v1 + s3 * (v1 * v2 + f) + d * (U1 * U2) * t) :
    d * (d * (v1 * W - U1 * w1 - W * v3)) = d * (d * (U1 * U2 * (-s1 * w2 - s2 * w1 - W * t))) := by
  have e1 : d * (d * (v1 * W - U1 * w1 - W * v3)) = d * (v1 * (d * W) - (d * U1) * w1) - (d * W) * (d * v3) := by clear hd h1 h2 h3 hw1 hw2 hv; grind
  have e2 : v1 * (v1 + v2) - u1 * w1 = v1 * v2 + f := by rw [← hw1]; clear hd h1 h2 h3 hw1 hw2 hv e1; grind
  have e3 : d * (v1 * v2 + f) = (s1 * u1 + s2 * u2 + s3 * (v1 + v2)) * (v1 * v2 + f) := by rw [← hd]
  have e4 : (s1 * u1 + s2 * u2 + s3 * (v1 + v2)) * (v1 * v2 + f) - (v1 + v2) * (s1 * u1 * v2 + s2 * u2 * v1 + s3 * (v1 * v2 + f) + d * (U1 * U2) * t) = -(s1 * u1 * (v2 * v2 - f)) - s2 * u2 * (v1 * v1 - f) - (v1 + v2) * (d * (U1 * U2) * t) := by clear hd h1 h2 h3 hw1 hw2 hv e1 e2 e3; grind
  rw [e1, ← h3, ← h1, e2, e3, hv, e4, hw1, hw2, h3, h1, h2]
  clear hd h1 h2 h3 hw1 hw2 hv e1 e2 e3 e4; grind
theorem cp1 {R : Type} [Lean.Grind.CommRing R] (v1 v2 d U1 U2 W v3 w1 k1 k2 b1 b2 : R) : (d * (U1 * U2) * k1 * k2 - U1 * k1 * b2 * v2 - U2 * k2 * b1 * v1 + b1 * b2 * (v1 * W - U1 * w1)) + (U1 * k1 * b2 + U2 * k2 * b1 - b1 * b2 * W) * v3 = d * (U1 * U2) * k1 * k2 + U1 * k1 * b2 * (v3 - v2) + U2 * k2 * b1 * (v3 - v1) + b1 * b2 * (v1 * W - U1 * w1 - W * v3) := by grind
theorem cp2 {R : Type} [Lean.Grind.CommRing R] (d U1 U2 k1 k2 b1 b2 A B C : R) : d * (U1 * U2) * k1 * k2 + U1 * k1 * b2 * (U2 * A) + U2 * k2 * b1 * (U1 * B) + b1 * b2 * (U1 * U2 * C) = U1 * U2 * (d * k1 * k2 + k1 * b2 * A + k2 * b1 * B + b1 * b2 * C) := by grind
theorem cp3 {R : Type} [Lean.Grind.CommRing R] (v1 v2 d U1 U2 W w1 k1 k2 b1 b2 f : R) (hf : v1 * v2 + f = d * (v1 * W - U1 * w1)) : (d * U1 * k1 - b1 * v1) * (d * U2 * k2 - b2 * v2) + b1 * b2 * f = d * (d * (U1 * U2) * k1 * k2 - U1 * k1 * b2 * v2 - U2 * k2 * b1 * v1 + b1 * b2 * (v1 * W - U1 * w1)) + 0 * (U1 * k1 * b2 + U2 * k2 * b1 - b1 * b2 * W) * f := by
  have e : (d * U1 * k1 - b1 * v1) * (d * U2 * k2 - b2 * v2) + b1 * b2 * f = d * (d * (U1 * U2) * k1 * k2 - U1 * k1 * b2 * v2 - U2 * k2 * b1 * v1) + b1 * b2 * (v1 * v2 + f) := by clear hf; grind
  rw [e, hf]; clear hf e; grind
theorem cp4 {R : Type} [Lean.Grind.CommRing R] (v1 v2 d U1 U2 W k1 k2 b1 b2 z : R) (h3 : v1 + v2 = d * W) : (d * U1 * k1 - b1 * v1) * b2 + b1 * (d * U2 * k2 - b2 * v2) = d * (U1 * k1 * b2 + U2 * k2 * b1 - b1 * b2 * W) + 0 * z := by
  have e : (d * U1 * k1 - b1 * v1) * b2 + b1 * (d * U2 * k2 - b2 * v2) = d * (U1 * k1 * b2 + U2 * k2 * b1) - b1 * b2 * (v1 + v2) := by clear h3; grind
  rw [e, h3]; clear h3 e; grind
theorem comp_fwd {R : Type} [Lean.Grind.CommRing R] {f u1 v1 u2 v2 d U1 U2 W v3 w1 A B C : R} (h1 : u1 = d * U1) (h2 : u2 = d * U2) (h3 : v1 + v2 = d * W) (ef : v1 * v2 + f = d * (v1 * W - U1 * w1)) (c1 : v3 - v2 = U2 * A) (c2 : v3 - v1 = U1 * B) (c3 : v1 * W - U1 * w1 - W * v3 = U1 * U2 * C)
    (a b : BB R f) (ha : II f u1 v1 a) (hb : II f u2 v2 b) : bsc (d, 0) (II f (U1 * U2) v3) (bmul a b) := by
  obtain ⟨a1, b1⟩ := a
  obtain ⟨a2, b2⟩ := b
  obtain ⟨k1, ea⟩ := II_e ha
  obtain ⟨k2, eb⟩ := II_e hb
  refine ⟨(d * (U1 * U2) * k1 * k2 - U1 * k1 * b2 * v2 - U2 * k2 * b1 * v1 + b1 * b2 * (v1 * W - U1 * w1), U1 * k1 * b2 + U2 * k2 * b1 - b1 * b2 * W), ⟨d * k1 * k2 + k1 * b2 * A + k2 * b1 * B + b1 * b2 * C, ?_⟩, BB.ext ?_ ?_⟩
  · show (d * (U1 * U2) * k1 * k2 - U1 * k1 * b2 * v2 - U2 * k2 * b1 * v1 + b1 * b2 * (v1 * W - U1 * w1)) + (U1 * k1 * b2 + U2 * k2 * b1 - b1 * b2 * W) * v3 = _
    rw [cp1, c1, c2, c3]
    exact cp2 d U1 U2 k1 k2 b1 b2 A B C
  · show a1 * a2 + b1 * b2 * f = d * (d * (U1 * U2) * k1 * k2 - U1 * k1 * b2 * v2 - U2 * k2 * b1 * v1 + b1 * b2 * (v1 * W - U1 * w1)) + 0 * (U1 * k1 * b2 + U2 * k2 * b1 - b1 * b2 * W) * f
    rw [ea, eb, h1, h2]
    exact cp3 v1 v2 d U1 U2 W w1 k1 k2 b1 b2 f ef
  · show a1 * b2 + b1 * a2 = d * (U1 * k1 * b2 + U2 * k2 * b1 - b1 * b2 * W) + 0 * (d * (U1 * U2) * k1 * k2 - U1 * k1 * b2 * v2 - U2 * k2 * b1 * v1 + b1 * b2 * (v1 * W - U1 * w1))
    rw [ea, eb, h1, h2]
    exact cp4 v1 v2 d U1 U2 W k1 k2 b1 b2 _ h3
theorem cq1 {R : Type} [Lean.Grind.CommRing R] (d v1 U1 U2 W w1 a b c f v2 : R) (hp : a * (d * U1) + b * (v1 + v1) + c * w1 = 1) (h3 : v2 = d * W - v1) (hf : f = v1 * v1 - d * U1 * w1) :
    d * (U1 * U2) = (((a * U1 + b * W) * (d * U1 * (d * U2) + 0 * 0 * f) + 0 * (d * U1 * 0 + 0 * (d * U2)) * f) + ((b * U2) * (d * U1 * -v2 + 0 * 1 * f) + 0 * (d * U1 * 1 + 0 * -v2) * f)) + (((-(b * U1) - c * W) * (-v1 * (d * U2) + 1 * 0 * f) + 0 * (-v1 * 0 + 1 * (d * U2)) * f) + ((-(c * U2)) * (-v1 * -v2 + 1 * 1 * f) + 0 * (-v1 * 1 + 1 * -v2) * f)) := by
  have e : d * (U1 * U2) = d * (U1 * U2) * (a * (d * U1) + b * (v1 + v1) + c * w1) := by rw [hp]; clear hp h3 hf; grind
  rw [e, hf, h3]; clear hp h3 hf e; grind
theorem cq2 {R : Type} [Lean.Grind.CommRing R] (d v1 U1 U2 W a b c f v2 : R) (h3 : v2 = d * W - v1) :
    (0 : R) = (((a * U1 + b * W) * (d * U1 * 0 + 0 * (d * U2)) + 0 * (d * U1 * (d * U2) + 0 * 0 * f)) + ((b * U2) * (d * U1 * 1 + 0 * -v2) + 0 * (d * U1 * -v2 + 0 * 1 * f))) + (((-(b * U1) - c * W) * (-v1 * 0 + 1 * (d * U2)) + 0 * (-v1 * (d * U2) + 1 * 0 * f)) + ((-(c * U2)) * (-v1 * 1 + 1 * -v2) + 0 * (-v1 * -v2 + 1 * 1 * f))) := by
  rw [h3]; clear h3; grind
theorem cq3 {R : Type} [Lean.Grind.CommRing R] (f u1 v1 u2 v2 d s1 s2 s3 U1 U2 v3 t : R) (hv : d * v3 = s1 * u1 * v2 + s2 * u2 * v1 + s3 * (v1 * v2 + f) + d * (U1 * U2) * t) :
    -(d * v3) + (t * (d * (U1 * U2)) + 0 * 0 * f) = ((0 * (u1 * u2 + 0 * 0 * f) + 0 * (u1 * 0 + 0 * u2) * f) + (s1 * (u1 * -v2 + 0 * 1 * f) + 0 * (u1 * 1 + 0 * -v2) * f)) + ((s2 * (-v1 * u2 + 1 * 0 * f) + 0 * (-v1 * 0 + 1 * u2) * f) + ((-s3) * (-v1 * -v2 + 1 * 1 * f) + 0 * (-v1 * 1 + 1 * -v2) * f)) := by
  rw [hv]; clear hv; grind
theorem cq4 {R : Type} [Lean.Grind.CommRing R] (f u1 v1 u2 v2 d s1 s2 s3 U1 U2 t : R) (hd : d = s1 * u1 + s2 * u2 + s3 * (v1 + v2)) :
    d + (t * 0 + 0 * (d * (U1 * U2))) = ((0 * (u1 * 0 + 0 * u2) + 0 * (u1 * u2 + 0 * 0 * f)) + (s1 * (u1 * 1 + 0 * -v2) + 0 * (u1 * -v2 + 0 * 1 * f))) + ((s2 * (-v1 * 0 + 1 * u2) + 0 * (-v1 * u2 + 1 * 0 * f)) + ((-s3) * (-v1 * 1 + 1 * -v2) + 0 * (-v1 * -v2 + 1 * 1 * f))) := by
  rw [hd]; clear hd; grind
theorem cq5 {R : Type} [Lean.Grind.CommRing R] (f d X Y k t U1 U2 v3 : R) (hk : X = U1 * U2 * k - Y * v3) : d * X + 0 * Y * f = ((k - Y * t) * (d * (U1 * U2)) + 0 * 0 * f) + (Y * (-(d * v3) + (t * (d * (U1 * U2)) + 0 * 0 * f)) + 0 * (d + (t * 0 + 0 * (d * (U1 * U2)))) * f) := by
  rw [hk]; clear hk; grind
theorem cq6 {R : Type} [Lean.Grind.CommRing R] (f d X Y k t U1 U2 v3 : R) : d * Y + 0 * X = ((k - Y * t) * 0 + 0 * (d * (U1 * U2))) + (Y * (d + (t * 0 + 0 * (d * (U1 * U2)))) + 0 * (-(d * v3) + (t * (d * (U1 * U2)) + 0 * 0 * f))) := by grind
theorem comp_bwd {R : Type} [Lean.Grind.CommRing R] {f u1 v1 u2 v2 d s1 s2 s3 U1 U2 W v3 t w1 a b c : R} (h1 : u1 = d * U1) (h2 : u2 = d * U2) (h3 : v2 = d * W - v1) (hf : f = v1 * v1 - d * U1 * w1) (hp : a * (d * U1) + b * (v1 + v1) + c * w1 = 1) (hd : d = s1 * u1 + s2 * u2 + s3 * (v1 + v2))
    (hv : d * v3 = s1 * u1 * v2 + s2 * u2 * v1 + s3 * (v1 * v2 + f) + d * (U1 * U2) * t) (x : BB R f) (hx : bsc (d, 0) (II f (U1 * U2) v3) x) : bim (II f u1 v1) (II f u2 v2) x := by
  obtain ⟨⟨X, Y⟩, hXY, rfl⟩ := hx
  obtain ⟨k, hk⟩ := II_e hXY
  have hP := @imul_is (BB R f) (bring f) (II f u1 v1) (II f u2 v2)
  have g1 := @imul_in (BB R f) (bring f) _ _ _ _ (II_1 f u1 v1) (II_1 f u2 v2)
  have g2 := @imul_in (BB R f) (bring f) _ _ _ _ (II_1 f u1 v1) (II_2 f u2 v2)
  have g3 := @imul_in (BB R f) (bring f) _ _ _ _ (II_2 f u1 v1) (II_1 f u2 v2)
  have g4 := @imul_in (BB R f) (bring f) _ _ _ _ (II_2 f u1 v1) (II_2 f u2 v2)
  have lin : ∀ (y1 y2 y3 y4 : R) (z : BB R f), z = badd (badd (bmul (y1, 0) (bmul (u1, 0) (u2, 0))) (bmul (y2, 0) (bmul (u1, 0) (-v2, 1)))) (badd (bmul (y3, 0) (bmul (-v1, 1) (u2, 0))) (bmul (y4, 0) (bmul (-v1, 1) (-v2, 1)))) → bim (II f u1 v1) (II f u2 v2) z := fun y1 y2 y3 y4 z e => by
    rw [e]
    exact hP.2.1 _ _ (hP.2.1 _ _ (hP.2.2 _ _ g1) (hP.2.2 _ _ g2)) (hP.2.1 _ _ (hP.2.2 _ _ g3) (hP.2.2 _ _ g4))
  have m1 : bim (II f u1 v1) (II f u2 v2) (d * (U1 * U2), 0) := lin (a * U1 + b * W) (b * U2) (-(b * U1) - c * W) (-(c * U2)) _ (BB.ext (by
    show d * (U1 * U2) = (((a * U1 + b * W) * (u1 * u2 + 0 * 0 * f) + 0 * (u1 * 0 + 0 * u2) * f) + ((b * U2) * (u1 * -v2 + 0 * 1 * f) + 0 * (u1 * 1 + 0 * -v2) * f)) + (((-(b * U1) - c * W) * (-v1 * u2 + 1 * 0 * f) + 0 * (-v1 * 0 + 1 * u2) * f) + ((-(c * U2)) * (-v1 * -v2 + 1 * 1 * f) + 0 * (-v1 * 1 + 1 * -v2) * f))
    rw [h1, h2]
    exact cq1 d v1 U1 U2 W w1 a b c f v2 hp h3 hf) (by
    show (0 : R) = (((a * U1 + b * W) * (u1 * 0 + 0 * u2) + 0 * (u1 * u2 + 0 * 0 * f)) + ((b * U2) * (u1 * 1 + 0 * -v2) + 0 * (u1 * -v2 + 0 * 1 * f))) + (((-(b * U1) - c * W) * (-v1 * 0 + 1 * u2) + 0 * (-v1 * u2 + 1 * 0 * f)) + ((-(c * U2)) * (-v1 * 1 + 1 * -v2) + 0 * (-v1 * -v2 + 1 * 1 * f)))
    rw [h1, h2]
    exact cq2 d v1 U1 U2 W a b c f v2 h3))
  have m2 : bim (II f u1 v1) (II f u2 v2) (badd (-(d * v3), d) (bmul (t, 0) (d * (U1 * U2), 0))) := lin 0 s1 s2 (-s3) _ (BB.ext (cq3 f u1 v1 u2 v2 d s1 s2 s3 U1 U2 v3 t hv) (cq4 f u1 v1 u2 v2 d s1 s2 s3 U1 U2 t hd))
  have e : bmul (f := f) (d, 0) (X, Y) = badd (bmul (k - Y * t, 0) (d * (U1 * U2), 0)) (bmul (Y, 0) (badd (-(d * v3), d) (bmul (t, 0) (d * (U1 * U2), 0)))) := BB.ext (cq5 f d X Y k t U1 U2 v3 hk) (cq6 f d X Y k t U1 U2 v3)
  show bim (II f u1 v1) (II f u2 v2) (bmul (d, 0) (X, Y))
  rw [e]
  exact hP.2.1 _ _ (hP.2.2 _ _ m1) (hP.2.2 _ _ m2)
theorem cr1 {R : Type} [Lean.Grind.CommRing R] (v3 d f X Y : R) (q2 : v3 * (d * 1 + 0 * -v3) + 1 * (d * -v3 + 0 * 1 * f) = d * Y + 0 * X) : d * Y = d * 0 := by
  have e : v3 * (d * 1 + 0 * -v3) + 1 * (d * -v3 + 0 * 1 * f) = d * 0 := by clear q2; grind
  rw [← e, q2]; clear q2 e; grind
theorem cr2 {R : Type} [Lean.Grind.CommRing R] (v3 d f X : R) (q1 : v3 * (d * -v3 + 0 * 1 * f) + 1 * (d * 1 + 0 * -v3) * f = d * X + 0 * 0 * f) : d * (f - v3 * v3) = d * X := by
  have e : v3 * (d * -v3 + 0 * 1 * f) + 1 * (d * 1 + 0 * -v3) * f = d * (f - v3 * v3) := by clear q1; grind
  rw [← e, q1]; clear q1 e; grind
theorem cr3 {R : Type} [Lean.Grind.CommRing R] (v3 f X U k : R) (x0 : f - v3 * v3 = X) (hk : X = U * k - 0 * v3) : v3 * v3 - f = U * -k := by
  have e : v3 * v3 - f = -(f - v3 * v3) := by clear x0 hk; grind
  rw [e, x0, hk]; clear x0 hk e; grind
theorem cr4 {R : Type} [Lean.Grind.CommRing R] (v1 v2 u1 d U1 W w1 f : R) (hw1 : v1 * v1 - f = u1 * w1) (h1 : u1 = d * U1) (h3 : v1 + v2 = d * W) : v1 * v2 + f = d * (v1 * W - U1 * w1) ∧ v2 = d * W - v1 ∧ f = v1 * v1 - d * U1 * w1 := by
  refine ⟨?_, ?_, ?_⟩
  · have e : v1 * v2 + f = v1 * (v1 + v2) - (v1 * v1 - f) := by clear hw1 h1 h3; grind
    rw [e, hw1, h3, h1]; clear hw1 h1 h3 e; grind
  · rw [← h3]; clear hw1 h1 h3; grind
  · rw [← h1, ← hw1]; clear hw1 h1 h3; grind
theorem cr6 {R : Type} [Lean.Grind.CommRing R] {v1 v2 v3 d U1 U2 W w1 f A B C : R} (ef : v1 * v2 + f = d * (v1 * W - U1 * w1)) (h3 : v1 + v2 = d * W) (c1 : v3 - v2 = U2 * A) (c2 : v3 - v1 = U1 * B) (c3 : v1 * W - U1 * w1 - W * v3 = U1 * U2 * C) : v3 * v3 - f = U1 * U2 * (A * B - d * C) := by
  have e : v3 * v3 - f = (v3 - v1) * (v3 - v2) - ((v1 * v2 + f) - (v1 + v2) * v3) := by clear ef h3 c1 c2 c3; grind
  have e2 : d * (v1 * W - U1 * w1) - d * W * v3 = d * (v1 * W - U1 * w1 - W * v3) := by clear ef h3 c1 c2 c3 e; grind
  rw [e, ef, h3, e2, c1, c2, c3]; clear ef h3 c1 c2 c3 e e2; grind
theorem cr5 {R : Type} [Lean.Grind.CommRing R] {f : R} (d W : R) (P : BB R f → Prop) (hP : bis P) : bis (bsc (d, 0) P) := @isc_is (BB R f) (bring f) P (d, 0) hP
theorem comp {R : Type} [Lean.Grind.CommRing R] {dg : R → Nat} {mo : R → Prop} (E : Euc R dg mo) {f u1 v1 u2 v2 d s1 s2 s3 U1 U2 W v3 t : R} (hS : Sqf f) (hu1 : u1 ≠ 0) (V1 : Dv u1 (v1 * v1 - f)) (V2 : Dv u2 (v2 * v2 - f))
    (hd : d = s1 * u1 + s2 * u2 + s3 * (v1 + v2)) (h1 : u1 = d * U1) (h2 : u2 = d * U2) (h3 : v1 + v2 = d * W) (hv : d * v3 = s1 * u1 * v2 + s2 * u2 * v1 + s3 * (v1 * v2 + f) + d * (U1 * U2) * t) :
    bim (II f u1 v1) (II f u2 v2) = bsc (d, 0) (II f (U1 * U2) v3) ∧ Dv (U1 * U2) (v3 * v3 - f) := by
  have hD := E.dom
  have hd0 : d ≠ 0 := fun e => hu1 (by rw [h1, e]; clear hd h1 h2 h3 hv e; grind)
  obtain ⟨w1, hw1⟩ := V1
  obtain ⟨w2, hw2⟩ := V2
  have c1 := hD.cancel hd0 (cm1 hd h2 hw2 hv)
  have c2 := hD.cancel hd0 (cm2 hd h1 hw1 hv)
  have c3 := hD.cancel hd0 (hD.cancel hd0 (cm3 hd h1 h2 h3 hw1 hw2 hv))
  obtain ⟨ef, hv2, hff⟩ := cr4 v1 v2 u1 d U1 W w1 f hw1 h1 h3
  obtain ⟨a, b, c, hp⟩ := primi E hS hw1
  have hfwd := comp_fwd (f := f) h1 h2 h3 ef c1 c2 c3
  have hbwd : ∀ x, bsc (d, 0) (II f (U1 * U2) v3) x → bim (II f u1 v1) (II f u2 v2) x := comp_bwd h1 h2 hv2 hff (by rw [← h1]; exact hp) hd hv
  have hP := @imul_is (BB R f) (bring f) (II f u1 v1) (II f u2 v2)
  have hdv : Dv (U1 * U2) (v3 * v3 - f) := ⟨_, cr6 ef h3 c1 c2 c3⟩
  have key : bim (II f u1 v1) (II f u2 v2) = bsc (d, 0) (II f (U1 * U2) v3) :=
    pred_ext (fun x hx => @imul_le (BB R f) (bring f) _ _ _ (cr5 d W _ (II_is hdv)) hfwd x hx) hbwd
  exact ⟨key, hdv⟩
