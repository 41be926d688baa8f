/-! IDEALS of a ring as predicates; their products, their likeness but for a factor -/
def IsI {K : Type} [Lean.Grind.CommRing K] (P : K → Prop) : Prop := P 0 ∧ (∀ a b, P a → P b → P (a + b)) ∧ ∀ c a, P a → P (c * a)
def imul {K : Type} [Lean.Grind.CommRing K] (P Q : K → Prop) : K → Prop := fun x => ∀ S : K → Prop, IsI S → (∀ a b, P a → Q b → S (a * b)) → S x
def isc {K : Type} [Lean.Grind.CommRing K] (t : K) (P : K → Prop) : K → Prop := fun x => ∃ y, P y ∧ x = t * y
theorem imul_is {K : Type} [Lean.Grind.CommRing K] (P Q : K → Prop) : IsI (imul P Q) :=
  ⟨fun _ hS _ => hS.1, fun _ _ ha hb S hS h => hS.2.1 _ _ (ha S hS h) (hb S hS h), fun c _ ha S hS h => hS.2.2 c _ (ha S hS h)⟩
theorem imul_in {K : Type} [Lean.Grind.CommRing K] {P Q : K → Prop} {a b : K} (ha : P a) (hb : Q b) : imul P Q (a * b) := fun _ _ h => h a b ha hb
theorem imul_le {K : Type} [Lean.Grind.CommRing K] {P Q S : K → Prop} (hS : IsI S) (h : ∀ a b, P a → Q b → S (a * b)) {x : K} (hx : imul P Q x) : S x := hx S hS h
theorem pred_ext {K : Type} {P Q : K → Prop} (h1 : ∀ x, P x → Q x) (h2 : ∀ x, Q x → P x) : P = Q := funext fun x => propext ⟨h1 x, h2 x⟩
theorem imul_comm {K : Type} [Lean.Grind.CommRing K] (P Q : K → Prop) : imul P Q = imul Q P := by
  have key : ∀ (P Q : K → Prop) x, imul P Q x → imul Q P x := fun P Q x hx => imul_le (imul_is Q P) (fun a b ha hb => by
    have e : a * b = b * a := by grind
    rw [e]; exact imul_in hb ha) hx
  exact pred_ext (key P Q) (key Q P)
theorem imul_assoc1 {K : Type} [Lean.Grind.CommRing K] (P Q T : K → Prop) (x : K) (hx : imul (imul P Q) T x) : imul P (imul Q T) x := by
  refine imul_le (imul_is _ _) (fun a r ha hr => ?_) hx
  refine imul_le (S := fun a => imul P (imul Q T) (a * r)) ⟨?_, fun a b h1 h2 => ?_, fun c a h => ?_⟩ (fun p q hp hq => ?_) ha
  · have e : (0 : K) * r = 0 := by grind
    show imul P (imul Q T) (0 * r)
    rw [e]; exact (imul_is _ _).1
  · show imul P (imul Q T) ((a + b) * r)
    have e : (a + b) * r = a * r + b * r := by grind
    rw [e]; exact (imul_is _ _).2.1 _ _ h1 h2
  · show imul P (imul Q T) ((c * a) * r)
    have e : (c * a) * r = c * (a * r) := by grind
    rw [e]; exact (imul_is _ _).2.2 _ _ h
  · show imul P (imul Q T) ((p * q) * r)
    have e : (p * q) * r = p * (q * r) := by grind
    rw [e]; exact imul_in hp (imul_in hq hr)
theorem imul_assoc {K : Type} [Lean.Grind.CommRing K] (P Q T : K → Prop) : imul (imul P Q) T = imul P (imul Q T) := by
  refine pred_ext (imul_assoc1 P Q T) (fun x hx => ?_)
  rw [imul_comm, imul_comm Q T] at hx
  have h := imul_assoc1 T Q P x hx
  rwa [imul_comm, imul_comm Q P] at h
theorem isc_is {K : Type} [Lean.Grind.CommRing K] {P : K → Prop} (t : K) (hP : IsI P) : IsI (isc t P) := by
  refine ⟨⟨0, hP.1, by grind⟩, ?_, ?_⟩
  · rintro a b ⟨x, hx, rfl⟩ ⟨y, hy, rfl⟩
    exact ⟨x + y, hP.2.1 _ _ hx hy, by grind⟩
  · rintro c a ⟨x, hx, rfl⟩
    exact ⟨c * x, hP.2.2 _ _ hx, by grind⟩
theorem isc_imul {K : Type} [Lean.Grind.CommRing K] (t : K) (P Q : K → Prop) : imul (isc t P) Q = isc t (imul P Q) := by
  refine pred_ext (fun x hx => ?_) (fun x hx => ?_)
  · refine imul_le (isc_is t (imul_is P Q)) ?_ hx
    rintro a b ⟨y, hy, rfl⟩ hb
    exact ⟨y * b, imul_in hy hb, by grind⟩
  · obtain ⟨y, hy, rfl⟩ := hx
    refine imul_le (S := fun y => imul (isc t P) Q (t * y)) ⟨?_, fun a b h1 h2 => ?_, fun c a h => ?_⟩ (fun p q hp hq => ?_) hy
    · have e : t * (0 : K) = 0 := by grind
      show imul (isc t P) Q (t * 0)
      rw [e]; exact (imul_is _ _).1
    · show imul (isc t P) Q (t * (a + b))
      have e : t * (a + b) = t * a + t * b := by grind
      rw [e]; exact (imul_is _ _).2.1 _ _ h1 h2
    · show imul (isc t P) Q (t * (c * a))
      have e : t * (c * a) = c * (t * a) := by grind
      rw [e]; exact (imul_is _ _).2.2 _ _ h
    · show imul (isc t P) Q (t * (p * q))
      have e : t * (p * q) = (t * p) * q := by grind
      rw [e]; exact imul_in ⟨p, hp, rfl⟩ hq
theorem isc_isc {K : Type} [Lean.Grind.CommRing K] (s t : K) (P : K → Prop) : isc s (isc t P) = isc (s * t) P := by
  refine pred_ext ?_ ?_
  · rintro x ⟨y, ⟨z, hz, rfl⟩, rfl⟩
    exact ⟨z, hz, by grind⟩
  · rintro x ⟨z, hz, rfl⟩
    exact ⟨t * z, ⟨z, hz, rfl⟩, by grind⟩
theorem isc_one {K : Type} [Lean.Grind.CommRing K] (P : K → Prop) : isc 1 P = P := by
  refine pred_ext ?_ ?_
  · rintro x ⟨y, hy, rfl⟩
    have e : (1 : K) * y = y := by grind
    rw [e]; exact hy
  · intro x hx; exact ⟨x, hx, by grind⟩
/-- a ring without parts of nought -/
def Dom (K : Type) [Lean.Grind.CommRing K] : Prop := (∀ a b : K, a * b = 0 → a = 0 ∨ b = 0) ∧ (1 : K) ≠ 0
theorem Dom.ne {K : Type} [Lean.Grind.CommRing K] (h : Dom K) {a b : K} (ha : a ≠ 0) (hb : b ≠ 0) : a * b ≠ 0 := fun e => (h.1 a b e).elim ha hb
theorem Dom.cancel {K : Type} [Lean.Grind.CommRing K] (h : Dom K) {a b c : K} (ha : a ≠ 0) (e : a * b = a * c) : b = c := by
  have e1 : a * (b - c) = 0 := by grind
  rcases h.1 _ _ e1 with q | q
  · exact absurd q ha
  · grind
/-- alike but for a factor -/
def eqv {K : Type} [Lean.Grind.CommRing K] (P Q : K → Prop) : Prop := ∃ s t : K, s ≠ 0 ∧ t ≠ 0 ∧ isc s P = isc t Q
theorem eqv_rf {K : Type} [Lean.Grind.CommRing K] (h : Dom K) (P : K → Prop) : eqv P P := ⟨1, 1, h.2, h.2, rfl⟩
theorem eqv_sy {K : Type} [Lean.Grind.CommRing K] {P Q : K → Prop} (h : eqv P Q) : eqv Q P := by
  obtain ⟨s, t, h1, h2, e⟩ := h
  exact ⟨t, s, h2, h1, e.symm⟩
theorem eqv_tr {K : Type} [Lean.Grind.CommRing K] (h : Dom K) {P Q T : K → Prop} (h1 : eqv P Q) (h2 : eqv Q T) : eqv P T := by
  obtain ⟨s, t, a1, a2, e⟩ := h1
  obtain ⟨u, v, b1, b2, g⟩ := h2
  refine ⟨u * s, t * v, h.ne b1 a1, h.ne a2 b2, ?_⟩
  rw [← isc_isc, e, isc_isc, ← isc_isc t v, ← g, isc_isc]
  have e2 : u * t = t * u := by grind
  rw [e2]
theorem eqv_mul {K : Type} [Lean.Grind.CommRing K] (h : Dom K) {P P' Q Q' : K → Prop} (h1 : eqv P P') (h2 : eqv Q Q') : eqv (imul P Q) (imul P' Q') := by
  have key : ∀ {P P' Q : K → Prop}, eqv P P' → eqv (imul P Q) (imul P' Q) := by
    rintro P P' Q ⟨s, t, a1, a2, e⟩
    exact ⟨s, t, a1, a2, by rw [← isc_imul, ← isc_imul, e]⟩
  refine eqv_tr h (key h1) ?_
  rw [imul_comm P' Q, imul_comm P' Q']
  exact key h2
theorem eqv_sc {K : Type} [Lean.Grind.CommRing K] (h : Dom K) {s t : K} {P Q : K → Prop} (hs : s ≠ 0) (ht : t ≠ 0) (e : isc s P = isc t Q) : eqv P Q := ⟨s, t, hs, ht, e⟩
/-! PARTS: what goes up in what -/
def Dv {R : Type} [Lean.Grind.CommRing R] (a b : R) : Prop := ∃ c, b = a * c
theorem Dv.rf {R : Type} [Lean.Grind.CommRing R] (a : R) : Dv a a := ⟨1, by grind⟩
theorem Dv.tr {R : Type} [Lean.Grind.CommRing R] {a b c : R} (h1 : Dv a b) (h2 : Dv b c) : Dv a c := by
  obtain ⟨x, rfl⟩ := h1; obtain ⟨y, rfl⟩ := h2; exact ⟨x * y, by grind⟩
theorem Dv.add {R : Type} [Lean.Grind.CommRing R] {a b c : R} (h1 : Dv a b) (h2 : Dv a c) : Dv a (b + c) := by
  obtain ⟨x, rfl⟩ := h1; obtain ⟨y, rfl⟩ := h2; exact ⟨x + y, by grind⟩
theorem Dv.sub {R : Type} [Lean.Grind.CommRing R] {a b c : R} (h1 : Dv a b) (h2 : Dv a c) : Dv a (b - c) := by
  obtain ⟨x, rfl⟩ := h1; obtain ⟨y, rfl⟩ := h2; exact ⟨x - y, by grind⟩
theorem Dv.mul {R : Type} [Lean.Grind.CommRing R] {a b : R} (c : R) (h1 : Dv a b) : Dv a (c * b) := by
  obtain ⟨x, rfl⟩ := h1; exact ⟨c * x, by grind⟩
theorem Dv.self {R : Type} [Lean.Grind.CommRing R] (a c : R) : Dv a (a * c) := ⟨c, rfl⟩
theorem Dv.zero {R : Type} [Lean.Grind.CommRing R] (a : R) : Dv a 0 := ⟨0, by grind⟩
/-! FUNCTIONS a + b y with y y = f, as pairs -/
def BB (R : Type) (_f : R) : Type := R × R
def bmul {R : Type} [Lean.Grind.CommRing R] {f : R} (x y : BB R f) : BB R f := (x.1 * y.1 + x.2 * y.2 * f, x.1 * y.2 + x.2 * y.1)
def badd {R : Type} [Lean.Grind.CommRing R] {f : R} (x y : BB R f) : BB R f := (x.1 + y.1, x.2 + y.2)
def bneg {R : Type} [Lean.Grind.CommRing R] {f : R} (x : BB R f) : BB R f := (-x.1, -x.2)
def bC {R : Type} [Lean.Grind.CommRing R] (f a : R) : BB R f := (a, 0)
def bpow {R : Type} [Lean.Grind.CommRing R] {f : R} (x : BB R f) : Nat → BB R f
  | 0 => bC f 1
  | n + 1 => bmul (bpow x n) x
theorem BB.ext {R : Type} {f : R} {x y : BB R f} (h1 : x.1 = y.1) (h2 : x.2 = y.2) : x = y := Prod.ext h1 h2
def bring {R : Type} [Lean.Grind.CommRing R] (f : R) : Lean.Grind.CommRing (BB R f) where
  add := badd
  mul := bmul
  neg := bneg
  sub a b := badd a (bneg b)
  natCast := ⟨fun n => bC f (OfNat.ofNat n)⟩
  ofNat n := ⟨bC f (OfNat.ofNat n)⟩
  nsmul := ⟨fun n a => bmul (bC f (OfNat.ofNat n)) a⟩
  npow := ⟨bpow⟩
  intCast := ⟨fun n => bC f (if 0 ≤ n then OfNat.ofNat n.toNat else - OfNat.ofNat (-n).toNat)⟩
  zsmul := ⟨fun n a => bmul (bC f (if 0 ≤ n then OfNat.ofNat n.toNat else - OfNat.ofNat (-n).toNat)) a⟩
  add_zero a := BB.ext (by show a.1 + OfNat.ofNat 0 = a.1; grind) (by show a.2 + 0 = a.2; grind)
  add_comm a b := BB.ext (by show a.1 + b.1 = b.1 + a.1; grind) (by show a.2 + b.2 = b.2 + a.2; grind)
  add_assoc a b c := BB.ext (by show (a.1 + b.1) + c.1 = a.1 + (b.1 + c.1); grind) (by show (a.2 + b.2) + c.2 = a.2 + (b.2 + c.2); grind)
  mul_assoc a b c := BB.ext
    (by show (a.1 * b.1 + a.2 * b.2 * f) * c.1 + (a.1 * b.2 + a.2 * b.1) * c.2 * f = a.1 * (b.1 * c.1 + b.2 * c.2 * f) + a.2 * (b.1 * c.2 + b.2 * c.1) * f; grind)
    (by show (a.1 * b.1 + a.2 * b.2 * f) * c.2 + (a.1 * b.2 + a.2 * b.1) * c.1 = a.1 * (b.1 * c.2 + b.2 * c.1) + a.2 * (b.1 * c.1 + b.2 * c.2 * f); grind)
  mul_one a := BB.ext (by show a.1 * OfNat.ofNat 1 + a.2 * 0 * f = a.1; grind) (by show a.1 * 0 + a.2 * OfNat.ofNat 1 = a.2; grind)
  one_mul a := BB.ext (by show OfNat.ofNat 1 * a.1 + 0 * a.2 * f = a.1; grind) (by show OfNat.ofNat 1 * a.2 + 0 * a.1 = a.2; grind)
  left_distrib a b c := BB.ext (by show a.1 * (b.1 + c.1) + a.2 * (b.2 + c.2) * f = (a.1 * b.1 + a.2 * b.2 * f) + (a.1 * c.1 + a.2 * c.2 * f); grind) (by show a.1 * (b.2 + c.2) + a.2 * (b.1 + c.1) = (a.1 * b.2 + a.2 * b.1) + (a.1 * c.2 + a.2 * c.1); grind)
  right_distrib a b c := BB.ext (by show (a.1 + b.1) * c.1 + (a.2 + b.2) * c.2 * f = (a.1 * c.1 + a.2 * c.2 * f) + (b.1 * c.1 + b.2 * c.2 * f); grind) (by show (a.1 + b.1) * c.2 + (a.2 + b.2) * c.1 = (a.1 * c.2 + a.2 * c.1) + (b.1 * c.2 + b.2 * c.1); grind)
  zero_mul a := BB.ext (by show OfNat.ofNat 0 * a.1 + 0 * a.2 * f = OfNat.ofNat 0; grind) (by show OfNat.ofNat 0 * a.2 + 0 * a.1 = 0; grind)
  mul_zero a := BB.ext (by show a.1 * OfNat.ofNat 0 + a.2 * 0 * f = OfNat.ofNat 0; grind) (by show a.1 * 0 + a.2 * OfNat.ofNat 0 = 0; grind)
  pow_zero _ := rfl
  pow_succ _ _ := rfl
  ofNat_succ n := BB.ext (Lean.Grind.Semiring.ofNat_succ n) (by show (0 : R) = 0 + 0; grind)
  ofNat_eq_natCast _ := rfl
  nsmul_eq_natCast_mul _ _ := rfl
  neg_add_cancel a := BB.ext (by show -a.1 + a.1 = OfNat.ofNat 0; grind) (by show -a.2 + a.2 = 0; grind)
  sub_eq_add_neg _ _ := rfl
  neg_zsmul i a := by
    have e : (if 0 ≤ -i then (OfNat.ofNat (-i).toNat : R) else - OfNat.ofNat (-(-i)).toNat) = - (if 0 ≤ i then (OfNat.ofNat i.toNat : R) else - OfNat.ofNat (-i).toNat) := by
      by_cases h0 : i = 0
      · subst h0
        show (OfNat.ofNat 0 : R) = - OfNat.ofNat 0
        grind
      · by_cases h : 0 ≤ i
        · rw [if_neg (by omega), if_pos h, Int.neg_neg]
        · rw [if_pos (by omega), if_neg h]; grind
    show bmul (bC f (if 0 ≤ -i then (OfNat.ofNat (-i).toNat : R) else - OfNat.ofNat (-(-i)).toNat)) a = bneg (bmul (bC f (if 0 ≤ i then (OfNat.ofNat i.toNat : R) else - OfNat.ofNat (-i).toNat)) a)
    rw [e]
    generalize (if 0 ≤ i then (OfNat.ofNat i.toNat : R) else - OfNat.ofNat (-i).toNat) = z
    exact BB.ext (by show -z * a.1 + 0 * a.2 * f = -(z * a.1 + 0 * a.2 * f); grind) (by show -z * a.2 + 0 * a.1 = -(z * a.2 + 0 * a.1); grind)
  zsmul_natCast_eq_nsmul n a := by
    show bmul (bC f (if 0 ≤ (n : Int) then (OfNat.ofNat (n : Int).toNat : R) else - OfNat.ofNat (-(n : Int)).toNat)) a = bmul (bC f (OfNat.ofNat n)) a
    rw [if_pos (Int.natCast_nonneg n), Int.toNat_natCast]
  intCast_ofNat n := by
    show bC f (if 0 ≤ (n : Int) then (OfNat.ofNat (n : Int).toNat : R) else - OfNat.ofNat (-(n : Int)).toNat) = bC f (OfNat.ofNat n)
    rw [if_pos (Int.natCast_nonneg n), Int.toNat_natCast]
  intCast_neg i := by
    have e : (if 0 ≤ -i then (OfNat.ofNat (-i).toNat : R) else - OfNat.ofNat (-(-i)).toNat) = - (if 0 ≤ i then (OfNat.ofNat i.toNat : R) else - OfNat.ofNat (-i).toNat) := by
      by_cases h0 : i = 0
      · subst h0
        show (OfNat.ofNat 0 : R) = - OfNat.ofNat 0
        grind
      · by_cases h : 0 ≤ i
        · rw [if_neg (by omega), if_pos h, Int.neg_neg]
        · rw [if_pos (by omega), if_neg h]; grind
    exact BB.ext e (by show (0 : R) = -0; grind)
  mul_comm a b := BB.ext (by show a.1 * b.1 + a.2 * b.2 * f = b.1 * a.1 + b.2 * a.2 * f; grind) (by show a.1 * b.2 + a.2 * b.1 = b.1 * a.2 + b.2 * a.1; grind)
