/-! THE WAY CLASSES ARE ADDED gives the sum of their ideals -/
theorem Euc.exact {R : Type} [Lean.Grind.CommRing R] {dg : R → Nat} {mo : R → Prop} (E : Euc R dg mo) {d x q r : R} (hd : d ≠ 0) (h : Dv d x) (e : x = d * q + r) (hr : dg r < dg d) : x = d * q := by
  obtain ⟨k, hk⟩ := h
  have : r = 0 := E.small hd ⟨k - q, by grind⟩ hr
  rw [e, this]; grind
theorem ad1 {R : Type} [Lean.Grind.CommRing R] {f u1 v1 v2 w1 : R} (hw1 : v1 * v1 - f = u1 * w1) : f + v1 * v2 = v1 * (v1 + v2) - u1 * w1 := by
  rw [← hw1]; clear hw1; grind
theorem ad2 {R : Type} [Lean.Grind.CommRing R] {v0 q2 t v : R} (hw : v0 = q2 * t + v) : v = v0 - q2 * t := by
  rw [hw]; clear hw; grind
theorem add_alg {R : Type} [Lean.Grind.CommRing R] {dg : R → Nat} {mo : R → Prop} (E : Euc R dg mo) {f : R} {g : Nat} (hf : dg f = 2 * g + 2) (hS : Sqf f) {a b : R × R} (ha : Red dg mo f g a) (hb : Red dg mo f g b) {d1 l1 r1 d l2 r2 q1 q2 R1 R2 R3 v0 t v : R}
    (h1 : d1 = l1 * a.1 + r1 * b.1) (h1a : Dv d1 a.1) (h1b : Dv d1 b.1) (h2 : d = l2 * (a.2 + b.2) + r2 * d1) (h2a : Dv d (a.2 + b.2)) (h2b : Dv d d1)
    (hq1 : a.1 * b.1 = d * q1 + R1) (hR1 : dg R1 < dg d) (hq2 : q1 = d * q2 + R2) (hR2 : dg R2 < dg d) (hv : l2 * (f + a.2 * b.2) + r2 * ((l1 * a.1) * b.2 + (r1 * b.1) * a.2) = d * v0 + R3) (hR3 : dg R3 < dg d) (hw : v0 = q2 * t + v) :
    a.1 * b.1 = d * (d * q2) ∧ q2 ≠ 0 ∧ Dv q2 (v * v - f) ∧ beq (bim (II f a.1 a.2) (II f b.1 b.2)) (II f q2 v) ∧ dg q2 + 1 ≤ dg a.1 + dg b.1 := by
  have hD := E.dom
  have hB := bdom E hf
  have a0 : a.1 ≠ 0 := E.2.2.2.2.2.2.2.2.2.2 _ ha.1
  have b0 : b.1 ≠ 0 := E.2.2.2.2.2.2.2.2.2.2 _ hb.1
  obtain ⟨U1, hU1⟩ := h2b.tr h1a
  obtain ⟨U2, hU2⟩ := h2b.tr h1b
  obtain ⟨W, hW⟩ := h2a
  obtain ⟨w1, hw1⟩ := ha.2.2.2
  have hd0 : d ≠ 0 := fun e => a0 (by rw [hU1, e]; grind)
  have e1 := E.exact hd0 ⟨U1 * (d * U2), by rw [hU1, hU2]; grind⟩ hq1 hR1
  have e1b : q1 = d * (U1 * U2) := hD.cancel hd0 (by rw [← e1, hU1, hU2]; grind)
  have e2 := E.exact hd0 ⟨_, e1b⟩ hq2 hR2
  have e2b : q2 = U1 * U2 := hD.cancel hd0 (by rw [← e2, e1b])
  have hdv : Dv d (l2 * (f + a.2 * b.2) + r2 * ((l1 * a.1) * b.2 + (r1 * b.1) * a.2)) := by
    have : f + a.2 * b.2 = a.2 * (a.2 + b.2) - a.1 * w1 := ad1 hw1
    rw [this, hW]
    refine ⟨l2 * (a.2 * W - U1 * w1) + r2 * (l1 * U1 * b.2 + r1 * U2 * a.2), ?_⟩
    rw [hU1, hU2]; grind
  have e3 := E.exact hd0 hdv hv hR3
  have hc := comp E (s1 := r2 * l1) (s2 := r2 * r1) (s3 := l2) (v3 := v) (t := -t) hS a0 ha.2.2.2 hb.2.2.2 (by rw [h2, h1]; grind) hU1 hU2 hW (by
    have : v = v0 - q2 * t := ad2 hw
    rw [this, e2b]
    have : d * (v0 - U1 * U2 * t) = d * v0 - d * (U1 * U2) * t := by grind
    rw [this, ← e3]; grind)
  have hU0 : U1 * U2 ≠ 0 := hD.ne (fun e => a0 (by rw [hU1, e]; grind)) (fun e => b0 (by rw [hU2, e]; grind))
  refine ⟨by rw [e1, e2], by rw [e2b]; exact hU0, by rw [e2b]; exact hc.2, ?_, ?_⟩
  · rw [e2b]
    refine ⟨bC f 1, (d, 0), hB.2, ?_, ?_⟩
    · intro e3
      have : d = OfNat.ofNat 0 := congrArg Prod.fst e3
      exact hd0 this
    · exact (@isc_one (BB R f) (bring f) _).trans hc.1
  · have m1 := E.mul a0 b0
    have m2 := E.mul hd0 (hD.ne hd0 (show q2 ≠ 0 by rw [e2b]; exact hU0))
    have m3 := E.mul hd0 (show q2 ≠ 0 by rw [e2b]; exact hU0)
    rw [← e2, ← e1] at m2
    rw [← e2] at m3
    have := E.nz hd0
    omega
theorem low_alg {R : Type} [Lean.Grind.CommRing R] {dg : R → Nat} {mo : R → Prop} (E : Euc R dg mo) {f : R} {g : Nat} (hf : dg f = 2 * g + 2) {u v q r c c' t v' : R} (hu : u ≠ 0) (hv : dg v < dg u) (hd : Dv u (v * v - f)) (hg : g + 1 < dg u)
    (hq : f - v * v = u * q + r) (hr : dg r < dg u) (hc : c * c' = 1) (ht : -v = (c * q) * t + v') :
    c * q ≠ 0 ∧ q ≠ 0 ∧ Dv (c * q) (v' * v' - f) ∧ beq (II f u v) (II f (c * q) v') ∧ dg (c * q) < dg u := by
  have hD := E.dom
  have hB := bdom E hf
  have hf0 : f ≠ 0 := fun e => by rw [E.z.mpr e] at hf; omega
  obtain ⟨w, hw⟩ := hd
  have e1 := E.exact hu ⟨-w, by grind⟩ hq hr
  have hfr : dg (f - v * v) ≤ max (2 * g + 2) (2 * dg u - 3) ∧ f - v * v ≠ 0 := by
    by_cases hr0 : v = 0
    · have e3 : f - v * v = f := by rw [hr0]; grind
      rw [e3, hf]; exact ⟨by omega, hf0⟩
    · have m1 := E.mul hr0 hr0
      have m2 := E.sub f (v * v)
      have := E.nz hr0
      refine ⟨by omega, fun e3 => ?_⟩
      have : f = v * v := by grind
      rw [← this, hf] at m1; omega
  have hq0 : q ≠ 0 := fun e => hfr.2 (by rw [e1, e]; grind)
  have hc0 : c ≠ 0 := fun e => hD.2 (by rw [← hc, e]; grind)
  have hc0' : c' ≠ 0 := fun e => hD.2 (by rw [← hc, e]; grind)
  have m1 := E.mul hu hq0
  rw [← e1] at m1
  have m2 := E.mul hc0 hc0'
  rw [hc, E.2.2.2.2.2.2.2.1] at m2
  have m3 := E.mul hc0 hq0
  have m4 := E.nz hc0
  have m5 := E.nz hc0'
  have e2 : II f (c * q) v' = II f q (-v) := by
    have e3 : c * q = q * c := by grind
    rw [e3, II_u hc]
    exact II_v ⟨-(c * t), by rw [e3] at ht; grind⟩
  refine ⟨hD.ne hc0 hq0, hq0, ?_, ?_, by omega⟩
  · refine ⟨c' * (-u) - (v' - v) * t, ?_⟩
    have e5 : v' = -v - c * q * t := by grind
    have e6 : v' * v' = v * v - (c * q) * t * (v' - v) := by rw [e5]; grind
    have e7 : v * v - f = c * q * (c' * -u) := by
      have : v * v - f = -(u * q) := by grind
      rw [this]
      have : u * q = (c * c') * (u * q) := by rw [hc]; grind
      rw [this]; grind
    have e8 : v' * v' - f = (v * v - f) - (c * q) * t * (v' - v) := by rw [e6]; grind
    rw [e8, e7]; grind
  · rw [e2]
    refine ⟨(v, 1), (u, 0), ?_, ?_, lowr e1⟩
    · intro e3
      have : (1 : R) = 0 := congrArg Prod.snd e3
      exact hD.2 this
    · intro e3
      have : u = OfNat.ofNat 0 := congrArg Prod.fst e3
      exact hu this
/-! in rows by P -/
theorem lead_mul {p : Int} (hp : Pr p) {a b : Pz p} (ha : dg a ≠ 0) (hb : dg b ≠ 0) : (pmul a b).1 (dg (pmul a b) - 1) = (a.1 (dg a - 1) * b.1 (dg b - 1)) % p := by
  have h := dg_mul hp a b ha hb
  have e := cv_top (dg a - 1) (dg b - 1) a.1 b.1 (fun i hi => dg_far a (by omega)) (fun i hi => dg_far b (by omega))
  rw [show dg (pmul a b) - 1 = dg a - 1 + (dg b - 1) by omega, pmul_c, e]
theorem pmo_mul {p : Int} (hp : Pr p) {a b : Pz p} (ha : pmo a) (hb : pmo b) : pmo (pmul a b) := by
  have h := dg_mul hp a b ha.1 hb.1
  have hpp := hp.pos
  refine ⟨by have := ha.1; have := hb.1; omega, ?_⟩
  rw [lead_mul hp ha.1 hb.1, ha.2, hb.2]
  exact Int.emod_eq_of_lt (by omega) (by omega)
theorem pmo_quo {p : Int} (hp : Pr p) {a b : Pz p} (ha : pmo a) (hb : dg b ≠ 0) (h : pmo (pmul a b)) : pmo b := by
  refine ⟨hb, ?_⟩
  have e := h.2
  rw [lead_mul hp ha.1 hb, ha.2, Int.one_mul, b.2.1] at e
  exact e
