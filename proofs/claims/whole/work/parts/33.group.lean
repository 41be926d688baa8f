/-! LOWERING, ONE REDUCED PAIR ALONE, THE GROUP -/
theorem lowr {R : Type} [Lean.Grind.CommRing R] {f u v u' : R} (h : f - v * v = u * u') : bsc (v, 1) (II f u v) = bsc (u, 0) (II f u' (-v)) := by
  refine pred_ext ?_ ?_
  · rintro x ⟨⟨a, b⟩, ⟨k, hk⟩, rfl⟩
    replace hk : a + b * v = u * k := hk
    refine ⟨(v * k + b * u', k), ⟨b, ?_⟩, BB.ext ?_ ?_⟩
    · show (v * k + b * u') + k * -v = u' * b
      grind
    · show v * a + 1 * b * f = u * (v * k + b * u') + 0 * k * f
      grind
    · show v * b + 1 * a = u * k + 0 * (v * k + b * u')
      grind
  · rintro x ⟨⟨a, b⟩, ⟨k, hk⟩, rfl⟩
    replace hk : a + b * -v = u' * k := hk
    refine ⟨(u * b - k * v, k), ⟨b, ?_⟩, BB.ext ?_ ?_⟩
    · show (u * b - k * v) + k * v = u * b
      grind
    · show u * a + 0 * b * f = v * (u * b - k * v) + 1 * k * f
      grind
    · show u * b + 0 * a = v * k + 1 * (u * b - k * v)
      grind
theorem II_v {R : Type} [Lean.Grind.CommRing R] {f u v v' : R} (h : Dv u (v - v')) : II f u v = II f u v' := by
  obtain ⟨k, hk⟩ := h
  refine pred_ext ?_ ?_
  · rintro ⟨a, b⟩ ⟨x, hx⟩
    replace hx : a + b * v = u * x := hx
    exact ⟨x - b * k, by show a + b * v' = u * (x - b * k); grind⟩
  · rintro ⟨a, b⟩ ⟨x, hx⟩
    replace hx : a + b * v' = u * x := hx
    exact ⟨x + b * k, by show a + b * v = u * (x + b * k); grind⟩
theorem II_u {R : Type} [Lean.Grind.CommRing R] {f u c d v : R} (h : c * d = 1) : II f (u * c) v = II f u v := by
  refine pred_ext ?_ ?_
  · rintro ⟨a, b⟩ ⟨x, hx⟩
    replace hx : a + b * v = u * c * x := hx
    exact ⟨c * x, by show a + b * v = u * (c * x); grind⟩
  · rintro ⟨a, b⟩ ⟨x, hx⟩
    replace hx : a + b * v = u * x := hx
    exact ⟨d * x, by show a + b * v = u * c * (d * x); grind⟩
theorem cx1 {K : Type} [Lean.Grind.CommRing K] {t w z s x y : K} (ex : t * z = s * x) (e1 : s * w = t * y) : t * (w * z) = t * (y * x) := by
  have a1 : t * (w * z) = w * (t * z) := by clear ex e1; grind
  have a2 : w * (s * x) = (s * w) * x := by clear ex e1 a1; grind
  rw [a1, ex, a2, e1]; clear ex e1 a1 a2; grind
theorem cx2 {K : Type} [Lean.Grind.CommRing K] {t w z s x y : K} (ez : s * x = t * z) (e1 : s * w = t * y) : t * (y * x) = t * (w * z) := by
  have a1 : t * (y * x) = (t * y) * x := by clear ez e1; grind
  have a2 : (s * w) * x = w * (s * x) := by clear ez e1 a1; grind
  rw [a1, ← e1, a2, ez]; clear ez e1 a1 a2; grind
theorem cz1 {R : Type} [Lean.Grind.CommRing R] {u u' n a1 b1 v k1 : R} (e5 : u' = n * a1) (hk1 : a1 + b1 * v = u * k1) (b10 : b1 = 0) : u' = u * (n * k1) := by
  rw [b10] at hk1
  have e : a1 = a1 + 0 * v := by clear e5 hk1 b10; grind
  rw [e5, e, hk1]; clear e5 hk1 b10 e; grind
theorem cz2 {R : Type} [Lean.Grind.CommRing R] {u u' c d v' q b2 : R} (hq : c + d * v' = u' * q) (hd0 : d = 0) (u_c : u = c * b2) : u = u' * (q * b2) := by
  rw [hd0] at hq
  have e : c = c + 0 * v' := by clear hq hd0 u_c; grind
  rw [u_c, e, hq]; clear hq hd0 u_c e; grind
theorem cz3 {R : Type} [Lean.Grind.CommRing R] {u v f w : R} (hw : v * v - f = u * w) : -v * -v - f = u * w := by
  rw [← hw]; clear hw; grind
theorem cz4 {R : Type} [Lean.Grind.CommRing R] {u u' c d f a1 b1 a2 b2 k1 k2 v v' : R} (A1 : u * u' + 0 * 0 * f = c * a1 + d * b1 * f) (A2 : u * 0 + 0 * u' = c * b1 + d * a1) (B1 : u * -v' + 0 * 1 * f = c * a2 + d * b2 * f) (B2 : u * 1 + 0 * -v' = c * b2 + d * a2) (hk1 : a1 + b1 * v = u * k1) (hk2 : a2 + b2 * v = u * k2) :
    u * (u * u') = u * ((c * c - d * d * f) * (k1 * b2 - k2 * b1)) := by
  have e1 : u * (u * u') = (u * u' + 0 * 0 * f) * (u * 1 + 0 * -v') - (u * -v' + 0 * 1 * f) * (u * 0 + 0 * u') := by clear A1 A2 B1 B2 hk1 hk2; grind
  have e2 : (c * a1 + d * b1 * f) * (c * b2 + d * a2) - (c * a2 + d * b2 * f) * (c * b1 + d * a1) = (c * c - d * d * f) * ((a1 + b1 * v) * b2 - (a2 + b2 * v) * b1) := by clear A1 A2 B1 B2 hk1 hk2 e1; grind
  rw [e1, A1, A2, B1, B2, e2, hk1, hk2]; clear A1 A2 B1 B2 hk1 hk2 e1 e2; grind
theorem cz6 {R : Type} [Lean.Grind.CommRing R] (x y : R) : x = x + y * 0 := by grind
theorem cz5 {R : Type} [Lean.Grind.CommRing R] (u v f : R) : u = 1 * u + 0 * u + 0 * (-v + v) ∧ u = u * 1 ∧ -v + v = u * 0 ∧ u * 0 = 1 * u * v + 0 * u * -v + 0 * (-v * v + f) + u * (1 * 1) * -v := by
  refine ⟨?_, ?_, ?_, ?_⟩ <;> grind
theorem uniq {R : Type} [Lean.Grind.CommRing R] {dg : R → Nat} {mo : R → Prop} (E : Euc R dg mo) {f : R} {g : Nat} (hf : dg f = 2 * g + 2) {u v u' v' : R} (hu : mo u) (hu' : mo u') (hd : dg u ≤ g + 1) (hd' : dg u' ≤ g + 1) (hv : dg v < dg u) (hv' : dg v' < dg u') (h : beq (II f u v) (II f u' v')) : u = u' ∧ v = v' := by
  have hD := E.dom
  have hB := bdom E hf
  have u0 : u ≠ 0 := E.2.2.2.2.2.2.2.2.2.2 u hu
  have u0' : u' ≠ 0 := E.2.2.2.2.2.2.2.2.2.2 u' hu'
  have hf0 : f ≠ 0 := fun e => by rw [E.z.mpr e] at hf; omega
  obtain ⟨s, t, hs, ht, e⟩ := h
  have cancel : ∀ (t x y : BB R f), t ≠ bC f 0 → bmul t x = bmul t y → x = y := fun t x y h0 h1 => @Dom.cancel (BB R f) (bring f) hB t x y h0 h1
  have i1 : II f u v (u, 0) := ⟨1, by show u + 0 * v = u * 1; grind⟩
  have i2 : II f u v (-v, 1) := ⟨0, by show -v + 1 * v = u * 0; grind⟩
  have j1 : II f u' v' (u', 0) := ⟨1, by show u' + 0 * v' = u' * 1; grind⟩
  have j2 : II f u' v' (-v', 1) := ⟨0, by show -v' + 1 * v' = u' * 0; grind⟩
  have to : ∀ x : BB R f, II f u v x → ∃ z, II f u' v' z ∧ bmul s x = bmul t z := fun x hx => by
    have : bsc s (II f u v) (bmul s x) := ⟨x, hx, rfl⟩
    rw [show bsc s (II f u v) = bsc t (II f u' v') from e] at this
    exact this
  have back : ∀ z : BB R f, II f u' v' z → ∃ x, II f u v x ∧ bmul t z = bmul s x := fun z hz => by
    have : bsc t (II f u' v') (bmul t z) := ⟨z, hz, rfl⟩
    rw [← show bsc s (II f u v) = bsc t (II f u' v') from e] at this
    exact this
  have as3 : ∀ x y z : BB R f, bmul (bmul x y) z = bmul x (bmul y z) := (bring f).mul_assoc
  have cm2 : ∀ x y : BB R f, bmul x y = bmul y x := (bring f).mul_comm
  obtain ⟨⟨c, d⟩, ⟨q, hq⟩, e1⟩ := to _ i1
  replace hq : c + d * v' = u' * q := hq
  have back2 : ∀ z : BB R f, II f u' v' z → ∃ x, II f u v x ∧ bmul (u, 0) z = bmul (c, d) x := fun z hz => by
    obtain ⟨x, hx, ex⟩ := back z hz
    refine ⟨x, hx, cancel t _ _ ht ?_⟩
    exact @cx1 (BB R f) (bring f) t (u, 0) z s x (c, d) ex e1
  have to2 : ∀ x : BB R f, II f u v x → ∃ z, II f u' v' z ∧ bmul (c, d) x = bmul (u, 0) z := fun x hx => by
    obtain ⟨z, hz, ez⟩ := to x hx
    refine ⟨z, hz, cancel t _ _ ht ?_⟩
    exact @cx2 (BB R f) (bring f) t (u, 0) z s x (c, d) ez e1
  obtain ⟨⟨a1, b1⟩, ⟨k1, hk1⟩, eA⟩ := back2 _ j1
  obtain ⟨⟨a2, b2⟩, ⟨k2, hk2⟩, eB⟩ := back2 _ j2
  obtain ⟨⟨m, n⟩, -, eC⟩ := to2 _ i2
  replace hk1 : a1 + b1 * v = u * k1 := hk1
  replace hk2 : a2 + b2 * v = u * k2 := hk2
  have A1 : u * u' + 0 * 0 * f = c * a1 + d * b1 * f := congrArg Prod.fst eA
  have A2 : u * 0 + 0 * u' = c * b1 + d * a1 := congrArg Prod.snd eA
  have B1 : u * -v' + 0 * 1 * f = c * a2 + d * b2 * f := congrArg Prod.fst eB
  have B2 : u * 1 + 0 * -v' = c * b2 + d * a2 := congrArg Prod.snd eB
  have C2 : c * 1 + d * -v = u * n + 0 * m := congrArg Prod.snd eC
  have hN : u * u' = (c * c - d * d * f) * (k1 * b2 - k2 * b1) := hD.cancel u0 (cz4 A1 A2 B1 B2 hk1 hk2)
  have hne : u * u' ≠ 0 := hD.ne u0 u0'
  have hN0 : c * c - d * d * f ≠ 0 := fun e => hne (by rw [hN, e]; grind)
  have hK0 : k1 * b2 - k2 * b1 ≠ 0 := fun e => hne (by rw [hN, e]; grind)
  have m1 := E.mul u0 u0'
  have m2 := E.mul hN0 hK0
  have m3 := E.nz hK0
  rw [← hN] at m2
  have hd0 : d = 0 := by
    by_cases hd0 : d = 0
    · exact hd0
    · exfalso
      have n1 := E.mul hd0 hd0
      have n2 := E.mul (hD.ne hd0 hd0) hf0
      have n3 := E.nz hd0
      by_cases hc : c = 0
      · have n4 : dg (c * c - d * d * f) = dg (d * d * f) := by
          rw [← E.2.2.1]; congr 1; rw [hc]; grind
        omega
      · have n4 := E.mul hc hc
        rcases Nat.lt_or_ge (dg (c * c)) (dg (d * d * f)) with q | q
        · have := E.sub_gt q; omega
        · have : dg (d * d * f) < dg (c * c) := by omega
          have := E.sub_lt this; omega
  have c_n : c = u * n := by rw [hd0] at C2; grind
  have u_c : u = c * b2 := by rw [hd0] at B2; grind
  have nb : n * b2 = 1 := hD.cancel u0 (by rw [← Lean.Grind.Semiring.mul_assoc, ← c_n, ← u_c]; grind)
  have c0 : c ≠ 0 := fun e => u0 (by rw [u_c, e]; grind)
  have b10 : b1 = 0 := hD.cancel c0 (by rw [hd0] at A2; grind)
  have e5 : u' = n * a1 := hD.cancel u0 (by rw [hd0, c_n] at A1; grind)
  have d1 : Dv u u' := ⟨n * k1, cz1 e5 hk1 b10⟩
  have d2 : Dv u' u := ⟨q * b2, cz2 hq hd0 u_c⟩
  have huu : u = u' := E.2.2.2.2.2.2.2.2.1 u u' hu hu' d1 d2
  refine ⟨huu, ?_⟩
  have e6 : v' = -(n * a2) := hD.cancel u0 (by rw [hd0, c_n] at B1; grind)
  have e7 : v - v' = u * (n * k2) := by
    have : a2 = u * k2 - b2 * v := by grind
    rw [e6, this]
    have : v = (n * b2) * v := by rw [nb]; grind
    grind
  have e8 : v - v' = 0 := E.small u0 ⟨_, e7⟩ (by
    have := E.sub v v'
    rw [← huu] at hv'; omega)
  grind
/-- a reduced pair -/
def Red {R : Type} [Lean.Grind.CommRing R] (dg : R → Nat) (mo : R → Prop) (f : R) (g : Nat) (q : R × R) : Prop := mo q.1 ∧ dg q.1 ≤ g + 1 ∧ dg q.2 < dg q.1 ∧ Dv q.1 (q.2 * q.2 - f)
theorem redu {R : Type} [Lean.Grind.CommRing R] {dg : R → Nat} {mo : R → Prop} (E : Euc R dg mo) {f : R} {g : Nat} (hf : dg f = 2 * g + 2) : ∀ (n : Nat) (u v : R), dg u ≤ n → u ≠ 0 → Dv u (v * v - f) → ∃ q, Red dg mo f g q ∧ beq (II f u v) (II f q.1 q.2) := by
  have hD := E.dom
  have hB := bdom E hf
  have hf0 : f ≠ 0 := fun e => by rw [E.z.mpr e] at hf; omega
  intro n
  induction n with
  | zero => intro u v h h0; exact absurd (E.z.mp (by omega)) h0
  | succ n ih =>
    intro u v h h0 hv
    obtain ⟨q, r, e, hr⟩ := E.2.2.2.2.1 v u (E.nz h0)
    have hII : II f u v = II f u r := II_v ⟨q, by rw [e]; grind⟩
    obtain ⟨w, hw⟩ := hv
    have hw2 : r * r - f = u * (w - q * (v + r)) := by
      have : r = v - u * q := by grind
      have e3 : r * r = v * v - u * q * (v + r) := by rw [this]; grind
      grind
    rw [hII]
    by_cases hg : dg u ≤ g + 1
    · obtain ⟨c, d, hcd, hm⟩ := E.2.2.2.2.2.2.2.2.2.1 u h0
      have hc0 : c ≠ 0 := fun e => hD.2 (by rw [← hcd, e]; grind)
      have hd0 : d ≠ 0 := fun e => hD.2 (by rw [← hcd, e]; grind)
      have hcu : dg (u * c) = dg u := by
        have m1 := E.mul h0 hc0
        have m2 := E.mul hc0 hd0
        rw [hcd, E.2.2.2.2.2.2.2.1] at m2
        have := E.nz hc0; have := E.nz hd0; omega
      refine ⟨(u * c, r), ⟨hm, by rw [hcu]; exact hg, by rw [hcu]; exact hr, ?_⟩, ?_⟩
      · exact ⟨d * (w - q * (v + r)), by show r * r - f = u * c * (d * (w - q * (v + r))); rw [hw2]; grind⟩
      · show beq (II f u r) (II f (u * c) r)
        rw [II_u hcd]; exact @eqv_rf (BB R f) (bring f) hB _
    · have h1 : f - r * r = u * (-(w - q * (v + r))) := by grind
      generalize -(w - q * (v + r)) = u' at h1
      have hfr : dg (f - r * r) ≤ max (2 * g + 2) (2 * dg u - 3) ∧ f - r * r ≠ 0 := by
        by_cases hr0 : r = 0
        · have e3 : f - r * r = f := by rw [hr0]; grind
          rw [e3, hf]; exact ⟨by omega, hf0⟩
        · have m1 := E.mul hr0 hr0
          have m2 := E.sub f (r * r)
          have := E.nz hr0
          refine ⟨by omega, fun e3 => ?_⟩
          have : f = r * r := by grind
          rw [← this, hf] at m1; omega
      have hu' : u' ≠ 0 := fun e3 => hfr.2 (by rw [h1, e3]; grind)
      have m1 := E.mul h0 hu'
      rw [← h1] at m1
      obtain ⟨qq, h3, h4⟩ := ih u' (-r) (by have := hfr.1; omega) hu' ⟨-u, by grind⟩
      refine ⟨qq, h3, @eqv_tr (BB R f) (bring f) hB _ _ _ ⟨(r, 1), (u, 0), ?_, ?_, lowr h1⟩ h4⟩
      · intro e3
        have : (1 : R) = 0 := congrArg Prod.snd e3
        exact hD.2 this
      · intro e3
        have : u = OfNat.ofNat 0 := congrArg Prod.fst e3
        exact h0 this
/-- a sum of two classes: what it must be like -/
def Gsum {R : Type} [Lean.Grind.CommRing R] (f : R) (a b c : R × R) : Prop := beq (bim (II f a.1 a.2) (II f b.1 b.2)) (II f c.1 c.2)
theorem sum_ex {R : Type} [Lean.Grind.CommRing R] {dg : R → Nat} {mo : R → Prop} (E : Euc R dg mo) {f : R} {g : Nat} (hf : dg f = 2 * g + 2) (hS : Sqf f) {a b : R × R} (ha : Red dg mo f g a) (hb : Red dg mo f g b) : ∃ c, Red dg mo f g c ∧ Gsum f a b c := by
  have hD := E.dom
  have hB := bdom E hf
  have a0 : a.1 ≠ 0 := E.2.2.2.2.2.2.2.2.2.2 _ ha.1
  have b0 : b.1 ≠ 0 := E.2.2.2.2.2.2.2.2.2.2 _ hb.1
  obtain ⟨d1, s, t, e1, h1, h2⟩ := E.bez _ a.1 b.1 (Nat.le_refl _)
  obtain ⟨d, s', t', e2, h3, h4⟩ := E.bez _ d1 (a.2 + b.2) (Nat.le_refl _)
  obtain ⟨U1, hU1⟩ := h3.tr h1
  obtain ⟨U2, hU2⟩ := h3.tr h2
  obtain ⟨W, hW⟩ := h4
  obtain ⟨w1, hw1⟩ := ha.2.2.2
  have hdv : Dv d ((s' * s) * a.1 * b.2 + (s' * t) * b.1 * a.2 + t' * (a.2 * b.2 + f)) := by
    have : a.2 * b.2 + f = a.2 * (a.2 + b.2) - a.1 * w1 := by grind
    rw [this, hW]
    refine ⟨s' * s * U1 * b.2 + s' * t * U2 * a.2 + t' * (a.2 * W - U1 * w1), ?_⟩
    rw [hU1, hU2] at *; grind
  obtain ⟨v3, hv3⟩ := hdv
  have hc := comp E (s1 := s' * s) (s2 := s' * t) (s3 := t') (v3 := v3) (t := 0) hS a0 ha.2.2.2 hb.2.2.2 (by rw [e2, e1]; grind) hU1 hU2 hW (by rw [← hv3]; exact cz6 _ _)
  have hd0 : d ≠ 0 := fun e => a0 (by rw [hU1, e]; grind)
  have hU0 : U1 * U2 ≠ 0 := hD.ne (fun e => a0 (by rw [hU1, e]; grind)) (fun e => b0 (by rw [hU2, e]; grind))
  obtain ⟨c, hc1, hc2⟩ := redu E hf _ (U1 * U2) v3 (Nat.le_refl _) hU0 hc.2
  refine ⟨c, hc1, @eqv_tr (BB R f) (bring f) hB _ _ _ ?_ hc2⟩
  refine ⟨bC f 1, (d, 0), hB.2, ?_, ?_⟩
  · intro e3
    have : d = OfNat.ofNat 0 := congrArg Prod.fst e3
    exact hd0 this
  · exact (@isc_one (BB R f) (bring f) _).trans hc.1
theorem sum_un {R : Type} [Lean.Grind.CommRing R] {dg : R → Nat} {mo : R → Prop} (E : Euc R dg mo) {f : R} {g : Nat} (hf : dg f = 2 * g + 2) {c c' : R × R} {P : BB R f → Prop} (h1 : Red dg mo f g c) (h2 : Red dg mo f g c') (e1 : beq P (II f c.1 c.2)) (e2 : beq P (II f c'.1 c'.2)) : c = c' := by
  have hB := bdom E hf
  have := uniq E hf h1.1 h2.1 h1.2.1 h2.2.1 h1.2.2.1 h2.2.2.1 (@eqv_tr (BB R f) (bring f) hB _ _ _ (@eqv_sy (BB R f) (bring f) _ _ e1) e2)
  exact Prod.ext this.1 this.2
/-- classes as a type, and their sum -/
def Gt {R : Type} [Lean.Grind.CommRing R] (dg : R → Nat) (mo : R → Prop) (f : R) (g : Nat) : Type := {q : R × R // Red dg mo f g q}
/-- what is asked of a group that is added in -/
def Grp (G : Type) (ad : G → G → G) (z : G) (ng : G → G) : Prop := (∀ a b c, ad (ad a b) c = ad a (ad b c)) ∧ (∀ a b, ad a b = ad b a) ∧ (∀ a, ad z a = a) ∧ ∀ a, ad (ng a) a = z
theorem grp_ex {R : Type} [Lean.Grind.CommRing R] {dg : R → Nat} {mo : R → Prop} (E : Euc R dg mo) {f : R} {g : Nat} (hf : dg f = 2 * g + 2) (hS : Sqf f) (h1 : mo 1) :
    ∃ (ad : Gt dg mo f g → Gt dg mo f g → Gt dg mo f g) (z : Gt dg mo f g) (ng : Gt dg mo f g → Gt dg mo f g), Grp _ ad z ng ∧ (∀ a b c : Gt dg mo f g, Gsum f a.1 b.1 c.1 ↔ c = ad a b) ∧ z.1 = (1, 0) ∧ ∀ a : Gt dg mo f g, (ng a).1 = (a.1.1, -a.1.2) := by
  have hB := bdom E hf
  have hD := E.dom
  have hz : Red dg mo f g (1, 0) := ⟨h1, by show dg 1 ≤ _; rw [E.2.2.2.2.2.2.2.1]; omega, by show dg (0 : R) < dg 1; rw [E.2.2.2.2.2.2.2.1, E.z.mpr rfl]; omega, ⟨-f, by show (0 : R) * 0 - f = 1 * -f; grind⟩⟩
  have hn : ∀ a : Gt dg mo f g, Red dg mo f g (a.1.1, -a.1.2) := fun a => ⟨a.2.1, a.2.2.1, by show dg (-a.1.2) < _; rw [E.2.2.1]; exact a.2.2.2.1, by
    obtain ⟨w, hw⟩ := a.2.2.2.2
    exact ⟨w, cz3 hw⟩⟩
  refine ⟨fun a b => ⟨Classical.choose (sum_ex E hf hS a.2 b.2), (Classical.choose_spec (sum_ex E hf hS a.2 b.2)).1⟩, ⟨(1, 0), hz⟩, fun a => ⟨(a.1.1, -a.1.2), hn a⟩, ?_⟩
  generalize hadd : (fun (a b : Gt dg mo f g) => (⟨Classical.choose (sum_ex E hf hS a.2 b.2), (Classical.choose_spec (sum_ex E hf hS a.2 b.2)).1⟩ : Gt dg mo f g)) = ad
  have sp : ∀ a b : Gt dg mo f g, Gsum f a.1 b.1 (ad a b).1 := fun a b => by
    rw [← hadd]; exact (Classical.choose_spec (sum_ex E hf hS a.2 b.2)).2
  have un : ∀ a b c : Gt dg mo f g, Gsum f a.1 b.1 c.1 → c = ad a b := fun a b c h => Subtype.ext (sum_un E hf c.2 (ad a b).2 h (sp a b))
  have tr : ∀ {P Q T : BB R f → Prop}, beq P Q → beq Q T → beq P T := fun h1 h2 => @eqv_tr (BB R f) (bring f) hB _ _ _ h1 h2
  have sy : ∀ {P Q : BB R f → Prop}, beq P Q → beq Q P := fun h1 => @eqv_sy (BB R f) (bring f) _ _ h1
  have rf : ∀ P : BB R f → Prop, beq P P := fun P => @eqv_rf (BB R f) (bring f) hB P
  have ml : ∀ {P P' Q Q' : BB R f → Prop}, beq P P' → beq Q Q' → beq (bim P Q) (bim P' Q') := fun h1 h2 => @eqv_mul (BB R f) (bring f) hB _ _ _ _ h1 h2
  refine ⟨⟨fun a b c => ?_, fun a b => ?_, fun a => ?_, fun a => ?_⟩, fun a b c => ⟨un a b c, fun e => by rw [e]; exact sp a b⟩, rfl, fun a => rfl⟩
  · refine un a (ad b c) _ ?_
    have e1 : beq (bim (bim (II f a.1.1 a.1.2) (II f b.1.1 b.1.2)) (II f c.1.1 c.1.2)) (II f (ad (ad a b) c).1.1 (ad (ad a b) c).1.2) := tr (ml (sp a b) (rf _)) (sp (ad a b) c)
    rw [show bim (bim (II f a.1.1 a.1.2) (II f b.1.1 b.1.2)) (II f c.1.1 c.1.2) = bim (II f a.1.1 a.1.2) (bim (II f b.1.1 b.1.2) (II f c.1.1 c.1.2)) from @imul_assoc (BB R f) (bring f) _ _ _] at e1
    exact tr (ml (rf _) (sy (sp b c))) e1
  · refine un b a _ ?_
    have := sp a b
    unfold Gsum at this ⊢
    rw [show bim (II f b.1.1 b.1.2) (II f a.1.1 a.1.2) = bim (II f a.1.1 a.1.2) (II f b.1.1 b.1.2) from @imul_comm (BB R f) (bring f) _ _]
    exact this
  · refine (un _ a a ?_).symm
    have e : bim (II f 1 0) (II f a.1.1 a.1.2) = II f a.1.1 a.1.2 := by
      refine pred_ext (fun x hx => @imul_le (BB R f) (bring f) _ _ _ (II_is a.2.2.2.2) (fun p q _ hq => (II_is a.2.2.2.2).2.2 p q hq) x hx) (fun x hx => ?_)
      have h2 := @imul_in (BB R f) (bring f) (II f 1 0) (II f a.1.1 a.1.2) (bC f 1) x ⟨1, by show (1 : R) + 0 * 0 = 1 * 1; grind⟩ hx
      have e3 : bmul (bC f 1) x = x := (bring f).one_mul x
      rw [← e3]; exact h2
    show beq (bim (II f 1 0) (II f a.1.1 a.1.2)) (II f a.1.1 a.1.2)
    rw [e]; exact rf _
  · refine (un _ a ⟨(1, 0), hz⟩ ?_).symm
    have a0 : a.1.1 ≠ 0 := E.2.2.2.2.2.2.2.2.2.2 _ a.2.1
    have hc := comp E (u1 := a.1.1) (v1 := -a.1.2) (u2 := a.1.1) (v2 := a.1.2) (d := a.1.1) (s1 := 1) (s2 := 0) (s3 := 0) (U1 := 1) (U2 := 1) (W := 0) (v3 := 0) (t := -a.1.2) hS a0 (hn a).2.2.2 a.2.2.2.2 (cz5 a.1.1 a.1.2 f).1 (cz5 a.1.1 a.1.2 f).2.1 (cz5 a.1.1 a.1.2 f).2.1 (cz5 a.1.1 a.1.2 f).2.2.1 (cz5 a.1.1 a.1.2 f).2.2.2
    have e : II f (1 * 1) (0 : R) = II f 1 0 := by
      have : (1 : R) * 1 = 1 := by grind
      rw [this]
    rw [e] at hc
    refine ⟨bC f 1, (a.1.1, 0), hB.2, ?_, ?_⟩
    · intro e3
      have : a.1.1 = OfNat.ofNat 0 := congrArg Prod.fst e3
      exact a0 this
    · exact (@isc_one (BB R f) (bring f) _).trans hc.1
