/-! A PLACE WHERE y IS 0: its powers; ideals with their norm's degree; how one room becomes another -/
def tpw {R : Type} [Lean.Grind.CommRing R] (T : R) : Nat → R
  | 0 => 1
  | n + 1 => T * tpw T n
theorem tpw_add {R : Type} [Lean.Grind.CommRing R] (T : R) (n : Nat) : ∀ m, tpw T (m + n) = tpw T m * tpw T n
  | 0 => by rw [Nat.zero_add]; show tpw T n = 1 * tpw T n; grind
  | m + 1 => by
    rw [show m + 1 + n = (m + n) + 1 by omega]
    show T * tpw T (m + n) = T * tpw T m * tpw T n
    rw [tpw_add T n m]; grind
theorem tpw_dn {R : Type} [Lean.Grind.CommRing R] {T x : R} {m n : Nat} (h : m ≤ n) (hx : Dv (tpw T n) x) : Dv (tpw T m) x := by
  obtain ⟨k, rfl⟩ : ∃ k, n = m + k := ⟨n - m, by omega⟩
  obtain ⟨y, rfl⟩ := hx
  rw [tpw_add]
  exact ⟨tpw T k * y, by grind⟩
theorem Dv.mm {R : Type} [Lean.Grind.CommRing R] {a b x y : R} (h1 : Dv a x) (h2 : Dv b y) : Dv (a * b) (x * y) := by
  obtain ⟨c, rfl⟩ := h1
  obtain ⟨d, rfl⟩ := h2
  exact ⟨c * d, by grind⟩
theorem Dv.mr {R : Type} [Lean.Grind.CommRing R] {a b : R} (c : R) (h1 : Dv a b) : Dv a (b * c) := by
  obtain ⟨d, rfl⟩ := h1
  exact ⟨d * c, by grind⟩
abbrev bpw {R : Type} [Lean.Grind.CommRing R] {f : R} (P : BB R f → Prop) (n : Nat) : BB R f → Prop := @ipw (BB R f) (bring f) P n
def Q0 {R : Type} [Lean.Grind.CommRing R] (T f : R) (k : Nat) : BB R f → Prop := fun w => Dv (tpw T ((k + 1) / 2)) w.1 ∧ Dv (tpw T (k / 2)) w.2
theorem Q0_f {R : Type} [Lean.Grind.CommRing R] {T f f1 : R} (hf : f = T * f1) {n : Nat} {x : R} (h : Dv (tpw T n) x) : Dv (tpw T (n + 1)) (x * f) := by
  obtain ⟨y, rfl⟩ := h
  refine ⟨y * f1, ?_⟩
  show tpw T n * y * f = T * tpw T n * (y * f1)
  have e : tpw T n * y * f = tpw T n * y * (T * f1) := congrArg _ hf
  rw [e]; grind
theorem Q0_is {R : Type} [Lean.Grind.CommRing R] {T f f1 : R} (hf : f = T * f1) (k : Nat) : bis (Q0 T f k) := by
  refine ⟨⟨Dv.zero _, Dv.zero _⟩, ?_, ?_⟩
  · rintro ⟨a1, a2⟩ ⟨b1, b2⟩ ⟨h1, h2⟩ ⟨h3, h4⟩
    exact ⟨h1.add h3, h2.add h4⟩
  · rintro ⟨c1, c2⟩ ⟨a1, a2⟩ ⟨h1, h2⟩
    replace h1 : Dv (tpw T ((k + 1) / 2)) a1 := h1
    replace h2 : Dv (tpw T (k / 2)) a2 := h2
    refine ⟨?_, ?_⟩
    · show Dv (tpw T ((k + 1) / 2)) (c1 * a1 + c2 * a2 * f)
      refine (h1.mul c1).add ?_
      have e : c2 * a2 * f = c2 * (a2 * f) := by clear hf; grind
      rw [e]
      exact (tpw_dn (by omega) (Q0_f hf h2)).mul c2
    · show Dv (tpw T (k / 2)) (c1 * a2 + c2 * a1)
      exact (h2.mul c1).add ((tpw_dn (by omega) h1).mul c2)
theorem II_0 {R : Type} [Lean.Grind.CommRing R] {T f f1 : R} (hf : f = T * f1) : bis (II f T 0) := II_is ⟨-f1, by rw [hf]; grind⟩
theorem q0e {R : Type} [Lean.Grind.CommRing R] {T f f1 k m : R} (hf : f = T * f1) (hk : f1 * k = 1 + T * m) : T = (k * (0 * 0 + 1 * 1 * f) + 0 * (0 * 1 + 1 * 0) * f) - (m * (T * T + 0 * 0 * f) + 0 * (T * 0 + 0 * T) * f) := by
  have e : T = T * (1 + T * m) - m * (T * T) := by clear hf hk; grind
  have e2 : (k * (0 * 0 + 1 * 1 * f) + 0 * (0 * 1 + 1 * 0) * f) - (m * (T * T + 0 * 0 * f) + 0 * (T * 0 + 0 * T) * f) = k * f - m * (T * T) := by clear e hf hk; grind
  rw [e2]
  have e3 : k * f = T * (f1 * k) := by rw [hf]; clear e e2 hf hk; grind
  rw [e3, hk]; exact e
theorem q0e2 {R : Type} [Lean.Grind.CommRing R] {T f k m : R} : (0 : R) = (k * (0 * 1 + 1 * 0) + 0 * (0 * 0 + 1 * 1 * f)) - (m * (T * 0 + 0 * T) + 0 * (T * T + 0 * 0 * f)) := by grind
theorem pw_0 {R : Type} [Lean.Grind.CommRing R] {T f f1 k m : R} (hf : f = T * f1) (hk : f1 * k = 1 + T * m) : ∀ (n : Nat) (w : BB R f), bpw (II f T 0) n w ↔ Q0 T f n w := by
  have hI := II_0 hf
  have up : ∀ (n : Nat) (w : BB R f), bpw (II f T 0) n w → Q0 T f n w := fun n => by
    induction n with
    | zero => intro w _; exact ⟨⟨w.1, by show w.1 = 1 * w.1; grind⟩, ⟨w.2, by show w.2 = 1 * w.2; grind⟩⟩
    | succ n ih =>
      intro w hw
      refine @imul_le (BB R f) (bring f) _ _ _ (Q0_is hf (n + 1)) (fun a b ha hb => ?_) w hw
      obtain ⟨a1, a2⟩ := a
      obtain ⟨b1, b2⟩ := b
      obtain ⟨h1, h2⟩ := ih _ hb
      replace h1 : Dv (tpw T ((n + 1) / 2)) b1 := h1
      replace h2 : Dv (tpw T (n / 2)) b2 := h2
      have h3 : Dv T a1 := by
        obtain ⟨x, hx⟩ := ha
        replace hx : a1 + a2 * 0 = T * x := hx
        exact ⟨x, by rw [← hx]; clear hx hf hk; grind⟩
      refine ⟨?_, ?_⟩
      · show Dv (tpw T ((n + 1 + 1) / 2)) (a1 * b1 + a2 * b2 * f)
        have e : a2 * b2 * f = a2 * (b2 * f) := by clear hf hk; grind
        rw [e]
        exact (tpw_dn (n := (n + 1) / 2 + 1) (by omega) (h3.mm h1)).add ((tpw_dn (by omega) (Q0_f hf h2)).mul a2)
      · show Dv (tpw T ((n + 1) / 2)) (a1 * b2 + a2 * b1)
        exact (tpw_dn (n := n / 2 + 1) (by omega) (h3.mm h2)).add (h1.mul a2)
  have hy : II f T 0 ((0, 1) : BB R f) := ⟨0, by show (0 : R) + 1 * 0 = T * 0; grind⟩
  have hT : II f T 0 ((T, 0) : BB R f) := ⟨1, by show T + 0 * 0 = T * 1; grind⟩
  have p2 : ∀ a b : BB R f, II f T 0 a → II f T 0 b → bpw (II f T 0) 2 (bmul a b) := fun a b ha hb => by
    have e := @ipw_1 (BB R f) (bring f) _ hI
    exact @ipw_mul (BB R f) (bring f) _ 1 1 a b (by rw [e]; exact ha) (by rw [e]; exact hb)
  have t2 : bpw (II f T 0) 2 ((T, 0) : BB R f) := by
    have i2 := @ipw_is (BB R f) (bring f) (II f T 0) 2
    have e : ((T, 0) : BB R f) = (bring f).sub (bmul (k, 0) (bmul (0, 1) (0, 1))) (bmul (m, 0) (bmul (T, 0) (T, 0))) := BB.ext
      (by show T = (k * (0 * 0 + 1 * 1 * f) + 0 * (0 * 1 + 1 * 0) * f) + -(m * (T * T + 0 * 0 * f) + 0 * (T * 0 + 0 * T) * f)
          refine (q0e hf hk).trans ?_
          clear hf hk; grind)
      (by show (0 : R) = (k * (0 * 1 + 1 * 0) + 0 * (0 * 0 + 1 * 1 * f)) + -(m * (T * 0 + 0 * T) + 0 * (T * T + 0 * 0 * f))
          refine (q0e2 (f := f) (k := k) (m := m) (T := T)).trans ?_
          clear hf hk; grind)
    rw [e]
    exact @IsI.sb (BB R f) (bring f) _ i2 _ _ (i2.2.2 _ _ (p2 _ _ hy hy)) (i2.2.2 _ _ (p2 _ _ hT hT))
  have tj : ∀ j, bpw (II f T 0) (2 * j) ((tpw T j, 0) : BB R f) := fun j => by
    induction j with
    | zero => exact trivial
    | succ j ih =>
      have e : ((tpw T (j + 1), 0) : BB R f) = bmul (T, 0) (tpw T j, 0) := BB.ext
        (by show T * tpw T j = T * tpw T j + 0 * 0 * f; clear hf hk; grind) (by show (0 : R) = T * 0 + 0 * tpw T j; grind)
      rw [e, show 2 * (j + 1) = 2 + 2 * j by omega]
      exact @ipw_mul (BB R f) (bring f) _ 2 (2 * j) _ _ t2 ih
  intro n w
  refine ⟨up n w, ?_⟩
  rintro ⟨⟨x, hx⟩, ⟨y, hy2⟩⟩
  obtain ⟨w1, w2⟩ := w
  replace hx : w1 = tpw T ((n + 1) / 2) * x := hx
  replace hy2 : w2 = tpw T (n / 2) * y := hy2
  by_cases q : n % 2 = 0
  · have e : ((w1, w2) : BB R f) = bmul (x, y) (tpw T (n / 2), 0) := BB.ext
      (by show w1 = x * tpw T (n / 2) + y * 0 * f
          rw [hx, show (n + 1) / 2 = n / 2 by omega]; clear hx hy2 hf hk; grind)
      (by show w2 = x * 0 + y * tpw T (n / 2)
          rw [hy2]; clear hx hy2 hf hk; grind)
    rw [e]
    have := tj (n / 2)
    rw [show 2 * (n / 2) = n by omega] at this
    exact (@ipw_is (BB R f) (bring f) (II f T 0) n).2.2 _ _ this
  · have e : ((w1, w2) : BB R f) = bmul (T * x, y) (tpw T (n / 2), 0) := BB.ext
      (by show w1 = T * x * tpw T (n / 2) + y * 0 * f
          rw [hx, show (n + 1) / 2 = n / 2 + 1 by omega]
          show T * tpw T (n / 2) * x = _
          clear hx hy2 hf hk; grind)
      (by show w2 = T * x * 0 + y * tpw T (n / 2)
          rw [hy2]; clear hx hy2 hf hk; grind)
    rw [e]
    have h1 : bpw (II f T 0) 1 ((T * x, y) : BB R f) := by
      have e1 := @ipw_1 (BB R f) (bring f) _ hI
      show @ipw (BB R f) (bring f) (II f T 0) 1 _
      rw [e1]
      exact ⟨x, by show T * x + y * 0 = T * x; clear hx hy2 hf hk; grind⟩
    have := @ipw_mul (BB R f) (bring f) _ 1 (2 * (n / 2)) _ _ h1 (tj (n / 2))
    rw [show 1 + 2 * (n / 2) = n by omega] at this
    exact this
/-! ideals with their norm's degree -/
def NF {R : Type} [Lean.Grind.CommRing R] (dg : R → Nat) {f : R} (P : BB R f → Prop) (n : Nat) : Prop := ∃ c u v, c ≠ 0 ∧ u ≠ 0 ∧ Dv u (v * v - f) ∧ P = bsc (c, 0) (II f u v) ∧ 2 * (dg c - 1) + (dg u - 1) = n
theorem II_all {R : Type} [Lean.Grind.CommRing R] (f : R) : II f 1 0 = fun _ : BB R f => True := pred_ext (fun _ _ => trivial) (fun x _ => ⟨x.1, by show x.1 + x.2 * 0 = 1 * x.1; grind⟩)
theorem bsc_1 {R : Type} [Lean.Grind.CommRing R] {f : R} (P : BB R f → Prop) : bsc (1, 0) P = P := @isc_one (BB R f) (bring f) P
theorem NF_ii {R : Type} [Lean.Grind.CommRing R] {dg : R → Nat} {mo : R → Prop} (E : Euc R dg mo) {f u v : R} (hu : u ≠ 0) (hv : Dv u (v * v - f)) : NF dg (II f u v) (dg u - 1) := by
  refine ⟨1, u, v, E.dom.2, hu, hv, (bsc_1 _).symm, ?_⟩
  rw [E.2.2.2.2.2.2.2.1]; omega
theorem NF_all {R : Type} [Lean.Grind.CommRing R] {dg : R → Nat} {mo : R → Prop} (E : Euc R dg mo) (f : R) : NF dg (fun _ : BB R f => True) 0 := by
  have h := NF_ii E (f := f) (u := 1) (v := 0) E.dom.2 ⟨-f, by grind⟩
  rw [II_all, E.2.2.2.2.2.2.2.1] at h; exact h
theorem comp_ex {R : Type} [Lean.Grind.CommRing R] {dg : R → Nat} {mo : R → Prop} (E : Euc R dg mo) {f : R} (hS : Sqf f) {u1 v1 u2 v2 : R} (a0 : u1 ≠ 0) (V1 : Dv u1 (v1 * v1 - f)) (V2 : Dv u2 (v2 * v2 - f)) :
    ∃ d U1 U2 v3, u1 = d * U1 ∧ u2 = d * U2 ∧ bim (II f u1 v1) (II f u2 v2) = bsc (d, 0) (II f (U1 * U2) v3) ∧ Dv (U1 * U2) (v3 * v3 - f) := by
  obtain ⟨d1, s, t, e1, h1, h2⟩ := E.bez _ u1 u2 (Nat.le_refl _)
  obtain ⟨d, s', t', e2, h3, h4⟩ := E.bez _ d1 (v1 + v2) (Nat.le_refl _)
  obtain ⟨U1, hU1⟩ := h3.tr h1
  obtain ⟨U2, hU2⟩ := h3.tr h2
  obtain ⟨W, hW⟩ := h4
  obtain ⟨w1, hw1⟩ := V1
  have hdv : Dv d ((s' * s) * u1 * v2 + (s' * t) * u2 * v1 + t' * (v1 * v2 + f)) := by
    have : v1 * v2 + f = v1 * (v1 + v2) - u1 * w1 := by grind
    rw [this, hW]
    refine ⟨s' * s * U1 * v2 + s' * t * U2 * v1 + t' * (v1 * W - U1 * w1), ?_⟩
    rw [hU1, hU2] at *; grind
  obtain ⟨v3, hv3⟩ := hdv
  have hc := comp E (s1 := s' * s) (s2 := s' * t) (s3 := t') (v3 := v3) (t := 0) hS a0 ⟨w1, hw1⟩ V2 (by rw [e2, e1]; grind) hU1 hU2 hW (by rw [← hv3]; exact cz6 _ _)
  exact ⟨d, U1, U2, v3, hU1, hU2, hc.1, hc.2⟩
theorem NF_mul {R : Type} [Lean.Grind.CommRing R] {dg : R → Nat} {mo : R → Prop} (E : Euc R dg mo) {f : R} (hS : Sqf f) {P Q : BB R f → Prop} {n m : Nat} (h1 : NF dg P n) (h2 : NF dg Q m) : NF dg (bim P Q) (n + m) := by
  have hD := E.dom
  obtain ⟨c1, u1, v1, c10, u10, V1, rfl, d1⟩ := h1
  obtain ⟨c2, u2, v2, c20, u20, V2, rfl, d2⟩ := h2
  obtain ⟨d, U1, U2, v3, e1, e2, hc, hv⟩ := comp_ex E hS u10 V1 V2
  have d0 : d ≠ 0 := fun e => u10 (by rw [e1, e]; clear e1 e2; grind)
  have U10 : U1 ≠ 0 := fun e => u10 (by rw [e1, e]; clear e1 e2; grind)
  have U20 : U2 ≠ 0 := fun e => u20 (by rw [e2, e]; clear e1 e2; grind)
  refine ⟨c1 * c2 * d, U1 * U2, v3, hD.ne (hD.ne c10 c20) d0, hD.ne U10 U20, hv, ?_, ?_⟩
  · have s1 := @isc_imul (BB R f) (bring f) (c1, 0) (II f u1 v1) (bsc (c2, 0) (II f u2 v2))
    have s2 := @imul_comm (BB R f) (bring f) (II f u1 v1) (bsc (c2, 0) (II f u2 v2))
    have s3 := @isc_imul (BB R f) (bring f) (c2, 0) (II f u2 v2) (II f u1 v1)
    have s4 := @imul_comm (BB R f) (bring f) (II f u2 v2) (II f u1 v1)
    have s5 := @isc_isc (BB R f) (bring f) (c2, 0) (d, 0) (II f (U1 * U2) v3)
    have s6 := @isc_isc (BB R f) (bring f) (c1, 0) (bmul (c2, 0) (d, 0)) (II f (U1 * U2) v3)
    have e5 : bmul ((c1, 0) : BB R f) (bmul (c2, 0) (d, 0)) = (c1 * c2 * d, 0) := BB.ext
      (by show c1 * (c2 * d + 0 * 0 * f) + 0 * (c2 * 0 + 0 * d) * f = c1 * c2 * d; clear e1 e2; grind)
      (by show c1 * (c2 * 0 + 0 * d) + 0 * (c2 * d + 0 * 0 * f) = 0; clear e1 e2; grind)
    have s7 : bim (bsc (c1, 0) (II f u1 v1)) (bsc (c2, 0) (II f u2 v2)) = bsc (bmul (c1, 0) (bmul (c2, 0) (d, 0))) (II f (U1 * U2) v3) :=
      s1.trans ((congrArg (bsc (c1, 0)) ((s2.trans s3).trans ((congrArg (bsc (c2, 0)) (s4.trans hc)).trans s5))).trans s6)
    rw [e5] at s7; exact s7
  · have m1 := E.mul d0 U10
    have m2 := E.mul d0 U20
    have m3 := E.mul U10 U20
    have m4 := E.mul c10 c20
    have m5 := E.mul (hD.ne c10 c20) d0
    rw [← e1] at m1
    rw [← e2] at m2
    have := E.nz d0; have := E.nz U10; have := E.nz U20; have := E.nz c10; have := E.nz c20
    omega
theorem NF_pw {R : Type} [Lean.Grind.CommRing R] {dg : R → Nat} {mo : R → Prop} (E : Euc R dg mo) {f : R} (hS : Sqf f) {P : BB R f → Prop} {m : Nat} (h : NF dg P m) : ∀ n, NF dg (bpw P n) (n * m)
  | 0 => by rw [Nat.zero_mul]; exact NF_all E f
  | n + 1 => by
    have := NF_mul E hS h (NF_pw E hS h n)
    rw [show (n + 1) * m = m + n * m by rw [Nat.add_mul]; omega]; exact this
theorem bnm_mul {R : Type} [Lean.Grind.CommRing R] {f : R} (x y : BB R f) : bnm (bmul x y) = bnm x * bnm y := by
  show (x.1 * y.1 + x.2 * y.2 * f) * (x.1 * y.1 + x.2 * y.2 * f) - (x.1 * y.2 + x.2 * y.1) * (x.1 * y.2 + x.2 * y.1) * f = (x.1 * x.1 - x.2 * x.2 * f) * (y.1 * y.1 - y.2 * y.2 * f)
  grind
theorem nd1 {R : Type} [Lean.Grind.CommRing R] (f s1 s2 U V : R) : (s1 * s1 - s2 * s2 * f) * U = (s1 * U + s2 * 0 * f) * (s1 * 1 + s2 * -V) - (s1 * 0 + s2 * U) * (s1 * -V + s2 * 1 * f) := by grind
theorem nd2 {R : Type} [Lean.Grind.CommRing R] (f t1 t2 y2 z2 u v k l : R) : (t1 * (u * k - y2 * v) + t2 * y2 * f) * (t1 * z2 + t2 * (u * l - z2 * v)) - (t1 * y2 + t2 * (u * k - y2 * v)) * (t1 * (u * l - z2 * v) + t2 * z2 * f) = (t1 * t1 - t2 * t2 * f) * u * (k * z2 - y2 * l) := by grind
theorem nrm_dv {R : Type} [Lean.Grind.CommRing R] {f u v U V : R} {s t : BB R f} (h : bsc s (II f U V) = bsc t (II f u v)) : Dv (bnm t * u) (bnm s * U) := by
  have g1 : bsc t (II f u v) (bmul s (U, 0)) := by rw [← h]; exact ⟨_, II_1 f U V, rfl⟩
  have g2 : bsc t (II f u v) (bmul s (-V, 1)) := by rw [← h]; exact ⟨_, II_2 f U V, rfl⟩
  obtain ⟨⟨y1, y2⟩, hy, ey⟩ := g1
  obtain ⟨⟨z1, z2⟩, hz, ez⟩ := g2
  obtain ⟨k, rfl⟩ := II_e hy
  obtain ⟨l, rfl⟩ := II_e hz
  have A := congrArg Prod.fst ey
  have B := congrArg Prod.snd ey
  have C := congrArg Prod.fst ez
  have D := congrArg Prod.snd ez
  replace A : s.1 * U + s.2 * 0 * f = t.1 * (u * k - y2 * v) + t.2 * y2 * f := A
  replace B : s.1 * 0 + s.2 * U = t.1 * y2 + t.2 * (u * k - y2 * v) := B
  replace C : s.1 * -V + s.2 * 1 * f = t.1 * (u * l - z2 * v) + t.2 * z2 * f := C
  replace D : s.1 * 1 + s.2 * -V = t.1 * z2 + t.2 * (u * l - z2 * v) := D
  refine ⟨k * z2 - y2 * l, ?_⟩
  show (s.1 * s.1 - s.2 * s.2 * f) * U = (t.1 * t.1 - t.2 * t.2 * f) * u * (k * z2 - y2 * l)
  rw [nd1 f s.1 s.2 U V, A, B, C, D, nd2]
theorem Euc.dvle {R : Type} [Lean.Grind.CommRing R] {dg : R → Nat} {mo : R → Prop} (E : Euc R dg mo) {a b : R} (h : Dv a b) (hb : b ≠ 0) : dg a ≤ dg b := by
  rcases Nat.lt_or_ge (dg b) (dg a) with q | q
  · exact absurd (E.small (fun e => hb (by obtain ⟨c, rfl⟩ := h; rw [e]; grind)) h q) hb
  · exact q
/-- two ideals in one class: how the degrees go together -/
theorem xfer {R : Type} [Lean.Grind.CommRing R] {dg : R → Nat} {mo : R → Prop} (E : Euc R dg mo) {f : R} {g : Nat} (hf : dg f = 2 * g + 2) {J : BB R f → Prop} {n : Nat} {u v : R} (hJ : NF dg J n) (hu : u ≠ 0) (h : beq J (II f u v)) :
    ∃ s t : BB R f, bnm s ≠ 0 ∧ bnm t ≠ 0 ∧ bsc s J = bsc t (II f u v) ∧ dg (bnm s) + n = dg (bnm t) + (dg u - 1) := by
  have hD := E.dom
  obtain ⟨c, U, V, c0, U0, hV, rfl, hn⟩ := hJ
  obtain ⟨s, t, s0, t0, e⟩ := h
  have hs : bnm s ≠ 0 := fun hq => s0 (by
    obtain ⟨q1, q2⟩ := bnm_ne E hf hq
    exact BB.ext q1 q2)
  have ht : bnm t ≠ 0 := fun hq => t0 (by
    obtain ⟨q1, q2⟩ := bnm_ne E hf hq
    exact BB.ext q1 q2)
  have e2 := @isc_isc (BB R f) (bring f) s (c, 0) (II f U V)
  have e3 : bsc (f := f) (bmul (f := f) s (c, 0)) (II f U V) = bsc t (II f u v) := e2.symm.trans e
  have d1 := nrm_dv e3
  have d2 := nrm_dv e3.symm
  have hc : bnm (f := f) (c, 0) = c * c := by show c * c - 0 * 0 * f = c * c; grind
  have hb : bnm (f := f) (bmul (f := f) s (c, 0)) = bnm s * (c * c) := (bnm_mul (f := f) s (c, 0)).trans (congrArg (fun z => bnm s * z) hc)
  replace d1 : Dv (bnm t * u) (bnm s * (c * c) * U) := by rw [← hb]; exact d1
  replace d2 : Dv (bnm s * (c * c) * U) (bnm t * u) := by rw [← hb]; exact d2
  have x1 : bnm s * (c * c) * U ≠ 0 := hD.ne (hD.ne hs (hD.ne c0 c0)) U0
  have x2 : bnm t * u ≠ 0 := hD.ne ht hu
  have l1 := E.dvle d1 x1
  have l2 := E.dvle d2 x2
  have m1 := E.mul c0 c0
  have m2 := E.mul hs (hD.ne c0 c0)
  have m3 := E.mul (hD.ne hs (hD.ne c0 c0)) U0
  have m4 := E.mul ht hu
  refine ⟨s, t, hs, ht, e, ?_⟩
  have := E.nz c0; have := E.nz U0; have := E.nz hu; have := E.nz hs; have := E.nz ht
  omega
/-- the pole of a function, told by rows -/
def PlL {R : Type} [Lean.Grind.CommRing R] (dg : R → Nat) (g : Nat) {f : R} (M : Int) (w : BB R f) : Prop := (dg w.1 : Int) ≤ evn M ∧ (dg w.2 : Int) ≤ evn (M - (2 * g + 1))
theorem bnm_dg {R : Type} [Lean.Grind.CommRing R] {dg : R → Nat} {mo : R → Prop} (E : Euc R dg mo) {f : R} {g : Nat} (hf : dg f = 2 * g + 2) (w : BB R f) : dg (bnm w) = max (2 * dg w.1 - 1) (if dg w.2 = 0 then 0 else 2 * dg w.2 + 2 * g) := by
  have hD := E.dom
  have hf0 : f ≠ 0 := fun e => by rw [E.z.mpr e] at hf; omega
  show dg (w.1 * w.1 - w.2 * w.2 * f) = _
  by_cases h1 : w.1 = 0
  · have e : w.1 * w.1 - w.2 * w.2 * f = -(w.2 * w.2 * f) := by rw [h1]; grind
    rw [e, E.2.2.1, E.z.mpr h1]
    by_cases h2 : w.2 = 0
    · have e2 : w.2 * w.2 * f = 0 := by rw [h2]; grind
      rw [e2, E.z.mpr h2, E.z.mpr rfl]; rfl
    · have m1 := E.mul h2 h2
      have m2 := E.mul (hD.ne h2 h2) hf0
      have := E.nz h2
      rw [if_neg this]; omega
  · have m0 := E.mul h1 h1
    have := E.nz h1
    by_cases h2 : w.2 = 0
    · have e2 : w.1 * w.1 - w.2 * w.2 * f = w.1 * w.1 := by rw [h2]; grind
      rw [e2, E.z.mpr h2]; simp; omega
    · have m1 := E.mul h2 h2
      have m2 := E.mul (hD.ne h2 h2) hf0
      have := E.nz h2
      rw [if_neg this]
      have k1 := E.sub (w.1 * w.1) (w.2 * w.2 * f)
      rcases Nat.lt_or_ge (dg (w.1 * w.1)) (dg (w.2 * w.2 * f)) with q | q
      · have := E.sub_gt q; omega
      · have := E.sub_lt (a := w.1 * w.1) (b := w.2 * w.2 * f) (by omega); omega
theorem PlL_n {R : Type} [Lean.Grind.CommRing R] {dg : R → Nat} {mo : R → Prop} (E : Euc R dg mo) {f : R} {g : Nat} (hf : dg f = 2 * g + 2) {M : Int} {w : BB R f} (hw : bnm w ≠ 0) : PlL dg g M w ↔ (dg (bnm w) : Int) ≤ M + 1 := by
  have h := bnm_dg E hf w
  have h0 := E.nz hw
  unfold PlL evn
  by_cases q : dg w.2 = 0
  · rw [if_pos q] at h
    constructor
    · rintro ⟨a, b⟩
      split at a <;> omega
    · intro a
      constructor <;> split <;> omega
  · rw [if_neg q] at h
    constructor
    · rintro ⟨a, b⟩
      split at a <;> split at b <;> omega
    · intro a
      constructor <;> split <;> omega
