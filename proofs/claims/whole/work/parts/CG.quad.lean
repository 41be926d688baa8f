/-! HOW MANY CLASSES ARE OF DEGREE 2: counted about each centre -/
theorem em_iff {p x y : Int} : x % p = y % p ↔ ∃ k, x = y + p * k := by
  constructor
  · intro h
    have : (x - y) % p = 0 := by rw [md_sub h rfl, Int.sub_self, Int.zero_emod]
    obtain ⟨k, hk⟩ := Int.dvd_of_emod_eq_zero this
    exact ⟨k, by omega⟩
  · rintro ⟨k, rfl⟩
    rw [Int.add_mul_emod_self_left]
theorem cq_a {p v w a r k1 k2 k5 v0 u1 : Int} (hw : w = v0 + v * a + p * k1) (hu : u1 = -(a + a) + p * k2) (h : 2 * v * v0 = r + v * v * u1 + p * k5) : 2 * v * w = r + p * (k5 + v * v * k2 + 2 * v * k1) := by
  rw [hw]
  have e : 2 * v * (v0 + v * a + p * k1) = 2 * v * v0 + 2 * v * (v * a + p * k1) := by grind
  rw [e, h, hu]; grind
theorem cq_b {p v w a r s D k1 k2 k3 k4 k5 k6 v0 u1 u0 R0 : Int} (hw : w = v0 + v * a + p * k1) (hu : u1 = -(a + a) + p * k2) (hu0 : u0 = a * a + -D + p * k3) (hR : R0 = s - a * r + p * k4) (h : 2 * v * v0 = r + v * v * u1 + p * k5) (h2 : v0 * v0 = R0 + v * v * u0 + p * k6) : v * v * D + w * w = s + p * (k4 + v * v * k3 + k6 + a * (v * v * k2) + a * k5 + 2 * (v0 + v * a) * k1 + p * (k1 * k1)) := by
  have e1 : w * w = v0 * v0 + a * (2 * v * v0) + v * v * (a * a) + p * (2 * (v0 + v * a) * k1 + p * (k1 * k1)) := by rw [hw]; grind
  rw [e1, h2, h, hu, hu0, hR]; grind
theorem cq_c {p v w a r k1 k2 k7 v0 u1 : Int} (hw : w = v0 + v * a + p * k1) (hu : u1 = -(a + a) + p * k2) (h : 2 * v * w = r + p * k7) : 2 * v * v0 = r + v * v * u1 + p * (k7 - v * v * k2 - 2 * v * k1) := by
  have e : 2 * v * v0 = 2 * v * w - 2 * v * (v * a + p * k1) := by rw [hw]; grind
  rw [e, h, hu]; grind
theorem cq_d {p v w a r s D k1 k3 k4 k7 k8 v0 u0 R0 : Int} (hw : w = v0 + v * a + p * k1) (hu0 : u0 = a * a + -D + p * k3) (hR : R0 = s - a * r + p * k4) (h : 2 * v * w = r + p * k7) (h2 : v * v * D + w * w = s + p * k8) : v0 * v0 = R0 + v * v * u0 + p * (k8 - a * k7 - 2 * (w - v * a) * k1 + p * (k1 * k1) - k4 - v * v * k3) := by
  have e0 : v0 = w - v * a - p * k1 := by omega
  have e1 : v0 * v0 = w * w - a * (2 * v * w) + v * v * (a * a) - p * (2 * (w - v * a) * k1) + p * (p * (k1 * k1)) := by rw [e0]; grind
  have e2 : w * w = s + p * k8 - v * v * D := by omega
  rw [e1, e2, h, hu0, hR]; grind
theorem cq {p v v0 a D r s u1 u0 R0 w : Int} (hr : r % p = r) (hs : s % p = s) (hw : w % p = (v0 + v * a) % p) (hu : u1 % p = (-(a + a)) % p) (hu0 : u0 % p = (a * a + -D) % p) (hR : R0 % p = (s - a * r) % p) : (2 * v * v0 % p = (r + v * v * u1) % p ∧ v0 * v0 % p = (R0 + v * v * u0) % p) ↔ (2 * v * w % p = r ∧ (v * v * D + w * w) % p = s) := by
  obtain ⟨k1, h1⟩ := em_iff.mp hw
  obtain ⟨k2, h2⟩ := em_iff.mp hu
  obtain ⟨k3, h3⟩ := em_iff.mp hu0
  obtain ⟨k4, h4⟩ := em_iff.mp hR
  constructor
  · rintro ⟨a1, a2⟩
    obtain ⟨k5, h5⟩ := em_iff.mp a1
    obtain ⟨k6, h6⟩ := em_iff.mp a2
    refine ⟨?_, ?_⟩
    · have := em_iff.mpr ⟨_, cq_a h1 h2 h5⟩
      rw [this, hr]
    · have := em_iff.mpr ⟨_, cq_b h1 h2 h3 h4 h5 h6⟩
      rw [this, hs]
  · rintro ⟨a1, a2⟩
    obtain ⟨k7, h7⟩ := em_iff.mp (a1.trans hr.symm)
    obtain ⟨k8, h8⟩ := em_iff.mp (a2.trans hs.symm)
    exact ⟨em_iff.mpr ⟨_, cq_c h1 h2 h7⟩, em_iff.mpr ⟨_, cq_d h1 h3 h4 h7 h8⟩⟩
theorem tkR_c3 {p : Nat} (hp : Pr (p : Int)) (f : Pz (p : Int)) {a D : Nat} (ha : a < p) (hD : D < p) : ((tkR f (((2 * (p - a) % p : Nat)) : Int) (((a * a + (p - D)) % p : Nat) : Int) p).length : Int) = c3 p p D (hrS p a D (dg f) f.1).1 (hrS p a D (dg f) f.1).2 := by
  have hpp := hp.pos
  obtain ⟨⟨r1, r2⟩, ⟨s1, s2⟩⟩ := hrS_rg hp (a : Int) (D : Int) (dg f) f.1
  have hu : (((2 * (p - a) % p : Nat)) : Int) % (p : Int) = (-((a : Int) + a)) % p := by
    rw [Int.natCast_emod, md_md, Int.natCast_mul, Int.natCast_sub (by omega)]
    exact em_iff.mpr ⟨2, by omega⟩
  have hu0 : (((a * a + (p - D)) % p : Nat) : Int) % (p : Int) = ((a : Int) * a + -(D : Int)) % p := by
    rw [Int.natCast_emod, md_md, Int.natCast_add, Int.natCast_mul, Int.natCast_sub (by omega)]
    exact em_iff.mpr ⟨1, by omega⟩
  obtain ⟨m1, m0⟩ := hrS_rmd hp hu hu0 (Nat.le_refl (dg f))
  generalize (((2 * (p - a) % p : Nat)) : Int) = u1 at *
  generalize (((a * a + (p - D)) % p : Nat) : Int) = u0 at *
  generalize (hrS p a D (dg f) f.1).1 = r at *
  generalize (hrS p a D (dg f) f.1).2 = s at *
  unfold tkR c3
  rw [catT_len]
  refine isum_cg2 p (fun v hv => ?_)
  show ((tkRr f u1 u0 (v : Int) p).length : Int) = _
  unfold tkRr
  rw [selT_len]
  have hsh : v * a % p < p := Nat.mod_lt _ (by omega)
  have hP := ((pm_is hp).2.2.1 (v * a % p) hsh).2.1
  rw [← isum_pm (F := fun w => if 2 * (v : Int) * w % (p : Int) = r ∧ ((v : Int) * v * D + w * w) % (p : Int) = s then 1 else 0) hP]
  refine isum_cg2 p (fun v0 _ => ?_)
  have hw : ((((v0 + v * a % p) % p : Nat)) : Int) % (p : Int) = ((v0 : Int) + v * a) % p := by
    rw [Int.natCast_emod, md_md, Int.natCast_add, Int.natCast_emod, Int.natCast_mul]
    exact md_add rfl (md_md _ _)
  have key := cq (p := (p : Int)) (v := (v : Int)) (v0 := (v0 : Int)) (a := (a : Int)) (D := (D : Int)) (r := r) (s := s) (u1 := u1) (u0 := u0) (R0 := (s - a * r) % p) (w := ((((v0 + v * a % p) % p : Nat)) : Int)) (Int.emod_eq_of_lt r1 r2) (Int.emod_eq_of_lt s1 s2) hw hu hu0 (md_md _ _)
  have eb : (decide (2 * (v : Int) * v0 % (p : Int) = hiR f u1 u0 (v : Int)) && decide ((v0 : Int) * v0 % (p : Int) = loR f u1 u0 (v : Int))) = true ↔ (2 * (v : Int) * v0 % (p : Int) = (r + v * v * u1) % p ∧ (v0 : Int) * v0 % p = ((s - a * r) % p + v * v * u0) % p) := by
    rw [Bool.and_eq_true, decide_eq_true_eq, decide_eq_true_eq]
    unfold hiR loR
    rw [m1, m0]
  by_cases c : 2 * (v : Int) * ((((v0 + v * a % p) % p : Nat)) : Int) % (p : Int) = r ∧ ((v : Int) * v * D + ((((v0 + v * a % p) % p : Nat)) : Int) * ((((v0 + v * a % p) % p : Nat)) : Int)) % (p : Int) = s
  · rw [if_pos c, if_pos (eb.mpr (key.mpr c))]
  · rw [if_neg c, if_neg (fun h => c (key.mp (eb.mp h)))]
