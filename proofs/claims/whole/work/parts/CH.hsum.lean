/-! HOW MANY CLASSES ARE OF DEGREE 2: all together -/
theorem dd_sum {p : Nat} (hp : Pr (p : Int)) (F : Nat → Int) : 2 * isum F p = 2 * F 0 + isum (fun b => F ((b + 1) * (b + 1) % p)) (p - 1) + isum (fun b => F (nsN p * ((b + 1) * (b + 1)) % p)) (p - 1) := by
  have h := gsum_perm AIz ((pm_is hp).2.2.2.map F)
  rw [List.map_append, List.map_append, List.map_append, gsum_app AIz, gsum_app AIz, gsum_app AIz, List.map_map, List.map_map, gsum_is] at h
  have e1 := gsum_is (F ∘ fun b => (b + 1) * (b + 1) % p) (p - 1)
  have e2 := gsum_is (F ∘ fun b => nsN p * ((b + 1) * (b + 1)) % p) (p - 1)
  rw [e1, e2] at h
  replace h : isum F p + isum F p = (F 0 + (F 0 + 0)) + isum (fun b => F ((b + 1) * (b + 1) % p)) (p - 1) + isum (fun b => F (nsN p * ((b + 1) * (b + 1)) % p)) (p - 1) := h
  omega
theorem nsq_N (p : Nat) : nsq (p : Int) = (nsN p : Int) := by
  unfold nsq nsN
  by_cases e : p = 7
  · rw [if_pos e, if_pos (by omega)]; rfl
  · rw [if_neg e, if_neg (by omega)]; rfl
theorem cnt2_c3 {p : Nat} (hp : Pr (p : Int)) {s t : Int} (hs : 0 ≤ s ∧ s < p) (ht : 0 ≤ t ∧ t < p) : cnt2 (p : Int) (s + t * p) = c3 p p (nsN p : Int) t s := by
  have hpp := hp.pos
  unfold cnt2 c3
  rw [show ((p : Int) * p).toNat = p * p by rw [← Int.natCast_mul, Int.toNat_natCast], isum_grid]
  refine isum_cg2 p (fun i hi => isum_cg2 p (fun j hj => ?_))
  have ec : ((i * p + j : Nat) : Int) = (j : Int) + (i : Int) * p := by rw [Int.natCast_add, Int.natCast_mul]; omega
  have e1 : ((j : Int) + (i : Int) * p) % (p : Int) = j := by rw [Int.add_mul_emod_self_right, Int.emod_eq_of_lt (by omega) (by omega)]
  have e2 : ((j : Int) + (i : Int) * p) / (p : Int) = i := by rw [Int.add_mul_ediv_right _ _ (by omega), Int.ediv_eq_zero_of_lt (by omega) (by omega), Int.zero_add]
  rw [ec]
  unfold wtc
  rw [e1, e2, nsq_N]
  have u1 := Int.emod_nonneg ((j : Int) * j + i * i * nsN p) (b := (p : Int)) (by omega)
  have u2 := Int.emod_lt_of_pos ((j : Int) * j + i * i * nsN p) (b := (p : Int)) (by omega)
  have m1 : ((i : Int) * i * nsN p + j * j) % (p : Int) = ((j : Int) * j + i * i * nsN p) % p := by congr 1; omega
  have m2 : 2 * (i : Int) * j % (p : Int) = ((j : Int) * i + i * j) % p := by congr 1; grind
  rw [m1, m2]
  by_cases c : ((j : Int) * j + i * i * nsN p) % (p : Int) + ((j : Int) * i + i * j) % (p : Int) * p = s + t * p
  · have d := dg_un (p := (p : Int)) (a := ((j : Int) * i + i * j) % (p : Int)) (b := ((j : Int) * j + i * i * nsN p) % (p : Int)) (c := t) (d := s) (by omega) ⟨u1, u2⟩ hs
    rw [if_pos c, if_pos ⟨d.1, d.2⟩]
  · rw [if_neg c, if_neg (fun h => c (by rw [h.1, h.2]))]
noncomputable def NX (p : Nat) (f : Pz (p : Int)) (x : Nat) : Int := ((rowY (p : Int) (pev f x) p).length : Int)
theorem NX_N {p : Nat} {f : Pz (p : Int)} {x t : Nat} (h : pev f x = (t : Int)) : NX p f x = (NNq p t : Int) := by
  unfold NX
  rw [h, NN_N]
theorem tn {p x : Int} (h : 0 ≤ x ∧ x < p) : ((x.toNat : Nat) : Int) = x := by omega
theorem val_b {p : Nat} (hp : Pr (p : Int)) (f : Pz (p : Int)) {a b : Nat} (hb : 0 < b ∧ b < p) : c3 p p ((b * b % p : Nat) : Int) (hrS p a ((b * b % p : Nat) : Int) (dg f) f.1).1 (hrS p a ((b * b % p : Nat) : Int) (dg f) f.1).2 = NX p f ((a + b) % p) * NX p f ((a + (p - b)) % p) := by
  have hpp := hp.pos
  have eD : ((b * b % p : Nat) : Int) = 1 * ((b : Int) * b) % p := by rw [Int.natCast_emod, Int.natCast_mul, Int.one_mul]
  have hD : ((b * b % p : Nat) : Int) % (p : Int) = ((b : Int) * b) % p := by rw [eD, md_md, Int.one_mul]
  have hD2 : ((b * b % p : Nat) : Int) % (p : Int) = (((p : Int) - b) * ((p : Int) - b)) % p := by
    rw [hD]
    exact em_iff.mpr ⟨2 * b - p, by grind⟩
  have v1 := hrS_pev (x := (((a + b) % p : Nat) : Int)) (a := (a : Int)) (b := (b : Int)) (by rw [Int.natCast_emod, md_md, Int.natCast_add]) hD f
  have v2 := hrS_pev (x := (((a + (p - b)) % p : Nat) : Int)) (a := (a : Int)) (b := (p : Int) - b) (by rw [Int.natCast_emod, md_md, Int.natCast_add, Int.natCast_sub (by omega)]) hD2 f
  obtain ⟨⟨r1, r2⟩, ⟨s1, s2⟩⟩ := hrS_rg hp (a : Int) ((b * b % p : Nat) : Int) (dg f) f.1
  generalize (hrS p a ((b * b % p : Nat) : Int) (dg f) f.1).1 = r at *
  generalize (hrS p a ((b * b % p : Nat) : Int) (dg f) f.1).2 = s at *
  rw [eD, c3_sc hp hb 1 s ⟨r1, r2⟩]
  have t1 := Int.emod_nonneg (r * b) (b := (p : Int)) (by omega)
  have t2 := Int.emod_lt_of_pos (r * b) (b := (p : Int)) (by omega)
  have cR := tn (p := (p : Int)) ⟨t1, t2⟩
  have cS := tn (p := (p : Int)) ⟨s1, s2⟩
  have em := md_md (r * b) (p : Int)
  generalize (r * b % (p : Int)).toNat = R at *
  generalize s.toNat = S at *
  have h1 : c3 p p 1 (r * b % (p : Int)) s = (c3N p 1 R S : Int) := by rw [← cR, ← cS]; exact c3_N p 1 R S
  rw [h1, k1_is hp (by omega) (by omega), Int.natCast_mul]
  congr 1
  · refine (NX_N ?_).symm
    rw [v1, Int.natCast_emod, Int.natCast_add, cS]
    refine md_add rfl ?_
    rw [cR, md_md]
  · refine (NX_N ?_).symm
    rw [v2, Int.natCast_emod, Int.natCast_add, Int.natCast_sub (by omega), cS, cR]
    refine md_add rfl ?_
    obtain ⟨k, hk⟩ := em_iff.mp em
    refine em_iff.mpr ⟨r - 1 + k, ?_⟩
    rw [hk, Int.mul_sub]; grind
theorem val_n {p : Nat} (hp : Pr (p : Int)) (f : Pz (p : Int)) {a b : Nat} (ha : a < p) (hb : 0 < b ∧ b < p) : c3 p p ((nsN p * (b * b) % p : Nat) : Int) (hrS p a ((nsN p * (b * b) % p : Nat) : Int) (dg f) f.1).1 (hrS p a ((nsN p * (b * b) % p : Nat) : Int) (dg f) f.1).2 = cnt2 p (hv p (nsq p) ((b * p + a : Nat) : Int) (dg f) f.1) := by
  have hpp := hp.pos
  have eD : ((nsN p * (b * b) % p : Nat) : Int) = (nsN p : Int) * ((b : Int) * b) % p := by rw [Int.natCast_emod, Int.natCast_mul, Int.natCast_mul]
  have hD : ((nsN p * (b * b) % p : Nat) : Int) % (p : Int) = ((nsN p : Int) * ((b : Int) * b)) % p := by rw [eD, md_md]
  have hh := hrS_hv hp (a := (a : Int)) (b := (b : Int)) (by omega) (by omega) hD (dg f) f.1
  obtain ⟨⟨r1, r2⟩, ⟨s1, s2⟩⟩ := hrS_rg hp (a : Int) ((nsN p * (b * b) % p : Nat) : Int) (dg f) f.1
  rw [nsq_N, show ((b * p + a : Nat) : Int) = (a : Int) + (b : Int) * p by rw [Int.natCast_add, Int.natCast_mul]; omega, hh]
  generalize (hrS p a ((nsN p * (b * b) % p : Nat) : Int) (dg f) f.1).1 = r at *
  generalize (hrS p a ((nsN p * (b * b) % p : Nat) : Int) (dg f) f.1).2 = s at *
  rw [eD, c3_sc hp hb _ s ⟨r1, r2⟩]
  exact (cnt2_c3 hp ⟨s1, s2⟩ ⟨Int.emod_nonneg _ (by omega), Int.emod_lt_of_pos _ (by omega)⟩).symm
theorem s0_is {p : Nat} (f : Pz (p : Int)) (a : Nat) : pev f a = (hrS p a 0 (dg f) f.1).2 % p := by
  have := hrS_pev (p := (p : Int)) (x := (a : Int)) (a := (a : Int)) (b := 0) (D := 0) (by rw [Int.add_zero]) (by rw [Int.mul_zero]) f
  rw [Int.mul_zero, Int.add_zero] at this; exact this
theorem val_0 {p : Nat} (hp : Pr (p : Int)) {f : Pz (p : Int)} {g : Nat} (hcv : Cv f g) {a : Nat} (ha : a < p) : c3 p p 0 (hrS p a 0 (dg f) f.1).1 (hrS p a 0 (dg f) f.1).2 + NX p f a = NX p f a * NX p f a := by
  have hpp := hp.pos
  have E := Euc_Pz hp
  have e := s0_is f a
  obtain ⟨⟨r1, r2⟩, ⟨s1, s2⟩⟩ := hrS_rg hp (a : Int) 0 (dg f) f.1
  have hne : ¬ ((hrS p a 0 (dg f) f.1).1 = 0 ∧ (hrS p a 0 (dg f) f.1).2 = 0) := by
    rintro ⟨z1, z2⟩
    obtain ⟨q, hq⟩ := hrS_rem (p := (p : Int)) (u1 := -((a : Int) + a)) (u0 := (a : Int) * a + -0) (a := (a : Int)) (D := 0) rfl rfl (dg f) f (Nat.le_refl _)
    rw [z1, z2, pC_zero_mul, pC_zero_add, pC_zero_add] at hq
    have hT : qd (p : Int) (-((a : Int) + a)) ((a : Int) * a + -0) = pmul (pcl (p : Int) ((a : Int), 0)).1 (pcl (p : Int) ((a : Int), 0)).1 := by
      have eT : (pcl (p : Int) ((a : Int), 0)).1 = padd (pM (p : Int) 1 1) (pneg (pC p a)) := Pz.ext fun k => by
        rw [pcl_u hp, psub_c, pM_c, pC_c]
        by_cases e : k = 0
        · rw [if_pos e, if_neg (by omega), if_pos e, md_sub (a' := 0) (b' := (a : Int)) (md_md _ _) (md_md _ _), Int.zero_sub]
        · rw [if_neg e, if_neg e]
          by_cases e2 : k = 1
          · rw [if_pos e2, md_sub (a' := 1) (b' := 0) (md_md _ _) (md_md _ _), Int.sub_zero, Int.emod_eq_of_lt (by omega) (by omega)]
          · rw [if_neg e2, Int.zero_emod, Int.sub_zero, Int.zero_emod]
      rw [qd_X, eT]
      have al : ∀ {R : Type} [Lean.Grind.CommRing R] (X A : R), X * X + -(A + A) * X + (A * A + -0) = (X + -A) * (X + -A) := by intros; grind
      have k := @al (Pz (p : Int)) (pring p) (pM p 1 1) (pC p a)
      rw [show pC (p : Int) (-((a : Int) + a)) = pneg (padd (pC p a) (pC p a)) by rw [← pC_add, ← pC_neg], show pC (p : Int) ((a : Int) * a + -0) = padd (pmul (pC p a) (pC p a)) (pneg (pC p 0)) by rw [pC_pC, ← pC_neg, ← pC_add]]
      exact k
    rw [hT] at hq
    obtain ⟨w, hw⟩ := hcv.2.2.2 (pcl (p : Int) ((a : Int), 0)).1 ⟨q, hq⟩
    replace hw : pmul (pcl (p : Int) ((a : Int), 0)).1 w = pC p 1 := hw
    have d1 : dg (pC (p : Int) 1) = 1 := dg_C (by rw [Int.emod_eq_of_lt (by omega) (by omega)]; omega)
    by_cases w0 : dg w = 0
    · rw [dg_zero.mp w0, pmul_comm, pC_zero_mul] at hw
      have h2 : dg (pC (p : Int) 0) = 0 := dg_zero.mpr rfl
      rw [hw, d1] at h2; omega
    · have := dg_mul hp (pcl (p : Int) ((a : Int), 0)).1 w (by rw [pcl_dg hp]; omega) w0
      rw [hw, d1, pcl_dg hp] at this; omega
  generalize (hrS p a 0 (dg f) f.1).1 = r at *
  generalize (hrS p a 0 (dg f) f.1).2 = s at *
  rw [Int.emod_eq_of_lt s1 s2] at e
  have cR := tn (p := (p : Int)) ⟨r1, r2⟩
  have cS := tn (p := (p : Int)) ⟨s1, s2⟩
  generalize r.toNat = R at *
  generalize s.toNat = S at *
  have h1 : c3 p p 0 r s = (c3N p 0 R S : Int) := by rw [← cR, ← cS]; exact c3_N p 0 R S
  rw [h1, NX_N (t := S) (by rw [e, cS])]
  have := k0_is hp (r := R) (s := S) (by omega) (by omega) (by omega)
  rw [← Int.natCast_add, ← Int.natCast_mul, this]
theorem val_z {p : Nat} (hp : Pr (p : Int)) (f : Pz (p : Int)) {a : Nat} (ha : a < p) : NX p f a * NX p f a + 2 = 2 * NX p f a + cnt2 p (hv p (nsq p) ((0 * p + a : Nat) : Int) (dg f) f.1) := by
  have hpp := hp.pos
  have e := s0_is f a
  have hh := hrS_hv hp (a := (a : Int)) (b := 0) (D := 0) (ν := (nsN p : Int)) (by omega) (by omega) (by rw [Int.mul_zero, Int.mul_zero]) (dg f) f.1
  obtain ⟨-, ⟨s1, s2⟩⟩ := hrS_rg hp (a : Int) 0 (dg f) f.1
  rw [Int.zero_mul, Int.add_zero, Int.mul_zero, Int.zero_emod] at hh
  rw [nsq_N, show ((0 * p + a : Nat) : Int) = (a : Int) by rw [Nat.zero_mul, Nat.zero_add], hh]
  generalize (hrS p a 0 (dg f) f.1).2 = s at *
  rw [Int.emod_eq_of_lt s1 s2] at e
  rw [cnt2_c3 hp ⟨s1, s2⟩ (by omega)]
  have cS := tn (p := (p : Int)) ⟨s1, s2⟩
  generalize s.toNat = S at *
  have h1 : c3 p p (nsN p : Int) 0 s = (c3N p (nsN p) 0 S : Int) := by rw [← cS]; exact c3_N p (nsN p) 0 S
  rw [h1, NX_N (t := S) (by rw [e, cS])]
  have := k3_is hp (s := S) (by omega)
  omega
