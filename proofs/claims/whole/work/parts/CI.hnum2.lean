/-! THE CLASS NUMBER is the length of the list -/
noncomputable def Tc (p : Nat) (f : Pz (p : Int)) (a b : Nat) : Int := cnt2 p (hv p (nsq p) ((b * p + a : Nat) : Int) (dg f) f.1)
noncomputable def Gc (p : Nat) (f : Pz (p : Int)) (a b : Nat) : Int := NX p f ((a + b) % p) * NX p f ((a + (p - b)) % p)
theorem isum_pr (F : Nat → Int) {p : Nat} (h : 1 ≤ p) : isum (fun b => F (b + 1)) (p - 1) = isum F p - F 0 := by
  obtain ⟨n, rfl⟩ : ∃ n, p = n + 1 := ⟨p - 1, by omega⟩
  rw [isum_hd, Nat.add_sub_cancel]; omega
theorem n1_NX {p : Nat} (f : Pz (p : Int)) : ((ptl f p).length : Int) = isum (NX p f) p := ptl_len f p
theorem nn2_T {p : Nat} (f : Pz (p : Int)) : nn2 f = isum (fun a => isum (Tc p f a) p) p := by
  unfold nn2
  rw [show ((p : Int) * p).toNat = p * p by rw [← Int.natCast_mul, Int.toNat_natCast], isum_grid, isum_sw]
  rfl
theorem G_sum {p : Nat} (hp : Pr (p : Int)) (f : Pz (p : Int)) : isum (fun a => isum (Gc p f a) p) p = isum (NX p f) p * isum (NX p f) p := by
  have hpp := hp.pos
  have e1 : isum (fun a => isum (Gc p f a) p) p = isum (fun a => isum (fun c => NX p f c * NX p f ((2 * a + (p - c)) % p)) p) p := by
    refine isum_cg2 p (fun a ha => ?_)
    rw [← isum_pm (F := fun c => NX p f c * NX p f ((2 * a + (p - c)) % p)) ((pm_is hp).2.2.1 a ha).2.1]
    refine isum_cg2 p (fun b hb => ?_)
    show NX p f ((a + b) % p) * NX p f ((a + (p - b)) % p) = NX p f ((b + a) % p) * NX p f ((2 * a + (p - (b + a) % p)) % p)
    have q1 : (a + (p - b)) % p = (2 * a + (p - (b + a) % p)) % p := by
      rcases Nat.lt_or_ge (b + a) p with c | c
      · rw [Nat.mod_eq_of_lt c]
        congr 1; omega
      · have : (b + a) % p = b + a - p := by
          rw [Nat.mod_eq_sub_mod c, Nat.mod_eq_of_lt (by omega)]
        rw [this, show 2 * a + (p - (b + a - p)) = (a + (p - b)) + p by omega, Nat.add_mod_right]
    rw [q1, Nat.add_comm a b]
  rw [e1, isum_sw]
  have e2 : isum (fun c => isum (fun a => NX p f c * NX p f ((2 * a + (p - c)) % p)) p) p = isum (fun c => isum (NX p f) p * NX p f c) p := by
    refine isum_cg2 p (fun c hc => ?_)
    rw [isum_sm (NX p f c) (fun a => NX p f ((2 * a + (p - c)) % p)), isum_pm (F := NX p f) ((pm_is hp).2.2.1 c hc).2.2.2.1, Int.mul_comm]
  rw [e2, isum_sm]
theorem quad_len {p : Nat} (hp : Pr (p : Int)) {f : Pz (p : Int)} {g : Nat} (hcv : Cv f g) : 2 * ((tkS f p).length : Int) = ((ptl f p).length : Int) * (ptl f p).length + nn2 f - 2 * p := by
  have hpp := hp.pos
  have e1 : ((tkS f p).length : Int) = isum (fun a => isum (fun D => c3 p p (D : Int) (hrS p a D (dg f) f.1).1 (hrS p a D (dg f) f.1).2) p) p := by
    unfold tkS
    rw [catT_len, ← isum_pm (F := fun u1 => ((tkS1 f (u1 : Int) (p : Int).toNat).length : Int)) (pm_is hp).2.1]
    refine isum_cg2 p (fun a ha => ?_)
    rw [Int.toNat_natCast]
    unfold tkS1
    rw [catT_len, ← isum_pm (F := fun u0 => ((tkR f ((2 * (p - a) % p : Nat) : Int) (u0 : Int) (p : Int).toNat).length : Int)) ((pm_is hp).2.2.1 a ha).1]
    refine isum_cg2 p (fun D hD => ?_)
    rw [Int.toNat_natCast]
    exact tkR_c3 hp f ha hD
  have e2 : 2 * ((tkS f p).length : Int) = isum (fun a => isum (Gc p f a) p + isum (Tc p f a) p + -2) p := by
    rw [e1, ← isum_sm]
    refine isum_cg2 p (fun a ha => ?_)
    rw [dd_sum hp (fun D => c3 p p (D : Int) (hrS p a D (dg f) f.1).1 (hrS p a D (dg f) f.1).2)]
    have b1 : isum (fun b => c3 p p (((b + 1) * (b + 1) % p : Nat) : Int) (hrS p a (((b + 1) * (b + 1) % p : Nat) : Int) (dg f) f.1).1 (hrS p a (((b + 1) * (b + 1) % p : Nat) : Int) (dg f) f.1).2) (p - 1) = isum (fun b => Gc p f a (b + 1)) (p - 1) := isum_cg2 _ (fun b hb => val_b hp f ⟨by omega, by omega⟩)
    have b2 : isum (fun b => c3 p p ((nsN p * ((b + 1) * (b + 1)) % p : Nat) : Int) (hrS p a ((nsN p * ((b + 1) * (b + 1)) % p : Nat) : Int) (dg f) f.1).1 (hrS p a ((nsN p * ((b + 1) * (b + 1)) % p : Nat) : Int) (dg f) f.1).2) (p - 1) = isum (fun b => Tc p f a (b + 1)) (p - 1) := isum_cg2 _ (fun b hb => val_n hp f ha ⟨by omega, by omega⟩)
    rw [b1, b2, isum_pr _ (by omega), isum_pr _ (by omega)]
    have z1 : c3 p p ((0 : Nat) : Int) (hrS p a ((0 : Nat) : Int) (dg f) f.1).1 (hrS p a ((0 : Nat) : Int) (dg f) f.1).2 + NX p f a = NX p f a * NX p f a := val_0 hp hcv ha
    have z2 : NX p f a * NX p f a + 2 = 2 * NX p f a + Tc p f a 0 := val_z hp f ha
    have z3 : Gc p f a 0 = NX p f a * NX p f a := by
      show NX p f ((a + 0) % p) * NX p f ((a + (p - 0)) % p) = _
      rw [Nat.add_zero, Nat.sub_zero, Nat.add_mod_right, Nat.mod_eq_of_lt ha]
    omega
  rw [e2, isum_two (fun a => isum (Gc p f a) p + isum (Tc p f a) p) (fun _ => -2), isum_two, G_sum hp, ← nn2_T, ← n1_NX, isum_co]
  omega
theorem tkP_len {p : Nat} (hp : Pr (p : Int)) (f : Pz (p : Int)) : ((tkP f p).length : Int) = (ptl f p).length := by
  have hpp := hp.pos
  rw [n1_NX]
  unfold tkP
  rw [catT_len, ← isum_pm (F := NX p f) (pm_is hp).1]
  refine isum_cg2 p (fun u hu => ?_)
  rw [Int.toNat_natCast]
  unfold tkPr NX
  rw [selT_len, rowY_len]
  have e : (((p - u) % p : Nat) : Int) = ((p : Int) - u) % p := by rw [Int.natCast_emod, Int.natCast_sub (by omega)]
  rw [e]
  refine isum_cg2 p (fun v _ => ?_)
  by_cases c : (v : Int) * v % (p : Int) = pev f (((p : Int) - u) % p)
  · rw [if_pos c, if_pos (decide_eq_true c)]
  · rw [if_neg c, if_neg (fun h => c (of_decide_eq_true h))]
theorem tkl_len {p : Nat} (hp : Pr (p : Int)) {f : Pz (p : Int)} {g : Nat} : ((tkl f g).length : Int) = 1 + ((ptl f p).length : Int) + (if g = 2 then ((tkS f p).length : Int) else 0) := by
  unfold tkl
  rw [Int.toNat_natCast, List.length_append, List.length_append, Int.natCast_add, Int.natCast_add, tkP_len hp]
  by_cases e : g = 2
  · rw [if_pos e, if_pos e]; rfl
  · rw [if_neg e, if_neg e]; rfl
theorem hcl_len {p : Nat} (hp : Pr (p : Int)) {f : Pz (p : Int)} {g : Nat} (hcv : Cv f g) : hcl f g = ((tkl f g).length : Int) := by
  have hpp := hp.pos
  rw [tkl_len hp]
  unfold hcl shs
  rw [Int.toNat_natCast]
  have hq := quad_len hp hcv
  generalize ((ptl f p).length : Int) = n1 at *
  generalize nn2 f = n2 at *
  rcases hcv.1 with rfl | rfl
  · rw [if_neg (by omega)]
    show 0 + shF p 1 n1 n2 0 + shF p 1 n1 n2 1 + shF p 1 n1 n2 2 + shF p 1 n1 n2 3 + shF p 1 n1 n2 4 + shF p 1 n1 n2 5 + shF p 1 n1 n2 6 = _
    simp only [shF]
    simp
    omega
  · rw [if_pos rfl]
    generalize ((tkS f p).length : Int) = q at *
    have e : n2 - (p : Int) * p + (n1 - p) * (n1 - p) = 2 * (q + p - n1 * p) := by
      have : n2 = 2 * q + 2 * p - n1 * n1 := by omega
      rw [this]; grind
    show 0 + shF p 2 n1 n2 0 + shF p 2 n1 n2 1 + shF p 2 n1 n2 2 + shF p 2 n1 n2 3 + shF p 2 n1 n2 4 + shF p 2 n1 n2 5 + shF p 2 n1 n2 6 = _
    have s2 : shF p 2 n1 n2 2 = q + p - n1 * p := by
      show (n2 - (p : Int) * p + (n1 - p) * (n1 - p)).tdiv 2 = _
      rw [e]; exact Int.mul_tdiv_cancel_left _ (by decide)
    rw [s2]
    show 0 + 1 + (n1 - (p : Int)) + (q + p - n1 * p) + (n1 - p) * p + (p : Int) * p + 0 + 0 = _
    rw [Int.sub_mul]; omega
