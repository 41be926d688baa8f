/-! THE LIST OF CLASSES: every class is there once, in order of tokens -/
theorem lin_c (p a b : Int) (k : Nat) : (lin p a b).1 k = (if k = 0 then b else if k = 1 then a else 0) % p := by
  show (padd (pC p b) (pM p a 1)).1 k = _
  rw [padd_c, pC_c, pM_c, md_add (md_md _ _) (md_md _ _)]
  congr 1
  by_cases e : k = 0
  · subst e; rw [if_pos rfl, if_neg (by omega), if_pos rfl, Int.add_zero]
  · rw [if_neg e, if_neg e, Int.zero_add]
theorem qd_c (p u1 u0 : Int) (k : Nat) : (qd p u1 u0).1 k = (if k = 0 then u0 else if k = 1 then u1 else if k = 2 then 1 else 0) % p := by
  unfold qd
  match k with
  | 0 => rfl
  | 1 => exact md_md _ _
  | 2 => show (1 : Int) % p % p % p = 1 % p; rw [md_md, md_md]
  | k + 3 => show (0 : Int) % p % p % p % p = 0 % p; rw [md_md, md_md, md_md]
theorem md0 {p x : Int} (h : 0 ≤ x ∧ x < p) : x % p = x := Int.emod_eq_of_lt h.1 h.2
theorem pz_1 {p : Int} (a : Pz p) (h : dg a ≤ 1) : a = pC p (a.1 0) := Pz.ext fun k => by
  rw [pC_c]
  by_cases e : k = 0
  · subst e; rw [if_pos rfl, a.2.1]
  · rw [if_neg e, dg_far a (by omega), Int.zero_emod]
theorem pz_2 {p : Int} (a : Pz p) (h : dg a ≤ 2) : a = lin p (a.1 1) (a.1 0) := Pz.ext fun k => by
  rw [lin_c]
  by_cases e : k = 0
  · subst e; rw [if_pos rfl, a.2.1]
  · rw [if_neg e]
    by_cases e1 : k = 1
    · subst e1; rw [if_pos rfl, a.2.1]
    · rw [if_neg e1, dg_far a (by omega), Int.zero_emod]
theorem pz_3 {p : Int} (a : Pz p) (h : dg a = 3) (hm : pmo a) : a = qd p (a.1 1) (a.1 0) := Pz.ext fun k => by
  have h2 := hm.2
  rw [h] at h2
  rw [qd_c]
  by_cases e : k = 0
  · subst e; rw [if_pos rfl, a.2.1]
  · rw [if_neg e]
    by_cases e1 : k = 1
    · subst e1; rw [if_pos rfl, a.2.1]
    · rw [if_neg e1]
      by_cases e2 : k = 2
      · subst e2; rw [if_pos rfl]
        have : a.1 2 = 1 := h2
        rw [← this, a.2.1]
      · rw [if_neg e2, dg_far a (by omega), Int.zero_emod]
theorem lin_dg {p b : Int} (hp : Pr p) : dg (lin p 1 b) = 2 ∧ pmo (lin p 1 b) := by
  have hpp := hp.pos
  have h1 : (lin p 1 b).1 1 = 1 := by rw [lin_c, if_neg (by omega), if_pos rfl]; exact md0 (by omega)
  have e : dg (lin p 1 b) = 2 := dg_eq (n := 1) (fun k hk => by rw [lin_c, if_neg (by omega), if_neg (by omega), Int.zero_emod]) (by rw [h1]; decide)
  exact ⟨e, by omega, by rw [e]; exact h1⟩
theorem qd_mo {p u1 u0 : Int} (hp : Pr p) : pmo (qd p u1 u0) := by
  have hpp := hp.pos
  have e := qd_dg (u1 := u1) (u0 := u0) hp
  refine ⟨by omega, ?_⟩
  rw [e]
  show (qd p u1 u0).1 2 = 1
  rw [qd_c, if_neg (by omega), if_neg (by omega), if_pos rfl]; exact md0 (by omega)
/-! tokens of the three kinds -/
theorem tkn_0 {p : Int} {a : Pz p × Pz p} (h : dg a.1 = 1) : tkn a = 0 := by
  unfold tkn; rw [h]
  show ((0 : Nat) : Int) * (p * p * p * p) + 0 = 0
  simp
theorem tkn_1 {p : Int} {a : Pz p × Pz p} (h : dg a.1 = 2) : tkn a = p * p * p * p + (a.1.1 0 * p + a.2.1 0) := by
  unfold tkn; rw [h]
  show ((1 : Nat) : Int) * (p * p * p * p) + ((0 * p + a.1.1 0) * p + a.2.1 0) = _
  rw [Int.zero_mul, Int.zero_add]; simp
theorem tkn_2 {p : Int} {a : Pz p × Pz p} (h : dg a.1 = 3) : tkn a = 2 * (p * p * p * p) + (((a.1.1 1 * p + a.1.1 0) * p + a.2.1 1) * p + a.2.1 0) := by
  unfold tkn; rw [h]
  show ((2 : Nat) : Int) * (p * p * p * p) + ((((0 * p + a.1.1 1) * p + a.1.1 0) * p + a.2.1 1) * p + a.2.1 0) = _
  rw [Int.zero_mul, Int.zero_add]; simp
theorem dg_un {p a b c d : Int} (h : a * p + b = c * p + d) (hb : 0 ≤ b ∧ b < p) (hd : 0 ≤ d ∧ d < p) : a = c ∧ b = d := by
  have h1 : (a * p + b) % p = b := by rw [Int.add_comm, Int.add_mul_emod_self_right]; exact md0 hb
  have h2 : (c * p + d) % p = d := by rw [Int.add_comm, Int.add_mul_emod_self_right]; exact md0 hd
  have e : b = d := by rw [← h1, ← h2, h]
  refine ⟨?_, e⟩
  subst e
  have h3 : a * p = c * p := by omega
  exact Int.eq_of_mul_eq_mul_right (by omega) h3
theorem cf_rg {p : Int} (hp : Pr p) (a : Pz p) (k : Nat) : 0 ≤ a.1 k ∧ a.1 k < p := hp.lt (a.2.1 k)
theorem mp_rg {p a b B : Int} (hp : 0 < p) (ha : 0 ≤ a ∧ a < B) (hb : 0 ≤ b ∧ b < p) : 0 ≤ a * p + b ∧ a * p + b < B * p := by
  have h1 := Int.mul_nonneg ha.1 (show 0 ≤ p by omega)
  have h2 : (a + 1) * p ≤ B * p := Int.mul_le_mul_of_nonneg_right (by omega) (by omega)
  rw [Int.add_mul, Int.one_mul] at h2
  omega
/-- a reduced pair, by the three kinds -/
theorem red_cases {p : Int} (hp : Pr p) {f : Pz p} {g : Nat} (hg : g ≤ 2) {a : Pz p × Pz p} (h : pRed f g a) :
    (dg a.1 = 1 ∧ a = (pC p 1, pC p 0) ∧ tkn a = 0) ∨
    (dg a.1 = 2 ∧ ∃ u0 v0, (0 ≤ u0 ∧ u0 < p) ∧ (0 ≤ v0 ∧ v0 < p) ∧ a = (lin p 1 u0, pC p v0) ∧ tkn a = p * p * p * p + (u0 * p + v0)) ∨
    (g = 2 ∧ dg a.1 = 3 ∧ ∃ u1 u0 v1 v0, (0 ≤ u1 ∧ u1 < p) ∧ (0 ≤ u0 ∧ u0 < p) ∧ (0 ≤ v1 ∧ v1 < p) ∧ (0 ≤ v0 ∧ v0 < p) ∧ a = (qd p u1 u0, lin p v1 v0) ∧ tkn a = 2 * (p * p * p * p) + (((u1 * p + u0) * p + v1) * p + v0)) := by
  obtain ⟨hm, hd, hv, -⟩ := h
  have hm' : pmo a.1 := hm
  have hd' : dg a.1 ≤ g + 1 := hd
  have hv' : dg a.2 < dg a.1 := hv
  have h0 := hm'.1
  have hc : dg a.1 = 1 ∨ dg a.1 = 2 ∨ dg a.1 = 3 := by omega
  rcases hc with e | e | e
  · left
    have h2 := hm'.2
    rw [e] at h2
    refine ⟨e, Prod.ext ?_ (dg_zero.mp (by omega)), tkn_0 e⟩
    rw [pz_1 a.1 (by omega)]
    have : a.1.1 0 = 1 := h2
    rw [this]
  · right; left
    have h2 := hm'.2
    rw [e] at h2
    have h2' : a.1.1 1 = 1 := h2
    refine ⟨e, a.1.1 0, a.2.1 0, cf_rg hp _ _, cf_rg hp _ _, Prod.ext ?_ (pz_1 a.2 (by omega)), tkn_1 e⟩
    show a.1 = lin p 1 (a.1.1 0)
    rw [← h2']; exact pz_2 a.1 (by omega)
  · right; right
    exact ⟨by omega, e, a.1.1 1, a.1.1 0, a.2.1 1, a.2.1 0, cf_rg hp _ _, cf_rg hp _ _, cf_rg hp _ _, cf_rg hp _ _, Prod.ext (pz_3 a.1 e hm') (pz_2 a.2 (by omega)), tkn_2 e⟩
theorem tk_b1 {p u0 v0 : Int} (hp : Pr p) (hu : 0 ≤ u0 ∧ u0 < p) (hv : 0 ≤ v0 ∧ v0 < p) : 0 ≤ u0 * p + v0 ∧ u0 * p + v0 < p * p := mp_rg (by have := hp.pos; omega) hu hv
theorem tk_b2 {p u1 u0 v1 v0 : Int} (hp : Pr p) (hu1 : 0 ≤ u1 ∧ u1 < p) (hu : 0 ≤ u0 ∧ u0 < p) (hv1 : 0 ≤ v1 ∧ v1 < p) (hv : 0 ≤ v0 ∧ v0 < p) : 0 ≤ ((u1 * p + u0) * p + v1) * p + v0 ∧ ((u1 * p + u0) * p + v1) * p + v0 < p * p * p * p := mp_rg (by have := hp.pos; omega) (mp_rg (by have := hp.pos; omega) (mp_rg (by have := hp.pos; omega) hu1 hu) hv1) hv
theorem pp_p4 {p : Int} (hp : Pr p) : p * p ≤ p * p * p * p := by rcases hp with rfl | rfl | rfl | rfl | rfl <;> decide
theorem tkn_inj {p : Int} (hp : Pr p) {f : Pz p} {g : Nat} (hg : g ≤ 2) {a b : Pz p × Pz p} (ha : pRed f g a) (hb : pRed f g b) (h : tkn a = tkn b) : a = b := by
  have h4 := p4_le hp
  have hpp4 := pp_p4 hp
  rcases red_cases hp hg ha with ⟨-, e1, t1⟩ | ⟨-, u0, v0, r1, r2, e1, t1⟩ | ⟨-, -, u1, u0, v1, v0, r0, r1, r3, r2, e1, t1⟩
  · rcases red_cases hp hg hb with ⟨-, e2, t2⟩ | ⟨-, x0, y0, s1, s2, e2, t2⟩ | ⟨-, -, x1, x0, y1, y0, s0, s1, s3, s2, e2, t2⟩
    · rw [e1, e2]
    · have := tk_b1 hp s1 s2; omega
    · have := tk_b2 hp s0 s1 s3 s2; omega
  · have := tk_b1 hp r1 r2
    rcases red_cases hp hg hb with ⟨-, e2, t2⟩ | ⟨-, x0, y0, s1, s2, e2, t2⟩ | ⟨-, -, x1, x0, y1, y0, s0, s1, s3, s2, e2, t2⟩
    · omega
    · obtain ⟨q1, q2⟩ := dg_un (p := p) (a := u0) (b := v0) (c := x0) (d := y0) (by omega) r2 s2
      rw [e1, e2, q1, q2]
    · have := tk_b2 hp s0 s1 s3 s2; omega
  · have := tk_b2 hp r0 r1 r3 r2
    rcases red_cases hp hg hb with ⟨-, e2, t2⟩ | ⟨-, x0, y0, s1, s2, e2, t2⟩ | ⟨-, -, x1, x0, y1, y0, s0, s1, s3, s2, e2, t2⟩
    · omega
    · have := tk_b1 hp s1 s2; omega
    · obtain ⟨q1, q2⟩ := dg_un (p := p) (a := (u1 * p + u0) * p + v1) (b := v0) (c := (x1 * p + x0) * p + y1) (d := y0) (by omega) r2 s2
      obtain ⟨q3, q4⟩ := dg_un q1 r3 s3
      obtain ⟨q5, q6⟩ := dg_un q3 r1 s1
      rw [e1, e2, q2, q4, q5, q6]
/-! which rows tell classes -/
theorem red_1 {p : Int} (hp : Pr p) {f : Pz p} {g : Nat} (hg : 1 ≤ g) {u0 v0 : Int} (hu : 0 ≤ u0 ∧ u0 < p) (hv : 0 ≤ v0 ∧ v0 < p) : pRed f g (lin p 1 u0, pC p v0) ↔ v0 * v0 % p = pev f ((p - u0) % p) := by
  have hpp := hp.pos
  have e1 : (-((p - u0) % p)) % p = u0 := by
    rw [md_neg (md_md _ _)]
    have : -(p - u0) = u0 + p * (-1) := by omega
    rw [this, Int.add_mul_emod_self_left]; exact md0 hu
  have ep : pcl p ((p - u0) % p, v0) = (lin p 1 u0, pC p v0) := by
    refine Prod.ext (Pz.ext fun k => ?_) rfl
    rw [pcl_u hp, lin_c, e1]
    by_cases q : k = 0
    · rw [if_pos q]; exact (md0 hu).symm
    · rw [if_neg q]
      by_cases q1 : k = 1
      · rw [if_pos q1]; exact (md0 (by omega)).symm
      · rw [if_neg q1, Int.zero_emod]
  constructor
  · intro h
    obtain ⟨c, hc⟩ := h.2.2.2
    have hc' : padd (pmul (pC p v0) (pC p v0)) (pneg f) = pmul (lin p 1 u0) c := hc
    have h2 := congrArg (fun a => pev a ((p - u0) % p)) hc'
    have h3 : pev (padd (pmul (pC p v0) (pC p v0)) (pneg f)) ((p - u0) % p) = pev (pmul (lin p 1 u0) c) ((p - u0) % p) := h2
    have eu : pev (lin p 1 u0) ((p - u0) % p) = 0 := by
      have := pev_pcl hp ((p - u0) % p, v0) ((p - u0) % p)
      rw [ep] at this
      rw [this, Int.sub_self, Int.zero_emod]
    rw [pev_mul, eu, Int.zero_mul, Int.zero_emod, pev_add, pev_mul, pev_C, pev_neg, md_mul (md_md _ _) (md_md _ _)] at h3
    have hr := pev_rg hp f ((p - u0) % p)
    have h4 : (v0 * v0 % p + -pev f ((p - u0) % p)) % p = 0 := by
      rw [← h3]; exact (md_add rfl (md_md _ _)).symm
    have h5 : (v0 * v0) % p = ((v0 * v0 % p + -pev f ((p - u0) % p)) + pev f ((p - u0) % p)) % p := by
      rw [Int.neg_add_cancel_right, md_md]
    rw [h5, md_add (a' := 0) (by rw [h4, Int.zero_emod]) rfl, Int.zero_add]; exact md0 hr
  · intro h
    rw [← ep]; exact pcl_red hp hg h
theorem rg_q2 {R : Type} [Lean.Grind.CommRing R] (X U1 U0 V1 V0 : R) : (V0 + V1 * X) * (V0 + V1 * X) = (X * X + U1 * X + U0) * (V1 * V1) + ((V0 * V0 - V1 * V1 * U0) + (2 * V1 * V0 - V1 * V1 * U1) * X) := by grind
theorem pM_X {p : Int} (c : Int) : pM p c 1 = pmul (pC p c) (pM p 1 1) := Pz.ext fun k => by
  rw [pC_mul, pM_c, pM_c, md_mul (p := p) (a := c) rfl (md_md _ _)]
  by_cases e : k = 1
  · rw [if_pos e, if_pos e, Int.mul_one]
  · rw [if_neg e, if_neg e, Int.mul_zero]
theorem qd_X {p : Int} (u1 u0 : Int) : qd p u1 u0 = padd (padd (pmul (pM p 1 1) (pM p 1 1)) (pmul (pC p u1) (pM p 1 1))) (pC p u0) := Pz.ext fun k => by
  have m1 : ∀ x : Int, (x * (1 % p)) % p = x % p := fun x => by rw [md_mul (a := x) rfl (md_md 1 p), Int.mul_one]
  rw [qd_c, padd_c, padd_c, pM_mul, pC_mul, pM_c, pM_c, pC_c]
  match k with
  | 0 => show u0 % p = (((0 : Int) % p + (u1 * (0 % p)) % p) % p + u0 % p) % p; rw [Int.zero_emod, Int.mul_zero, Int.zero_emod, Int.add_zero, Int.zero_emod, Int.zero_add, md_md]
  | 1 => show u1 % p = (((1 * ((0 : Int) % p)) % p + (u1 * (1 % p)) % p) % p + 0 % p) % p; rw [m1, Int.zero_emod, Int.mul_zero, Int.zero_emod, Int.add_zero, Int.zero_add, md_md, md_md]
  | 2 => show (1 : Int) % p = (((1 * ((1 : Int) % p)) % p + (u1 * (0 % p)) % p) % p + 0 % p) % p; rw [m1, Int.zero_emod, Int.mul_zero, Int.zero_emod, Int.add_zero, Int.add_zero, md_md, md_md]
  | k + 3 => show (0 : Int) % p = (((1 * ((0 : Int) % p)) % p + (u1 * (0 % p)) % p) % p + 0 % p) % p; simp
theorem rg_q3 {R : Type} [Lean.Grind.CommRing R] {u q r c s : R} : (u * c + s) - (u * q + r) = u * (c - q) + (s - r) := by grind
theorem red_2 {p : Int} (hp : Pr p) {f : Pz p} {u1 u0 v1 v0 : Int} (hu1 : 0 ≤ u1 ∧ u1 < p) (hu : 0 ≤ u0 ∧ u0 < p) (hv1 : 0 ≤ v1 ∧ v1 < p) (hv : 0 ≤ v0 ∧ v0 < p) : pRed f 2 (qd p u1 u0, lin p v1 v0) ↔ (2 * v1 * v0 % p = hiR f u1 u0 v1 ∧ v0 * v0 % p = loR f u1 u0 v1) := by
  have hpp := hp.pos
  have d3 := qd_dg (u1 := u1) (u0 := u0) hp
  have dl := dg_lin p v1 v0
  obtain ⟨q, R, hf, hR⟩ := pdiv hp (qd p u1 u0) (by omega) _ f (Nat.le_refl _)
  have eR := rmd_is hp hf hR
  rw [d3] at hR
  -- what is left of the square
  let s0 : Int := v0 * v0 - v1 * v1 * u0
  let s1 : Int := 2 * v1 * v0 - v1 * v1 * u1
  have es : pmul (lin p v1 v0) (lin p v1 v0) = padd (pmul (qd p u1 u0) (pC p (v1 * v1))) (lin p s1 s0) := by
    have h := @rg_q2 (Pz p) (pring p) (pM p 1 1) (pC p u1) (pC p u0) (pC p v1) (pC p v0)
    have e1 : lin p v1 v0 = padd (pC p v0) (pmul (pC p v1) (pM p 1 1)) := by unfold lin; rw [pM_X]
    have e2 : lin p s1 s0 = padd (pC p s0) (pmul (pC p s1) (pM p 1 1)) := by unfold lin; rw [pM_X]
    have e3 : pC p s0 = padd (pmul (pC p v0) (pC p v0)) (pneg (pmul (pmul (pC p v1) (pC p v1)) (pC p u0))) := by
      rw [pC_pC, pC_pC, pC_pC, ← pC_neg, ← pC_add]; congr 1
    have e4 : pC p s1 = padd (pmul (pmul (pC p 2) (pC p v1)) (pC p v0)) (pneg (pmul (pmul (pC p v1) (pC p v1)) (pC p u1))) := by
      rw [pC_pC, pC_pC, pC_pC, pC_pC, ← pC_neg, ← pC_add]; congr 1
    rw [e2, e3, e4, e1, qd_X, ← pC_pC]
    exact h
  have hs : dg (lin p s1 s0) ≤ 2 := dg_lin p s1 s0
  have hdif : padd (pmul (lin p v1 v0) (lin p v1 v0)) (pneg f) = padd (pmul (qd p u1 u0) (padd (pC p (v1 * v1)) (pneg q))) (padd (lin p s1 s0) (pneg R)) := by
    rw [es, hf]
    exact @rg_q3 (Pz p) (pring p) (qd p u1 u0) q R (pC p (v1 * v1)) (lin p s1 s0)
  have key : @Dv _ (pring p) (qd p u1 u0) (padd (pmul (lin p v1 v0) (lin p v1 v0)) (pneg f)) ↔ lin p s1 s0 = R := by
    constructor
    · intro h
      have h2 : @Dv _ (pring p) (qd p u1 u0) (padd (lin p s1 s0) (pneg R)) := by
        have h3 := @Dv.sub (Pz p) (pring p) _ _ _ h (@Dv.self (Pz p) (pring p) (qd p u1 u0) (padd (pC p (v1 * v1)) (pneg q)))
        have e : padd (padd (pmul (lin p v1 v0) (lin p v1 v0)) (pneg f)) (pneg (pmul (qd p u1 u0) (padd (pC p (v1 * v1)) (pneg q)))) = padd (lin p s1 s0) (pneg R) := by
          rw [hdif]
          exact Pz.ext fun k => by
            rw [psub_c, padd_c, md_sub (md_md _ _) rfl, Int.add_comm, Int.add_sub_cancel]; exact (padd (lin p s1 s0) (pneg R)).2.1 k
        exact e ▸ h3
      have h4 := @Euc.small (Pz p) (pring p) dg pmo (Euc_Pz hp) _ _ (fun e => by have := dg_zero.mpr e; omega) h2 (by
        have := dg_add (lin p s1 s0) (pneg R)
        rw [dg_neg] at this
        omega)
      exact @rg_s0 (Pz p) (pring p) _ _ h4
    · intro h
      rw [hdif, h]
      refine ⟨padd (pC p (v1 * v1)) (pneg q), ?_⟩
      show _ = pmul _ _
      rw [show padd R (pneg R) = pC p 0 by rw [padd_comm]; exact pneg_add R, pC_zero_add]
  have coef : lin p s1 s0 = R ↔ (s0 % p = R.1 0 ∧ s1 % p = R.1 1) := by
    constructor
    · intro h; rw [← h, lin_c, lin_c]; exact ⟨by rw [if_pos rfl], by rw [if_neg (by omega), if_pos rfl]⟩
    · rintro ⟨h0, h1⟩
      rw [pz_2 R (by omega)]
      refine Pz.ext fun k => ?_
      rw [lin_c, lin_c, ← h0, ← h1]
      by_cases e : k = 0
      · rw [if_pos e, if_pos e, md_md]
      · rw [if_neg e, if_neg e]
        by_cases e1 : k = 1
        · rw [if_pos e1, if_pos e1, md_md]
        · rw [if_neg e1, if_neg e1]
  have mv : ∀ x y z : Int, 0 ≤ z ∧ z < p → ((x - y) % p = z ↔ x % p = (z + y) % p) := fun x y z hz => by
    constructor
    · intro h
      have : x % p = ((x - y) + y) % p := by rw [Int.sub_add_cancel]
      rw [this, ← md_add (md_md (x - y) p) rfl, h]
    · intro h
      have : (x - y) % p = (z + y - y) % p := md_sub h rfl
      rw [this, Int.add_sub_cancel]; exact md0 hz
  have hi : s1 % p = R.1 1 ↔ 2 * v1 * v0 % p = hiR f u1 u0 v1 := by
    unfold hiR; rw [eR]; exact mv (2 * v1 * v0) (v1 * v1 * u1) (R.1 1) (cf_rg hp R 1)
  have lo : s0 % p = R.1 0 ↔ v0 * v0 % p = loR f u1 u0 v1 := by
    unfold loR; rw [eR]; exact mv (v0 * v0) (v1 * v1 * u0) (R.1 0) (cf_rg hp R 0)
  constructor
  · intro h
    have := coef.mp (key.mp h.2.2.2)
    exact ⟨hi.mp this.2, lo.mp this.1⟩
  · rintro ⟨h1, h2⟩
    refine ⟨qd_mo hp, by show dg (qd p u1 u0) ≤ 3; omega, by show dg (lin p v1 v0) < dg (qd p u1 u0); omega, ?_⟩
    exact key.mpr (coef.mpr ⟨lo.mpr h2, hi.mpr h1⟩)
