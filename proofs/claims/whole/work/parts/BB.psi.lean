/-! FUNCTIONS AS SERIES AT A PLACE: how often a function is nought there -/
theorem ps1 {S : Type} [Lean.Grind.CommRing S] (A1 A2 B1 B2 Y : S) : (A1 + B1) + (A2 + B2) * Y = (A1 + A2 * Y) + (B1 + B2 * Y) := by grind
theorem ps2 {S : Type} [Lean.Grind.CommRing S] (A1 A2 B1 B2 Y F : S) : (A1 * B1 + A2 * B2 * F) + (A1 * B2 + A2 * B1) * Y = (A1 + A2 * Y) * (B1 + B2 * Y) + A2 * B2 * (F + -(Y * Y)) := by grind
noncomputable def psi {p : Int} (X : Nat → Int) (Y : Sz p) {f : Pz p} (w : BB (Pz p) f) : Sz p := sadd (sv X w.1) (smul (sv X w.2) Y)
abbrev pmB {p : Int} {f : Pz p} (w z : BB (Pz p) f) : BB (Pz p) f := @bmul (Pz p) (pring p) f w z
abbrev paB {p : Int} {f : Pz p} (w z : BB (Pz p) f) : BB (Pz p) f := @badd (Pz p) (pring p) f w z
theorem psi_add {p : Int} (X : Nat → Int) (Y : Sz p) {f : Pz p} (w z : BB (Pz p) f) : psi X Y (paB w z) = sadd (psi X Y w) (psi X Y z) := by
  show sadd (sv X (padd w.1 z.1)) (smul (sv X (padd w.2 z.2)) Y) = _
  rw [sv_add, sv_add]
  exact @ps1 (Sz p) (sring p) _ _ _ _ _
theorem psi_mul {p : Int} (X : Nat → Int) (Y : Sz p) {f : Pz p} (w z : BB (Pz p) f) : psi X Y (pmB w z) = sadd (smul (psi X Y w) (psi X Y z)) (smul (smul (sv X w.2) (sv X z.2)) (sadd (sv X f) (sneg (smul Y Y)))) := by
  show sadd (sv X (padd (pmul w.1 z.1) (pmul (pmul w.2 z.2) f))) (smul (sv X (padd (pmul w.1 z.2) (pmul w.2 z.1))) Y) = _
  rw [sv_add, sv_add, sv_mul, sv_mul, sv_mul, sv_mul, sv_mul]
  exact @ps2 (Sz p) (sring p) _ _ _ _ _ _
theorem psi_up {p : Int} {X : Nat → Int} {Y : Sz p} {f : Pz p} {L k : Nat} (hY : Lo L (sadd (sv X f) (sneg (smul Y Y)))) (hk : k ≤ L) {w z : BB (Pz p) f} (h : Lo k (smul (psi X Y w) (psi X Y z))) : Lo k (psi X Y (pmB w z)) := by
  rw [psi_mul]
  refine h.add ?_
  have := Lo.mul (m := 0) (n := k) (s := smul (sv X w.2) (sv X z.2)) (fun i hi => absurd hi (Nat.not_lt_zero i)) (hY.dn hk)
  rw [Nat.zero_add] at this; exact this
theorem psi_at {p : Int} {X : Nat → Int} {Y : Sz p} {f : Pz p} {L k : Nat} (hY : Lo L (sadd (sv X f) (sneg (smul Y Y)))) (hk : k < L) (w z : BB (Pz p) f) : (psi X Y (pmB w z)).1 k = (smul (psi X Y w) (psi X Y z)).1 k := by
  rw [psi_mul, sadd_c]
  have := Lo.mul (m := 0) (n := L) (s := smul (sv X w.2) (sv X z.2)) (fun i hi => absurd hi (Nat.not_lt_zero i)) hY
  rw [this k (by omega), Int.add_zero, (smul (psi X Y w) (psi X Y z)).2]
theorem sv_z {p : Int} (X : Nat → Int) (k : Nat) : (sv X (pC p 0)).1 k = 0 := by
  rw [sv_C, sC_c]; unfold cs; split <;> exact Int.zero_emod _
theorem smul_z {p : Int} {s t : Sz p} (h : ∀ i, s.1 i = 0) (k : Nat) : (smul s t).1 k = 0 := by
  rw [smul_c, cv_zero_l k _ _ h]; exact Int.zero_emod _
theorem psi_a {p : Int} (X : Nat → Int) (Y : Sz p) {f : Pz p} (a : Pz p) (k : Nat) : (psi (f := f) X Y (a, pC p 0)).1 k = (sv X a).1 k := by
  show ((sv X a).1 k + (smul (sv X (pC p 0)) Y).1 k) % p = _
  rw [smul_z (sv_z X), Int.add_zero, (sv X a).2]
theorem psi_0 {p : Int} (X : Nat → Int) (Y : Sz p) {f : Pz p} (w : BB (Pz p) f) : (psi X Y w).1 0 = (pev w.1 (X 0) + pev w.2 (X 0) * Y.1 0) % p := by
  show ((sv X w.1).1 0 + (smul (sv X w.2) Y).1 0) % p = _
  rw [smul_c]
  show ((sv X w.1).1 0 + ((sv X w.2).1 0 * Y.1 0) % p) % p = _
  rw [sv_0, sv_0]
  exact md_add rfl (md_md _ _)
theorem psi_is {p : Int} {X : Nat → Int} {Y : Sz p} {f : Pz p} {L k : Nat} (hY : Lo L (sadd (sv X f) (sneg (smul Y Y)))) (hk : k ≤ L) : @IsI (BB (Pz p) f) (@bring (Pz p) (pring p) f) (fun w => Lo k (psi X Y w)) := by
  refine ⟨fun i hi => ?_, fun a b ha hb => ?_, fun c a ha => ?_⟩
  · exact (psi_a X Y (f := f) (pC p 0) i).trans (sv_z X i)
  · show Lo k (psi X Y (paB a b))
    rw [psi_add]; exact ha.add hb
  · refine psi_up hY hk ?_
    have := Lo.mul (m := 0) (n := k) (s := psi X Y c) (fun i hi => absurd hi (Nat.not_lt_zero i)) ha
    rw [Nat.zero_add] at this; exact this
/-- the place's own row at the series -/
theorem svT {p : Int} (hp : Pr p) (q : Int × Int) (X : Nat → Int) (k : Nat) : (sv X (pcl p q).1).1 k = (cs (-q.1) k + X k) % p := by
  have h : ∀ k, hev X 1 (sh (pcl p q).1.1) k = cs 1 k := fun k => by
    show cs ((pcl p q).1.1 1) k + cv X (fun _ => 0) k = _
    rw [cv_z_r, pcl_u hp, if_neg (by omega), if_pos rfl, Int.add_zero]
  rw [sv_n X _ (n := 2) (by rw [pcl_dg hp]; omega)]
  show (cs ((pcl p q).1.1 0) k + cv X (hev X 1 (sh (pcl p q).1.1)) k) % p = _
  rw [show hev X 1 (sh (pcl p q).1.1) = cs 1 from funext h, cv_comm, cv_cs, Int.one_mul, pcl_u hp, if_pos rfl]
  refine md_add ?_ rfl
  unfold cs; split
  · exact md_md _ _
  · rfl
theorem root_dec {p : Int} (hp : Pr p) (q : Int × Int) (a : Pz p) : ∃ w, a = padd (pmul (pcl p q).1 w) (pC p (pev a q.1)) := by
  have h : pev (padd a (pneg (pC p (pev a q.1)))) q.1 = 0 := by
    rw [pev_add, pev_neg, pev_C, md_add (a' := pev a q.1) rfl (md_md _ _), md_add (b' := -pev a q.1) rfl (md_neg (md_md _ _))]
    rw [show pev a q.1 + -pev a q.1 = 0 by omega, Int.zero_emod]
  obtain ⟨w, hw⟩ := root_dv hp q _ h
  refine ⟨w, ?_⟩
  replace hw : padd a (pneg (pC p (pev a q.1))) = pmul (pcl p q).1 w := hw
  rw [← hw, padd_assoc, pneg_add, pC_zero_add]
theorem psi_1 {p : Int} (hp : Pr p) {X : Nat → Int} {Y : Sz p} {f : Pz p} {q : Int × Int} (X0 : X 0 = q.1) (Y0 : Y.1 0 = q.2) : (fun w : BB (Pz p) f => Lo 1 (psi X Y w)) = @II (Pz p) (pring p) f (pcl p q).1 (pcl p q).2 := by
  have e : ∀ w : BB (Pz p) f, (psi X Y w).1 0 = pev (padd w.1 (pmul w.2 (pC p q.2))) q.1 := fun w => by
    rw [psi_0, X0, Y0, pev_add, pev_mul, pev_C]
    exact md_add rfl ((md_mul rfl (md_md _ _)).symm.trans (md_md _ _).symm)
  refine pred_ext (fun w hw => ?_) (fun w hw i hi => ?_)
  · refine root_dv hp q _ ?_
    have := hw 0 (by omega)
    rw [e] at this; exact this
  · obtain rfl : i = 0 := by omega
    obtain ⟨c, hc⟩ := hw
    replace hc : padd w.1 (pmul w.2 (pC p q.2)) = pmul (pcl p q).1 c := hc
    rw [e, hc, pev_mul, pev_pcl hp, Int.sub_self, Int.zero_emod, Int.zero_mul, Int.zero_emod]
theorem lead_T {p : Int} (hp : Pr p) {X : Nat → Int} {T : Pz p} {e : Nat} (h1 : Lo e (sv X T)) (h2 : (sv X T).1 e ≠ 0) : ∀ k, Lo (e * k) (sv X (@tpw (Pz p) (pring p) T k)) ∧ (sv X (@tpw (Pz p) (pring p) T k)).1 (e * k) ≠ 0
  | 0 => by
    refine ⟨fun i hi => absurd hi (Nat.not_lt_zero i), ?_⟩
    have hpp := hp.pos
    show (sv X (pC p 1)).1 0 ≠ 0
    rw [sv_C, sC_c]
    show (1 : Int) % p ≠ 0
    rw [Int.emod_eq_of_lt (by omega) (by omega)]; omega
  | k + 1 => by
    obtain ⟨a, b⟩ := lead_T hp h1 h2 k
    have e2 : sv X (@tpw (Pz p) (pring p) T (k + 1)) = smul (sv X T) (sv X (@tpw (Pz p) (pring p) T k)) := sv_mul X T (@tpw (Pz p) (pring p) T k)
    rw [e2, show e * (k + 1) = e + e * k by rw [Nat.mul_add]; omega]
    refine ⟨h1.mul a, ?_⟩
    rw [Lo.lt h1 a]
    exact hp.mul_ne (by rw [(sv X T).2]; exact h2) (by rw [(sv X (@tpw (Pz p) (pring p) T k)).2]; exact b)
theorem tpk {R : Type} [Lean.Grind.CommRing R] {f : R} (T : R) (k : Nat) : @Eq (BB R f) (tpw T (k + 1), 0) (bmul (f := f) (T, 0) (tpw T k, 0)) := BB.ext
  (by show T * tpw T k = T * tpw T k + 0 * 0 * f; grind) (by show (0 : R) = T * 0 + 0 * tpw T k; grind)
theorem hs1 {R : Type} [Lean.Grind.CommRing R] {f T q q' a b a0 b0 y0 fq k : R} (ha : a = T * q + a0) (hb : b = T * q' + b0) (h0 : a0 = -(b0 * y0)) (hf : f = T * fq + y0 * y0) (hk : (y0 + y0) * k = 1) :
    a = (T * (q + b0 * k * fq) + 0 * q' * f) + (-(b0 * k) * (-y0 * -y0 + 1 * 1 * f) + 0 * (-y0 * 1 + 1 * -y0) * f) := by
  rw [ha, h0, hf]
  have e : b0 * y0 = b0 * y0 * ((y0 + y0) * k) := by rw [hk]; clear ha hb h0 hf hk; grind
  rw [e]; clear ha hb h0 hf hk e; grind
theorem hs2 {R : Type} [Lean.Grind.CommRing R] {f T q q' b b0 y0 fq k : R} (hb : b = T * q' + b0) (hk : (y0 + y0) * k = 1) :
    b = (T * q' + 0 * (q + b0 * k * fq)) + (-(b0 * k) * (-y0 * 1 + 1 * -y0) + 0 * (-y0 * -y0 + 1 * 1 * f)) := by
  rw [hb]
  have e : b0 = b0 * ((y0 + y0) * k) := by rw [hk]; clear hb hk; grind
  have e2 : T * q' + b0 = T * q' + b0 * ((y0 + y0) * k) := congrArg (fun z => T * q' + z) e
  rw [e2]; clear hb hk e e2; grind
theorem pw_1 {p : Int} (hp : Pr p) {f : Pz p} {q : Int × Int} (hq : 0 < q.2 ∧ q.2 < p) {X : Nat → Int} {Y : Sz p} {L : Nat} (X0 : X 0 = q.1) (X1 : X 1 % p ≠ 0) (Y0 : Y.1 0 = q.2) (hY : Lo L (sadd (sv X f) (sneg (smul Y Y)))) (hL : 1 ≤ L) :
    ∀ k, k ≤ L → ∀ w : BB (Pz p) f, @bpw (Pz p) (pring p) f (@II (Pz p) (pring p) f (pcl p q).1 (pcl p q).2) k w ↔ Lo k (psi X Y w) := by
  have hpp := hp.pos
  rw [← psi_1 hp X0 Y0]
  have t1 : Lo 1 (sv X (pcl p q).1) := fun i hi => by
    obtain rfl : i = 0 := by omega
    rw [svT hp, X0]
    show (-q.1 + q.1) % p = 0
    rw [Int.add_left_neg, Int.zero_emod]
  have t2 : (sv X (pcl p q).1).1 1 ≠ 0 := by
    rw [svT hp]
    show (0 + X 1) % p ≠ 0
    rw [Int.zero_add]; exact X1
  have ld := lead_T hp t1 t2
  have hf0 : pev f q.1 = q.2 * q.2 % p := by
    have := hY 0 (by omega)
    rw [sadd_c, sneg_c, sv_0, X0, smul_c] at this
    replace this : (pev f q.1 + (-(Y.1 0 * Y.1 0 % p)) % p) % p = 0 := this
    rw [Y0, md_add (b' := -(q.2 * q.2)) rfl ((md_md _ _).trans (md_neg (md_md _ _)))] at this
    have e2 := md_add (p := p) (a := pev f q.1 + -(q.2 * q.2)) (a' := 0) (b := q.2 * q.2) (b' := q.2 * q.2) (by rw [this, Int.zero_emod]) rfl
    rw [show pev f q.1 + -(q.2 * q.2) + q.2 * q.2 = pev f q.1 by omega, Int.zero_add] at e2
    have := pev_rg hp f q.1
    rw [Int.emod_eq_of_lt this.1 this.2] at e2
    exact e2
  obtain ⟨fq, hfq⟩ := root_dec hp q f
  refine @ord_pw (BB (Pz p) f) (@bring (Pz p) (pring p) f) (fun k w => Lo k (psi X Y w)) L ((pcl p q).1, pC p 0) (fun k => (@tpw (Pz p) (pring p) (pcl p q).1 k, pC p 0)) rfl (fun k => @tpk (Pz p) (pring p) f (pcl p q).1 k) (fun x i hi => absurd hi (Nat.not_lt_zero i)) (fun k hk => psi_is hY hk) (fun m n a b hmn ha hb => psi_up hY hmn (ha.mul hb)) (fun k x hx => hx.dn (by omega)) hL ?_ ?_ ?_
  · intro i hi
    exact (psi_a X Y (f := f) _ i).trans (t1 i hi)
  · intro k h hk hx i hi
    obtain rfl : i = 0 := by omega
    obtain ⟨a, b⟩ := ld k
    rw [Nat.one_mul] at a b
    have c := hx k (by omega)
    let pk : BB (Pz p) f := (@tpw (Pz p) (pring p) (pcl p q).1 k, pC p 0)
    have c2 : (smul (psi X Y pk) (psi X Y h)).1 k = 0 := (psi_at (f := f) hY (by omega) pk h).symm.trans c
    have ea : ∀ i, (psi X Y pk).1 i = (sv X (@tpw (Pz p) (pring p) (pcl p q).1 k)).1 i := fun i => psi_a (f := f) X Y _ i
    have a2 : Lo k (psi X Y pk) := fun i hi => (ea i).trans (a i hi)
    have c3 := Lo.lt (n := 0) (t := psi X Y h) a2 (fun i hi => absurd hi (Nat.not_lt_zero i))
    rw [Nat.add_zero, c2, ea] at c3
    false_or_by_contra
    rename_i w
    exact hp.mul_ne (by rw [Sz.nm]; exact b) (by rw [Sz.nm]; exact w) c3.symm
  · rintro ⟨a, b⟩ hx
    have h0 := hx 0 (by omega)
    replace h0 : (pev a (X 0) + pev b (X 0) * Y.1 0) % p = 0 := (psi_0 (f := f) X Y (a, b)).symm.trans h0
    rw [X0, Y0] at h0
    replace h0 : (pev a q.1 + pev b q.1 * q.2) % p = 0 := h0
    obtain ⟨aq, ha⟩ := root_dec hp q a
    obtain ⟨bq, hb⟩ := root_dec hp q b
    have g0 : pC p (pev a q.1) = pneg (pmul (pC p (pev b q.1)) (pC p q.2)) := by
      rw [pC_pC, ← pC_neg]
      refine Pz.ext fun k => ?_
      rw [pC_c, pC_c]
      split
      · have := md_add (p := p) (a := pev a q.1 + pev b q.1 * q.2) (a' := 0) (b := -(pev b q.1 * q.2)) (b' := -(pev b q.1 * q.2)) (by rw [h0, Int.zero_emod]) rfl
        rw [show pev a q.1 + pev b q.1 * q.2 + -(pev b q.1 * q.2) = pev a q.1 by omega, Int.zero_add] at this
        exact this
      · rfl
    obtain ⟨k, k1, k2, k3⟩ := hp.inv (x := (q.2 + q.2) % p) (by
      have : (q.2 + q.2) % p ≠ 0 := fun e => by
        have h2 : (2 * q.2) % p ≠ 0 := hp.mul_ne (by rw [Int.emod_eq_of_lt (by omega) (by omega)]; omega) (by rw [Int.emod_eq_of_lt (by omega) (by omega)]; omega)
        rw [show 2 * q.2 = q.2 + q.2 by omega] at h2
        exact h2 e
      have := Int.emod_nonneg (q.2 + q.2) (b := p) (by omega)
      omega) (Int.emod_lt_of_pos _ (by omega))
    have hk : pmul (padd (pC p q.2) (pC p q.2)) (pC p k) = pC p 1 := by
      rw [← pC_add, pC_pC]
      refine Pz.ext fun j => ?_
      rw [pC_c, pC_c]
      split
      · rw [md_mul (md_md (q.2 + q.2) p).symm rfl, k3]; exact (Int.emod_eq_of_lt (by omega) (by omega)).symm
      · rfl
    have hf : f = padd (pmul (pcl p q).1 fq) (pmul (pC p q.2) (pC p q.2)) := by
      rw [hf0] at hfq
      rw [pC_pC]
      have e : pC p (q.2 * q.2 % p) = pC p (q.2 * q.2) := Pz.ext fun j => by
        rw [pC_c, pC_c]; split
        · exact md_md _ _
        · rfl
      rw [e] at hfq; exact hfq
    have hyI : Lo 1 (psi (f := f) X Y (pneg (pC p q.2), pC p 1)) := fun i hi => by
      obtain rfl : i = 0 := by omega
      refine (psi_0 (f := f) X Y (pneg (pC p q.2), pC p 1)).trans ?_
      show (pev (pneg (pC p q.2)) (X 0) + pev (pC p 1) (X 0) * Y.1 0) % p = 0
      rw [X0, Y0, pev_neg, pev_C, pev_C, md_add ((md_md _ _).trans (md_neg (md_md _ _))) (md_mul (md_md _ _) rfl), Int.one_mul, Int.add_left_neg, Int.zero_emod]
    refine ⟨(padd aq (pmul (pmul (pC p (pev b q.1)) (pC p k)) fq), bq), pmB (f := f) (pneg (pmul (pC p (pev b q.1)) (pC p k)), pC p 0) (pmB (f := f) (pneg (pC p q.2), pC p 1) (pneg (pC p q.2), pC p 1)), ?_, ?_⟩
    · refine (@ipw_is (BB (Pz p) f) (@bring (Pz p) (pring p) f) (fun w => Lo 1 (psi X Y w)) 2).2.2 _ _ ?_
      have e1 := @ipw_1 (BB (Pz p) f) (@bring (Pz p) (pring p) f) (fun w => Lo 1 (psi X Y w)) (psi_is hY hL)
      exact @ipw_mul (BB (Pz p) f) (@bring (Pz p) (pring p) f) (fun w => Lo 1 (psi X Y w)) 1 1 _ _ (by rw [e1]; exact hyI) (by rw [e1]; exact hyI)
    · exact BB.ext (@hs1 (Pz p) (pring p) f _ aq bq a b _ _ _ fq _ ha hb g0 hf hk) (@hs2 (Pz p) (pring p) f _ aq bq b _ _ fq _ hb hk)
/-- where y is 0: the series of functions and the rows' parts -/
theorem lo_Q0 {p : Int} (hp : Pr p) {f : Pz p} {q : Int × Int} {X : Nat → Int} {Y : Sz p} (X0 : X 0 = q.1) (X1 : X 1 % p = 0) (X2 : X 2 % p ≠ 0) (Y0 : Y.1 0 = 0) (Y1 : Y.1 1 ≠ 0) (w : BB (Pz p) f) :
    ∀ k, Lo k (psi X Y w) ↔ @Q0 (Pz p) (pring p) (pcl p q).1 f k w := by
  have t1 : Lo 2 (sv X (pcl p q).1) := fun i hi => by
    rw [svT hp]
    have : i = 0 ∨ i = 1 := by omega
    rcases this with rfl | rfl
    · rw [X0]
      show (-q.1 + q.1) % p = 0
      rw [Int.add_left_neg, Int.zero_emod]
    · show (0 + X 1) % p = 0
      rw [Int.zero_add]; exact X1
  have t2 : (sv X (pcl p q).1).1 2 ≠ 0 := by
    rw [svT hp]
    show (0 + X 2) % p ≠ 0
    rw [Int.zero_add]; exact X2
  have ld := lead_T hp t1 t2
  have y1 : Lo 1 Y := fun i hi => by
    obtain rfl : i = 0 := by omega
    exact Y0
  have lz : ∀ s : Sz p, Lo 0 s := fun s i hi => absurd hi (Nat.not_lt_zero i)
  have dn : ∀ k, @Q0 (Pz p) (pring p) (pcl p q).1 f k w → Lo k (psi X Y w) := fun k => by
    rintro ⟨⟨a, ha⟩, ⟨b, hb⟩⟩
    replace ha : w.1 = pmul (@tpw (Pz p) (pring p) (pcl p q).1 ((k + 1) / 2)) a := ha
    replace hb : w.2 = pmul (@tpw (Pz p) (pring p) (pcl p q).1 (k / 2)) b := hb
    unfold psi
    rw [ha, hb, sv_mul, sv_mul]
    exact Lo.add (((ld ((k + 1) / 2)).1.mul (lz (sv X a))).dn (by omega)) ((((ld (k / 2)).1.mul (lz (sv X b))).mul y1).dn (by omega))
  intro k
  refine ⟨fun h => ?_, dn k⟩
  induction k with
  | zero => exact ⟨⟨w.1, (pC_one_mul w.1).symm⟩, ⟨w.2, (pC_one_mul w.2).symm⟩⟩
  | succ k ih =>
    obtain ⟨⟨a, ha⟩, ⟨b, hb⟩⟩ := ih (h.dn (by omega))
    replace ha : w.1 = pmul (@tpw (Pz p) (pring p) (pcl p q).1 ((k + 1) / 2)) a := ha
    replace hb : w.2 = pmul (@tpw (Pz p) (pring p) (pcl p q).1 (k / 2)) b := hb
    have hk := h k (by omega)
    replace hk : ((sv X w.1).1 k + (smul (sv X w.2) Y).1 k) % p = 0 := hk
    rw [ha, hb, sv_mul, sv_mul] at hk
    have st : ∀ (j : Nat) (c : Pz p), pev c q.1 = 0 → ∃ d, pmul (@tpw (Pz p) (pring p) (pcl p q).1 j) c = pmul (@tpw (Pz p) (pring p) (pcl p q).1 (j + 1)) d := fun j c hc => by
      obtain ⟨d, hd⟩ := root_dv hp q c hc
      replace hd : c = pmul (pcl p q).1 d := hd
      refine ⟨d, ?_⟩
      show _ = pmul (pmul (pcl p q).1 (@tpw (Pz p) (pring p) (pcl p q).1 j)) d
      rw [hd, ← pmul_assoc, pmul_comm (@tpw (Pz p) (pring p) (pcl p q).1 j)]
    by_cases e : k % 2 = 0
    · have z2 : (smul (smul (sv X (@tpw (Pz p) (pring p) (pcl p q).1 (k / 2))) (sv X b)) Y).1 k = 0 := (((ld (k / 2)).1.mul (lz (sv X b))).mul y1) k (by omega)
      have z1 := Lo.lt (ld ((k + 1) / 2)).1 (lz (sv X a))
      rw [show 2 * ((k + 1) / 2) + 0 = k by omega] at z1
      rw [z1, z2, Int.add_zero, md_md, sv_0, X0] at hk
      have ha0 : pev a q.1 = 0 := by
        false_or_by_contra
        rename_i hn
        have r := pev_rg hp a q.1
        refine hp.mul_ne ?_ (by rw [Int.emod_eq_of_lt r.1 r.2]; exact hn) hk
        rw [Sz.nm]
        have := (ld ((k + 1) / 2)).2
        rw [show 2 * ((k + 1) / 2) = k by omega] at this
        rw [show 2 * ((k + 1) / 2) = k by omega]; exact this
      obtain ⟨d, hd⟩ := st _ a ha0
      refine ⟨⟨d, ?_⟩, ⟨b, ?_⟩⟩
      · rw [ha, hd, show (k + 1) / 2 + 1 = (k + 1 + 1) / 2 by omega]; rfl
      · rw [hb, show (k + 1) / 2 = k / 2 by omega]; rfl
    · have z1 : (smul (sv X (@tpw (Pz p) (pring p) (pcl p q).1 ((k + 1) / 2))) (sv X a)).1 k = 0 := ((ld ((k + 1) / 2)).1.mul (lz (sv X a))) k (by omega)
      have z3 := Lo.lt (ld (k / 2)).1 (lz (sv X b))
      have z2 := Lo.lt ((ld (k / 2)).1.mul (lz (sv X b))) y1
      rw [z3, show 2 * (k / 2) + 0 + 1 = k by omega] at z2
      rw [z1, z2, Int.zero_add, md_md, sv_0, X0] at hk
      have hb0 : pev b q.1 = 0 := by
        false_or_by_contra
        rename_i hn
        have r := pev_rg hp b q.1
        refine hp.mul_ne (x := (sv X (@tpw (Pz p) (pring p) (pcl p q).1 (k / 2))).1 (2 * (k / 2)) * pev b q.1 % p) (y := Y.1 1) ?_ (by rw [Sz.nm]; exact Y1) hk
        rw [md_md]
        exact hp.mul_ne (by rw [Sz.nm]; exact (ld (k / 2)).2) (by rw [Int.emod_eq_of_lt r.1 r.2]; exact hn)
      obtain ⟨d, hd⟩ := st _ b hb0
      refine ⟨⟨a, ?_⟩, ⟨d, ?_⟩⟩
      · rw [ha, show (k + 1 + 1) / 2 = (k + 1) / 2 by omega]; rfl
      · rw [hb, hd, show k / 2 + 1 = (k + 1) / 2 by omega]; rfl
