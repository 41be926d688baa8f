/-! HOW MANY ARE KILLED BY q: fewer than q to the 5 -/
theorem filt_len {A : Type} (P : A → Bool) : ∀ M : List A, M.length = (M.filter P).length + (M.filter (fun x => !P x)).length
  | [] => rfl
  | x :: M => by
    have ih := filt_len P M
    cases e : P x with
    | true =>
      rw [List.filter_cons_of_pos e, List.filter_cons_of_neg (by simp [e]), List.length_cons, List.length_cons]; omega
    | false =>
      rw [List.filter_cons_of_neg (by simp [e]), List.filter_cons_of_pos (by simp [e]), List.length_cons, List.length_cons]; omega
theorem nd_1 {A : Type} {M : List A} (h : M.Nodup) (he : ∀ x ∈ M, ∀ y ∈ M, x = y) : M.length ≤ 1 := by
  match M, h, he with
  | [], _, _ => exact Nat.zero_le _
  | [_], _, _ => exact Nat.le_refl _
  | x :: y :: M, h, he =>
    exfalso
    have := he x (by simp) y (by simp)
    rw [List.nodup_cons] at h
    exact h.1 (by rw [this]; simp)
theorem divs_le {R : Type} [Lean.Grind.CommRing R] {dg : R → Nat} {mo : R → Prop} (E : Euc R dg mo) (hq : ∀ a b, mo a → b ≠ 0 → mo (a * b) → mo b) : ∀ (n : Nat) (f : R), f ≠ 0 → dg f ≤ n + 1 → ∀ M : List R, M.Nodup → (∀ d ∈ M, mo d ∧ Dv d f) → M.length ≤ 2 ^ n := by
  have hD := E.dom
  have h1 := E.2.2.2.2.2.2.2.1
  have un : ∀ d : R, dg d = 1 → ∃ b, d * b = 1 := E.2.2.2.2.2.1
  intro n
  induction n with
  | zero =>
    intro f hf hd M hM hA
    refine nd_1 hM (fun x hx y hy => ?_)
    have dv : ∀ x ∈ M, dg x = 1 := fun x hx => by
      have := E.dvle (hA x hx).2 hf
      have := E.nz (E.2.2.2.2.2.2.2.2.2.2 x (hA x hx).1)
      omega
    obtain ⟨bx, ex⟩ := un x (dv x hx)
    obtain ⟨by_, ey⟩ := un y (dv y hy)
    refine E.2.2.2.2.2.2.2.2.1 x y (hA x hx).1 (hA y hy).1 ⟨bx * y, ?_⟩ ⟨by_ * x, ?_⟩
    · have : x * (bx * y) = x * bx * y := by clear ex ey; grind
      rw [this, ex]; clear this ex ey; grind
    · have : y * (by_ * x) = y * by_ * x := by clear ex ey; grind
      rw [this, ey]; clear this ex ey; grind
  | succ n ih =>
    intro f hf hd M hM hA
    by_cases hs : dg f ≤ n + 1
    · have := ih f hf hs M hM hA
      have := Nat.pow_le_pow_right (show 0 < 2 by omega) (show n ≤ n + 1 by omega)
      omega
    · obtain ⟨c, c', hcc, hmc⟩ := E.2.2.2.2.2.2.2.2.2.1 f hf
      have hc0 : c ≠ 0 := fun e => hD.2 (by rw [← hcc, e]; clear hcc; grind)
      have hc0' : c' ≠ 0 := fun e => hD.2 (by rw [← hcc, e]; clear hcc; grind)
      have m1 := E.mul hc0 hc0'
      rw [hcc, h1] at m1
      have m2 := E.mul hf hc0
      have := E.nz hc0; have := E.nz hc0'
      have ff : f = f * c * c' := by
        have e : f * c * c' = f * (c * c') := by clear hcc; grind
        rw [e, hcc]; clear e hcc; grind
      obtain ⟨k, -, ⟨π, p1, p2, p3, p4⟩, hmin⟩ := least_ex (P := fun k => ∃ d, mo d ∧ Dv d f ∧ dg d = k ∧ 2 ≤ k) (dg (f * c)) ⟨f * c, hmc, ⟨c', ff⟩, rfl, by omega⟩
      obtain ⟨f', hf'⟩ := p2
      have hπ0 : π ≠ 0 := E.2.2.2.2.2.2.2.2.2.2 π p1
      have hf'0 : f' ≠ 0 := fun e => hf (by rw [hf', e]; clear hf' ff; grind)
      have m3 := E.mul hπ0 hf'0
      rw [← hf'] at m3
      have hfl := filt_len (fun d => @decide (Dv π d) (Classical.propDecidable _)) M
      have a1 : (M.filter (fun d => @decide (Dv π d) (Classical.propDecidable _))).length ≤ 2 ^ n := by
        let φ : R → R := fun d => @dite _ (Dv π d) (Classical.propDecidable _) (fun h => h.choose) (fun _ => 0)
        have hφ : ∀ d ∈ M.filter (fun d => @decide (Dv π d) (Classical.propDecidable _)), d = π * φ d ∧ mo d ∧ Dv d f := fun d hd => by
          rw [List.mem_filter, @decide_eq_true_eq _ (Classical.propDecidable _)] at hd
          have e : φ d = hd.2.choose := dif_pos hd.2
          exact ⟨by rw [e]; exact hd.2.choose_spec, hA d hd.1⟩
        have := ih f' hf'0 (by omega) ((M.filter (fun d => @decide (Dv π d) (Classical.propDecidable _))).map φ) (nodup_map (fun a ha b hb e => by rw [(hφ a ha).1, (hφ b hb).1, e]) (hM.filter _)) (fun d hd => by
          obtain ⟨x, hx, rfl⟩ := List.mem_map.mp hd
          obtain ⟨e1, e2, ⟨w, hw⟩⟩ := hφ x hx
          have hx0 : φ x ≠ 0 := fun e => E.2.2.2.2.2.2.2.2.2.2 x e2 (by rw [e1, e]; clear e1 hw hf' ff; grind)
          refine ⟨hq π (φ x) p1 hx0 (by rw [← e1]; exact e2), w, ?_⟩
          refine hD.cancel hπ0 ?_
          rw [← hf']
          have e3 : π * (φ x * w) = π * φ x * w := by clear e1 hw hf' ff; grind
          rw [e3, ← e1]; exact hw)
        rw [List.length_map] at this; exact this
      have a2 : (M.filter (fun d => !@decide (Dv π d) (Classical.propDecidable _))).length ≤ 2 ^ n := by
        refine ih f' hf'0 (by omega) _ (hM.filter _) (fun d hd => ?_)
        rw [List.mem_filter, Bool.not_eq_true', @decide_eq_false_iff_not _ (Classical.propDecidable _)] at hd
        obtain ⟨hdM, hnd⟩ := hd
        obtain ⟨hmd, hdf⟩ := hA d hdM
        refine ⟨hmd, ?_⟩
        obtain ⟨e, s, t, he, g1, g2⟩ := E.bez _ π d (Nat.le_refl _)
        have he0 : e ≠ 0 := fun q => by
          obtain ⟨w, hw⟩ := g1
          exact hπ0 (by rw [hw, q]; clear hw he hf' ff; grind)
        obtain ⟨cc, cc', hc2, hme⟩ := E.2.2.2.2.2.2.2.2.2.1 e he0
        have k0 : cc ≠ 0 := fun q => hD.2 (by rw [← hc2, q]; clear hc2; grind)
        have k0' : cc' ≠ 0 := fun q => hD.2 (by rw [← hc2, q]; clear hc2; grind)
        have n1 := E.mul k0 k0'
        rw [hc2, h1] at n1
        have n2 := E.mul he0 k0
        have := E.nz k0; have := E.nz k0'; have := E.nz he0
        have ee : e = e * cc * cc' := by
          have q : e * cc * cc' = e * (cc * cc') := by clear hc2 he; grind
          rw [q, hc2]; clear q hc2 he; grind
        have dvp : Dv (e * cc) π := Dv.tr ⟨cc', ee⟩ g1
        by_cases h2 : 2 ≤ dg e
        · exfalso
          have hm2 := hmin (dg (e * cc)) ⟨e * cc, hme, dvp.tr ⟨f', hf'⟩, rfl, by omega⟩
          obtain ⟨w, hw⟩ := dvp
          have hw0 : w ≠ 0 := fun q => hπ0 (by rw [hw, q]; clear hw ee hf' ff; grind)
          have hec0 : e * cc ≠ 0 := hD.ne he0 k0
          have n3 := E.mul hec0 hw0
          rw [← hw] at n3
          have := E.nz hw0
          obtain ⟨wb, hwb⟩ := un w (by omega)
          have dpe : Dv π (e * cc) := ⟨wb, by
            have q : π * wb = e * cc * (w * wb) := by
              have : π * wb = e * cc * w * wb := congrArg (fun z => z * wb) hw
              rw [this]; clear this hw hwb ee hf' ff; grind
            rw [q, hwb]; clear q hwb hw ee hf' ff; grind⟩
          exact hnd ((dpe.tr ⟨cc', ee⟩).tr g2)
        · obtain ⟨b, hb⟩ := un e (by omega)
          obtain ⟨w, hw⟩ := hdf
          have key : f' = d * (b * s * w + b * t * f') := by
            have q1 : f' = e * b * f' := by rw [hb]; clear hb hw he hf' ff ee; grind
            have q2 : e * b * f' = b * s * (π * f') + b * t * d * f' := by rw [he]; clear hb hw he hf' ff ee q1; grind
            have q3 : b * s * (π * f') + b * t * d * f' = b * s * (d * w) + b * t * d * f' := by rw [← hf', hw]
            have q4 : b * s * (d * w) + b * t * d * f' = d * (b * s * w + b * t * f') := by clear hb hw he hf' ff ee q1 q2 q3; grind
            exact q1.trans (q2.trans (q3.trans q4))
          exact ⟨_, key⟩
      rw [Nat.pow_succ]; omega
/-- no point is killed by 3 where the genus is 2 -/
theorem no_3 {p : Int} (hp : Pr p) {f : Pz p} (hcv : Cv f 2) {ad : Gq f 2 → Gq f 2 → Gq f 2} {z : Gq f 2} {ng : Gq f 2 → Gq f 2} (hG : GG f 2 ad z ng) {q : Int × Int} (hq : q ∈ ptl f p.toNat) (h : nsm ad z 3 (ptG z q) = z) : False := by
  have E := Euc_Pz hp
  have hon := ptl_on hp hq
  have hpp := hp.pos
  have c1 := InK_pw hp hcv hG (InK_pt hp hcv z hq) 3
  rw [h] at c1
  have c2 := @NF_pw (Pz p) (pring p) dg pmo E f hcv.2.2.2 _ _ (PI_nf hp hon) 3
  have hz0 : z.1.1 ≠ pC p 0 := by
    rw [hG.2.2.1]
    intro e
    have e2 := dg_zero.mpr e
    rw [dg_C (by rw [Int.emod_eq_of_lt (by omega) (by omega)]; omega)] at e2; omega
  obtain ⟨s, t, hs, ht, e, hn⟩ := @xfer (Pz p) (pring p) dg pmo E f 2 hcv.2.1 _ _ z.1.1 z.1.2 c2 hz0 c1
  have e1 : @II (Pz p) (pring p) f z.1.1 z.1.2 = fun _ : BB (Pz p) f => True := by
    rw [hG.2.2.1]; exact @II_all (Pz p) (pring p) f
  have hd1 : dg z.1.1 = 1 := by rw [hG.2.2.1]; exact dg_C (by rw [Int.emod_eq_of_lt (by omega) (by omega)]; omega)
  rw [e1] at e
  let one : BB (Pz p) f := (pC p 1, pC p 0)
  have m1 : @bsc (Pz p) (pring p) f t (fun _ => True) (pmB t one) := ⟨one, trivial, rfl⟩
  rw [← e] at m1
  obtain ⟨w, hw, ew⟩ := m1
  have eb : @bnm (Pz p) (pring p) f (pmB t one) = @bnm (Pz p) (pring p) f (pmB s w) := congrArg _ ew
  have b1 := @bnm_mul (Pz p) (pring p) f t one
  have b2 := @bnm_mul (Pz p) (pring p) f s w
  have one1 : @bnm (Pz p) (pring p) f one = pC p 1 := by
    have al : ∀ {R : Type} [Lean.Grind.CommRing R] (f : R), (1 : R) * 1 - 0 * 0 * f = 1 := by intros; grind
    exact @al (Pz p) (pring p) f
  have o1 : dg (@bnm (Pz p) (pring p) f one) = 1 := by rw [one1]; exact dg_C (by rw [Int.emod_eq_of_lt (by omega) (by omega)]; omega)
  have one0 : @bnm (Pz p) (pring p) f one ≠ pC p 0 := fun q => by have := dg_zero.mpr q; omega
  have g1 := @Euc.mul (Pz p) (pring p) dg pmo E _ _ ht one0
  have hw0 : @bnm (Pz p) (pring p) f w ≠ pC p 0 := fun q => by
    have hne := @Dom.ne (Pz p) (pring p) (@Euc.dom (Pz p) (pring p) dg pmo E) _ _ ht one0
    refine hne ?_
    have k : pmul (@bnm (Pz p) (pring p) f s) (@bnm (Pz p) (pring p) f w) = pC p 0 := by rw [q, pmul_comm, pC_zero_mul]
    exact (b1.symm.trans eb).trans (b2.trans k)
  have g2 := @Euc.mul (Pz p) (pring p) dg pmo E _ _ hs hw0
  have g3 : dg (pmul (@bnm (Pz p) (pring p) f t) (@bnm (Pz p) (pring p) f one)) = dg (pmul (@bnm (Pz p) (pring p) f s) (@bnm (Pz p) (pring p) f w)) := congrArg dg ((b1.symm.trans eb).trans b2)
  have g4 := @bnm_dg (Pz p) (pring p) dg pmo E f 2 hcv.2.1 w
  replace g1 : dg (pmul (@bnm (Pz p) (pring p) f t) (@bnm (Pz p) (pring p) f one)) + 1 = dg (@bnm (Pz p) (pring p) f t) + dg (@bnm (Pz p) (pring p) f one) := g1
  replace g2 : dg (pmul (@bnm (Pz p) (pring p) f s) (@bnm (Pz p) (pring p) f w)) + 1 = dg (@bnm (Pz p) (pring p) f s) + dg (@bnm (Pz p) (pring p) f w) := g2
  by_cases c : dg w.2 = 0
  · rw [if_pos c] at g4; omega
  · rw [if_neg c] at g4; omega
theorem kl_3 {p : Nat} (hp : Pr (p : Int)) {f : Pz (p : Int)} (hcv : Cv f 2) {ad : Gq f 2 → Gq f 2 → Gq f 2} {z : Gq f 2} {ng : Gq f 2 → Gq f 2} (hG : GG f 2 ad z ng) : klN ad z (cll f 2 z) 3 < 243 := by
  have hpp := hp.pos
  have A := hG.1
  obtain ⟨c1, c2⟩ := cll_is hp (g := 2) (f := f) (Or.inr rfl) z
  have hl := cll_len f 2 z
  have h450 := tkl_450 hp hcv
  rcases Nat.lt_or_ge (klN ad z (cll f 2 z) 3) 243 with q | q
  · exact q
  · exfalso
    obtain ⟨k1, k2⟩ := klN_is ad z c1 c2 3
    have all3 : ∀ x : Gq f 2, nsm ad z 3 x = z := fun x => by
      false_or_by_contra
      rename_i hx
      have hnd : (((cll f 2 z).filter (fun x => @decide (nsm ad z 3 x = z) (Classical.propDecidable _))) ++ ((cll f 2 z).filter (fun x => @decide (nsm ad z 3 x = z) (Classical.propDecidable _))).map (fun y => ad x y)).Nodup := by
        rw [List.nodup_append]
        refine ⟨k1, nodup_map (fun a _ b _ e => A.cl e) k1, fun a ha b hb e => ?_⟩
        obtain ⟨y, hy, rfl⟩ := List.mem_map.mp hb
        have h1 := (k2 a).mp ha
        have h2 := (k2 y).mp hy
        rw [e] at h1
        replace h1 : nsm ad z 3 (ad x y) = z := h1
        replace h2 : nsm ad z 3 y = z := h2
        rw [nsm_ad A, h2, A.az] at h1
        exact hx h1
      have := rel_le (fun a b : Gq f 2 => a = b) _ (cll f 2 z) hnd (fun a _ => ⟨a, c2 a, rfl⟩) (fun a b y _ _ e1 e2 => e1.trans e2.symm)
      rw [List.length_append, List.length_map] at this
      unfold klN at q
      omega
    have hpt : ptl f (p : Int).toNat = [] := by
      match h : ptl f (p : Int).toNat with
      | [] => rfl
      | x :: M => exact (no_3 hp hcv hG (q := x) (by rw [h]; simp) (all3 _)).elim
    rw [Int.toNat_natCast] at hpt
    have hlen := tkl_len hp (f := f) (g := 2)
    rw [if_pos rfl, hpt] at hlen
    have hq := quad_len hp hcv
    rw [hpt] at hq
    have hn2 := nn2_T f
    have hT2 : ∀ a, a < p → isum (Tc p f a) p ≤ p * 2 := fun a ha => isum_le (B := 2) p (fun b hb => Tc_le hp f ha hb)
    have b2 : nn2 f ≤ p * (p * 2) := by rw [hn2]; exact isum_le p hT2
    have hk := klN_le ad z (cll f 2 z) 3
    have e0 : ((([] : List (Int × Int)).length : Nat) : Int) = 0 := rfl
    rw [e0] at hq hlen
    have hm := hp.mem
    simp only [List.mem_cons, List.not_mem_nil, or_false] at hm
    rcases hm with rfl | rfl | rfl | rfl | rfl <;> omega
theorem kl_2 {p : Nat} (hp : Pr (p : Int)) {f : Pz (p : Int)} (hcv : Cv f 2) {ad : Gq f 2 → Gq f 2 → Gq f 2} {z : Gq f 2} {ng : Gq f 2 → Gq f 2} (hG : GG f 2 ad z ng) : klN ad z (cll f 2 z) 2 < 32 := by
  have hpp := hp.pos
  have A := hG.1
  have E := Euc_Pz hp
  obtain ⟨c1, c2⟩ := cll_is hp (g := 2) (f := f) (Or.inr rfl) z
  obtain ⟨k1, k2⟩ := klN_is ad z c1 c2 2
  have hf0 : f ≠ pC (p : Int) 0 := fun e => by
    have := dg_zero.mpr e
    have := hcv.2.1; omega
  -- v is nought, u a part of f
  have hv : ∀ x : Gq f 2, nsm ad z 2 x = z → x.1.2 = pC p 0 ∧ ∃ w, f = pmul x.1.1 w := fun x hx => by
    have h1 : ad x x = z := by
      have e : nsm ad z 2 x = ad (ad z x) x := rfl
      rw [e, A.2.2.1] at hx; exact hx
    have h2 : x = ng x := A.cl (a := x) (by rw [h1, A.an])
    have h3 : x.1.2 = pneg x.1.2 := by
      have := congrArg (fun y : Gq f 2 => y.1.2) h2
      replace this : x.1.2 = (ng x).1.2 := this
      rw [hG.2.2.2] at this; exact this
    have h4 : x.1.2 = pC p 0 := Pz.ext fun k => by
      have e := congrArg (fun a : Pz (p : Int) => a.1 k) h3
      replace e : x.1.2.1 k = (-x.1.2.1 k) % p := e
      have r := cf_rg hp x.1.2 k
      rw [pC_c]
      have : (if k = 0 then (0 : Int) else 0) = 0 := by split <;> rfl
      rw [this, Int.zero_emod]
      obtain ⟨m, hm⟩ := em_iff.mp ((Int.emod_eq_of_lt r.1 r.2).trans e)
      have hm2 := hp.mem
      simp only [List.mem_cons, List.not_mem_nil, or_false] at hm2
      rcases hm2 with rfl | rfl | rfl | rfl | rfl <;> omega
    refine ⟨h4, ?_⟩
    obtain ⟨w, hw⟩ := x.2.2.2.2
    rw [h4] at hw
    replace hw : padd (pmul (pC (p : Int) 0) (pC p 0)) (pneg f) = pmul x.1.1 w := hw
    rw [pC_zero_mul, padd_comm, pC_zero_add] at hw
    refine ⟨pneg w, ?_⟩
    rw [pmul_comm, pneg_mul, pmul_comm, ← hw]
    exact Pz.ext fun k => by
      rw [pneg_c, pneg_c]
      have := md_neg (p := (p : Int)) (md_md (-f.1 k) p)
      rw [this, Int.neg_neg, f.2.1]
  have hx0 : ∀ x : Gq f 2, x.1.1 ≠ pC p 0 := fun x => E.2.2.2.2.2.2.2.2.2.2 x.1.1 x.2.1
  let M := (cll f 2 z).filter (fun x => @decide (nsm ad z 2 x = z) (Classical.propDecidable _))
  let U : List (Pz (p : Int)) := M.map (fun x => x.1.1)
  let φ : Pz (p : Int) → Pz (p : Int) := fun u => @dite _ (∃ w, f = pmul u w) (Classical.propDecidable _) (fun h => h.choose) (fun _ => pC p 0)
  have hUx : ∀ u ∈ U, pmo u ∧ dg u ≤ 3 ∧ f = pmul u (φ u) := fun u hu => by
    obtain ⟨x, hx, rfl⟩ := List.mem_map.mp hu
    have hw := (hv x ((k2 x).mp hx)).2
    have e : φ x.1.1 = hw.choose := dif_pos hw
    exact ⟨x.2.1, x.2.2.1, by rw [e]; exact hw.choose_spec⟩
  have hUn : U.Nodup := nodup_map (fun a ha b hb e => by
    refine Subtype.ext (Prod.ext e ?_)
    rw [(hv a ((k2 a).mp ha)).1, (hv b ((k2 b).mp hb)).1]) k1
  have hφ : ∀ u ∈ U, pmo (φ u) ∧ 4 ≤ dg (φ u) := fun u hu => by
    obtain ⟨h1, h2, h3⟩ := hUx u hu
    have hw0 : dg (φ u) ≠ 0 := fun e => hf0 (by rw [h3, dg_zero.mp e, pmul_comm, pC_zero_mul])
    have hm := dg_mul hp u (φ u) h1.1 hw0
    rw [← h3, hcv.2.1] at hm
    exact ⟨pmo_quo hp h1 hw0 (by rw [← h3]; exact hcv.2.2.1), by omega⟩
  have hall : (U ++ U.map φ).Nodup := by
    rw [List.nodup_append]
    refine ⟨hUn, nodup_map (fun a ha b hb e => ?_) hUn, fun a ha b hb e => ?_⟩
    · have ha3 := (hUx a ha).2.2
      have hb3 := (hUx b hb).2.2
      have hw := (hφ b hb).2
      have e2 : pmul (φ b) a = pmul (φ b) b := by
        rw [pmul_comm (φ b) b, ← hb3, pmul_comm, ← e, ← ha3]
      exact @Dom.cancel (Pz (p : Int)) (pring p) (@Euc.dom (Pz (p : Int)) (pring p) dg pmo E) (φ b) a b (fun q => by have := dg_zero.mpr q; omega) e2
    · obtain ⟨u, hu, rfl⟩ := List.mem_map.mp hb
      have h1 := (hUx a ha).2.1
      have h2 := (hφ u hu).2
      rw [e] at h1; omega
  have := @divs_le (Pz (p : Int)) (pring p) dg pmo E (fun a b ha hb hab => pmo_quo hp ha (fun e => hb (dg_zero.mp e)) hab) 5 f hf0 (by have := hcv.2.1; omega) _ hall (fun d hd => by
    rcases List.mem_append.mp hd with h | h
    · exact ⟨(hUx d h).1, φ d, (hUx d h).2.2⟩
    · obtain ⟨u, hu, rfl⟩ := List.mem_map.mp h
      refine ⟨(hφ u hu).1, u, ?_⟩
      show f = pmul (φ u) u
      rw [pmul_comm]; exact (hUx u hu).2.2)
  have l2 : (U.map φ).length = U.length := List.length_map ..
  rw [List.length_append, l2] at this
  have hlU : U.length = klN ad z (cll f 2 z) 2 := List.length_map ..
  rw [hlU] at this
  have e32 : (2 : Nat) ^ 5 = 32 := rfl
  omega
theorem mhP_nat {p : Nat} (hp : Pr (p : Int)) {f : Pz (p : Int)} {g : Nat} (hcv : Cv f g) : mhP f g := by
  have hpp := hp.pos
  have h450 := tkl_450 hp hcv
  refine ⟨hcl_len hp hcv, h450, fun ad z ng hG q hq => ?_⟩
  have hk := klN_le ad z (cll f g z) q
  rw [cll_len] at hk
  have hq2 := hq.1
  rcases hcv.1 with rfl | rfl
  · have hlen := tkl_len hp (f := f) (g := 1)
    rw [if_neg (by omega)] at hlen
    have hpl := ptl_le hp f p
    have h5 := Nat.pow_le_pow_left hq2 5
    have e32 : (2 : Nat) ^ 5 = 32 := rfl
    omega
  · by_cases q2 : q = 2
    · subst q2
      have := kl_2 hp hcv hG
      have e32 : (2 : Nat) ^ 5 = 32 := rfl
      omega
    · by_cases q3 : q = 3
      · subst q3
        have := kl_3 hp hcv hG
        have e : (3 : Nat) ^ 5 = 243 := rfl
        omega
      · have h5 := Nat.pow_le_pow_left (show 4 ≤ q by omega) 5
        have e : (4 : Nat) ^ 5 = 1024 := rfl
        omega
theorem mhP_is {p : Int} (hp : Pr p) {f : Pz p} {g : Nat} (hcv : Cv f g) : mhP f g := by
  obtain ⟨n, rfl, -⟩ := hp.nat
  exact mhP_nat hp hcv
