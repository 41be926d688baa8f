/-! ROOMS: the ideal of all that is asked, its class, its degree; the width -/
abbrev PI {p : Int} (f : Pz p) (q : Int × Int) : BB (Pz p) f → Prop := @II (Pz p) (pring p) f (pcl p q).1 (pcl p q).2
def OnC {p : Int} (f : Pz p) (q : Int × Int) : Prop := 0 ≤ q.1 ∧ q.1 < p ∧ 0 ≤ q.2 ∧ q.2 < p ∧ q.2 * q.2 % p = pev f q.1
theorem PI_dv {p : Int} (hp : Pr p) {f : Pz p} {q : Int × Int} (h : OnC f q) : @Dv (Pz p) (pring p) (pcl p q).1 (padd (pmul (pcl p q).2 (pcl p q).2) (pneg f)) := (pcl_red hp (g := 1) (by omega) h.2.2.2.2).2.2.2
theorem PI_is {p : Int} (hp : Pr p) {f : Pz p} {q : Int × Int} (h : OnC f q) : @bis (Pz p) (pring p) f (PI f q) := @II_is (Pz p) (pring p) f _ _ (PI_dv hp h)
theorem inv_d {p : Int} (hp : Pr p) {a b : Int} (ha : 0 ≤ a ∧ a < p) (hb : 0 ≤ b ∧ b < p) (h : a ≠ b) : ∃ k, (k * (b - a)) % p = 1 % p := by
  have hpp := hp.pos
  have hm : (b - a) % p ≠ 0 := fun e => by
    have := md_add (p := p) (a := b - a) (a' := 0) (b := a) (b' := a) (by rw [e, Int.zero_emod]) rfl
    rw [Int.sub_add_cancel, Int.zero_add, Int.emod_eq_of_lt ha.1 ha.2, Int.emod_eq_of_lt hb.1 hb.2] at this
    exact h this.symm
  have h0 := Int.emod_nonneg (b - a) (b := p) (by omega)
  obtain ⟨k, -, -, hk⟩ := hp.inv (x := (b - a) % p) (by omega) (Int.emod_lt_of_pos _ (by omega))
  refine ⟨k, ?_⟩
  rw [Int.mul_comm, md_mul (md_md (b - a) p).symm rfl, hk]
  exact (Int.emod_eq_of_lt (by omega) (by omega)).symm
theorem pC_eq {p : Int} {c d : Int} (h : c % p = d % p) : pC p c = pC p d := Pz.ext fun j => by
  rw [pC_c, pC_c]; split
  · exact h
  · rfl
theorem pcl_df {p : Int} (hp : Pr p) (q r : Int × Int) : padd (pcl p q).1 (pneg (pcl p r).1) = pC p (r.1 - q.1) := Pz.ext fun j => by
  rw [psub_c, pcl_u hp, pcl_u hp, pC_c]
  by_cases e : j = 0
  · rw [if_pos e, if_pos e, if_pos e, md_sub (md_md _ _) (md_md _ _)]; congr 1; omega
  · rw [if_neg e, if_neg e, if_neg e]
    split <;> rfl
theorem cm_1 {R : Type} [Lean.Grind.CommRing R] (k T T' : R) : k * T + -(k * T') = k * (T + -T') := by grind
theorem cm_2 {R : Type} [Lean.Grind.CommRing R] (k y y' : R) : -(k * y) + k * y' = k * (y' + -y) := by grind
theorem cm_3 {R : Type} [Lean.Grind.CommRing R] (k : R) : k + -k = 0 := by grind
theorem cm_4 {R : Type} [Lean.Grind.CommRing R] {T k v : R} : Dv T (k * T + 0 * v) ∧ Dv T (-(k * T) + 0 * v) ∧ Dv T (-(k * v) + k * v) ∧ Dv T (k * v + -k * v) := ⟨⟨k, by grind⟩, ⟨-k, by grind⟩, ⟨0, by grind⟩, ⟨0, by grind⟩⟩
theorem PI_cmx {p : Int} (hp : Pr p) {f : Pz p} {q r : Int × Int} (hq : OnC f q) (hr : OnC f r) (hn : q ≠ r) : @Cmx (BB (Pz p) f) (@bring (Pz p) (pring p) f) (PI f q) (PI f r) := by
  by_cases e : q.1 = r.1
  · have e2 : q.2 ≠ r.2 := fun e2 => hn (Prod.ext e e2)
    obtain ⟨k, hk⟩ := inv_d hp ⟨hq.2.2.1, hq.2.2.2.1⟩ ⟨hr.2.2.1, hr.2.2.2.1⟩ e2
    refine ⟨(pneg (pmul (pC p k) (pC p q.2)), pC p k), (pmul (pC p k) (pC p r.2), pneg (pC p k)), ?_, ?_, BB.ext ?_ ?_⟩
    · exact (@cm_4 (Pz p) (pring p) (pcl p q).1 (pC p k) (pC p q.2)).2.2.1
    · exact (@cm_4 (Pz p) (pring p) (pcl p r).1 (pC p k) (pC p r.2)).2.2.2
    · refine (@cm_2 (Pz p) (pring p) (pC p k) (pC p q.2) (pC p r.2)).trans ?_
      show pmul (pC p k) (padd (pC p r.2) (pneg (pC p q.2))) = pC p 1
      rw [← pC_neg, ← pC_add, pC_pC]
      exact pC_eq (by rw [← hk]; congr 1)
    · exact @cm_3 (Pz p) (pring p) (pC p k)
  · obtain ⟨k, hk⟩ := inv_d hp ⟨hq.1, hq.2.1⟩ ⟨hr.1, hr.2.1⟩ e
    refine ⟨(pmul (pC p k) (pcl p q).1, pC p 0), (pneg (pmul (pC p k) (pcl p r).1), pC p 0), ?_, ?_, BB.ext ?_ (pC_zero_add _)⟩
    · exact (@cm_4 (Pz p) (pring p) (pcl p q).1 (pC p k) (pcl p q).2).1
    · exact (@cm_4 (Pz p) (pring p) (pcl p r).1 (pC p k) (pcl p r).2).2.1
    · refine (@cm_1 (Pz p) (pring p) (pC p k) (pcl p q).1 (pcl p r).1).trans ?_
      show pmul (pC p k) (padd (pcl p q).1 (pneg (pcl p r).1)) = pC p 1
      rw [pcl_df hp, pC_pC]
      exact pC_eq hk
theorem PI_nf {p : Int} (hp : Pr p) {f : Pz p} {q : Int × Int} (h : OnC f q) : @NF (Pz p) (pring p) dg f (PI f q) 1 := by
  have := @NF_ii (Pz p) (pring p) dg pmo (Euc_Pz hp) f (pcl p q).1 (pcl p q).2 (fun e => by
    have e2 := dg_zero.mpr e
    rw [pcl_dg hp] at e2; omega) (PI_dv hp h)
  rw [pcl_dg hp] at this; exact this
/-- an ideal in a class -/
def InK {p : Int} {f : Pz p} {g : Nat} (P : BB (Pz p) f → Prop) (a : Gq f g) : Prop := @beq (Pz p) (pring p) f P (@II (Pz p) (pring p) f a.1.1 a.1.2)
theorem bdomP {p : Int} (hp : Pr p) {f : Pz p} {g : Nat} (hcv : Cv f g) : @Dom (BB (Pz p) f) (@bring (Pz p) (pring p) f) := @bdom (Pz p) (pring p) dg pmo (Euc_Pz hp) f g hcv.2.1
theorem InK_mul {p : Int} (hp : Pr p) {f : Pz p} {g : Nat} (hcv : Cv f g) {ad : Gq f g → Gq f g → Gq f g} {z : Gq f g} {ng : Gq f g → Gq f g} (hG : GG f g ad z ng) {P Q : BB (Pz p) f → Prop} {a b : Gq f g} (h1 : InK P a) (h2 : InK Q b) : InK (@bim (Pz p) (pring p) f P Q) (ad a b) := by
  have hB := bdomP hp hcv
  have h3 := @eqv_mul (BB (Pz p) f) (@bring (Pz p) (pring p) f) hB _ _ _ _ h1 h2
  have h4 : pSum f a.1 b.1 (ad a b).1 := (hG.2.1 a b (ad a b)).mpr rfl
  exact @eqv_tr (BB (Pz p) f) (@bring (Pz p) (pring p) f) hB _ _ _ h3 h4
theorem InK_all {p : Int} (hp : Pr p) {f : Pz p} {g : Nat} (hcv : Cv f g) {ad : Gq f g → Gq f g → Gq f g} {z : Gq f g} {ng : Gq f g → Gq f g} (hG : GG f g ad z ng) : InK (fun _ : BB (Pz p) f => True) z := by
  have hB := bdomP hp hcv
  unfold InK
  rw [hG.2.2.1]
  have e : @II (Pz p) (pring p) f (pC p 1) (pC p 0) = fun _ : BB (Pz p) f => True := @II_all (Pz p) (pring p) f
  show @beq (Pz p) (pring p) f _ (@II (Pz p) (pring p) f (pC p 1) (pC p 0))
  rw [e]; exact @eqv_rf (BB (Pz p) f) (@bring (Pz p) (pring p) f) hB _
theorem InK_pw {p : Int} (hp : Pr p) {f : Pz p} {g : Nat} (hcv : Cv f g) {ad : Gq f g → Gq f g → Gq f g} {z : Gq f g} {ng : Gq f g → Gq f g} (hG : GG f g ad z ng) {P : BB (Pz p) f → Prop} {a : Gq f g} (h : InK P a) : ∀ n, InK (@bpw (Pz p) (pring p) f P n) (nsm ad z n a)
  | 0 => InK_all hp hcv hG
  | n + 1 => by
    have := InK_mul hp hcv hG h (InK_pw hp hcv hG h n)
    show InK _ (ad (nsm ad z n a) a)
    rw [hG.1.2.1]; exact this
theorem InK_pt {p : Int} (hp : Pr p) {f : Pz p} {g : Nat} (hcv : Cv f g) (z : Gq f g) {q : Int × Int} (hq : q ∈ ptl f p.toNat) : InK (PI f q) (ptG z q) := by
  have hB := bdomP hp hcv
  unfold InK
  rw [ptG_is hp (by have := hcv.1; omega) z hq]
  exact @eqv_rf (BB (Pz p) f) (@bring (Pz p) (pring p) f) hB _
/-- what is asked at the points, all together -/
noncomputable def FI {p : Int} (f : Pz p) (nd : Nat → Nat) (i : Nat) : BB (Pz p) f → Prop := match (ptl f p.toNat)[i]? with
  | none => fun _ => True
  | some q => @bpw (Pz p) (pring p) f (PI f q) (nd i)
noncomputable def clS {p : Int} {f : Pz p} {g : Nat} (ad : Gq f g → Gq f g → Gq f g) (z : Gq f g) (nd : Nat → Nat) : Nat → Gq f g
  | 0 => z
  | n + 1 => match (ptl f p.toNat)[n]? with
    | none => clS ad z nd n
    | some q => ad (clS ad z nd n) (nsm ad z (nd n) (ptG z q))
theorem ptl_on {p : Int} (hp : Pr p) {f : Pz p} {q : Int × Int} (hq : q ∈ ptl f p.toNat) : OnC f q := ptl_rg hp f p.toNat (by have := hp.pos; omega) q hq
theorem J_all {p : Int} (hp : Pr p) {f : Pz p} {g : Nat} (hcv : Cv f g) {ad : Gq f g → Gq f g → Gq f g} {z : Gq f g} {ng : Gq f g → Gq f g} (hG : GG f g ad z ng) (nd : Nat → Nat) : ∀ n, n ≤ (ptl f p.toNat).length → InK (@ipN (BB (Pz p) f) (@bring (Pz p) (pring p) f) (FI f nd) n) (clS ad z nd n) ∧ @NF (Pz p) (pring p) dg f (@ipN (BB (Pz p) f) (@bring (Pz p) (pring p) f) (FI f nd) n) (nsum nd n)
  | 0, _ => ⟨InK_all hp hcv hG, @NF_all (Pz p) (pring p) dg pmo (Euc_Pz hp) f⟩
  | n + 1, h => by
    obtain ⟨a, b⟩ := J_all hp hcv hG nd n (by omega)
    have hq : (ptl f p.toNat)[n]? = some ((ptl f p.toNat)[n]'(by omega)) := List.getElem?_eq_getElem (by omega)
    have hm : (ptl f p.toNat)[n]'(by omega) ∈ ptl f p.toNat := List.getElem_mem _
    generalize (ptl f p.toNat)[n]'(by omega) = q at hq hm
    have eF : FI f nd n = @bpw (Pz p) (pring p) f (PI f q) (nd n) := by unfold FI; rw [hq]
    have eC : clS ad z nd (n + 1) = ad (clS ad z nd n) (nsm ad z (nd n) (ptG z q)) := by
      show (match (ptl f p.toNat)[n]? with
        | none => clS ad z nd n
        | some q => ad (clS ad z nd n) (nsm ad z (nd n) (ptG z q))) = _
      rw [hq]
    have c1 := InK_pw hp hcv hG (InK_pt hp hcv z hm) (nd n)
    have c2 := @NF_pw (Pz p) (pring p) dg pmo (Euc_Pz hp) f hcv.2.2.2 _ _ (PI_nf hp (ptl_on hp hm)) (nd n)
    rw [Nat.mul_one] at c2
    show InK (@imul (BB (Pz p) f) (@bring (Pz p) (pring p) f) (@ipN (BB (Pz p) f) (@bring (Pz p) (pring p) f) (FI f nd) n) (FI f nd n)) _ ∧ @NF (Pz p) (pring p) dg f (@imul (BB (Pz p) f) (@bring (Pz p) (pring p) f) (@ipN (BB (Pz p) f) (@bring (Pz p) (pring p) f) (FI f nd) n) (FI f nd n)) _
    rw [eF, eC]
    exact ⟨InK_mul hp hcv hG a c1, @NF_mul (Pz p) (pring p) dg pmo (Euc_Pz hp) f hcv.2.2.2 _ _ _ _ b c2⟩
theorem J_mem {p : Int} (hp : Pr p) {f : Pz p} {nd : Nat → Nat} (w : BB (Pz p) f) : @ipN (BB (Pz p) f) (@bring (Pz p) (pring p) f) (FI f nd) (ptl f p.toNat).length w ↔ ∀ i q, (ptl f p.toNat)[i]? = some q → @bpw (Pz p) (pring p) f (PI f q) (nd i) w := by
  have hI : ∀ i, i < (ptl f p.toNat).length → @IsI (BB (Pz p) f) (@bring (Pz p) (pring p) f) (FI f nd i) := fun i hi => by
    unfold FI
    rw [List.getElem?_eq_getElem hi]
    exact @ipw_is (BB (Pz p) f) (@bring (Pz p) (pring p) f) _ _
  refine (@ipN_cap (BB (Pz p) f) (@bring (Pz p) (pring p) f) (FI f nd) w (ptl f p.toNat).length hI (fun i j hij hj => ?_)).trans ⟨fun h i q hq => ?_, fun h i hi => ?_⟩
  · unfold FI
    rw [List.getElem?_eq_getElem hj, List.getElem?_eq_getElem (show i < (ptl f p.toNat).length by omega)]
    have hnd := ptl_nd f p.toNat
    have hne : (ptl f p.toNat)[j] ≠ (ptl f p.toNat)[i]'(by omega) := fun e => by
      have := (List.getElem_inj hnd).mp e; omega
    exact @Cmx.pw2 (BB (Pz p) f) (@bring (Pz p) (pring p) f) _ _ (PI_is hp (ptl_on hp (List.getElem_mem _))) (PI_cmx hp (ptl_on hp (List.getElem_mem _)) (ptl_on hp (List.getElem_mem _)) hne) _ _
  · have hl : i < (ptl f p.toNat).length := by
      rcases Nat.lt_or_ge i (ptl f p.toNat).length with q1 | q1
      · exact q1
      · rw [List.getElem?_eq_none q1] at hq; cases hq
    have := h i hl
    unfold FI at this
    rw [hq] at this; exact this
  · have hq : (ptl f p.toNat)[i]? = some ((ptl f p.toNat)[i]) := List.getElem?_eq_getElem hi
    have := h i _ hq
    unfold FI
    rw [hq]; exact this
/-! in the group: what is lifted is nought -/
theorem Grp.ngz {G : Type} {ad : G → G → G} {z : G} {ng : G → G} (A : Grp G ad z ng) : ng z = z := by
  have := A.2.2.2 z
  rw [A.az] at this; exact this
theorem Grp.ngad {G : Type} {ad : G → G → G} {z : G} {ng : G → G} (A : Grp G ad z ng) (a b : G) : ng (ad a b) = ad (ng a) (ng b) := by
  apply A.cr (a := ad a b)
  rw [A.2.2.2, A.sw, A.2.2.2, A.2.2.2, A.az]
theorem Grp.ngng {G : Type} {ad : G → G → G} {z : G} {ng : G → G} (A : Grp G ad z ng) (a : G) : ng (ng a) = a := by
  apply A.cr (a := ng a)
  rw [A.2.2.2, A.an]
theorem nsm_bs {G : Type} {ad : G → G → G} {z : G} {ng : G → G} (A : Grp G ad z ng) (x s : G) : ∀ k, nsm ad x k s = ad x (nsm ad z k s)
  | 0 => (A.az x).symm
  | k + 1 => by
    show ad (nsm ad x k s) s = ad x (ad (nsm ad z k s) s)
    rw [nsm_bs A x s k, A.1]
/-- whole multiples, also below nought -/
def zsm {G : Type} (ad : G → G → G) (z : G) (ng : G → G) (k : Int) (P : G) : G := nsm ad z k.natAbs (if k < 0 then ng P else P)
theorem zsm_dif {G : Type} {ad : G → G → G} {z : G} {ng : G → G} (A : Grp G ad z ng) (P : G) {n l : Nat} {B : Int} (h : (n : Int) = (l : Int) - B) : nsm ad z n P = ad (nsm ad z l P) (ng (zsm ad z ng B P)) := by
  unfold zsm
  by_cases q : B < 0
  · rw [if_pos q, nsm_ng A, A.ngng, ← nsm_add A]
    congr 1; omega
  · rw [if_neg q]
    have e : l = n + B.natAbs := by omega
    rw [e, nsm_add A, A.1, A.an, A.az]
theorem zsm_neg {G : Type} {ad : G → G → G} {z : G} {ng : G → G} (A : Grp G ad z ng) (P : G) (B : Int) : zsm ad z ng (-B) P = ng (zsm ad z ng B P) := by
  unfold zsm
  rw [Int.natAbs_neg]
  by_cases q : B = 0
  · subst q
    show z = ng z
    rw [A.ngz]
  · by_cases q2 : B < 0
    · rw [if_neg (by omega), if_pos q2, nsm_ng A, A.ngng]
    · rw [if_pos (by omega), if_neg q2, nsm_ng A]
theorem amS_s {p : Int} {f : Pz p} {g : Nat} {ad : Gq f g → Gq f g → Gq f g} {z : Gq f g} {ng : Gq f g → Gq f g} (A : Grp _ ad z ng) (B : Nat → Int) (n : Nat) {q : Int × Int} (hq : (ptl f p.toNat)[n]? = some q) : amS ad z ng B (n + 1) = ad (amS ad z ng B n) (zsm ad z ng (B (n + 1)) (ptG z q)) := by
  have e : amS ad z ng B (n + 1) = nsm ad (amS ad z ng B n) (B (n + 1)).natAbs (if B (n + 1) < 0 then ng (ptG z q) else ptG z q) := by
    show (match (ptl f p.toNat)[n]? with
      | none => amS ad z ng B n
      | some q => nsm ad (amS ad z ng B n) (B (n + 1)).natAbs (if B (n + 1) < 0 then ng (ptG z q) else ptG z q)) = _
    rw [hq]
  rw [e, nsm_bs A]; rfl
theorem amS_neg {p : Int} {f : Pz p} {g : Nat} {ad : Gq f g → Gq f g → Gq f g} {z : Gq f g} {ng : Gq f g → Gq f g} (A : Grp _ ad z ng) (B B' : Nat → Int) (h : ∀ i, i ≠ 0 → B' i = -B i) : ∀ n, n ≤ (ptl f p.toNat).length → amS ad z ng B' n = ng (amS ad z ng B n)
  | 0, _ => A.ngz.symm
  | n + 1, hn => by
    have hq : (ptl f p.toNat)[n]? = some ((ptl f p.toNat)[n]'(by omega)) := List.getElem?_eq_getElem (by omega)
    rw [amS_s A B n hq, amS_s A B' n hq, amS_neg A B B' h n (by omega), h (n + 1) (by omega), zsm_neg A, A.ngad]
def lq (lf : Nat → Nat) (q : Int × Int) : Nat := if q.2 = 0 then 2 * lf q.1.toNat else lf q.1.toNat
theorem gsum_app {G : Type} {ad : G → G → G} {z : G} {ng : G → G} (A : Grp G ad z ng) (M : List G) : ∀ L : List G, gsum ad z (L ++ M) = ad (gsum ad z L) (gsum ad z M)
  | [] => (A.2.2.1 _).symm
  | x :: L => by
    show ad x (gsum ad z (L ++ M)) = ad (ad x (gsum ad z L)) (gsum ad z M)
    rw [gsum_app A M L, A.1]
theorem clS_li {p : Int} {f : Pz p} {g : Nat} {ad : Gq f g → Gq f g → Gq f g} {z : Gq f g} {ng : Gq f g → Gq f g} (A : Grp _ ad z ng) {B : Nat → Int} {lf nd : Nat → Nat} (h : ∀ i q, (ptl f p.toNat)[i]? = some q → (nd i : Int) = (lq lf q : Int) - B (i + 1)) : ∀ n, n ≤ (ptl f p.toNat).length → clS ad z nd n = ad (gsum ad z (((ptl f p.toNat).take n).map (fun q => nsm ad z (lq lf q) (ptG z q)))) (ng (amS ad z ng B n)) ∧ (nsum nd n : Int) = gsum (fun a b : Int => a + b) 0 (((ptl f p.toNat).take n).map (fun q => (lq lf q : Int))) - isum (fun i => B (i + 1)) n
  | 0, _ => ⟨by show z = ad z (ng z); rw [A.ngz, A.az], rfl⟩
  | n + 1, hn => by
    have hq : (ptl f p.toNat)[n]? = some ((ptl f p.toNat)[n]'(by omega)) := List.getElem?_eq_getElem (by omega)
    have ht : (ptl f p.toNat).take (n + 1) = (ptl f p.toNat).take n ++ [(ptl f p.toNat)[n]'(by omega)] := List.take_succ_eq_append_getElem (by omega)
    generalize (ptl f p.toNat)[n]'(by omega) = q at hq ht
    obtain ⟨a, b⟩ := clS_li A h n (by omega)
    have eC : clS ad z nd (n + 1) = ad (clS ad z nd n) (nsm ad z (nd n) (ptG z q)) := by
      show (match (ptl f p.toNat)[n]? with
        | none => clS ad z nd n
        | some q => ad (clS ad z nd n) (nsm ad z (nd n) (ptG z q))) = _
      rw [hq]
    have hn2 := h n q hq
    have AI : Grp Int (fun a b : Int => a + b) 0 (fun a => -a) := ⟨fun a b c => Int.add_assoc a b c, fun a b => Int.add_comm a b, fun a => Int.zero_add a, fun a => Int.add_left_neg a⟩
    refine ⟨?_, ?_⟩
    · rw [eC, a, zsm_dif A _ hn2, amS_s A B n hq, ht, List.map_append, gsum_app A, A.ngad, A.sw]
      congr 1
      show ad _ _ = ad _ (ad _ z)
      rw [A.az]
    · rw [ht, List.map_append, gsum_app AI]
      show ((nsum nd n + nd n : Nat) : Int) = (gsum (fun a b : Int => a + b) 0 (((ptl f p.toNat).take n).map (fun q => (lq lf q : Int))) + ((lq lf q : Int) + 0)) - (isum (fun i => B (i + 1)) n + B (n + 1))
      omega
def rYs (p s : Nat) : Bool := match rowY (p : Int) (s : Int) p with
  | [] => true
  | [y] => y == 0
  | [y, y'] => y + y' == p && y != 0 && y' != 0
  | _ => false
theorem rYs_all : ([3, 5, 7, 11, 13] : List Nat).all (fun p => (List.range p).all (fun s => rYs p s)) = true := by decide +kernel
theorem rowY_sh {p s : Int} (hp : Pr p) (h0 : 0 ≤ s) (h1 : s < p) : rowY p s p.toNat = [] ∨ rowY p s p.toNat = [0] ∨ ∃ y y' : Nat, rowY p s p.toNat = [y, y'] ∧ (y : Int) + y' = p ∧ y ≠ 0 ∧ y' ≠ 0 := by
  obtain ⟨n, rfl, hn⟩ := hp.nat
  have := List.all_eq_true.mp (List.all_eq_true.mp rYs_all n hn) s.toNat (List.mem_range.mpr (by omega))
  unfold rYs at this
  rw [Int.toNat_of_nonneg h0] at this
  rw [Int.toNat_natCast]
  split at this
  · rename_i e; exact Or.inl e
  · rename_i y e
    have : y = 0 := by simpa using this
    subst this
    exact Or.inr (Or.inl e)
  · rename_i y y' e
    simp at this
    exact Or.inr (Or.inr ⟨y, y', e, by omega, this.1.2, this.2⟩)
  · cases this
theorem row_sum {p : Int} (hp : Pr p) {f : Pz p} {G : Type} {ad : G → G → G} {z : G} {ng : G → G} (A : Grp G ad z ng) (φ : Int × Int → G) (c : Nat → G) (h : ∀ x : Nat, (x : Int) < p → gsum ad z ((rowP p (pev f x) x p.toNat).map φ) = c x) : ∀ n : Nat, (n : Int) ≤ p → gsum ad z ((ptl f n).map φ) = gsum ad z ((List.range n).map c)
  | 0, _ => rfl
  | n + 1, hn => by
    rw [ptl_s, List.map_append, gsum_app A, row_sum hp A φ c h n (by omega), h n (by omega), List.range_succ, List.map_append, gsum_app A]
    congr 1
    show c n = ad (c n) z
    rw [A.az]
theorem lift_0 {p : Int} (hp : Pr p) {f : Pz p} {g : Nat} (hcv : Cv f g) {ad : Gq f g → Gq f g → Gq f g} {z : Gq f g} {ng : Gq f g → Gq f g} (hG : GG f g ad z ng) {lf : Nat → Nat} (hl : ∀ x : Nat, (x : Int) < p → rowP p (pev f x) x p.toNat = [] → lf x = 0) :
    gsum ad z ((ptl f p.toNat).map (fun q => nsm ad z (lq lf q) (ptG z q))) = z ∧ gsum (fun a b : Int => a + b) 0 ((ptl f p.toNat).map (fun q => (lq lf q : Int))) = gsum (fun a b : Int => a + b) 0 ((List.range p.toNat).map (fun x => 2 * (lf x : Int))) := by
  have hpp := hp.pos
  have A := hG.1
  have AI : Grp Int (fun a b : Int => a + b) 0 (fun a => -a) := ⟨fun a b c => Int.add_assoc a b c, fun a b => Int.add_comm a b, fun a => Int.zero_add a, fun a => Int.add_left_neg a⟩
  have ptN : ∀ x y y' : Int, ((x, y) : Int × Int) ∈ ptl f p.toNat → ((x, y') : Int × Int) ∈ ptl f p.toNat → (y + y') % p = 0 → ptG z (x, y') = ng (ptG z (x, y)) := fun x y y' h1 h2 h3 => by
    refine Subtype.ext ?_
    rw [hG.2.2.2, ptG_is hp (by have := hcv.1; omega) z h1, ptG_is hp (by have := hcv.1; omega) z h2]
    refine Prod.ext rfl ?_
    show pC p y' = pneg (pC p y)
    rw [← pC_neg]
    refine pC_eq ?_
    have := md_add (p := p) (a := y + y') (a' := 0) (b := -y) (b' := -y) (by rw [h3, Int.zero_emod]) rfl
    rw [show y + y' + -y = y' by omega, Int.zero_add] at this
    exact this
  have inn : ∀ (x : Nat) (q : Int × Int), (x : Int) < p → q ∈ rowP p (pev f x) x p.toNat → q ∈ ptl f p.toNat := fun x q hx hq => by
    unfold ptl
    exact List.mem_flatMap.mpr ⟨x, List.mem_range.mpr (by omega), hq⟩
  have key : ∀ x : Nat, (x : Int) < p → gsum ad z ((rowP p (pev f x) x p.toNat).map (fun q => nsm ad z (lq lf q) (ptG z q))) = z ∧ gsum (fun a b : Int => a + b) 0 ((rowP p (pev f x) x p.toNat).map (fun q => (lq lf q : Int))) = 2 * (lf x : Int) := fun x hx => by
    have hr := pev_rg hp f x
    rcases rowY_sh hp hr.1 hr.2 with e | e | ⟨y, y', e, e2, e3, e4⟩
    · have e5 : rowP p (pev f x) x p.toNat = [] := by unfold rowP; rw [e]; rfl
      rw [e5, hl x hx e5]
      exact ⟨rfl, rfl⟩
    · have e5 : rowP p (pev f x) x p.toNat = [((x : Int), (0 : Int))] := by unfold rowP; rw [e]; rfl
      have hm := inn x ((x : Int), (0 : Int)) hx (by rw [e5]; exact List.mem_singleton.mpr rfl)
      rw [e5]
      have l0 : lq lf ((x : Int), (0 : Int)) = 2 * lf x := by unfold lq; rw [if_pos rfl, Int.toNat_natCast]
      refine ⟨?_, ?_⟩
      · show ad (nsm ad z (lq lf ((x : Int), (0 : Int))) (ptG z ((x : Int), (0 : Int)))) z = z
        have e6 := ptN x 0 0 hm hm (by rw [Int.add_zero, Int.zero_emod])
        rw [A.az, l0, nsm_mul A]
        have e7 : nsm ad z 2 (ptG z ((x : Int), (0 : Int))) = z := by
          show ad (ad z _) _ = z
          rw [A.2.2.1]
          have e8 : ad (ptG z ((x : Int), (0 : Int))) (ptG z ((x : Int), (0 : Int))) = ad (ptG z ((x : Int), (0 : Int))) (ng (ptG z ((x : Int), (0 : Int)))) := congrArg _ e6
          rw [e8, A.an]
        rw [e7, nsm_z A]
      · show (lq lf ((x : Int), (0 : Int)) : Int) + 0 = _
        rw [l0]; omega
    · have e5 : rowP p (pev f x) x p.toNat = [((x : Int), (y : Int)), ((x : Int), (y' : Int))] := by unfold rowP; rw [e]; rfl
      have hm := inn x ((x : Int), (y : Int)) hx (by rw [e5]; simp)
      have hm' := inn x ((x : Int), (y' : Int)) hx (by rw [e5]; simp)
      rw [e5]
      have l1 : lq lf ((x : Int), (y : Int)) = lf x := by unfold lq; rw [if_neg (by show ¬ (y : Int) = 0; omega), Int.toNat_natCast]
      have l2 : lq lf ((x : Int), (y' : Int)) = lf x := by unfold lq; rw [if_neg (by show ¬ (y' : Int) = 0; omega), Int.toNat_natCast]
      refine ⟨?_, ?_⟩
      · show ad (nsm ad z (lq lf ((x : Int), (y : Int))) (ptG z ((x : Int), (y : Int)))) (ad (nsm ad z (lq lf ((x : Int), (y' : Int))) (ptG z ((x : Int), (y' : Int)))) z) = z
        rw [A.az, l1, l2, ptN x y y' hm hm' (by rw [e2, Int.emod_self]), nsm_ng A, A.an]
      · show (lq lf ((x : Int), (y : Int)) : Int) + ((lq lf ((x : Int), (y' : Int)) : Int) + 0) = _
        rw [l1, l2]; omega
  have hn : ((p.toNat : Nat) : Int) ≤ p := by omega
  refine ⟨?_, row_sum hp AI _ _ (fun x hx => (key x hx).2) p.toNat hn⟩
  rw [row_sum hp A _ (fun _ => z) (fun x hx => (key x hx).1) p.toNat hn]
  have : ∀ L : List Nat, gsum ad z (L.map (fun _ => z)) = z := fun L => by
    induction L with
    | nil => rfl
    | cons a L ih => show ad z (gsum ad z (L.map (fun _ => z))) = z; rw [ih, A.az]
  exact this _
theorem gsum_is (F : Nat → Int) : ∀ n, gsum (fun a b : Int => a + b) 0 ((List.range n).map F) = isum F n
  | 0 => rfl
  | n + 1 => by
    have AI : Grp Int (fun a b : Int => a + b) 0 (fun a => -a) := ⟨fun a b c => Int.add_assoc a b c, fun a b => Int.add_comm a b, fun a => Int.zero_add a, fun a => Int.add_left_neg a⟩
    rw [List.range_succ, List.map_append, gsum_app AI, gsum_is F n]
    show isum F n + (F n + 0) = isum F n + F n
    omega
/-- the width of a room -/
theorem room_wid {p : Nat} (hp : Pr (p : Int)) {f : Pz (p : Int)} {g : Nat} (hcv : Cv f g) {ad : Gq f g → Gq f g → Gq f g} {z : Gq f g} {ng : Gq f g → Gq f g} (hG : GG f g ad z ng) {B : Nat → Int} {lf nd : Nat → Nat}
    (hnd : ∀ i q, (ptl f (p : Int).toNat)[i]? = some q → (nd i : Int) = (lq lf q : Int) - B (i + 1)) (hl : ∀ x : Nat, (x : Int) < (p : Int) → rowP (p : Int) (pev f x) x (p : Int).toNat = [] → lf x = 0)
    {mt : Int} (hmt : mt = B 0 + isum (fun x => 2 * (lf x : Int)) (p : Int).toNat) {n1 n2 : Nat} (e1 : (n1 : Int) = evn mt) (e2 : (n2 : Int) = evn (mt - (2 * g + 1))) {R : List (Nat → Int)} (hR : Ech (p : Int) (n1 + n2) R)
    (hS : ∀ w, VcP (p : Int) (n1 + n2) w → ((∀ r ∈ R, dt (n1 + n2) r w % (p : Int) = 0) ↔ ∀ i q, (ptl f (p : Int).toNat)[i]? = some q → @bpw (Pz (p : Int)) (pring (p : Int)) f (PI f q) (nd i) (vcA n1 w, vcB n1 n2 w))) :
    ((n1 + n2 : Nat) : Int) - (R.length : Int) = wid g (isum B ((ptl f (p : Int).toNat).length + 1)) ((dg (amS ad z ng B (ptl f (p : Int).toNat).length).1.1 : Int) - 1) := by
  have A := hG.1
  obtain ⟨j1, j2⟩ := J_all hp hcv hG nd _ (Nat.le_refl _)
  obtain ⟨c1, c2⟩ := clS_li A hnd _ (Nat.le_refl _)
  obtain ⟨l1, l2⟩ := lift_0 hp hcv hG hl
  rw [List.take_length] at c1 c2
  rw [l1, A.2.2.1] at c1
  rw [l2, gsum_is] at c2
  rw [c1] at j1
  generalize hx : ng (amS ad z ng B (ptl f (p : Int).toNat).length) = x at j1
  have hx1 : x.1.1 = (amS ad z ng B (ptl f (p : Int).toNat).length).1.1 := by rw [← hx, hG.2.2.2]
  have key := room_dim hp hcv.2.1 j2 (u := x.1.1) (v := x.1.2) x.2 j1 e1 e2 hR (fun w hw => (hS w hw).trans (J_mem hp _).symm)
  rw [key, hx1]
  have e3 : mt - (nsum nd (ptl f (p : Int).toNat).length : Int) = isum B ((ptl f (p : Int).toNat).length + 1) := by
    rw [hmt, c2, isum_hd]; omega
  rw [e3]
  unfold wid
  congr 2
  omega
