/-! THE CLASS NUMBER IS 450 AT MOST -/
def P6 (c0 c1 c2 c3 c4 x : Int) : Int := c0 + x * (c1 + x * (c2 + x * (c3 + x * (c4 + x))))
theorem P6_rec (c0 c1 c2 c3 c4 x : Int) : P6 c0 c1 c2 c3 c4 (x + 5) = P6 c0 c1 c2 c3 c4 x + 8 * P6 c0 c1 c2 c3 c4 (x + 1) + 10 * P6 c0 c1 c2 c3 c4 (x + 2) + 3 * P6 c0 c1 c2 c3 c4 (x + 3) + 5 * P6 c0 c1 c2 c3 c4 (x + 4) + 3 + 13 * (9 - P6 c0 c1 c2 c3 c4 (x + 1) - P6 c0 c1 c2 c3 c4 (x + 3)) := by
  unfold P6; grind
theorem nx_eq {a b c d e h : Int} {A B C D E H : Nat} (hH : h = a + 8 * b + 10 * c + 3 * d + 5 * e + 3 + 13 * (9 - b - d)) (hA : (A : Int) = a % 13) (hB : (B : Int) = b % 13) (hC : (C : Int) = c % 13) (hD : (D : Int) = d % 13) (hE : (E : Int) = e % 13) (hh : (H : Int) = h % 13) : H = nx5 A B C D E := by
  unfold nx5; omega
theorem cf_1 {c0 c1 c2 c3 c4 : Int} {A B C D E : Nat} (h : 0 ≤ c1 ∧ c1 < 13) (hA : (A : Int) = P6 c0 c1 c2 c3 c4 0 % 13) (hB : (B : Int) = P6 c0 c1 c2 c3 c4 1 % 13) (hC : (C : Int) = P6 c0 c1 c2 c3 c4 2 % 13) (hD : (D : Int) = P6 c0 c1 c2 c3 c4 3 % 13) (hE : (E : Int) = P6 c0 c1 c2 c3 c4 4 % 13) : c1 = (((11 + 12 * A + 4 * B + 10 * C + 10 * D + 3 * E) % 13 : Nat) : Int) := by
  unfold P6 at *; omega
theorem cf_2 {c0 c1 c2 c3 c4 : Int} {A B C D E : Nat} (h : 0 ≤ c2 ∧ c2 < 13) (hA : (A : Int) = P6 c0 c1 c2 c3 c4 0 % 13) (hB : (B : Int) = P6 c0 c1 c2 c3 c4 1 % 13) (hC : (C : Int) = P6 c0 c1 c2 c3 c4 2 % 13) (hD : (D : Int) = P6 c0 c1 c2 c3 c4 3 % 13) (hE : (E : Int) = P6 c0 c1 c2 c3 c4 4 % 13) : c2 = (((2 + 2 * A + 8 * C + 2 * D + E) % 13 : Nat) : Int) := by
  unfold P6 at *; omega
theorem cf_3 {c0 c1 c2 c3 c4 : Int} {A B C D E : Nat} (h : 0 ≤ c3 ∧ c3 < 13) (hA : (A : Int) = P6 c0 c1 c2 c3 c4 0 % 13) (hB : (B : Int) = P6 c0 c1 c2 c3 c4 1 % 13) (hC : (C : Int) = P6 c0 c1 c2 c3 c4 2 % 13) (hD : (D : Int) = P6 c0 c1 c2 c3 c4 3 % 13) (hE : (E : Int) = P6 c0 c1 c2 c3 c4 4 % 13) : c3 = (((9 + 5 * A + 8 * B + 11 * C + 12 * D + 3 * E) % 13 : Nat) : Int) := by
  unfold P6 at *; omega
theorem cf_4 {c0 c1 c2 c3 c4 : Int} {A B C D E : Nat} (h : 0 ≤ c4 ∧ c4 < 13) (hA : (A : Int) = P6 c0 c1 c2 c3 c4 0 % 13) (hB : (B : Int) = P6 c0 c1 c2 c3 c4 1 % 13) (hC : (C : Int) = P6 c0 c1 c2 c3 c4 2 % 13) (hD : (D : Int) = P6 c0 c1 c2 c3 c4 3 % 13) (hE : (E : Int) = P6 c0 c1 c2 c3 c4 4 % 13) : c4 = (((3 + 6 * A + 2 * B + 10 * C + 2 * D + 6 * E) % 13 : Nat) : Int) := by
  unfold P6 at *; omega
theorem P6_pev {f : Pz 13} (hd : dg f = 6) (hm : f.1 5 = 1) (x : Int) : pev f x = P6 (f.1 0) (f.1 1) (f.1 2) (f.1 3) (f.1 4) x % 13 := by
  unfold pev
  rw [hd]
  show (f.1 0 + x * (f.1 1 + x * (f.1 2 + x * (f.1 3 + x * (f.1 4 + x * (f.1 5 + x * 0)))))) % 13 = _
  rw [hm]
  unfold P6
  congr 1; grind
theorem T_z {f : Pz ((13 : Nat) : Int)} {l : List Nat} (hl : l.length = dg f) (hc : ∀ (i : Nat) (x : Nat), l[i]? = some x → f.1 i = (x : Int)) {a b : Nat} (ha : a < 13) (hb : b < 13) (h : ztN l a (2 * (b * b) % 13) = true) : Tc 13 f a b = 0 := by
  have hp : Pr ((13 : Nat) : Int) := Or.inr (Or.inr (Or.inr (Or.inr rfl)))
  have hh := hrS_hv hp (a := (a : Int)) (b := (b : Int)) (D := ((2 * (b * b) % 13 : Nat) : Int)) (ν := (nsN 13 : Int)) (by omega) (by omega) (by
    rw [Int.natCast_emod, md_md, Int.natCast_mul, Int.natCast_mul]; rfl) (dg f) f.1
  have hr := hrN_is a (2 * (b * b) % 13) l f.1 hc
  have hrg := hrS_rg hp (a : Int) ((2 * (b * b) % 13 : Nat) : Int) (dg f) f.1
  rw [hl] at hr
  have hr1 : (hrS ((13 : Nat) : Int) (a : Int) ((2 * (b * b) % 13 : Nat) : Int) (dg f) f.1).1 = ((hrN a (2 * (b * b) % 13) l).1 : Int) := congrArg Prod.fst hr
  have hr2 : (hrS ((13 : Nat) : Int) (a : Int) ((2 * (b * b) % 13 : Nat) : Int) (dg f) f.1).2 = ((hrN a (2 * (b * b) % 13) l).2 : Int) := congrArg Prod.snd hr
  rw [hr1, hr2] at hh hrg
  unfold ztN at h
  generalize (hrN a (2 * (b * b) % 13) l).1 = R at *
  generalize (hrN a (2 * (b * b) % 13) l).2 = S at *
  unfold Tc
  rw [nsq_N, show ((b * 13 + a : Nat) : Int) = (a : Int) + (b : Int) * ((13 : Nat) : Int) by rw [Int.natCast_add, Int.natCast_mul]; omega, hh]
  have et : (R : Int) * b % ((13 : Nat) : Int) = ((R * b % 13 : Nat) : Int) := by rw [Int.natCast_emod, Int.natCast_mul]
  rw [et, cnt2_c3 hp hrg.2 ⟨by omega, by have := Nat.mod_lt (R * b) (show 13 > 0 by omega); omega⟩]
  refine c3_z ⟨by omega, by have := Nat.mod_lt (R * b) (show 13 > 0 by omega); omega⟩ hrg.2 ?_
  rw [Int.toNat_natCast, Int.toNat_natCast]
  have h2 := Nat.eq_of_beq_eq_true h
  have e : (S * S + 11 * ((R * b % 13) * (R * b % 13))) % 13 = (S * S + (13 - 2 * (b * b) % 13) * (R * R)) % 13 := by
    have k1 := Nat.div_add_mod (R * b) 13
    have k2 := Nat.div_add_mod (2 * (b * b)) 13
    have k3 := Nat.mod_lt (2 * (b * b)) (show 13 > 0 by omega)
    generalize hT : R * b % 13 = T at *
    generalize hD : 2 * (b * b) % 13 = D at *
    generalize R * b / 13 = q1 at *
    generalize 2 * (b * b) / 13 = q2 at *
    have i1 : (R : Int) * b = 13 * q1 + T := by rw [← Int.natCast_mul, ← k1]; omega
    have i2 : 2 * ((b : Int) * b) = 13 * q2 + D := by
      have := congrArg (fun n : Nat => (n : Int)) k2
      simp only [Int.natCast_add, Int.natCast_mul] at this
      omega
    have hI : ((S : Int) * S + 11 * ((T : Int) * T)) % 13 = ((S : Int) * S + (13 - (D : Int)) * (R * R)) % 13 := by
      refine em_iff.mpr ⟨(R : Int) * b * (R * b) - 22 * (T * q1) - 143 * (q1 * q1) - R * R - q2 * (R * R), ?_⟩
      have t1 : (T : Int) = R * b - 13 * q1 := by omega
      have d1 : (D : Int) = 2 * (b * b) - 13 * q2 := by omega
      rw [t1, d1]
      grind
    have c1 : (((S * S + 11 * (T * T)) % 13 : Nat) : Int) = ((S : Int) * S + 11 * ((T : Int) * T)) % 13 := by
      rw [Int.natCast_emod, Int.natCast_add, Int.natCast_mul, Int.natCast_mul, Int.natCast_mul]; rfl
    have c2 : (((S * S + (13 - D) * (R * R)) % 13 : Nat) : Int) = ((S : Int) * S + (13 - (D : Int)) * (R * R)) % 13 := by
      rw [Int.natCast_emod, Int.natCast_add, Int.natCast_mul, Int.natCast_mul, Int.natCast_mul, Int.natCast_sub (by omega)]; rfl
    omega
  rw [e]; exact h2
theorem zI_rg (l : List Nat) (a D : Nat) : 0 ≤ zI l a D ∧ zI l a D ≤ 1 := by unfold zI; split <;> omega
set_option maxHeartbeats 4000000 in
theorem max_13 {f : Pz ((13 : Nat) : Int)} (hcv : Cv f 2) : (tkl f 2).length ≤ 450 := by
  have hp : Pr ((13 : Nat) : Int) := Or.inr (Or.inr (Or.inr (Or.inr rfl)))
  have hd : dg f = 6 := hcv.2.1
  have hm : f.1 5 = 1 := by have := hcv.2.2.1.2; rw [hd] at this; exact this
  have hlen := tkl_len hp (f := f) (g := 2)
  rw [if_pos rfl] at hlen
  have hq := quad_len hp hcv
  have hn1 := n1_NX f
  have hn2 := nn2_T f
  let v : Nat → Nat := fun i => (pev f (i : Int)).toNat
  have hv0 : ∀ i : Nat, ((v i : Nat) : Int) = pev f (i : Int) := fun i => Int.toNat_of_nonneg (pev_rg hp f i).1
  have hvP : ∀ i : Nat, ((v i : Nat) : Int) = P6 (f.1 0) (f.1 1) (f.1 2) (f.1 3) (f.1 4) (i : Int) % 13 := fun i => (hv0 i).trans (P6_pev hd hm i)
  have hv13 : ∀ i, v i < 13 := fun i => by have := (pev_rg hp f (i : Int)).2; have := hv0 i; omega
  have hrec : ∀ i, i < 8 → v (i + 5) = nx5 (v i) (v (i + 1)) (v (i + 2)) (v (i + 3)) (v (i + 4)) := fun i _ => nx_eq (P6_rec (f.1 0) (f.1 1) (f.1 2) (f.1 3) (f.1 4) (i : Int)) (hvP i) (hvP (i + 1)) (hvP (i + 2)) (hvP (i + 3)) (hvP (i + 4)) (hvP (i + 5))
  have hNX : ∀ i, i < 13 → NX 13 f i + (q13 (v i) : Int) = 2 := fun i _ => by
    rw [NX_N (hv0 i).symm]
    have := Nat.eq_of_beq_eq_true (List.all_eq_true.mp q13_N (v i) (List.mem_range.mpr (hv13 i)))
    omega
  have hsum : ((ptl f ((13 : Nat))).length : Int) + (nsum (fun i => q13 (v i)) 13 : Int) = 26 := by
    rw [hn1, ← isum_ns, ← isum_two, isum_cg2 13 (G := fun _ => 2) (fun i hi => hNX i hi), isum_co]; rfl
  generalize hdd : nsum (fun i => q13 (v i)) 13 = dd at *
  have hT2 : ∀ a, a < 13 → isum (Tc 13 f a) 13 ≤ 26 := fun a ha => isum_le (B := 2) 13 (fun b hb => Tc_le hp f ha hb)
  by_cases h23 : 2 < dd
  · have b2 : nn2 f ≤ 338 := by rw [hn2]; exact isum_le (B := 26) 13 hT2
    have b1 : ((ptl f (13 : Nat)).length : Int) ≤ 23 := by omega
    generalize ((ptl f (13 : Nat)).length : Int) = n1 at *
    have n10 : 0 ≤ n1 := by rw [hn1]; exact Int.natCast_nonneg 0 |> fun _ => by have := (isum_rg (F := NX 13 f) (B := 1000) (fun i => ⟨by unfold NX; omega, by have := rowY2 hp (pev_rg hp f (i : Int)).1 (pev_rg hp f (i : Int)).2; unfold NX; rw [Int.toNat_natCast] at this; omega⟩) 13).1; exact this
    have b3 := Int.mul_le_mul b1 b1 n10 (by omega)
    omega
  · have hf := s13_is hv13 hrec (by omega)
    rw [hdd] at hf
    have hz := zcN_le _ _ _ hf
    -- the coefficients
    have hc : ∀ (i : Nat) (x : Nat), (cf13 (v 0) (v 1) (v 2) (v 3) (v 4))[i]? = some x → f.1 i = (x : Int) := by
      have c0 := cf_rg hp f 0
      have c1 := cf_rg hp f 1
      have c2 := cf_rg hp f 2
      have c3 := cf_rg hp f 3
      have c4 := cf_rg hp f 4
      intro i x hx
      have hil : i < 6 := (List.getElem?_eq_some_iff.mp hx).1
      have : i = 0 ∨ i = 1 ∨ i = 2 ∨ i = 3 ∨ i = 4 ∨ i = 5 := by omega
      rcases this with rfl | rfl | rfl | rfl | rfl | rfl
      · cases hx
        have := hvP 0
        unfold P6 at this
        omega
      · cases hx; exact cf_1 c1 (hvP 0) (hvP 1) (hvP 2) (hvP 3) (hvP 4)
      · cases hx; exact cf_2 c2 (hvP 0) (hvP 1) (hvP 2) (hvP 3) (hvP 4)
      · cases hx; exact cf_3 c3 (hvP 0) (hvP 1) (hvP 2) (hvP 3) (hvP 4)
      · cases hx; exact cf_4 c4 (hvP 0) (hvP 1) (hvP 2) (hvP 3) (hvP 4)
      · cases hx; exact hm
    generalize hcl : cf13 (v 0) (v 1) (v 2) (v 3) (v 4) = l at *
    have hll : l.length = dg f := by rw [← hcl, hd]; rfl
    have hTz : ∀ a b, a < 13 → b < 13 → ∀ D, D = 2 * (b * b) % 13 → Tc 13 f a b ≤ 2 - 2 * zI l a D := fun a b ha hb D hD => by
      subst hD
      unfold zI
      by_cases c : ztN l a (2 * (b * b) % 13) = true
      · rw [if_pos c, T_z hll hc ha hb c]; omega
      · rw [if_neg c]; have := Tc_le hp f ha hb; omega
    have hTa : ∀ a, a < 13 → isum (Tc 13 f a) 13 ≤ 26 - 4 * (zI l a 2 + zI l a 8 + zI l a 5 + zI l a 6 + zI l a 11 + zI l a 7) := fun a ha => by
      have t0 := Tc_le hp f ha (show 0 < 13 by omega)
      have t1 := hTz a 1 ha (by omega) 2 rfl
      have t2 := hTz a 2 ha (by omega) 8 rfl
      have t3 := hTz a 3 ha (by omega) 5 rfl
      have t4 := hTz a 4 ha (by omega) 6 rfl
      have t5 := hTz a 5 ha (by omega) 11 rfl
      have t6 := hTz a 6 ha (by omega) 7 rfl
      have t7 := hTz a 7 ha (by omega) 7 rfl
      have t8 := hTz a 8 ha (by omega) 11 rfl
      have t9 := hTz a 9 ha (by omega) 6 rfl
      have t10 := hTz a 10 ha (by omega) 5 rfl
      have t11 := hTz a 11 ha (by omega) 8 rfl
      have t12 := hTz a 12 ha (by omega) 2 rfl
      show 0 + Tc 13 f a 0 + Tc 13 f a 1 + Tc 13 f a 2 + Tc 13 f a 3 + Tc 13 f a 4 + Tc 13 f a 5 + Tc 13 f a 6 + Tc 13 f a 7 + Tc 13 f a 8 + Tc 13 f a 9 + Tc 13 f a 10 + Tc 13 f a 11 + Tc 13 f a 12 ≤ _
      omega
    have hpl := czN_PL l 13
    have b2 : nn2 f ≤ 338 - 4 * (czN l (PLn 13) : Int) := by
      rw [hn2, hpl]
      refine Int.le_trans (isum_le2 13 (fun a ha => hTa a ha)) ?_
      have := isum_two (fun a => 26) (fun a => -4 * (zI l a 2 + zI l a 8 + zI l a 5 + zI l a 6 + zI l a 11 + zI l a 7)) 13
      rw [isum_co, isum_sm] at this
      have e : isum (fun a => 26 - 4 * (zI l a 2 + zI l a 8 + zI l a 5 + zI l a 6 + zI l a 11 + zI l a 7)) 13 = isum (fun a => 26 + -4 * (zI l a 2 + zI l a 8 + zI l a 5 + zI l a 6 + zI l a 11 + zI l a 7)) 13 := isum_cg2 13 (fun a _ => by omega)
      rw [e, this]
      omega
    generalize czN l (PLn 13) = Z at *
    have hdd3 : dd = 0 ∨ dd = 1 ∨ dd = 2 := by omega
    rcases hdd3 with h0 | h0 | h0
    · subst h0
      have n1 : ((ptl f (13 : Nat)).length : Int) = 26 := by omega
      rw [n1] at hq hlen
      replace hz : 36 ≤ Z := hz
      omega
    · subst h0
      have n1 : ((ptl f (13 : Nat)).length : Int) = 25 := by omega
      rw [n1] at hq hlen
      replace hz : 23 ≤ Z := hz
      omega
    · subst h0
      have n1 : ((ptl f (13 : Nat)).length : Int) = 24 := by omega
      rw [n1] at hq hlen
      replace hz : 10 ≤ Z := hz
      omega
theorem tkl_450 {p : Nat} (hp : Pr (p : Int)) {f : Pz (p : Int)} {g : Nat} (hcv : Cv f g) : (tkl f g).length ≤ 450 := by
  have hpp := hp.pos
  have hlen := tkl_len hp (f := f) (g := g)
  have hpl := ptl_le hp f p
  rcases hcv.1 with rfl | rfl
  · rw [if_neg (by omega)] at hlen
    omega
  · rw [if_pos rfl] at hlen
    have hq := quad_len hp hcv
    have hn2 := nn2_T f
    have hT2 : ∀ a, a < p → isum (Tc p f a) p ≤ p * 2 := fun a ha => isum_le (B := 2) p (fun b hb => Tc_le hp f ha hb)
    have b2 : nn2 f ≤ p * (p * 2) := by rw [hn2]; exact isum_le p hT2
    by_cases h13 : p = 13
    · subst h13; exact max_13 hcv
    · have n1 := Nat.mul_le_mul hpl hpl
      have n2 : ((ptl f p).length : Int) * (ptl f p).length ≤ (2 * p : Nat) * (2 * p : Nat) := by
        rw [← Int.natCast_mul, ← Int.natCast_mul]; omega
      have hm := hp.mem
      simp only [List.mem_cons, List.not_mem_nil, or_false] at hm
      generalize ((ptl f p).length : Int) * (ptl f p).length = sq at *
      rcases hm with rfl | rfl | rfl | rfl | rfl
      · omega
      · omega
      · omega
      · omega
      · exact absurd rfl h13
