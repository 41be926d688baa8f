/-! SERIES: without end, by P; a row's value at a series; what begins later -/
def cs (c : Int) : Nat → Int := fun k => if k = 0 then c else 0
theorem cv_cs (c : Int) (b : Nat → Int) : ∀ k, cv (cs c) b k = c * b k
  | 0 => rfl
  | k + 1 => by
    have h : cv (sh (cs c)) b k = 0 := cv_zero_l k _ _ (fun i => rfl)
    show c * b (k + 1) + cv (sh (cs c)) b k = c * b (k + 1)
    rw [h, Int.add_zero]
theorem cv_add_r (k : Nat) (a b b' : Nat → Int) : cv a (fun i => b i + b' i) k = cv a b k + cv a b' k := by
  rw [cv_comm k a (fun i => b i + b' i), cv_add_l, cv_comm k b a, cv_comm k b' a]
theorem cv_smul_r (k : Nat) (c : Int) (a b : Nat → Int) : cv a (fun i => c * b i) k = c * cv a b k := by
  rw [cv_comm k a (fun i => c * b i), cv_smul_l, cv_comm k b a]
theorem cv_zb : ∀ (k : Nat) (a b : Nat → Int), (∀ i, i ≤ k → b i = 0) → cv a b k = 0
  | 0, a, b, h => by show a 0 * b 0 = 0; rw [h 0 (by omega), Int.mul_zero]
  | k + 1, a, b, h => by
    show a 0 * b (k + 1) + cv (sh a) b k = 0
    rw [h (k + 1) (by omega), cv_zb k (sh a) b (fun i hi => h i (by omega))]; omega
theorem cv_lo : ∀ (m n k : Nat) (a b : Nat → Int), (∀ i, i < m → a i = 0) → (∀ i, i < n → b i = 0) → k < m + n → cv a b k = 0
  | 0, n, k, a, b, _, h2, h => cv_zb k a b (fun i hi => h2 i (by omega))
  | m + 1, n, 0, a, b, h1, _, _ => by show a 0 * b 0 = 0; rw [h1 0 (by omega), Int.zero_mul]
  | m + 1, n, k + 1, a, b, h1, h2, h => by
    show a 0 * b (k + 1) + cv (sh a) b k = 0
    rw [h1 0 (by omega), cv_lo m n k (sh a) b (fun i hi => h1 (i + 1) (by omega)) h2 (by omega)]; omega
theorem cv_lt : ∀ (m n : Nat) (a b : Nat → Int), (∀ i, i < m → a i = 0) → (∀ i, i < n → b i = 0) → cv a b (m + n) = a m * b n
  | 0, 0, a, b, _, _ => rfl
  | 0, n + 1, a, b, _, h2 => by
    rw [Nat.zero_add]
    show a 0 * b (n + 1) + cv (sh a) b n = a 0 * b (n + 1)
    rw [cv_zb n (sh a) b (fun i hi => h2 i (by omega))]; omega
  | m + 1, n, a, b, h1, h2 => by
    rw [show m + 1 + n = (m + n) + 1 by omega]
    show a 0 * b (m + n + 1) + cv (sh a) b (m + n) = a (m + 1) * b n
    rw [h1 0 (by omega), cv_lt m n (sh a) b (fun i hi => h1 (i + 1) (by omega)) h2]
    show 0 * _ + a (m + 1) * b n = _
    omega
/-! the ring of series by P -/
def Sz (p : Int) : Type := {a : Nat → Int // ∀ k, a k % p = a k}
theorem Sz.ext {p : Int} {a b : Sz p} (h : ∀ k, a.1 k = b.1 k) : a = b := Subtype.ext (funext h)
theorem Sz.nm {p : Int} (a : Sz p) (k : Nat) : a.1 k % p = a.1 k := a.2 k
def smk (p : Int) (a : Nat → Int) : Sz p := ⟨fun k => a k % p, fun k => md_md _ _⟩
def sadd {p : Int} (a b : Sz p) : Sz p := smk p (fun k => a.1 k + b.1 k)
def sneg {p : Int} (a : Sz p) : Sz p := smk p (fun k => -a.1 k)
def smul {p : Int} (a b : Sz p) : Sz p := smk p (cv a.1 b.1)
def sC (p c : Int) : Sz p := smk p (cs c)
def spow {p : Int} (a : Sz p) : Nat → Sz p
  | 0 => sC p 1
  | n + 1 => smul (spow a n) a
theorem smk_c (p : Int) (a : Nat → Int) (k : Nat) : (smk p a).1 k = a k % p := rfl
theorem sadd_c {p : Int} (a b : Sz p) (k : Nat) : (sadd a b).1 k = (a.1 k + b.1 k) % p := rfl
theorem sneg_c {p : Int} (a : Sz p) (k : Nat) : (sneg a).1 k = (-a.1 k) % p := rfl
theorem smul_c {p : Int} (a b : Sz p) (k : Nat) : (smul a b).1 k = cv a.1 b.1 k % p := rfl
theorem sC_c (p c : Int) (k : Nat) : (sC p c).1 k = cs c k % p := rfl
theorem sC_mul {p : Int} (c : Int) (a : Sz p) (k : Nat) : (smul (sC p c) a).1 k = (c * a.1 k) % p := by
  rw [smul_c, cv_md k p (sC p c).1 (cs c) a.1 a.1 (fun i => md_md _ _) (fun i => rfl), cv_cs]
theorem sadd_comm {p : Int} (a b : Sz p) : sadd a b = sadd b a := Sz.ext fun k => by rw [sadd_c, sadd_c, Int.add_comm]
theorem sadd_assoc {p : Int} (a b c : Sz p) : sadd (sadd a b) c = sadd a (sadd b c) := Sz.ext fun k => by
  rw [sadd_c, sadd_c, sadd_c, sadd_c]
  rw [md_add (md_md _ _) rfl, md_add (b := (b.1 k + c.1 k) % p) rfl (md_md _ _), Int.add_assoc]
theorem smul_comm {p : Int} (a b : Sz p) : smul a b = smul b a := Sz.ext fun k => by rw [smul_c, smul_c, cv_comm]
theorem smul_assoc {p : Int} (a b c : Sz p) : smul (smul a b) c = smul a (smul b c) := Sz.ext fun k => by
  rw [smul_c, smul_c, cv_md k p (smul a b).1 (cv a.1 b.1) c.1 c.1 (fun i => md_md _ _) (fun i => rfl), cv_md k p a.1 a.1 (smul b c).1 (cv b.1 c.1) (fun i => rfl) (fun i => md_md _ _), cv_assoc]
theorem sadd_mul {p : Int} (a b c : Sz p) : smul (sadd a b) c = sadd (smul a c) (smul b c) := Sz.ext fun k => by
  rw [sadd_c, smul_c, smul_c, smul_c, cv_md k p (sadd a b).1 (fun i => a.1 i + b.1 i) c.1 c.1 (fun i => md_md _ _) (fun i => rfl), cv_add_l]
  exact (md_add (md_md _ _) (md_md _ _)).symm
theorem sC_zero_add {p : Int} (a : Sz p) : sadd a (sC p 0) = a := Sz.ext fun k => by
  rw [sadd_c, sC_c, show cs 0 k = 0 by unfold cs; split <;> rfl, Int.zero_emod, Int.add_zero]; exact a.2 k
theorem sC_one_mul {p : Int} (a : Sz p) : smul (sC p 1) a = a := Sz.ext fun k => by rw [sC_mul, Int.one_mul]; exact a.2 k
theorem sC_zero_mul {p : Int} (a : Sz p) : smul (sC p 0) a = sC p 0 := Sz.ext fun k => by rw [sC_mul, Int.zero_mul, sC_c]; congr 1; unfold cs; split <;> rfl
theorem sC_add (p c d : Int) : sC p (c + d) = sadd (sC p c) (sC p d) := Sz.ext fun k => by
  rw [sadd_c, sC_c, sC_c, sC_c, ← Int.add_emod]; congr 1; unfold cs; split <;> rfl
theorem sC_neg (p c : Int) : sC p (-c) = sneg (sC p c) := Sz.ext fun k => by
  rw [sneg_c, sC_c, sC_c]
  refine Eq.trans ?_ (md_neg (md_md _ _)).symm
  congr 1; unfold cs; split <;> rfl
theorem sneg_add {p : Int} (a : Sz p) : sadd (sneg a) a = sC p 0 := Sz.ext fun k => by
  rw [sadd_c, sneg_c, sC_c, md_add (md_md _ _) rfl]
  congr 1; rw [Int.add_left_neg]; unfold cs; split <;> rfl
theorem sneg_mul {p : Int} (a b : Sz p) : smul (sneg a) b = sneg (smul a b) := Sz.ext fun k => by
  rw [smul_c, sneg_c, smul_c, cv_md k p (sneg a).1 (fun i => (-1) * a.1 i) b.1 b.1 (fun i => by rw [sneg_c, md_md, Int.neg_one_mul]) (fun i => rfl), cv_smul_l, Int.neg_one_mul]
  exact (md_neg (md_md _ _)).symm
def sring (p : Int) : Lean.Grind.CommRing (Sz p) where
  add := sadd
  mul := smul
  neg := sneg
  sub a b := sadd a (sneg b)
  natCast := ⟨fun n => sC p n⟩
  ofNat n := ⟨sC p n⟩
  nsmul := ⟨fun n a => smul (sC p n) a⟩
  npow := ⟨spow⟩
  intCast := ⟨fun n => sC p n⟩
  zsmul := ⟨fun n a => smul (sC p n) a⟩
  add_zero := sC_zero_add
  add_comm := sadd_comm
  add_assoc := sadd_assoc
  mul_assoc := smul_assoc
  mul_one a := (smul_comm _ _).trans (sC_one_mul a)
  one_mul := sC_one_mul
  left_distrib a b c := ((smul_comm _ _).trans (sadd_mul b c a)).trans (by rw [smul_comm b a, smul_comm c a]; rfl)
  right_distrib := sadd_mul
  zero_mul := sC_zero_mul
  mul_zero a := (smul_comm _ _).trans (sC_zero_mul a)
  pow_zero _ := rfl
  pow_succ _ _ := rfl
  ofNat_succ n := by
    show sC p ((n + 1 : Nat) : Int) = sadd (sC p n) (sC p ((1 : Nat) : Int))
    rw [← sC_add]; rfl
  ofNat_eq_natCast _ := rfl
  nsmul_eq_natCast_mul _ _ := rfl
  neg_add_cancel := sneg_add
  sub_eq_add_neg _ _ := rfl
  neg_zsmul i a := by
    show smul (sC p (-i)) a = sneg (smul (sC p i) a)
    rw [sC_neg, sneg_mul]
  zsmul_natCast_eq_nsmul _ _ := rfl
  intCast_ofNat _ := rfl
  intCast_neg i := sC_neg p i
  mul_comm := smul_comm
/-- begins at k or later -/
def Lo {p : Int} (k : Nat) (s : Sz p) : Prop := ∀ i, i < k → s.1 i = 0
theorem Lo.dn {p : Int} {m k : Nat} {s : Sz p} (h : Lo k s) (hm : m ≤ k) : Lo m s := fun i hi => h i (by omega)
theorem Lo.add {p : Int} {k : Nat} {s t : Sz p} (h1 : Lo k s) (h2 : Lo k t) : Lo k (sadd s t) := fun i hi => by rw [sadd_c, h1 i hi, h2 i hi]; exact Int.zero_emod _
theorem Lo.neg {p : Int} {k : Nat} {s : Sz p} (h1 : Lo k s) : Lo k (sneg s) := fun i hi => by rw [sneg_c, h1 i hi]; exact Int.zero_emod _
theorem Lo.mul {p : Int} {m n : Nat} {s t : Sz p} (h1 : Lo m s) (h2 : Lo n t) : Lo (m + n) (smul s t) := fun i hi => by
  rw [smul_c, cv_lo m n i s.1 t.1 h1 h2 hi]; exact Int.zero_emod _
theorem Lo.lt {p : Int} {m n : Nat} {s t : Sz p} (h1 : Lo m s) (h2 : Lo n t) : (smul s t).1 (m + n) = (s.1 m * t.1 n) % p := by
  rw [smul_c, cv_lt m n s.1 t.1 h1 h2]
theorem Lo.sub' {p : Int} {k : Nat} {s t : Sz p} (h1 : Lo k s) (h2 : Lo k (sadd s (sneg t))) : Lo k t := fun i hi => by
  have a := h2 i hi
  rw [sadd_c, sneg_c, h1 i hi, md_add (b' := -t.1 i) rfl (md_md _ _), Int.zero_add] at a
  have b := md_neg (p := p) (a := -t.1 i) (a' := 0) (by rw [a, Int.zero_emod])
  rw [Int.neg_neg, Int.neg_zero, Int.zero_emod, t.2] at b
  exact b
/-! a row's value at a series -/
def hev (X : Nat → Int) : Nat → (Nat → Int) → Nat → Int
  | 0, _ => fun _ => 0
  | n + 1, a => fun k => cs (a 0) k + cv X (hev X n (sh a)) k
theorem cv_z_r (k : Nat) (a : Nat → Int) : cv a (fun _ => 0) k = 0 := cv_zb k a _ (fun _ _ => rfl)
theorem hev_far (X : Nat → Int) : ∀ (n m : Nat) (a : Nat → Int), (∀ k, n ≤ k → a k = 0) → n ≤ m → hev X m a = hev X n a
  | 0, 0, a, h, _ => rfl
  | 0, m + 1, a, h, _ => funext fun k => by
    show cs (a 0) k + cv X (hev X m (sh a)) k = 0
    rw [hev_far X 0 m (sh a) (fun k _ => h (k + 1) (by omega)) (by omega), h 0 (by omega)]
    show cs 0 k + cv X (fun _ => 0) k = 0
    rw [cv_z_r]; unfold cs; split <;> rfl
  | n + 1, 0, a, h, hm => by omega
  | n + 1, m + 1, a, h, hm => funext fun k => by
    show cs (a 0) k + cv X (hev X m (sh a)) k = cs (a 0) k + cv X (hev X n (sh a)) k
    rw [hev_far X n m (sh a) (fun k hk => h (k + 1) (by omega)) (by omega)]
theorem hev_add (X : Nat → Int) : ∀ (n : Nat) (a b : Nat → Int), hev X n (fun k => a k + b k) = fun k => hev X n a k + hev X n b k
  | 0, a, b => rfl
  | n + 1, a, b => funext fun k => by
    have h := hev_add X n (sh a) (sh b)
    show cs (a 0 + b 0) k + cv X (hev X n (fun k => sh a k + sh b k)) k = (cs (a 0) k + cv X (hev X n (sh a)) k) + (cs (b 0) k + cv X (hev X n (sh b)) k)
    rw [h, cv_add_r]
    unfold cs; split <;> omega
theorem hev_smul (X : Nat → Int) (c : Int) : ∀ (n : Nat) (a : Nat → Int), hev X n (fun k => c * a k) = fun k => c * hev X n a k
  | 0, a => funext fun k => by show (0 : Int) = c * 0; rw [Int.mul_zero]
  | n + 1, a => funext fun k => by
    have h := hev_smul X c n (sh a)
    show cs (c * a 0) k + cv X (hev X n (fun k => c * sh a k)) k = c * (cs (a 0) k + cv X (hev X n (sh a)) k)
    rw [h, cv_smul_r, Int.mul_add]
    unfold cs; split
    · rfl
    · rw [Int.mul_zero]
theorem hev_md (X : Nat → Int) (p : Int) : ∀ (n : Nat) (a b : Nat → Int), (∀ k, a k % p = b k % p) → ∀ k, hev X n a k % p = hev X n b k % p
  | 0, a, b, h, k => rfl
  | n + 1, a, b, h, k => md_add (by unfold cs; split <;> first | exact h 0 | rfl) (cv_md k p X X _ _ (fun _ => rfl) (hev_md X p n (sh a) (sh b) (fun k => h (k + 1))))
theorem hev_cv (X : Nat → Int) : ∀ (n m : Nat) (a b : Nat → Int), (∀ k, n ≤ k → a k = 0) → (∀ k, m ≤ k → b k = 0) → hev X (n + m) (cv a b) = cv (hev X n a) (hev X m b)
  | 0, m, a, b, ha, hb => funext fun k => by
    have e : cv a b = fun _ => 0 := funext fun k => cv_zero_l k a b (fun i => ha i (by omega))
    rw [e, hev_far X 0 (0 + m) (fun _ => 0) (fun _ _ => rfl) (by omega)]
    show (0 : Int) = cv (fun _ => 0) (hev X m b) k
    rw [cv_zero_l k _ _ (fun _ => rfl)]
  | n + 1, m, a, b, ha, hb => funext fun k => by
    have h := hev_cv X n m (sh a) b (fun k hk => ha (k + 1) (by omega)) hb
    have e : hev X (n + 1 + m) (cv a b) k = a 0 * hev X (n + 1 + m) b k + cv X (hev X (n + m) (cv (sh a) b)) k := by
      rw [show n + 1 + m = (n + m) + 1 by omega]
      show cs (a 0 * b 0) k + cv X (hev X (n + m) (sh (cv a b))) k = a 0 * (cs (b 0) k + cv X (hev X (n + m) (sh b)) k) + cv X (hev X (n + m) (cv (sh a) b)) k
      have e2 : sh (cv a b) = fun k => (fun i => a 0 * sh b i) k + cv (sh a) b k := rfl
      rw [e2, hev_add, hev_smul, cv_add_r, cv_smul_r, Int.mul_add]
      have e3 : cs (a 0 * b 0) k = a 0 * cs (b 0) k := by unfold cs; split <;> simp
      rw [e3]; omega
    rw [e, h, hev_far X m (n + 1 + m) b hb (by omega)]
    show _ = cv (fun i => cs (a 0) i + cv X (hev X n (sh a)) i) (hev X m b) k
    rw [cv_add_l, cv_cs, cv_assoc]
noncomputable def sv {p : Int} (X : Nat → Int) (a : Pz p) : Sz p := smk p (hev X (dg a) a.1)
theorem sv_n {p : Int} (X : Nat → Int) (a : Pz p) {n : Nat} (h : dg a ≤ n) (k : Nat) : (sv X a).1 k = hev X n a.1 k % p := by
  show hev X (dg a) a.1 k % p = _
  rw [hev_far X (dg a) n a.1 (fun k hk => dg_far a hk) h]
theorem sv_add {p : Int} (X : Nat → Int) (a b : Pz p) : sv X (padd a b) = sadd (sv X a) (sv X b) := Sz.ext fun k => by
  have h := dg_add a b
  rw [sadd_c, sv_n X (padd a b) (n := max (dg a) (dg b)) h, sv_n X a (n := max (dg a) (dg b)) (by omega), sv_n X b (n := max (dg a) (dg b)) (by omega)]
  rw [hev_md X p _ (padd a b).1 (fun k => a.1 k + b.1 k) (fun k => md_md _ _) k, hev_add]
  exact (md_add (md_md _ _) (md_md _ _)).symm
theorem sv_mul {p : Int} (X : Nat → Int) (a b : Pz p) : sv X (pmul a b) = smul (sv X a) (sv X b) := Sz.ext fun k => by
  have h : dg (pmul a b) ≤ dg a + dg b := dg_le fun k hk => by
    rw [pmul_c, cv_far k (dg a) (dg b) a.1 b.1 (fun i hi => dg_far a hi) (fun i hi => dg_far b hi) (by omega)]; exact Int.zero_emod _
  rw [sv_n X (pmul a b) h, hev_md X p _ (pmul a b).1 (cv a.1 b.1) (fun k => md_md _ _) k, hev_cv X (dg a) (dg b) a.1 b.1 (fun i hi => dg_far a hi) (fun i hi => dg_far b hi), smul_c]
  exact cv_md k p _ _ _ _ (fun i => (md_md _ _).symm) (fun i => (md_md _ _).symm)
theorem sv_C {p : Int} (X : Nat → Int) (c : Int) : sv X (pC p c) = sC p c := Sz.ext fun k => by
  rw [sv_n X (pC p c) (n := 1) (dg_le fun k hk => by rw [pC_c, if_neg (by omega)]; exact Int.zero_emod _), sC_c]
  show (cs ((pC p c).1 0) k + cv X (fun _ => 0) k) % p = _
  rw [cv_z_r, Int.add_zero, pC_c, if_pos rfl]
  unfold cs; split
  · exact md_md _ _
  · rfl
theorem hev_0 (X : Nat → Int) : ∀ (n : Nat) (a : Nat → Int), hev X n a 0 = ev (X 0) n a
  | 0, a => rfl
  | n + 1, a => by
    show a 0 + X 0 * hev X n (sh a) 0 = a 0 + X 0 * ev (X 0) n (sh a)
    rw [hev_0 X n (sh a)]
theorem sv_0 {p : Int} (X : Nat → Int) (a : Pz p) : (sv X a).1 0 = pev a (X 0) := by
  show hev X (dg a) a.1 0 % p = ev (X 0) (dg a) a.1 % p
  rw [hev_0]
/-- powers of a series, and a row's value as their sum -/
def XP (X : Nat → Int) : Nat → Nat → Int
  | 0 => cs 1
  | n + 1 => cv X (XP X n)
theorem hev_top (X : Nat → Int) : ∀ (n : Nat) (a : Nat → Int) (k : Nat), hev X (n + 1) a k = hev X n a k + a n * XP X n k
  | 0, a, k => by
    show cs (a 0) k + cv X (fun _ => 0) k = 0 + a 0 * cs 1 k
    rw [cv_z_r]; unfold cs; split <;> simp
  | n + 1, a, k => by
    have h : hev X (n + 1) (sh a) = fun k => hev X n (sh a) k + (fun i => a (n + 1) * XP X n i) k := funext fun k => hev_top X n (sh a) k
    show cs (a 0) k + cv X (hev X (n + 1) (sh a)) k = (cs (a 0) k + cv X (hev X n (sh a)) k) + a (n + 1) * cv X (XP X n) k
    rw [h, cv_add_r, cv_smul_r]; omega
theorem hev_sum (X : Nat → Int) (a : Nat → Int) (k : Nat) : ∀ n, hev X n a k = isum (fun i => a i * XP X i k) n
  | 0 => rfl
  | n + 1 => by
    rw [hev_top, hev_sum X a k n]; rfl
/-- the model's rows of powers -/
def xrw (p : Int) (X r0 : Nat → Int) : Nat → Nat → Int
  | 0 => r0
  | n + 1 => fun k => cv (xrw p X r0 n) X k % p
theorem xrw_XP (p : Int) (X r0 : Nat → Int) : ∀ n k, xrw p X r0 n k % p = cv (XP X n) r0 k % p
  | 0, k => by
    show r0 k % p = cv (cs 1) r0 k % p
    rw [cv_cs, Int.one_mul]
  | n + 1, k => by
    show cv (xrw p X r0 n) X k % p % p = cv (cv X (XP X n)) r0 k % p
    rw [md_md, cv_md k p _ (cv (XP X n) r0) X X (xrw_XP p X r0 n) (fun _ => rfl), cv_comm k (cv (XP X n) r0) X, cv_assoc]
