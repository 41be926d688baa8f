/-! ROWS OVER NUMBERS BY P, AS A RING: sequences of whole numbers, their product, what is left by p -/
def sh (a : Nat → Int) : Nat → Int := fun k => a (k + 1)
def cv : (Nat → Int) → (Nat → Int) → Nat → Int
  | a, b, 0 => a 0 * b 0
  | a, b, k + 1 => a 0 * b (k + 1) + cv (sh a) b k
theorem cv_add_l : ∀ (k : Nat) (a a' b : Nat → Int), cv (fun i => a i + a' i) b k = cv a b k + cv a' b k
  | 0, a, a', b => by simp only [cv]; exact Int.add_mul _ _ _
  | k + 1, a, a', b => by
    have h := cv_add_l k (sh a) (sh a') b
    show (a 0 + a' 0) * b (k + 1) + cv (fun i => sh a i + sh a' i) b k = (a 0 * b (k + 1) + cv (sh a) b k) + (a' 0 * b (k + 1) + cv (sh a') b k)
    rw [h, Int.add_mul]; omega
theorem cv_smul_l : ∀ (k : Nat) (c : Int) (a b : Nat → Int), cv (fun i => c * a i) b k = c * cv a b k
  | 0, c, a, b => by simp only [cv]; exact Int.mul_assoc _ _ _
  | k + 1, c, a, b => by
    have h := cv_smul_l k c (sh a) b
    show (c * a 0) * b (k + 1) + cv (fun i => c * sh a i) b k = c * (a 0 * b (k + 1) + cv (sh a) b k)
    rw [h, Int.mul_add, Int.mul_assoc]
theorem cv_zero_l : ∀ (k : Nat) (a b : Nat → Int), (∀ i, a i = 0) → cv a b k = 0
  | 0, a, b, h => by simp only [cv]; rw [h 0, Int.zero_mul]
  | k + 1, a, b, h => by simp only [cv]; rw [h 0, cv_zero_l k (sh a) b (fun i => h (i + 1))]; omega
theorem cv_succ : ∀ (k : Nat) (a b : Nat → Int), cv a b (k + 1) = cv a (sh b) k + a (k + 1) * b 0
  | 0, a, b => by simp only [cv, sh]
  | k + 1, a, b => by
    have h := cv_succ k (sh a) b
    show a 0 * b (k + 1 + 1) + cv (sh a) b (k + 1) = (a 0 * sh b (k + 1) + cv (sh a) (sh b) k) + a (k + 1 + 1) * b 0
    rw [h]
    show a 0 * b (k + 1 + 1) + (cv (sh a) (sh b) k + a (k + 1 + 1) * b 0) = (a 0 * b (k + 1 + 1) + cv (sh a) (sh b) k) + a (k + 1 + 1) * b 0
    omega
theorem cv_comm : ∀ (k : Nat) (a b : Nat → Int), cv a b k = cv b a k
  | 0, a, b => by simp only [cv]; exact Int.mul_comm _ _
  | k + 1, a, b => by
    rw [cv_succ k b a, cv_comm k b (sh a)]
    show a 0 * b (k + 1) + cv (sh a) b k = cv (sh a) b k + b (k + 1) * a 0
    rw [Int.mul_comm (b (k + 1))]; omega
theorem cv_assoc : ∀ (k : Nat) (a b c : Nat → Int), cv (cv a b) c k = cv a (cv b c) k
  | 0, a, b, c => by simp only [cv]; exact Int.mul_assoc _ _ _
  | k + 1, a, b, c => by
    have h := cv_assoc k (sh a) b c
    have e : sh (cv a b) = fun i => (fun j => a 0 * sh b j) i + cv (sh a) b i := rfl
    show (a 0 * b 0) * c (k + 1) + cv (sh (cv a b)) c k = a 0 * (b 0 * c (k + 1) + cv (sh b) c k) + cv (sh a) (cv b c) k
    rw [e, cv_add_l, h, cv_smul_l, Int.mul_add, Int.mul_assoc]; omega
theorem md_add {p a a' b b' : Int} (h1 : a % p = a' % p) (h2 : b % p = b' % p) : (a + b) % p = (a' + b') % p := by
  rw [Int.add_emod, h1, h2, ← Int.add_emod]
theorem md_mul {p a a' b b' : Int} (h1 : a % p = a' % p) (h2 : b % p = b' % p) : (a * b) % p = (a' * b') % p := by
  rw [Int.mul_emod, h1, h2, ← Int.mul_emod]
theorem md_neg {p a a' : Int} (h1 : a % p = a' % p) : (-a) % p = (-a') % p := by
  have := md_mul (p := p) (a := -1) (a' := -1) rfl h1
  rwa [Int.neg_one_mul, Int.neg_one_mul] at this
theorem md_sub {p a a' b b' : Int} (h1 : a % p = a' % p) (h2 : b % p = b' % p) : (a - b) % p = (a' - b') % p := by
  rw [Int.sub_eq_add_neg, Int.sub_eq_add_neg]; exact md_add h1 (md_neg h2)
theorem md_md (a p : Int) : a % p % p = a % p := Int.emod_emod_of_dvd a (Int.dvd_refl p)
theorem cv_md : ∀ (k : Nat) (p : Int) (a a' b b' : Nat → Int), (∀ i, a i % p = a' i % p) → (∀ i, b i % p = b' i % p) → cv a b k % p = cv a' b' k % p
  | 0, p, a, a', b, b', h1, h2 => md_mul (h1 0) (h2 0)
  | k + 1, p, a, a', b, b', h1, h2 => md_add (md_mul (h1 0) (h2 (k + 1))) (cv_md k p (sh a) (sh a') b b' (fun i => h1 (i + 1)) h2)
theorem cv_far : ∀ (k n m : Nat) (a b : Nat → Int), (∀ i, n ≤ i → a i = 0) → (∀ i, m ≤ i → b i = 0) → n + m ≤ k + 1 → cv a b k = 0
  | 0, n, m, a, b, h1, h2, h => by
    simp only [cv]
    by_cases q : n = 0
    · rw [h1 0 (by omega), Int.zero_mul]
    · rw [h2 0 (by omega), Int.mul_zero]
  | k + 1, n, m, a, b, h1, h2, h => by
    simp only [cv]
    by_cases q : n = 0
    · rw [h1 0 (by omega), cv_zero_l k (sh a) b (fun i => h1 (i + 1) (by omega))]; omega
    · rw [h2 (k + 1) (by omega), cv_far k (n - 1) m (sh a) b (fun i hi => h1 (i + 1) (by omega)) h2 (by omega)]; omega
theorem cv_top : ∀ (n m : Nat) (a b : Nat → Int), (∀ i, n + 1 ≤ i → a i = 0) → (∀ i, m + 1 ≤ i → b i = 0) → cv a b (n + m) = a n * b m
  | 0, 0, a, b, h1, h2 => by simp only [cv]
  | 0, m + 1, a, b, h1, h2 => by
    rw [Nat.zero_add]
    simp only [cv]
    rw [cv_zero_l m (sh a) b (fun i => h1 (i + 1) (by omega))]; omega
  | n + 1, m, a, b, h1, h2 => by
    rw [show n + 1 + m = (n + m) + 1 by omega]
    simp only [cv]
    rw [h2 (n + m + 1) (by omega), cv_top n m (sh a) b (fun i hi => h1 (i + 1) (by omega)) h2]
    show a 0 * 0 + a (n + 1) * b m = a (n + 1) * b m
    omega
/-! the ring -/
def Pz (p : Int) : Type := {a : Nat → Int // (∀ k, a k % p = a k) ∧ ∃ n : Nat, ∀ k, n ≤ k → a k = 0}
theorem Pz.ext {p : Int} {a b : Pz p} (h : ∀ k, a.1 k = b.1 k) : a = b := Subtype.ext (funext h)
def pmk (p : Int) (a : Nat → Int) (h : ∃ n : Nat, ∀ k, n ≤ k → a k = 0) : Pz p := ⟨fun k => a k % p, fun k => md_md _ _, h.elim fun n hn => ⟨n, fun k hk => by show a k % p = 0; rw [hn k hk, Int.zero_emod]⟩⟩
theorem pz_two {p : Int} (a b : Pz p) : ∃ n : Nat, (∀ k, n ≤ k → a.1 k = 0) ∧ ∀ k, n ≤ k → b.1 k = 0 := by
  obtain ⟨n, hn⟩ := a.2.2
  obtain ⟨m, hm⟩ := b.2.2
  exact ⟨n + m, fun k hk => hn k (by omega), fun k hk => hm k (by omega)⟩
def padd {p : Int} (a b : Pz p) : Pz p := pmk p (fun k => a.1 k + b.1 k) ((pz_two a b).elim fun n h => ⟨n, fun k hk => by rw [h.1 k hk, h.2 k hk]; rfl⟩)
def pneg {p : Int} (a : Pz p) : Pz p := pmk p (fun k => -a.1 k) (a.2.2.elim fun n h => ⟨n, fun k hk => by rw [h k hk]; rfl⟩)
def pmul {p : Int} (a b : Pz p) : Pz p := pmk p (cv a.1 b.1) ((pz_two a b).elim fun n h => ⟨n + n, fun k hk => cv_far k n n a.1 b.1 h.1 h.2 (by omega)⟩)
def pC (p c : Int) : Pz p := pmk p (fun k => if k = 0 then c else 0) ⟨1, fun k hk => if_neg (by omega)⟩
def ppow {p : Int} (a : Pz p) : Nat → Pz p
  | 0 => pC p 1
  | n + 1 => pmul (ppow a n) a
theorem padd_c {p : Int} (a b : Pz p) (k : Nat) : (padd a b).1 k = (a.1 k + b.1 k) % p := rfl
theorem pneg_c {p : Int} (a : Pz p) (k : Nat) : (pneg a).1 k = (-a.1 k) % p := rfl
theorem pmul_c {p : Int} (a b : Pz p) (k : Nat) : (pmul a b).1 k = cv a.1 b.1 k % p := rfl
theorem pC_c (p c : Int) (k : Nat) : (pC p c).1 k = (if k = 0 then c else 0) % p := rfl
theorem cv_C (p c : Int) (b : Nat → Int) : ∀ k, cv (pC p c).1 b k % p = (c * b k) % p
  | 0 => md_mul (by rw [pC_c]; exact md_md _ _) rfl
  | k + 1 => by
    have h : cv (sh (pC p c).1) b k = 0 := cv_zero_l k _ _ (fun i => by show (pC p c).1 (i + 1) = 0; rw [pC_c]; exact Int.zero_emod _)
    show ((pC p c).1 0 * b (k + 1) + cv (sh (pC p c).1) b k) % p = _
    rw [h, Int.add_zero]
    exact md_mul (by rw [pC_c]; exact md_md _ _) rfl
theorem pC_mul {p : Int} (c : Int) (a : Pz p) (k : Nat) : (pmul (pC p c) a).1 k = (c * a.1 k) % p := by rw [pmul_c, cv_C]
theorem padd_comm {p : Int} (a b : Pz p) : padd a b = padd b a := Pz.ext fun k => by rw [padd_c, padd_c, Int.add_comm]
theorem padd_assoc {p : Int} (a b c : Pz p) : padd (padd a b) c = padd a (padd b c) := Pz.ext fun k => by
  rw [padd_c, padd_c, padd_c, padd_c]
  rw [md_add (md_md _ _) rfl, md_add (b := (b.1 k + c.1 k) % p) rfl (md_md _ _), Int.add_assoc]
theorem pmul_comm {p : Int} (a b : Pz p) : pmul a b = pmul b a := Pz.ext fun k => by rw [pmul_c, pmul_c, cv_comm]
theorem pmul_assoc {p : Int} (a b c : Pz p) : pmul (pmul a b) c = pmul a (pmul b c) := Pz.ext fun k => by
  rw [pmul_c, pmul_c, cv_md k p (pmul a b).1 (cv a.1 b.1) c.1 c.1 (fun i => md_md _ _) (fun i => rfl), cv_md k p a.1 a.1 (pmul b c).1 (cv b.1 c.1) (fun i => rfl) (fun i => md_md _ _), cv_assoc]
theorem padd_mul {p : Int} (a b c : Pz p) : pmul (padd a b) c = padd (pmul a c) (pmul b c) := Pz.ext fun k => by
  rw [padd_c, pmul_c, pmul_c, pmul_c, cv_md k p (padd a b).1 (fun i => a.1 i + b.1 i) c.1 c.1 (fun i => md_md _ _) (fun i => rfl), cv_add_l]
  exact (md_add (md_md _ _) (md_md _ _)).symm
theorem pC_zero_add {p : Int} (a : Pz p) : padd a (pC p 0) = a := Pz.ext fun k => by
  rw [padd_c, pC_c, show (if k = 0 then (0 : Int) else 0) = 0 by split <;> rfl, Int.zero_emod, Int.add_zero]; exact a.2.1 k
theorem pC_one_mul {p : Int} (a : Pz p) : pmul (pC p 1) a = a := Pz.ext fun k => by rw [pC_mul, Int.one_mul]; exact a.2.1 k
theorem pC_zero_mul {p : Int} (a : Pz p) : pmul (pC p 0) a = pC p 0 := Pz.ext fun k => by rw [pC_mul, Int.zero_mul, pC_c]; congr 1; split <;> rfl
theorem pC_add (p c d : Int) : pC p (c + d) = padd (pC p c) (pC p d) := Pz.ext fun k => by
  rw [padd_c, pC_c, pC_c, pC_c, ← Int.add_emod]; congr 1; split <;> rfl
theorem pC_neg (p c : Int) : pC p (-c) = pneg (pC p c) := Pz.ext fun k => by
  rw [pneg_c, pC_c, pC_c]
  refine Eq.trans ?_ (md_neg (md_md _ _)).symm
  congr 1; split <;> rfl
theorem pneg_add {p : Int} (a : Pz p) : padd (pneg a) a = pC p 0 := Pz.ext fun k => by
  rw [padd_c, pneg_c, pC_c, md_add (md_md _ _) rfl]
  congr 1; rw [Int.add_left_neg]; split <;> rfl
theorem pneg_mul {p : Int} (a b : Pz p) : pmul (pneg a) b = pneg (pmul a b) := Pz.ext fun k => by
  rw [pmul_c, pneg_c, pmul_c, cv_md k p (pneg a).1 (fun i => (-1) * a.1 i) b.1 b.1 (fun i => by rw [pneg_c, md_md, Int.neg_one_mul]) (fun i => rfl), cv_smul_l, Int.neg_one_mul]
  exact (md_neg (md_md _ _)).symm
def pring (p : Int) : Lean.Grind.CommRing (Pz p) where
  add := padd
  mul := pmul
  neg := pneg
  sub a b := padd a (pneg b)
  natCast := ⟨fun n => pC p n⟩
  ofNat n := ⟨pC p n⟩
  nsmul := ⟨fun n a => pmul (pC p n) a⟩
  npow := ⟨ppow⟩
  intCast := ⟨fun n => pC p n⟩
  zsmul := ⟨fun n a => pmul (pC p n) a⟩
  add_zero := pC_zero_add
  add_comm := padd_comm
  add_assoc := padd_assoc
  mul_assoc := pmul_assoc
  mul_one a := (pmul_comm _ _).trans (pC_one_mul a)
  one_mul := pC_one_mul
  left_distrib a b c := ((pmul_comm _ _).trans (padd_mul b c a)).trans (by rw [pmul_comm b a, pmul_comm c a]; rfl)
  right_distrib := padd_mul
  zero_mul := pC_zero_mul
  mul_zero a := (pmul_comm _ _).trans (pC_zero_mul a)
  pow_zero _ := rfl
  pow_succ _ _ := rfl
  ofNat_succ n := by
    show pC p ((n + 1 : Nat) : Int) = padd (pC p n) (pC p ((1 : Nat) : Int))
    rw [← pC_add]; rfl
  ofNat_eq_natCast _ := rfl
  nsmul_eq_natCast_mul _ _ := rfl
  neg_add_cancel := pneg_add
  sub_eq_add_neg _ _ := rfl
  neg_zsmul i a := by
    show pmul (pC p (-i)) a = pneg (pmul (pC p i) a)
    rw [pC_neg, pneg_mul]
  zsmul_natCast_eq_nsmul _ _ := rfl
  intCast_ofNat _ := rfl
  intCast_neg i := pC_neg p i
  mul_comm := pmul_comm
/-! degrees: dg is the degree and 1, of nought 0 -/
theorem dg_ex {p : Int} (a : Pz p) : ∃ n : Nat, (∀ k, n ≤ k → a.1 k = 0) ∧ (n = 0 ∨ a.1 (n - 1) ≠ 0) := by
  obtain ⟨n, hn⟩ := a.2.2
  induction n with
  | zero => exact ⟨0, hn, Or.inl rfl⟩
  | succ n ih =>
    by_cases h : a.1 n = 0
    · refine ih (fun k hk => ?_)
      by_cases e : k = n
      · subst e; exact h
      · exact hn k (by omega)
    · exact ⟨n + 1, hn, Or.inr h⟩
noncomputable def dg {p : Int} (a : Pz p) : Nat := Classical.choose (dg_ex a)
theorem dg_far {p : Int} (a : Pz p) {k : Nat} (h : dg a ≤ k) : a.1 k = 0 := (Classical.choose_spec (dg_ex a)).1 k h
theorem dg_top {p : Int} (a : Pz p) (h : dg a ≠ 0) : a.1 (dg a - 1) ≠ 0 := (Classical.choose_spec (dg_ex a)).2.resolve_left h
theorem dg_le {p : Int} {a : Pz p} {n : Nat} (h : ∀ k, n ≤ k → a.1 k = 0) : dg a ≤ n := by
  rcases Nat.lt_or_ge n (dg a) with q | q
  · exact absurd (h _ (by omega)) (dg_top a (by omega))
  · exact q
theorem dg_eq {p : Int} {a : Pz p} {n : Nat} (h : ∀ k, n + 1 ≤ k → a.1 k = 0) (h1 : a.1 n ≠ 0) : dg a = n + 1 := by
  refine Nat.le_antisymm (dg_le h) ?_
  rcases Nat.lt_or_ge n (dg a) with q | q
  · exact q
  · exact absurd (dg_far a q) h1
theorem dg_zero {p : Int} {a : Pz p} : dg a = 0 ↔ a = pC p 0 := by
  have e : ∀ k, (pC p 0).1 k = 0 := fun k => by rw [pC_c]; split <;> exact Int.zero_emod _
  constructor
  · intro h; exact Pz.ext fun k => by rw [dg_far a (by omega), e]
  · intro h; subst h; exact Nat.le_zero.mp (dg_le fun k _ => e k)
theorem dg_add {p : Int} (a b : Pz p) : dg (padd a b) ≤ max (dg a) (dg b) := dg_le fun k hk => by
  rw [padd_c, dg_far a (by omega), dg_far b (by omega)]; exact Int.zero_emod _
theorem dg_neg_le {p : Int} (a : Pz p) : dg (pneg a) ≤ dg a := dg_le fun k hk => by
  rw [pneg_c, dg_far a hk]; exact Int.zero_emod _
/-- the primes of the document -/
def Pr (p : Int) : Prop := p = 3 ∨ p = 5 ∨ p = 7 ∨ p = 11 ∨ p = 13
theorem Pr.pos {p : Int} (h : Pr p) : 3 ≤ p ∧ p ≤ 13 := by unfold Pr at h; omega
theorem Pr.lt {p x : Int} (h : Pr p) (e : x % p = x) : 0 ≤ x ∧ x < p := by
  have := h.pos
  rw [← e]; exact ⟨Int.emod_nonneg _ (by omega), Int.emod_lt_of_pos _ (by omega)⟩
theorem Pr.of {p x : Int} (_h : Pr p) (h0 : 0 ≤ x) (h1 : x < p) : x % p = x := Int.emod_eq_of_lt h0 h1
theorem invs3 : ∀ x : Fin 3, x.val ≠ 0 → ∃ y : Fin 3, x.val * y.val % 3 = 1 := by decide +kernel
theorem invs5 : ∀ x : Fin 5, x.val ≠ 0 → ∃ y : Fin 5, x.val * y.val % 5 = 1 := by decide +kernel
theorem invs7 : ∀ x : Fin 7, x.val ≠ 0 → ∃ y : Fin 7, x.val * y.val % 7 = 1 := by decide +kernel
theorem invs11 : ∀ x : Fin 11, x.val ≠ 0 → ∃ y : Fin 11, x.val * y.val % 11 = 1 := by decide +kernel
theorem invs13 : ∀ x : Fin 13, x.val ≠ 0 → ∃ y : Fin 13, x.val * y.val % 13 = 1 := by decide +kernel
theorem inv_of {n : Nat} (H : ∀ x : Fin n, x.val ≠ 0 → ∃ y : Fin n, x.val * y.val % n = 1) {x : Int} (h0 : 0 < x) (h1 : x < (n : Int)) : ∃ y : Int, 0 ≤ y ∧ y < (n : Int) ∧ x * y % (n : Int) = 1 := by
  obtain ⟨y, hy⟩ := H ⟨x.toNat, by omega⟩ (by show x.toNat ≠ 0; omega)
  refine ⟨y.val, by omega, by have := y.isLt; omega, ?_⟩
  have e : x = (x.toNat : Int) := by omega
  rw [e, ← Int.natCast_mul, ← Int.natCast_emod]
  exact congrArg Int.ofNat hy
theorem Pr.inv {p x : Int} (h : Pr p) (h0 : 0 < x) (h1 : x < p) : ∃ y : Int, 0 ≤ y ∧ y < p ∧ x * y % p = 1 := by
  rcases h with rfl | rfl | rfl | rfl | rfl
  · exact inv_of invs3 h0 h1
  · exact inv_of invs5 h0 h1
  · exact inv_of invs7 h0 h1
  · exact inv_of invs11 h0 h1
  · exact inv_of invs13 h0 h1
theorem Pr.mul_ne {p x y : Int} (h : Pr p) (hx : x % p ≠ 0) (hy : y % p ≠ 0) : (x * y) % p ≠ 0 := by
  have hp := h.pos
  intro e
  obtain ⟨z, -, -, hz⟩ := h.inv (x := x % p) (by have := Int.emod_nonneg x (b := p) (by omega); omega) (Int.emod_lt_of_pos _ (by omega))
  apply hy
  have h2 : (z * (x * y)) % p = (z * 0) % p := md_mul rfl (by rw [e, Int.zero_emod])
  rw [Int.mul_zero, Int.zero_emod, ← Int.mul_assoc] at h2
  have h3 : (z * x) % p = 1 % p := by
    rw [Int.mul_comm, md_mul (md_md x p).symm rfl, hz]; exact (Int.emod_eq_of_lt (by omega) (by omega)).symm
  rw [md_mul h3 rfl, Int.one_mul] at h2
  exact h2
theorem dg_mul {p : Int} (hp : Pr p) (a b : Pz p) (ha : dg a ≠ 0) (hb : dg b ≠ 0) : dg (pmul a b) + 1 = dg a + dg b := by
  have e := cv_top (dg a - 1) (dg b - 1) a.1 b.1 (fun i hi => dg_far a (by omega)) (fun i hi => dg_far b (by omega))
  have h1 : (pmul a b).1 (dg a - 1 + (dg b - 1)) ≠ 0 := by
    rw [pmul_c, e]
    exact hp.mul_ne (by rw [a.2.1]; exact dg_top a ha) (by rw [b.2.1]; exact dg_top b hb)
  have h2 := dg_eq (a := pmul a b) (n := dg a - 1 + (dg b - 1)) (fun k hk => by
    rw [pmul_c, cv_far k (dg a) (dg b) a.1 b.1 (fun i hi => dg_far a hi) (fun i hi => dg_far b hi) (by omega)]; exact Int.zero_emod _) h1
  omega
