/-! ROWS BY P: division, rows with 1 highest, what is asked of a ring of rows; values -/
def pM (p c : Int) (s : Nat) : Pz p := pmk p (fun k => if k = s then c else 0) ⟨s + 1, fun k hk => if_neg (by omega)⟩
theorem pM_c (p c : Int) (s k : Nat) : (pM p c s).1 k = (if k = s then c else 0) % p := rfl
theorem cv_M : ∀ (s : Nat) (c : Int) (b : Nat → Int) (k : Nat), cv (fun i => if i = s then c else 0) b k = if s ≤ k then c * b (k - s) else 0
  | 0, c, b, 0 => by simp [cv]
  | 0, c, b, k + 1 => by
    have h : cv (sh fun i => if i = 0 then c else 0) b k = 0 := cv_zero_l k _ _ (fun i => by show (if i + 1 = 0 then c else 0) = 0; exact if_neg (Nat.succ_ne_zero i))
    show (if (0 : Nat) = 0 then c else 0) * b (k + 1) + cv (sh fun i => if i = 0 then c else 0) b k = _
    rw [h]; simp
  | s + 1, c, b, 0 => by
    show (if (0 : Nat) = s + 1 then c else 0) * b 0 = _
    rw [if_neg (by omega), if_neg (by omega), Int.zero_mul]
  | s + 1, c, b, k + 1 => by
    have e : (sh fun i => if i = s + 1 then c else 0) = fun i => if i = s then c else 0 := funext fun i => by
      show (if i + 1 = s + 1 then c else 0) = _
      by_cases h : i = s
      · rw [if_pos h, if_pos (by omega)]
      · rw [if_neg h, if_neg (by omega)]
    show (if (0 : Nat) = s + 1 then c else 0) * b (k + 1) + cv (sh fun i => if i = s + 1 then c else 0) b k = _
    rw [e, cv_M s c b k, if_neg (by omega), Int.zero_mul, Int.zero_add]
    by_cases h : s ≤ k
    · rw [if_pos h, if_pos (by omega), show k + 1 - (s + 1) = k - s by omega]
    · rw [if_neg h, if_neg (by omega)]
theorem pM_mul {p : Int} (c : Int) (s : Nat) (b : Pz p) (k : Nat) : (pmul (pM p c s) b).1 k = (if s ≤ k then c * b.1 (k - s) else 0) % p := by
  rw [pmul_c, cv_md k p (pM p c s).1 (fun i => if i = s then c else 0) b.1 b.1 (fun i => by rw [pM_c]; exact md_md _ _) (fun i => rfl), cv_M]
theorem psub_c {p : Int} (a b : Pz p) (k : Nat) : (padd a (pneg b)).1 k = (a.1 k - b.1 k) % p := by
  rw [padd_c, pneg_c, md_add (b := -b.1 k % p) rfl (md_md _ _), Int.sub_eq_add_neg]
theorem dg_neg {p : Int} (a : Pz p) : dg (pneg a) = dg a := by
  refine Nat.le_antisymm (dg_neg_le a) ?_
  have h := dg_neg_le (pneg a)
  have e : pneg (pneg a) = a := Pz.ext fun k => by
    rw [pneg_c, pneg_c, md_neg (md_md _ _), Int.neg_neg]; exact a.2.1 k
  rwa [e] at h
theorem pdiv {p : Int} (hp : Pr p) (b : Pz p) (hb : dg b ≠ 0) : ∀ (n : Nat) (a : Pz p), dg a ≤ n → ∃ q r, a = padd (pmul b q) r ∧ dg r < dg b
  | 0, a, h => ⟨pC p 0, a, by
      have e : pmul b (pC p 0) = pC p 0 := (pmul_comm _ _).trans (pC_zero_mul b)
      rw [e, padd_comm, pC_zero_add], by omega⟩
  | n + 1, a, h => by
    by_cases hl : dg a < dg b
    · exact ⟨pC p 0, a, by
        have e : pmul b (pC p 0) = pC p 0 := (pmul_comm _ _).trans (pC_zero_mul b)
        rw [e, padd_comm, pC_zero_add], hl⟩
    · have ha : dg a ≠ 0 := by omega
      have hbt := hp.lt (b.2.1 (dg b - 1))
      obtain ⟨y, -, -, hy⟩ := hp.inv (x := b.1 (dg b - 1)) (by have := dg_top b hb; omega) hbt.2
      have hd : dg (padd a (pneg (pmul (pM p (a.1 (dg a - 1) * y) (dg a - dg b)) b))) ≤ n := dg_le fun k hk => by
        rw [psub_c, pM_mul, md_sub rfl (md_md _ _)]
        by_cases e : k = dg a - 1
        · subst e
          rw [if_pos (by omega), show dg a - 1 - (dg a - dg b) = dg b - 1 by omega, Int.mul_assoc, Int.mul_comm y]
          have : a.1 (dg a - 1) * (b.1 (dg b - 1) * y) % p = a.1 (dg a - 1) % p := by
            rw [md_mul rfl (hy.trans (Int.emod_eq_of_lt (by omega) (by have := hp.pos; omega)).symm), Int.mul_one]
          rw [md_sub rfl this, Int.sub_self]; exact Int.zero_emod _
        · rw [dg_far a (by omega)]
          by_cases q : dg a - dg b ≤ k
          · rw [if_pos q, dg_far b (by omega), Int.mul_zero, Int.sub_self]; exact Int.zero_emod _
          · rw [if_neg q, Int.sub_self]; exact Int.zero_emod _
      obtain ⟨q, r, e, hr⟩ := pdiv hp b hb n _ hd
      refine ⟨padd q (pM p (a.1 (dg a - 1) * y) (dg a - dg b)), r, ?_, hr⟩
      generalize pM p (a.1 (dg a - 1) * y) (dg a - dg b) = m at e
      have e2 : a = padd (padd a (pneg (pmul m b))) (pmul m b) := by
        rw [padd_assoc, pneg_add, pC_zero_add]
      rw [e2, e, pmul_comm b (padd q m), padd_mul, pmul_comm q b, padd_assoc, padd_assoc, padd_comm r]
def pmo {p : Int} (a : Pz p) : Prop := dg a ≠ 0 ∧ a.1 (dg a - 1) = 1
theorem dg_C {p c : Int} (h : c % p ≠ 0) : dg (pC p c) = 1 := dg_eq (n := 0) (fun k hk => by rw [pC_c, if_neg (by omega)]; exact Int.zero_emod _) (by rw [pC_c, if_pos rfl]; exact h)
theorem dg_1 {p : Int} {a : Pz p} (h : dg a = 1) : a = pC p (a.1 0) := Pz.ext fun k => by
  rw [pC_c]
  by_cases e : k = 0
  · subst e; rw [if_pos rfl]; exact (a.2.1 0).symm
  · rw [if_neg e, dg_far a (by omega)]; exact (Int.zero_emod _).symm
theorem pC_pC {p : Int} (c d : Int) : pmul (pC p c) (pC p d) = pC p (c * d) := Pz.ext fun k => by
  rw [pC_mul, pC_c, pC_c, md_mul (p := p) rfl (md_md _ _)]
  congr 1; split
  · rfl
  · rw [Int.mul_zero]
theorem dg_Cmul {p : Int} (hp : Pr p) {c : Int} (hc : c % p ≠ 0) (a : Pz p) : dg (pmul (pC p c) a) = dg a := by
  by_cases h : dg a = 0
  · have := dg_zero.mp h
    subst this
    rw [pmul_comm, pC_zero_mul]
  · have := dg_mul hp (pC p c) a (by rw [dg_C hc]; omega) h
    rw [dg_C hc] at this; omega
theorem Euc_Pz {p : Int} (hp : Pr p) : @Euc (Pz p) (pring p) dg pmo := by
  have hpos := hp.pos
  have h1 : (1 : Int) % p = 1 := Int.emod_eq_of_lt (by omega) (by omega)
  have hinv : ∀ a : Pz p, dg a ≠ 0 → ∃ y : Int, y % p ≠ 0 ∧ a.1 (dg a - 1) * y % p = 1 := fun a ha => by
    have hbt := hp.lt (a.2.1 (dg a - 1))
    obtain ⟨y, y0, y1, hy⟩ := hp.inv (x := a.1 (dg a - 1)) (by have := dg_top a ha; omega) hbt.2
    refine ⟨y, fun e => ?_, hy⟩
    rw [md_mul (p := p) (b' := 0) rfl (by rw [e, Int.zero_emod]), Int.mul_zero, Int.zero_emod] at hy
    omega
  refine ⟨fun a => dg_zero, dg_add, dg_neg, dg_mul hp, fun a b hb => pdiv hp b hb _ a (Nat.le_refl _), fun a ha => ?_, ⟨pC p ((p + 1) / 2), ?_⟩, dg_C (by show (1 : Int) % p ≠ 0; omega), fun a b ha hb hab hba => ?_, fun a ha => ?_, fun a ha e => ha.1 (dg_zero.mpr e)⟩
  · obtain ⟨y, -, hy⟩ := hinv a (by omega)
    refine ⟨pC p y, ?_⟩
    show pmul a (pC p y) = pC p 1
    rw [dg_1 ha, pC_pC]
    rw [ha] at hy
    exact Pz.ext fun k => by
      rw [pC_c, pC_c]
      by_cases e : k = 0
      · rw [if_pos e, if_pos e, hy, h1]
      · rw [if_neg e, if_neg e]
  · show padd (pC p ((p + 1) / 2)) (pC p ((p + 1) / 2)) = pC p 1
    rw [← pC_add]
    exact Pz.ext fun k => by
      rw [pC_c, pC_c]
      by_cases e : k = 0
      · rw [if_pos e, if_pos e]
        rcases hp with rfl | rfl | rfl | rfl | rfl <;> decide
      · rw [if_neg e, if_neg e]
  · obtain ⟨c, hc⟩ := hab
    obtain ⟨d, hd⟩ := hba
    replace hc : b = pmul a c := hc
    replace hd : a = pmul b d := hd
    have c0 : dg c ≠ 0 := fun e => hb.1 (by rw [hc, dg_zero.mp e, pmul_comm, pC_zero_mul]; exact dg_zero.mpr rfl)
    have d0 : dg d ≠ 0 := fun e => ha.1 (by rw [hd, dg_zero.mp e, pmul_comm, pC_zero_mul]; exact dg_zero.mpr rfl)
    have m1 := dg_mul hp a c ha.1 c0
    have m2 := dg_mul hp b d hb.1 d0
    rw [← hc] at m1
    rw [← hd] at m2
    have hc1 : dg c = 1 := by omega
    have hdab : dg b = dg a := by omega
    have e : b.1 (dg b - 1) = (a.1 (dg a - 1) * c.1 0) % p := by
      have e2 : b = pmul (pC p (c.1 0)) a := hc.trans ((pmul_comm a c).trans (congrArg (fun z => pmul z a) (dg_1 hc1)))
      rw [hdab]
      have e3 : b.1 (dg a - 1) = (pmul (pC p (c.1 0)) a).1 (dg a - 1) := by rw [← e2]
      rw [e3, pC_mul, Int.mul_comm]
    rw [hb.2, ha.2, Int.one_mul, c.2.1] at e
    rw [hc, dg_1 hc1, ← e, pmul_comm, pC_one_mul]
  · obtain ⟨y, y0, hy⟩ := hinv a (fun e => ha (dg_zero.mp e))
    have hd0 : dg a ≠ 0 := fun e => ha (dg_zero.mp e)
    have hy2 : (y * a.1 (dg a - 1)) % p = 1 := by rw [Int.mul_comm]; exact hy
    refine ⟨pC p y, pC p (a.1 (dg a - 1)), ?_, ?_⟩
    · show pmul (pC p y) (pC p (a.1 (dg a - 1))) = pC p 1
      rw [pC_pC]
      exact Pz.ext fun k => by
        rw [pC_c, pC_c]
        by_cases e : k = 0
        · rw [if_pos e, if_pos e, hy2, h1]
        · rw [if_neg e, if_neg e]
    · show pmo (pmul a (pC p y))
      rw [pmul_comm]
      have e := dg_Cmul hp y0 a
      exact ⟨by rw [e]; exact hd0, by rw [e, pC_mul]; exact hy2⟩
/-! values of rows -/
def ev (x : Int) : Nat → (Nat → Int) → Int
  | 0, _ => 0
  | n + 1, a => a 0 + x * ev x n (sh a)
theorem ev_far (x : Int) : ∀ (n m : Nat) (a : Nat → Int), (∀ k, n ≤ k → a k = 0) → n ≤ m → ev x m a = ev x n a
  | 0, 0, a, h, _ => rfl
  | 0, m + 1, a, h, _ => by
    show a 0 + x * ev x m (sh a) = 0
    rw [ev_far x 0 m (sh a) (fun k _ => h (k + 1) (by omega)) (by omega), h 0 (by omega)]
    show 0 + x * 0 = (0 : Int); omega
  | n + 1, 0, a, h, hm => by omega
  | n + 1, m + 1, a, h, hm => by
    show a 0 + x * ev x m (sh a) = a 0 + x * ev x n (sh a)
    rw [ev_far x n m (sh a) (fun k hk => h (k + 1) (by omega)) (by omega)]
theorem ev_add (x : Int) : ∀ (n : Nat) (a b : Nat → Int), ev x n (fun k => a k + b k) = ev x n a + ev x n b
  | 0, a, b => rfl
  | n + 1, a, b => by
    have h := ev_add x n (sh a) (sh b)
    show (a 0 + b 0) + x * ev x n (fun k => sh a k + sh b k) = (a 0 + x * ev x n (sh a)) + (b 0 + x * ev x n (sh b))
    rw [h, Int.mul_add]; omega
theorem ev_smul (x c : Int) : ∀ (n : Nat) (a : Nat → Int), ev x n (fun k => c * a k) = c * ev x n a
  | 0, a => by show (0 : Int) = c * 0; rw [Int.mul_zero]
  | n + 1, a => by
    have h := ev_smul x c n (sh a)
    show c * a 0 + x * ev x n (fun k => c * sh a k) = c * (a 0 + x * ev x n (sh a))
    rw [h, Int.mul_add, ← Int.mul_assoc, ← Int.mul_assoc, Int.mul_comm x c]
theorem ev_md (x p : Int) : ∀ (n : Nat) (a b : Nat → Int), (∀ k, a k % p = b k % p) → ev x n a % p = ev x n b % p
  | 0, a, b, h => rfl
  | n + 1, a, b, h => md_add (h 0) (md_mul rfl (ev_md x p n (sh a) (sh b) (fun k => h (k + 1))))
theorem ev_cv (x : Int) : ∀ (n m : Nat) (a b : Nat → Int), (∀ k, n ≤ k → a k = 0) → (∀ k, m ≤ k → b k = 0) → ev x (n + m) (cv a b) = ev x n a * ev x m b
  | 0, m, a, b, ha, hb => by
    have e : cv a b = fun _ => 0 := funext fun k => cv_zero_l k a b (fun i => ha i (by omega))
    rw [e, ev_far x 0 (0 + m) (fun _ => 0) (fun _ _ => rfl) (by omega)]
    show (0 : Int) = 0 * _; rw [Int.zero_mul]
  | n + 1, m, a, b, ha, hb => by
    have h := ev_cv x n m (sh a) b (fun k hk => ha (k + 1) (by omega)) hb
    have e : ev x (n + 1 + m) (cv a b) = a 0 * ev x (n + 1 + m) b + x * ev x (n + m) (cv (sh a) b) := by
      rw [show n + 1 + m = (n + m) + 1 by omega]
      show a 0 * b 0 + x * ev x (n + m) (sh (cv a b)) = a 0 * (b 0 + x * ev x (n + m) (sh b)) + x * ev x (n + m) (cv (sh a) b)
      have e2 : sh (cv a b) = fun k => (fun i => a 0 * sh b i) k + cv (sh a) b k := rfl
      rw [e2, ev_add, ev_smul, Int.mul_add, Int.mul_add, ← Int.mul_assoc, ← Int.mul_assoc, Int.mul_comm x (a 0), Int.add_assoc]
    rw [e, h, ev_far x m (n + 1 + m) b hb (by omega)]
    show _ = (a 0 + x * ev x n (sh a)) * ev x m b
    rw [Int.add_mul, Int.mul_assoc]
/-- the value of a row -/
noncomputable def pev {p : Int} (a : Pz p) (x : Int) : Int := ev x (dg a) a.1 % p
theorem pev_n {p : Int} (a : Pz p) (x : Int) {n : Nat} (h : dg a ≤ n) : pev a x = ev x n a.1 % p := by
  unfold pev; rw [ev_far x (dg a) n a.1 (fun k hk => dg_far a hk) h]
theorem pev_add {p : Int} (a b : Pz p) (x : Int) : pev (padd a b) x = (pev a x + pev b x) % p := by
  have h := dg_add a b
  rw [pev_n (padd a b) x (n := max (dg a) (dg b)) h, pev_n a x (n := max (dg a) (dg b)) (by omega), pev_n b x (n := max (dg a) (dg b)) (by omega)]
  rw [ev_md x p _ (padd a b).1 (fun k => a.1 k + b.1 k) (fun k => md_md _ _), ev_add]
  exact (md_add (md_md _ _) (md_md _ _)).symm
theorem pev_mul {p : Int} (a b : Pz p) (x : Int) : pev (pmul a b) x = (pev a x * pev b x) % p := by
  have h : dg (pmul a b) ≤ dg a + dg b := dg_le fun k hk => by
    rw [pmul_c, cv_far k (dg a) (dg b) a.1 b.1 (fun i hi => dg_far a hi) (fun i hi => dg_far b hi) (by omega)]; exact Int.zero_emod _
  rw [pev_n (pmul a b) x h, ev_md x p _ (pmul a b).1 (cv a.1 b.1) (fun k => md_md _ _), ev_cv x (dg a) (dg b) a.1 b.1 (fun i hi => dg_far a hi) (fun i hi => dg_far b hi)]
  exact (md_mul (md_md _ _) (md_md _ _)).symm
theorem pev_neg {p : Int} (a : Pz p) (x : Int) : pev (pneg a) x = (-pev a x) % p := by
  rw [pev_n (pneg a) x (n := dg a) (dg_neg_le a), ev_md x p _ (pneg a).1 (fun k => (-1) * a.1 k) (fun k => by rw [pneg_c, md_md, Int.neg_one_mul]), ev_smul, Int.neg_one_mul]
  exact (md_neg (md_md _ _)).symm
theorem pev_C {p : Int} (c x : Int) : pev (pC p c) x = c % p := by
  rw [pev_n (pC p c) x (n := 1) (dg_le fun k hk => by rw [pC_c, if_neg (by omega)]; exact Int.zero_emod _)]
  show ((pC p c).1 0 + x * 0) % p = c % p
  rw [Int.mul_zero, Int.add_zero, pC_c, if_pos rfl, md_md]
