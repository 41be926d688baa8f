/-! THE MODEL'S SERIES AT A POINT: f there, the root of f there -/
theorem cv_is (a : Nat → Int) : ∀ (k : Nat) (b : Nat → Int), cv a b k = isum (fun i => a i * b (k - i)) (k + 1)
  | 0, b => by show a 0 * b 0 = 0 + a 0 * b (0 - 0); rw [Nat.sub_self]; omega
  | k + 1, b => by
    rw [cv_succ, cv_is a k (sh b)]
    show isum (fun i => a i * b (k - i + 1)) (k + 1) + a (k + 1) * b 0 = isum (fun i => a i * b (k + 1 - i)) (k + 1) + a (k + 1) * b (k + 1 - (k + 1))
    rw [Nat.sub_self, isum_cg2 (k + 1) (G := fun i => a i * b (k + 1 - i)) (fun i hi => by rw [show k - i + 1 = k + 1 - i by omega])]
def hX (x : Int) : Nat → Int := fun k => if k = 0 then x else if k = 1 then 1 else 0
theorem cv_hX (x : Int) (S : Nat → Int) : ∀ k, cv (hX x) S k = x * S k + (if k = 0 then 0 else S (k - 1))
  | 0 => by show x * S 0 = x * S 0 + 0; omega
  | k + 1 => by
    show x * S (k + 1) + cv (sh (hX x)) S k = x * S (k + 1) + S k
    have : sh (hX x) = cs 1 := funext fun i => by
      show (if i + 1 = 0 then x else if i + 1 = 1 then 1 else 0) = (if i = 0 then (1 : Int) else 0)
      rw [if_neg (by omega)]
      by_cases e : i = 0
      · rw [if_pos (by omega), if_pos e]
      · rw [if_neg (by omega), if_neg e]
    rw [this, cv_cs, Int.one_mul]
/-- f at x and more, by one number after the other -/
def hst (p x c : Int) (s : Nat → Int) : Nat → Int := fun k => (s k * x + (if k = 0 then c else s (k - 1))) % p
def hsq (p x : Int) : Nat → (Nat → Int) → Nat → Int
  | 0, _ => fun _ => 0
  | n + 1, a => hst p x (a 0) (hsq p x n (sh a))
theorem hsq_hev (p x : Int) : ∀ (n : Nat) (a : Nat → Int) (k : Nat), hsq p x n a k % p = hev (hX x) n a k % p
  | 0, a, k => rfl
  | n + 1, a, k => by
    have ih := hsq_hev p x n (sh a)
    show (hsq p x n (sh a) k * x + (if k = 0 then a 0 else hsq p x n (sh a) (k - 1))) % p % p = (cs (a 0) k + cv (hX x) (hev (hX x) n (sh a)) k) % p
    rw [md_md, cv_hX]
    by_cases e : k = 0
    · rw [if_pos e, if_pos e, e]
      show _ = (a 0 + (x * hev (hX x) n (sh a) 0 + 0)) % p
      rw [Int.add_zero, Int.add_comm (a 0), Int.mul_comm x]
      exact md_add (md_mul (ih 0) rfl) rfl
    · rw [if_neg e, if_neg e]
      have : cs (a 0) k = 0 := by unfold cs; rw [if_neg e]
      rw [this, Int.zero_add, Int.mul_comm x]
      exact md_add (md_mul (ih k) rfl) (ih (k - 1))
theorem hsq_rg {p : Int} (hp : Pr p) (x : Int) : ∀ (n : Nat) (a : Nat → Int) (k : Nat), 0 ≤ hsq p x n a k ∧ hsq p x n a k < p
  | 0, a, k => by have := hp.pos; show (0 : Int) ≤ 0 ∧ (0 : Int) < p; omega
  | n + 1, a, k => by have := hp.pos; exact ⟨Int.emod_nonneg _ (by omega), Int.emod_lt_of_pos _ (by omega)⟩
theorem hsq_far (p x : Int) : ∀ (n : Nat) (a : Nat → Int) (k : Nat), n ≤ k → hsq p x n a k = 0
  | 0, a, k, _ => rfl
  | n + 1, a, k, h => by
    show (hsq p x n (sh a) k * x + (if k = 0 then a 0 else hsq p x n (sh a) (k - 1))) % p = 0
    rw [if_neg (by omega), hsq_far p x n (sh a) k (by omega), hsq_far p x n (sh a) (k - 1) (by omega), Int.zero_mul, Int.add_zero, Int.zero_emod]
theorem sv_hsq {p : Int} (hp : Pr p) (x : Int) (f : Pz p) (k : Nat) : (sv (hX x) f).1 k = hsq p x (dg f) f.1 k := by
  have r := hsq_rg hp x (dg f) f.1 k
  show hev (hX x) (dg f) f.1 k % p = _
  rw [← hsq_hev, Int.emod_eq_of_lt r.1 r.2]
/-- the root, one coefficient after the other -/
def yS (y : Nat → Int) (k i : Nat) : Int := isum (fun j => if j = 0 then 0 else y j * y (k - j)) i
def yT (p : Int) (F : Nat → Int) (y0 b : Int) : Nat → Nat → Int
  | 0 => fun j => if j = 0 then y0 else 0
  | k + 1 => fun j => if j = k + 1 then ((F (k + 1) - yS (yT p F y0 b k) (k + 1) (k + 1)) % p * b) % p else yT p F y0 b k j
theorem yT_far (p : Int) (F : Nat → Int) (y0 b : Int) : ∀ k j, k < j → yT p F y0 b k j = 0
  | 0, j, h => by show (if j = 0 then y0 else 0) = 0; rw [if_neg (by omega)]
  | k + 1, j, h => by
    show (if j = k + 1 then _ else yT p F y0 b k j) = 0
    rw [if_neg (by omega)]; exact yT_far p F y0 b k j (by omega)
theorem yT_rg {p : Int} (hp : Pr p) (F : Nat → Int) {y0 : Int} (b : Int) (hy : 0 ≤ y0 ∧ y0 < p) : ∀ k j, 0 ≤ yT p F y0 b k j ∧ yT p F y0 b k j < p
  | 0, j => by have := hp.pos; show 0 ≤ (if j = 0 then y0 else 0) ∧ (if j = 0 then y0 else 0) < p; split <;> omega
  | k + 1, j => by
    have := hp.pos
    show 0 ≤ (if j = k + 1 then _ else yT p F y0 b k j) ∧ (if j = k + 1 then _ else yT p F y0 b k j) < p
    split
    · exact ⟨Int.emod_nonneg _ (by omega), Int.emod_lt_of_pos _ (by omega)⟩
    · exact yT_rg hp F b hy k j
theorem yT_up (p : Int) (F : Nat → Int) (y0 b : Int) (k j : Nat) (h : j ≤ k) : ∀ n, yT p F y0 b (k + n) j = yT p F y0 b k j
  | 0 => rfl
  | n + 1 => by
    show (if j = k + n + 1 then _ else yT p F y0 b (k + n) j) = _
    rw [if_neg (by omega)]; exact yT_up p F y0 b k j h n
theorem yT_at (p : Int) (F : Nat → Int) (y0 b : Int) (k n : Nat) : yT p F y0 b (k + 1 + n) (k + 1) = ((F (k + 1) - yS (yT p F y0 b (k + 1 + n)) (k + 1) (k + 1)) % p * b) % p := by
  rw [yT_up p F y0 b (k + 1) (k + 1) (Nat.le_refl _) n]
  show (if k + 1 = k + 1 then _ else _) = _
  rw [if_pos rfl]
  have : yS (yT p F y0 b k) (k + 1) (k + 1) = yS (yT p F y0 b (k + 1 + n)) (k + 1) (k + 1) := isum_cg2 _ (fun j hj => by
    by_cases e : j = 0
    · rw [if_pos e, if_pos e]
    · rw [if_neg e, if_neg e]
      have u1 := yT_up p F y0 b k j (by omega) (1 + n)
      have u2 := yT_up p F y0 b k (k + 1 - j) (by omega) (1 + n)
      rw [← Nat.add_assoc] at u1 u2
      rw [u1, u2])
  rw [this]
theorem yS_cv (y : Nat → Int) (k : Nat) : cv y y (k + 1) = y 0 * y (k + 1) + y (k + 1) * y 0 + yS y (k + 1) (k + 1) := by
  rw [cv_is]
  show isum (fun i => y i * y (k + 1 - i)) (k + 1) + y (k + 1) * y (k + 1 - (k + 1)) = _
  rw [Nat.sub_self, isum_hd, show k + 1 - 0 = k + 1 from rfl]
  unfold yS
  rw [isum_hd (fun j => if j = 0 then 0 else y j * y (k + 1 - j)), if_pos rfl]
  have : isum (fun i => y (i + 1) * y (k + 1 - (i + 1))) k = isum (fun i => if i + 1 = 0 then 0 else y (i + 1) * y (k + 1 - (i + 1))) k := isum_cg2 _ (fun i _ => by rw [if_neg (by omega)])
  rw [this]; omega
/-- what the model finds at a point -/
def ExA {p : Int} (f : Pz p) (q : Int × Int) (N : Mem) (X : Nat → Int) (Y : Sz p) : Prop := (∀ k : Nat, k < 8 → N 209 (k : Int) = X k ∧ 0 ≤ X k ∧ X k < p ∧ N 210 (k : Int) = Y.1 k) ∧ X 0 = q.1 ∧ ((0 < q.2 ∧ X 1 % p ≠ 0 ∧ Y.1 0 = q.2 ∧ Lo 8 (sadd (sv X f) (sneg (smul Y Y)))) ∨ (q.2 = 0 ∧ X 1 % p = 0 ∧ X 2 % p ≠ 0 ∧ Y.1 0 = 0 ∧ Y.1 1 ≠ 0))
theorem yT_lo {p : Int} (hp : Pr p) {f : Pz p} {q : Int × Int} (hq : OnC f q) (h0 : 0 < q.2) (m : Nat) : Lo (m + 1) (sadd (sv (hX q.1) f) (sneg (smul (smk p (yT p (hsq p q.1 (dg f) f.1) q.2 (pinv p (2 * q.2 % p)) m)) (smk p (yT p (hsq p q.1 (dg f) f.1) q.2 (pinv p (2 * q.2 % p)) m))))) := fun k hk => by
  have hpp := hp.pos
  rw [sadd_c, sneg_c, smul_c, sv_hsq hp]
  generalize hF : hsq p q.1 (dg f) f.1 = F
  have e0 : F 0 = q.2 * q.2 % p := by
    rw [← hF, ← sv_hsq hp, sv_0]
    exact hq.2.2.2.2.symm
  have hn : (2 * q.2) % p ≠ 0 := hp.mul_ne (by rw [Int.emod_eq_of_lt (by omega) (by omega)]; omega) (by rw [Int.emod_eq_of_lt hq.2.2.1 hq.2.2.2.1]; omega)
  have hnn := Int.emod_nonneg (2 * q.2) (b := p) (by omega)
  have hi := (pinv_ok hp (x := 2 * q.2 % p) (by omega) (Int.emod_lt_of_pos _ (by omega))).1
  generalize hb : pinv p (2 * q.2 % p) = b at *
  generalize hy : yT p F q.2 b m = y
  have ec : cv (smk p y).1 (smk p y).1 k % p = cv y y k % p := cv_md k p _ _ _ _ (fun i => md_md _ _) (fun i => md_md _ _)
  have key : cv y y k % p = F k % p := by
    match k, hk with
    | 0, _ =>
      show y 0 * y 0 % p = F 0 % p
      have : y 0 = q.2 := by
        rw [← hy]
        have := yT_up p F q.2 b 0 0 (Nat.le_refl _) m
        rw [Nat.zero_add] at this
        rw [this]; rfl
      rw [this, e0, md_md]
    | k + 1, hk =>
      have y0 : y 0 = q.2 := by
        rw [← hy]
        have := yT_up p F q.2 b 0 0 (Nat.le_refl _) m
        rw [Nat.zero_add] at this
        rw [this]; rfl
      have yk : y (k + 1) = ((F (k + 1) - yS y (k + 1) (k + 1)) % p * b) % p := by
        obtain ⟨n, rfl⟩ : ∃ n, m = k + 1 + n := ⟨m - (k + 1), by omega⟩
        rw [← hy]; exact yT_at p F q.2 b k n
      rw [yS_cv, y0]
      have e1 : (q.2 * y (k + 1) + y (k + 1) * q.2) % p = (F (k + 1) - yS y (k + 1) (k + 1)) % p := by
        have s1 : q.2 * y (k + 1) + y (k + 1) * q.2 = 2 * q.2 * y (k + 1) := by
          rw [Int.mul_comm (y (k + 1)) q.2, Int.mul_assoc]; omega
        rw [s1, yk]
        have s2 : 2 * q.2 * (((F (k + 1) - yS y (k + 1) (k + 1)) % p * b) % p) % p = (2 * q.2 % p) * ((F (k + 1) - yS y (k + 1) (k + 1)) * b) % p := md_mul (md_md _ _).symm ((md_md _ _).trans (md_mul (md_md _ _) rfl))
        rw [s2]
        have s3 : (2 * q.2 % p) * ((F (k + 1) - yS y (k + 1) (k + 1)) * b) = (2 * q.2 % p * b) * (F (k + 1) - yS y (k + 1) (k + 1)) := by
          rw [Int.mul_comm (F (k + 1) - yS y (k + 1) (k + 1)) b, ← Int.mul_assoc]
        rw [s3, md_mul (a' := 1) (b' := F (k + 1) - yS y (k + 1) (k + 1)) (by rw [hi]; exact (Int.emod_eq_of_lt (by omega) (by omega)).symm) rfl, Int.one_mul]
      rw [md_add e1 rfl, Int.sub_add_cancel]
  rw [md_add (b' := -F k) rfl ((md_md _ _).trans ((md_neg ((md_md _ _).trans (ec.trans key))))), Int.add_right_neg, Int.zero_emod]
