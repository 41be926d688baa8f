/-! HOW THE GROUP IS PUT TOGETHER: the numbers, prime by prime -/
def stp (q : Nat) : Nat → Nat → Nat
  | 0, l => l
  | n + 1, l => if 1 < l ∧ l % q = 0 then stp q n (l / q) else l
def vqn (q : Nat) : Nat → Nat → Nat
  | 0, _ => 0
  | n + 1, l => if 1 < l ∧ l % q = 0 then vqn q n (l / q) + 1 else 0
theorem stp_is {q : Nat} (hq : 2 ≤ q) : ∀ n l, 0 < l → l ≤ n → l = q ^ vqn q n l * stp q n l ∧ ¬ q ∣ stp q n l ∧ 0 < stp q n l
  | 0, l, h0, h => by omega
  | n + 1, l, h0, h => by
    unfold stp vqn
    by_cases c : 1 < l ∧ l % q = 0
    · rw [if_pos c, if_pos c]
      have hd : q * (l / q) = l := Nat.mul_div_cancel' (Nat.dvd_of_mod_eq_zero c.2)
      have hlt : l / q < l := Nat.div_lt_self h0 (by omega)
      have hp0 : 0 < l / q := Nat.div_pos (Nat.le_of_dvd h0 (Nat.dvd_of_mod_eq_zero c.2)) (by omega)
      obtain ⟨a, b, d⟩ := stp_is hq n (l / q) hp0 (by omega)
      refine ⟨?_, b, d⟩
      rw [Nat.pow_succ, Nat.mul_comm (q ^ vqn q n (l / q)) q, Nat.mul_assoc, ← a, hd]
    · rw [if_neg c, if_neg c, Nat.pow_zero, Nat.one_mul]
      refine ⟨rfl, fun hd => ?_, h0⟩
      have h1 := Nat.mod_eq_zero_of_dvd hd
      have h2 := Nat.le_of_dvd h0 hd
      exact c ⟨by omega, h1⟩
def nmT (q : Nat) (T : Nat → Nat) : Nat → (Nat → Nat) → Nat → Nat
  | 0, nu => nu
  | J + 1, nu => fun k => nmT q T J nu k * (if k < T J then q else 1)
def mxT (T : Nat → Nat) : Nat → Nat → Nat
  | 0, m => m
  | J + 1, m => max (mxT T J m) (T J)
theorem nmT_more (q : Nat) (T : Nat → Nat) (nu : Nat → Nat) {v : Nat} (h : ∀ j, v ≤ j → T j = 0) : ∀ n, nmT q T (v + n) nu = nmT q T v nu
  | 0 => rfl
  | n + 1 => by
    funext k
    show nmT q T (v + n) nu k * (if k < T (v + n) then q else 1) = _
    rw [nmT_more q T nu h n, h (v + n) (by omega), if_neg (by omega), Nat.mul_one]
theorem mxT_more (T : Nat → Nat) (m : Nat) {v : Nat} (h : ∀ j, v ≤ j → T j = 0) : ∀ n, mxT T (v + n) m = mxT T v m
  | 0 => rfl
  | n + 1 => by
    show max (mxT T (v + n) m) (T (v + n)) = _
    rw [mxT_more T m h n, h (v + n) (by omega), Nat.max_zero]
theorem nm_mx {q : Nat} (hq : 2 ≤ q) (T : Nat → Nat) {nu : Nat → Nat} {m : Nat} (h : ∀ k, 0 < nu k ∧ (1 < nu k ↔ k < m)) : ∀ J k, 0 < nmT q T J nu k ∧ (1 < nmT q T J nu k ↔ k < mxT T J m)
  | 0, k => h k
  | J + 1, k => by
    obtain ⟨a, b⟩ := nm_mx hq T h J k
    show 0 < nmT q T J nu k * (if k < T J then q else 1) ∧ (1 < nmT q T J nu k * (if k < T J then q else 1) ↔ k < max (mxT T J m) (T J))
    by_cases c : k < T J
    · rw [if_pos c]
      have h1 : q ≤ nmT q T J nu k * q := Nat.le_mul_of_pos_left q a
      exact ⟨by omega, ⟨fun _ => by omega, fun _ => by omega⟩⟩
    · rw [if_neg c, Nat.mul_one]
      exact ⟨a, ⟨fun g => by have := b.mp g; omega, fun g => b.mpr (by omega)⟩⟩
theorem mxT_le {T : Nat → Nat} {B : Nat} (h : ∀ j, T j ≤ B) {m : Nat} (hm : m ≤ B) : ∀ J, mxT T J m ≤ B
  | 0 => hm
  | J + 1 => by have := mxT_le h hm J; have := h J; show max (mxT T J m) (T J) ≤ B; omega
/-- left, numbers, how many: the first n numbers from 2 on gone through -/
def gFn (TT : Nat → Nat → Nat) (h : Nat) : Nat → Nat × (Nat → Nat) × Nat
  | 0 => (h, fun _ => 1, 0)
  | n + 1 => if (gFn TT h n).1 % (n + 2) = 0 then (stp (n + 2) (gFn TT h n).1 (gFn TT h n).1, nmT (n + 2) (TT (n + 2)) (vqn (n + 2) (gFn TT h n).1 (gFn TT h n).1) (gFn TT h n).2.1, mxT (TT (n + 2)) (vqn (n + 2) (gFn TT h n).1 (gFn TT h n).1) (gFn TT h n).2.2) else gFn TT h n
theorem gFn_s (TT : Nat → Nat → Nat) (h n : Nat) : gFn TT h (n + 1) = if (gFn TT h n).1 % (n + 2) = 0 then (stp (n + 2) (gFn TT h n).1 (gFn TT h n).1, nmT (n + 2) (TT (n + 2)) (vqn (n + 2) (gFn TT h n).1 (gFn TT h n).1) (gFn TT h n).2.1, mxT (TT (n + 2)) (vqn (n + 2) (gFn TT h n).1 (gFn TT h n).1) (gFn TT h n).2.2) else gFn TT h n := rfl
def gIn (TT : Nat → Nat → Nat) (h n : Nat) : Prop := 0 < (gFn TT h n).1 ∧ (∃ c, h = (gFn TT h n).1 * c ∧ ∀ r, Prm r → n + 2 ≤ r → Nat.gcd c r = 1) ∧ ∀ d, 2 ≤ d → d < n + 2 → ¬ d ∣ (gFn TT h n).1
theorem gIn_prm {TT : Nat → Nat → Nat} {h n : Nat} (hi : gIn TT h n) (h0 : (gFn TT h n).1 % (n + 2) = 0) : Prm (n + 2) := by
  refine ⟨by omega, fun d hd => ?_⟩
  have h1 := Nat.le_of_dvd (by omega) hd
  have h2 : d ∣ (gFn TT h n).1 := Nat.dvd_trans hd (Nat.dvd_of_mod_eq_zero h0)
  rcases Nat.eq_zero_or_pos d with q | q
  · subst q; have := Nat.eq_zero_of_zero_dvd hd; omega
  · by_cases e : d = 1
    · exact Or.inl e
    · right
      false_or_by_contra
      exact hi.2.2 d (by omega) (by omega) h2
theorem prm_co {q r : Nat} (hq : Prm q) (hr : Prm r) (h : q < r) : Nat.gcd q r = 1 := by
  rcases hr.2 _ (Nat.gcd_dvd_right q r) with e | e
  · exact e
  · have := Nat.le_of_dvd (by have := hq.1; omega) (Nat.gcd_dvd_left q r); omega
theorem gIn_all (TT : Nat → Nat → Nat) {h : Nat} (hh : 0 < h) : ∀ n, gIn TT h n
  | 0 => ⟨hh, ⟨1, (Nat.mul_one h).symm, fun r _ _ => Nat.gcd_one_left r⟩, fun d h1 h2 => by omega⟩
  | n + 1 => by
    have hi := gIn_all TT hh n
    obtain ⟨i1, ⟨c, i2, i3⟩, i4⟩ := hi
    unfold gIn
    rw [gFn_s]
    by_cases q : (gFn TT h n).1 % (n + 2) = 0
    · rw [if_pos q]
      have hpr := gIn_prm ⟨i1, ⟨c, i2, i3⟩, i4⟩ q
      obtain ⟨s1, s2, s3⟩ := stp_is (q := n + 2) (by omega) _ _ i1 (Nat.le_refl _)
      refine ⟨s3, ⟨(n + 2) ^ vqn (n + 2) (gFn TT h n).1 (gFn TT h n).1 * c, ?_, fun r hr hr2 => ?_⟩, fun d d1 d2 hd => ?_⟩
      · show h = stp (n + 2) (gFn TT h n).1 (gFn TT h n).1 * ((n + 2) ^ vqn (n + 2) (gFn TT h n).1 (gFn TT h n).1 * c)
        rw [← Nat.mul_assoc, Nat.mul_comm (stp _ _ _), ← s1]; exact i2
      · have h1 := i3 r hr (by omega)
        have h2 := prm_co hpr hr (by omega)
        exact Nat.Coprime.mul_left (Nat.Coprime.pow_left _ h2) h1
      · by_cases e : d = n + 2
        · subst e; exact s2 hd
        · refine i4 d d1 (by omega) ?_
          rw [s1]; exact Nat.dvd_trans hd (Nat.dvd_mul_left _ _)
    · rw [if_neg q]
      refine ⟨i1, ⟨c, i2, fun r hr hr2 => i3 r hr (by omega)⟩, fun d d1 d2 hd => ?_⟩
      by_cases e : d = n + 2
      · subst e; exact q (Nat.mod_eq_zero_of_dvd hd)
      · exact i4 d d1 (by omega) hd
theorem gFn_one {TT : Nat → Nat → Nat} {h n : Nat} (h1 : (gFn TT h n).1 = 1) : ∀ m, gFn TT h (n + m) = gFn TT h n
  | 0 => rfl
  | m + 1 => by
    show gFn TT h (n + m + 1) = _
    rw [gFn_s, gFn_one h1 m, h1, if_neg (by rw [Nat.mod_eq_of_lt (by omega)]; omega)]
theorem gFn_end (TT : Nat → Nat → Nat) {h : Nat} (hh : 0 < h) : (gFn TT h (h - 1)).1 = 1 := by
  obtain ⟨i1, ⟨c, i2, i3⟩, i4⟩ := gIn_all TT hh (h - 1)
  have h1 : (gFn TT h (h - 1)).1 ≤ h := by
    have := Nat.le_of_dvd hh ⟨c, i2⟩; exact this
  false_or_by_contra
  exact i4 _ (by omega) (by omega) (Nat.dvd_refl _)
theorem gFn_mx (TT : Nat → Nat → Nat) (h : Nat) : ∀ n k, 0 < (gFn TT h n).2.1 k ∧ (1 < (gFn TT h n).2.1 k ↔ k < (gFn TT h n).2.2)
  | 0, k => ⟨by show 0 < 1; omega, ⟨fun g => absurd (show (1 : Nat) < 1 from g) (by omega), fun g => absurd (show k < 0 from g) (by omega)⟩⟩
  | n + 1, k => by
    have ih := gFn_mx TT h n
    rw [gFn_s]
    split
    · exact nm_mx (by omega) _ ih _ k
    · exact ih k
theorem gFn_le {TT : Nat → Nat → Nat} (h : Nat) {B : Nat} (hT : ∀ q j, TT q j ≤ B) : ∀ n, (gFn TT h n).2.2 ≤ B
  | 0 => Nat.zero_le _
  | n + 1 => by
    have ih := gFn_le h hT n
    rw [gFn_s]
    split
    · exact mxT_le (hT _) ih _
    · exact ih
/-- by how much q brings more classes to nought with one power more -/
noncomputable def tqN {G : Type} (ad : G → G → G) (z : G) (L : List G) (q j : Nat) : Nat := @dite _ (∃ t, klN ad z L (q ^ (j + 1)) = q ^ t * klN ad z L (q ^ j) ∧ q ^ t ≤ klN ad z L q) (Classical.propDecidable _) (fun h => h.choose) (fun _ => 0)
theorem tqN_is {G : Type} {ad : G → G → G} {z : G} {ng : G → G} (A : Grp G ad z ng) {L : List G} (h1 : L.Nodup) (h2 : ∀ x, x ∈ L) {q : Nat} (hq : Prm q) (j : Nat) : klN ad z L (q ^ (j + 1)) = q ^ tqN ad z L q j * klN ad z L (q ^ j) ∧ q ^ tqN ad z L q j ≤ klN ad z L q := by
  have h := killed_step A hq (j := j) (klN_is ad z h1 h2 q) (klN_is ad z h1 h2 (q ^ j)) (klN_is ad z h1 h2 (q ^ (j + 1)))
  have h' : ∃ t, klN ad z L (q ^ (j + 1)) = q ^ t * klN ad z L (q ^ j) ∧ q ^ t ≤ klN ad z L q := h
  unfold tqN
  rw [dif_pos h']
  exact h'.choose_spec
theorem klN_1 {G : Type} {ad : G → G → G} {z : G} {ng : G → G} (A : Grp G ad z ng) {L : List G} (h1 : L.Nodup) (h2 : ∀ x, x ∈ L) : klN ad z L 1 = 1 := by
  have := (klN_is ad z h1 h2 1).len (M' := [z]) ⟨by simp, fun x => by show x ∈ [z] ↔ nsm ad z 1 x = z; rw [List.mem_singleton, nsm_one A]⟩
  exact this
theorem klN_pos {G : Type} {ad : G → G → G} {z : G} {ng : G → G} (A : Grp G ad z ng) {L : List G} (h1 : L.Nodup) (h2 : ∀ x, x ∈ L) (n : Nat) : 0 < klN ad z L n := by
  have hz : z ∈ L.filter (fun x => @decide (nsm ad z n x = z) (Classical.propDecidable _)) := ((klN_is ad z h1 h2 n).2 z).mpr (nsm_z A n)
  exact List.length_pos_of_mem hz
theorem klN_le {G : Type} (ad : G → G → G) (z : G) (L : List G) (n : Nat) : klN ad z L n ≤ L.length := List.length_filter_le _ _
theorem tqN_le {G : Type} {ad : G → G → G} {z : G} {ng : G → G} (A : Grp G ad z ng) {L : List G} (h1 : L.Nodup) (h2 : ∀ x, x ∈ L) (hk : ∀ q, Prm q → klN ad z L q < q ^ 5) {q : Nat} (hq : Prm q) (j : Nat) : tqN ad z L q j ≤ 4 := by
  have h := (tqN_is A h1 h2 hq j).2
  have h3 := hk q hq
  false_or_by_contra
  have h4 : q ^ 5 ≤ q ^ tqN ad z L q j := Nat.pow_le_pow_right (by have := hq.1; omega) (by omega)
  omega
theorem tq_zero {G : Type} {ad : G → G → G} {z : G} {ng : G → G} (A : Grp G ad z ng) {L : List G} (h1 : L.Nodup) (h2 : ∀ x, x ∈ L) {n : Nat} (hi : gIn (tqN ad z L) L.length n) (h0 : (gFn (tqN ad z L) L.length n).1 % (n + 2) = 0) : ∀ j, vqn (n + 2) (gFn (tqN ad z L) L.length n).1 (gFn (tqN ad z L) L.length n).1 ≤ j → tqN ad z L (n + 2) j = 0 := by
  intro j hj
  have hpr := gIn_prm hi h0
  obtain ⟨i1, ⟨c, i2, i3⟩, i4⟩ := hi
  obtain ⟨s1, s2, s3⟩ := stp_is (q := n + 2) (by omega) _ _ i1 (Nat.le_refl _)
  generalize hv : vqn (n + 2) (gFn (tqN ad z L) L.length n).1 (gFn (tqN ad z L) L.length n).1 = v at *
  generalize hm : stp (n + 2) (gFn (tqN ad z L) L.length n).1 (gFn (tqN ad z L) L.length n).1 = m at *
  have hc := i3 (n + 2) hpr (Nat.le_refl _)
  have hmq : Nat.gcd m (n + 2) = 1 := by
    rcases hpr.2 _ (Nat.gcd_dvd_right m (n + 2)) with e | e
    · exact e
    · exact absurd (by rw [← e]; exact Nat.gcd_dvd_left m (n + 2)) s2
  have hco : Nat.gcd (m * c) (n + 2) = 1 := Nat.Coprime.mul_left hmq hc
  have hL : L.length = (n + 2) ^ v * (m * c) := by rw [i2, s1, Nat.mul_assoc]
  -- a class that a power brings to nought is brought there by the v-th
  have key : ∀ i, v ≤ i → ∀ x, nsm ad z ((n + 2) ^ i) x = z → nsm ad z ((n + 2) ^ v) x = z := fun i hvi x hx => by
    have hl := lagr A h1 h2 x
    have hg := in_gcd A (S := fun y => y = z) (fun a b ha hb => by rw [ha, hb, A.2.2.1]) (fun a ha => by
      have := A.2.2.2 a
      rw [ha, A.az] at this
      rw [ha]; exact this) rfl ((n + 2) ^ i) L.length hx hl
    have e : Nat.gcd ((n + 2) ^ i) L.length = (n + 2) ^ v := by
      rw [hL]
      have h3 : Nat.gcd (m * c) ((n + 2) ^ i) = 1 := Nat.Coprime.pow_right _ hco
      rw [Nat.Coprime.gcd_mul_right_cancel_right _ h3]
      exact Nat.gcd_eq_right (Nat.pow_dvd_pow _ hvi)
    rw [e] at hg; exact hg
  have back : ∀ i, v ≤ i → ∀ x, nsm ad z ((n + 2) ^ v) x = z → nsm ad z ((n + 2) ^ i) x = z := fun i hvi x hx => by
    obtain ⟨d, rfl⟩ : ∃ d, i = v + d := ⟨i - v, by omega⟩
    rw [Nat.pow_add, nsm_mul A, hx, nsm_z A]
  have same : ∀ i, v ≤ i → klN ad z L ((n + 2) ^ i) = klN ad z L ((n + 2) ^ v) := fun i hvi => by
    have a := klN_is ad z h1 h2 ((n + 2) ^ i)
    have b := klN_is ad z h1 h2 ((n + 2) ^ v)
    exact a.len ⟨b.1, fun x => (b.2 x).trans ⟨back i hvi x, key i hvi x⟩⟩
  have ht := (tqN_is A h1 h2 hpr j).1
  rw [same (j + 1) (by omega), same j hj] at ht
  have hp := klN_pos A h1 h2 ((n + 2) ^ v)
  false_or_by_contra
  rename_i hne
  have h5 : n + 2 ≤ (n + 2) ^ tqN ad z L (n + 2) j := by
    have := Nat.pow_le_pow_right (show 0 < n + 2 by omega) (show 1 ≤ tqN ad z L (n + 2) j by omega)
    rwa [Nat.pow_one] at this
  have h6 : 2 * klN ad z L ((n + 2) ^ v) ≤ (n + 2) ^ tqN ad z L (n + 2) j * klN ad z L ((n + 2) ^ v) := Nat.mul_le_mul_right _ (by omega)
  omega
/-- one part after the other taken off: as many as the power -/
def rlq (q : Nat) : Nat → Nat → Nat
  | 0, _ => 0
  | n + 1, r => if q ≤ r then rlq q n (r / q) + 1 else 0
