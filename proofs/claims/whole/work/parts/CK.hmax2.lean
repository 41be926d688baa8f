/-! THE CLASS NUMBER IS 450 AT MOST: what the search says -/
theorem S13_all {v0 : Nat} (h : v0 < 13) : S13 v0 = true := by
  have : v0 = 0 ∨ v0 = 1 ∨ v0 = 2 ∨ v0 = 3 ∨ v0 = 4 ∨ v0 = 5 ∨ v0 = 6 ∨ v0 = 7 ∨ v0 = 8 ∨ v0 = 9 ∨ v0 = 10 ∨ v0 = 11 ∨ v0 = 12 := by omega
  rcases this with rfl | rfl | rfl | rfl | rfl | rfl | rfl | rfl | rfl | rfl | rfl | rfl | rfl
  · exact S13_0
  · exact S13_1
  · exact S13_2
  · exact S13_3
  · exact S13_4
  · exact S13_5
  · exact S13_6
  · exact S13_7
  · exact S13_8
  · exact S13_9
  · exact S13_10
  · exact S13_11
  · exact S13_12
theorem blt_no {d : Nat} (h : d ≤ 2) : Nat.blt 2 d = false := by
  have : d = 0 ∨ d = 1 ∨ d = 2 := by omega
  rcases this with rfl | rfl | rfl <;> rfl
theorem nsum_mono (E : Nat → Nat) {m : Nat} : ∀ n, nsum E m ≤ nsum E (m + n)
  | 0 => Nat.le_refl _
  | n + 1 => by
    have := nsum_mono E (m := m) n
    show nsum E m ≤ nsum E (m + n) + E (m + n)
    omega
theorem tl13_is {v : Nat → Nat} {F : Nat → Bool} (hv : ∀ i, i < 8 → v (i + 5) = nx5 (v i) (v (i + 1)) (v (i + 2)) (v (i + 3)) (v (i + 4))) (ht : nsum (fun i => q13 (v i)) 13 ≤ 2) : ∀ k i, i + k = 8 → tl13 F k (v i) (v (i + 1)) (v (i + 2)) (v (i + 3)) (v (i + 4)) (nsum (fun i => q13 (v i)) (i + 5)) = true → F (nsum (fun i => q13 (v i)) 13) = true
  | 0, i, hi, h => by
    obtain rfl : i = 8 := by omega
    exact h
  | k + 1, i, hi, h => by
    have h2 : frc (nx5 (v i) (v (i + 1)) (v (i + 2)) (v (i + 3)) (v (i + 4))) (fun n => frc (nsum (fun i => q13 (v i)) (i + 5) + q13 n) (fun d2 => bif Nat.blt 2 d2 then true else tl13 F k (v (i + 1)) (v (i + 2)) (v (i + 3)) (v (i + 4)) n d2)) = true := h
    rw [frc_is, frc_is, ← hv i (by omega)] at h2
    have e : nsum (fun i => q13 (v i)) (i + 5) + q13 (v (i + 5)) = nsum (fun i => q13 (v i)) (i + 1 + 5) := by
      rw [show i + 1 + 5 = (i + 5) + 1 by omega]; rfl
    rw [e] at h2
    have hm := nsum_mono (fun i => q13 (v i)) (m := i + 1 + 5) (13 - (i + 6))
    rw [show i + 1 + 5 + (13 - (i + 6)) = 13 by omega] at hm
    rw [blt_no (by omega)] at h2
    exact tl13_is hv ht k (i + 1) (by omega) h2
theorem s13_is {v : Nat → Nat} (h13 : ∀ i, v i < 13) (hv : ∀ i, i < 8 → v (i + 5) = nx5 (v i) (v (i + 1)) (v (i + 2)) (v (i + 3)) (v (i + 4))) (ht : nsum (fun i => q13 (v i)) 13 ≤ 2) : fin13 (v 0) (v 1) (v 2) (v 3) (v 4) (nsum (fun i => q13 (v i)) 13) = true := by
  have h := S13_all (h13 0)
  unfold S13 at h
  have m := fun k (hk : k ≤ 13) => (by
    have := nsum_mono (fun i => q13 (v i)) (m := k) (13 - k)
    rw [show k + (13 - k) = 13 by omega] at this
    omega : nsum (fun i => q13 (v i)) k ≤ 2)
  have e2 : nsum (fun i => q13 (v i)) 2 = q13 (v 0) + q13 (v 1) := by show 0 + q13 (v 0) + q13 (v 1) = _; omega
  have e3 : nsum (fun i => q13 (v i)) 3 = q13 (v 0) + q13 (v 1) + q13 (v 2) := by show nsum (fun i => q13 (v i)) 2 + q13 (v 2) = _; rw [e2]
  have e4 : nsum (fun i => q13 (v i)) 4 = q13 (v 0) + q13 (v 1) + q13 (v 2) + q13 (v 3) := by show nsum (fun i => q13 (v i)) 3 + q13 (v 3) = _; rw [e3]
  have e5 : nsum (fun i => q13 (v i)) 5 = q13 (v 0) + q13 (v 1) + q13 (v 2) + q13 (v 3) + q13 (v 4) := by show nsum (fun i => q13 (v i)) 4 + q13 (v 4) = _; rw [e4]
  have m2 := m 2 (by omega)
  have m3 := m 3 (by omega)
  have m4 := m 4 (by omega)
  have m5 := m 5 (by omega)
  rw [e2] at m2
  rw [e3] at m3
  rw [e4] at m4
  rw [e5] at m5
  have h1 := List.all_eq_true.mp h (v 1) (List.mem_range.mpr (h13 1))
  rw [frc_is, blt_no m2] at h1
  have h2 := List.all_eq_true.mp h1 (v 2) (List.mem_range.mpr (h13 2))
  rw [frc_is, blt_no m3] at h2
  have h3 := List.all_eq_true.mp h2 (v 3) (List.mem_range.mpr (h13 3))
  rw [frc_is, blt_no m4] at h3
  have h4 := List.all_eq_true.mp h3 (v 4) (List.mem_range.mpr (h13 4))
  rw [frc_is, blt_no m5] at h4
  refine tl13_is hv ht 8 0 rfl ?_
  rw [show nsum (fun i => q13 (v i)) (0 + 5) = q13 (v 0) + q13 (v 1) + q13 (v 2) + q13 (v 3) + q13 (v 4) from e5]
  exact h4
def czN (l : List Nat) (L : List (Nat × Nat)) : Nat := L.foldr (fun x n => (if ztN l x.1 x.2 = true then 1 else 0) + n) 0
theorem zcN_le (l : List Nat) : ∀ (L : List (Nat × Nat)) (n : Nat), zcN l n L = true → n ≤ czN l L
  | _, 0, _ => Nat.zero_le _
  | [], n + 1, h => by cases h
  | x :: L, n + 1, h => by
    show n + 1 ≤ (if ztN l x.1 x.2 = true then 1 else 0) + czN l L
    have h2 : (bif ztN l x.1 x.2 then zcN l n L else zcN l (n + 1) L) = true := h
    cases e : ztN l x.1 x.2 with
    | true =>
      rw [e] at h2
      have := zcN_le l L n h2
      simp; omega
    | false =>
      rw [e] at h2
      have := zcN_le l L (n + 1) h2
      simp; omega
theorem czN_app (l : List Nat) (L' : List (Nat × Nat)) : ∀ L, czN l (L ++ L') = czN l L + czN l L'
  | [] => (Nat.zero_add _).symm
  | x :: L => by
    have := czN_app l L' L
    show (if ztN l x.1 x.2 = true then 1 else 0) + czN l (L ++ L') = (if ztN l x.1 x.2 = true then 1 else 0) + czN l L + czN l L'
    omega
def zI (l : List Nat) (a D : Nat) : Int := if ztN l a D = true then 1 else 0
theorem czN_PL (l : List Nat) : ∀ n, (czN l (PLn n) : Int) = isum (fun a => zI l a 2 + zI l a 8 + zI l a 5 + zI l a 6 + zI l a 11 + zI l a 7) n
  | 0 => rfl
  | n + 1 => by
    have e : (czN l (L6.map (fun D => (n, D))) : Int) = zI l n 2 + zI l n 8 + zI l n 5 + zI l n 6 + zI l n 11 + zI l n 7 := by
      show (((if ztN l n 2 = true then 1 else 0) + ((if ztN l n 8 = true then 1 else 0) + ((if ztN l n 5 = true then 1 else 0) + ((if ztN l n 6 = true then 1 else 0) + ((if ztN l n 11 = true then 1 else 0) + ((if ztN l n 7 = true then 1 else 0) + 0))))) : Nat) : Int) = _
      unfold zI
      split <;> split <;> split <;> split <;> split <;> split <;> rfl
    show (czN l (PLn n ++ L6.map (fun D => (n, D))) : Int) = isum _ n + _
    rw [czN_app, Int.natCast_add, czN_PL l n, e]
def tab13 : Bool := (List.range 13).all (fun t => (List.range 13).all (fun s => frc (c3N 13 2 t s) (fun n => Nat.ble n 2 && (!Nat.beq (q13 ((s * s + 11 * (t * t)) % 13)) 2 || Nat.beq n 0))))
theorem tab13_is : tab13 = true := by decide +kernel
theorem tabn_is : ([3, 5, 7, 11] : List Nat).all (fun p => (List.range p).all (fun t => (List.range p).all (fun s => Nat.ble (c3N p (nsN p) t s) 2))) = true := by decide +kernel
theorem q13_N : (List.range 13).all (fun v => Nat.beq (NNq 13 v + q13 v) 2) = true := by decide +kernel
theorem NN2 : ([3, 5, 7, 11, 13] : List Nat).all (fun p => (List.range p).all (fun s => Nat.ble (NNq p s) 2)) = true := by decide +kernel
theorem c3_2 {p : Nat} (hp : Pr (p : Int)) {t s : Int} (ht : 0 ≤ t ∧ t < p) (hs : 0 ≤ s ∧ s < p) : c3 p p (nsN p : Int) t s ≤ 2 := by
  have e : c3 p p (nsN p : Int) t s = (c3N p (nsN p) t.toNat s.toNat : Int) := by
    rw [← c3_N, Int.toNat_of_nonneg ht.1, Int.toNat_of_nonneg hs.1]
  rw [e]
  have hm := hp.mem
  simp only [List.mem_cons, List.not_mem_nil, or_false] at hm
  by_cases h13 : p = 13
  · subst h13
    have := List.all_eq_true.mp (List.all_eq_true.mp tab13_is t.toNat (List.mem_range.mpr (by omega))) s.toNat (List.mem_range.mpr (by omega))
    rw [frc_is, Bool.and_eq_true] at this
    have := Nat.le_of_ble_eq_true this.1
    show ((c3N 13 2 t.toNat s.toNat : Nat) : Int) ≤ 2
    omega
  · have := List.all_eq_true.mp (List.all_eq_true.mp (List.all_eq_true.mp tabn_is p (by simp; omega)) t.toNat (List.mem_range.mpr (by omega))) s.toNat (List.mem_range.mpr (by omega))
    have := Nat.le_of_ble_eq_true this
    omega
theorem c3_z {t s : Int} (ht : 0 ≤ t ∧ t < 13) (hs : 0 ≤ s ∧ s < 13) (h : q13 ((s.toNat * s.toNat + 11 * (t.toNat * t.toNat)) % 13) = 2) : c3 13 13 2 t s = 0 := by
  have e : c3 13 13 2 t s = (c3N 13 2 t.toNat s.toNat : Int) := by
    have := c3_N 13 2 t.toNat s.toNat
    rw [Int.toNat_of_nonneg ht.1, Int.toNat_of_nonneg hs.1] at this
    exact this
  rw [e]
  have := List.all_eq_true.mp (List.all_eq_true.mp tab13_is t.toNat (List.mem_range.mpr (by omega))) s.toNat (List.mem_range.mpr (by omega))
  rw [frc_is, Bool.and_eq_true, Bool.or_eq_true, h] at this
  have := Nat.eq_of_beq_eq_true (this.2.resolve_left (by decide))
  omega
theorem Tc_le {p : Nat} (hp : Pr (p : Int)) (f : Pz (p : Int)) {a b : Nat} (ha : a < p) (hb : b < p) : Tc p f a b ≤ 2 := by
  have hpp := hp.pos
  unfold Tc
  have hh := hrS_hv hp (a := (a : Int)) (b := (b : Int)) (D := (nsN p : Int) * ((b : Int) * b)) (ν := (nsN p : Int)) (by omega) (by omega) rfl (dg f) f.1
  obtain ⟨-, ⟨s1, s2⟩⟩ := hrS_rg hp (a : Int) ((nsN p : Int) * ((b : Int) * b)) (dg f) f.1
  rw [nsq_N, show ((b * p + a : Nat) : Int) = (a : Int) + (b : Int) * p by rw [Int.natCast_add, Int.natCast_mul]; omega, hh]
  have t1 := Int.emod_nonneg ((hrS p a ((nsN p : Int) * ((b : Int) * b)) (dg f) f.1).1 * b) (b := (p : Int)) (by omega)
  have t2 := Int.emod_lt_of_pos ((hrS p a ((nsN p : Int) * ((b : Int) * b)) (dg f) f.1).1 * b) (b := (p : Int)) (by omega)
  rw [cnt2_c3 hp ⟨s1, s2⟩ ⟨t1, t2⟩]
  exact c3_2 hp ⟨t1, t2⟩ ⟨s1, s2⟩
theorem isum_le {F : Nat → Int} {B : Int} : ∀ n : Nat, (∀ i, i < n → F i ≤ B) → isum F n ≤ n * B
  | 0, _ => by show (0 : Int) ≤ 0 * B; rw [Int.zero_mul]; omega
  | n + 1, h => by
    have a := isum_le n (fun i hi => h i (by omega))
    have b := h n (by omega)
    show isum F n + F n ≤ ((n + 1 : Nat) : Int) * B
    rw [show ((n + 1 : Nat) : Int) = (n : Int) + 1 by omega, Int.add_mul, Int.one_mul]
    omega
theorem isum_le2 {F G : Nat → Int} : ∀ n : Nat, (∀ i, i < n → F i ≤ G i) → isum F n ≤ isum G n
  | 0, _ => Int.le_refl _
  | n + 1, h => Int.add_le_add (isum_le2 n (fun i hi => h i (by omega))) (h n (by omega))
theorem hrN_is (a D : Nat) : ∀ (l : List Nat) (c : Nat → Int), (∀ (i : Nat) (x : Nat), l[i]? = some x → c i = (x : Int)) → hrS 13 a D l.length c = (((hrN a D l).1 : Int), ((hrN a D l).2 : Int))
  | [], c, _ => rfl
  | x :: l, c, h => by
    have ih := hrN_is a D l (sh c) (fun i y hy => h (i + 1) y hy)
    have h0 := h 0 x rfl
    show (((hrS 13 a D l.length (sh c)).2 + (a : Int) * (hrS 13 a D l.length (sh c)).1) % 13, (c 0 + a * (hrS 13 a D l.length (sh c)).2 + D * (hrS 13 a D l.length (sh c)).1) % 13) = _
    rw [ih, h0]
    show _ = (((((hrN a D l).2 + a * (hrN a D l).1) % 13 : Nat) : Int), (((x + a * (hrN a D l).2 + D * (hrN a D l).1) % 13 : Nat) : Int))
    rw [Int.natCast_emod, Int.natCast_emod, Int.natCast_add, Int.natCast_add, Int.natCast_add, Int.natCast_mul, Int.natCast_mul, Int.natCast_mul]
    rfl
