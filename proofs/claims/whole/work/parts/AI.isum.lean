/-! SUMS IN ANOTHER ORDER -/
theorem isum_cg2 {F G : Nat → Int} : ∀ n, (∀ i, i < n → F i = G i) → isum F n = isum G n
  | 0, _ => rfl
  | n + 1, h => by show isum F n + F n = isum G n + G n; rw [isum_cg2 n (fun i hi => h i (by omega)), h n (by omega)]
theorem isum_cat (F : Nat → Int) (m : Nat) : ∀ n, isum F (m + n) = isum F m + isum (fun j => F (m + j)) n
  | 0 => by show isum F m = isum F m + 0; omega
  | n + 1 => by
    show isum F (m + n) + F (m + n) = isum F m + (isum (fun j => F (m + j)) n + F (m + n))
    rw [isum_cat F m n]; omega
theorem isum_two (F G : Nat → Int) : ∀ n, isum (fun i => F i + G i) n = isum F n + isum G n
  | 0 => rfl
  | n + 1 => by
    show isum (fun i => F i + G i) n + (F n + G n) = isum F n + F n + (isum G n + G n)
    rw [isum_two F G n]; omega
theorem isum_z : ∀ n, isum (fun _ => 0) n = 0
  | 0 => rfl
  | n + 1 => by show isum (fun _ => 0) n + 0 = 0; rw [isum_z n]; rfl
theorem isum_grid (F : Nat → Int) (b : Nat) : ∀ a, isum F (a * b) = isum (fun i => isum (fun j => F (i * b + j)) b) a
  | 0 => by rw [Nat.zero_mul]; rfl
  | a + 1 => by
    rw [Nat.succ_mul, isum_cat, isum_grid F b a]; rfl
theorem isum_sw (F : Nat → Nat → Int) (b : Nat) : ∀ a, isum (fun i => isum (fun j => F i j) b) a = isum (fun j => isum (fun i => F i j) a) b
  | 0 => by show (0 : Int) = isum (fun _ => 0) b; rw [isum_z]
  | a + 1 => by
    show isum (fun i => isum (fun j => F i j) b) a + isum (fun j => F a j) b = isum (fun j => isum (fun i => F i j) a + F a j) b
    rw [isum_sw F b a, isum_two]
theorem isum_swp {p : Int} (hp : Pr p) (G : Int → Int) : isum (fun x => G (swp p (x : Int))) (p * p).toNat = isum (fun x => G (x : Int)) (p * p).toNat := by
  have hpp := hp.pos
  obtain ⟨P, rfl, -⟩ : ∃ P : Nat, p = (P : Int) ∧ 3 ≤ P := ⟨p.toNat, by omega, by omega⟩
  have e : ((P : Int) * (P : Int)).toNat = P * P := by rw [← Int.natCast_mul, Int.toNat_natCast]
  rw [e, isum_grid, isum_grid (fun x => G (x : Int)), isum_sw]
  refine isum_cg2 P fun j hj => isum_cg2 P fun i hi => ?_
  have k1 : (((i * P + j : Nat) : Int)) % (P : Int) = (j : Int) := by
    rw [Int.natCast_add, Int.natCast_mul, Int.add_comm, Int.add_mul_emod_self_right, Int.emod_eq_of_lt (by omega) (by omega)]
  have k2 : (((i * P + j : Nat) : Int)) / (P : Int) = (i : Int) := by
    rw [Int.natCast_add, Int.natCast_mul, Int.add_comm, Int.add_mul_ediv_right _ _ (by omega), Int.ediv_eq_zero_of_lt (by omega) (by omega), Int.zero_add]
  show G (swp (P : Int) ((i * P + j : Nat) : Int)) = G ((j * P + i : Nat) : Int)
  unfold swp
  rw [k1, k2, Int.natCast_add, Int.natCast_mul]
