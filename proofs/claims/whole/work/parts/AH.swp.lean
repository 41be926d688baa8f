/-! THE FIELD OF P P NUMBERS: the two ways of writing it; squares and powers -/
def swp (p v : Int) : Int := v % p * p + v / p
/-- v taken k times into the number one of the model's writing -/
def prt (p m v : Int) : Nat → Int
  | 0 => p
  | k + 1 => pT p m (prt p m v k) v
/-- how many roots, by the model's way -/
def rt2 (p m v : Int) : Int := if v = 0 then 1 else if prt p m v ((p * p - 1) / 2).toNat = p then 2 else 0
theorem rt2_3 : (List.range 9).all (fun z => decide (rt2 3 2 (swp 3 (z : Int)) = cnt2 3 (z : Int))) = true := by decide +kernel
theorem rt2_5 : (List.range 25).all (fun z => decide (rt2 5 2 (swp 5 (z : Int)) = cnt2 5 (z : Int))) = true := by decide +kernel
theorem rt2_7 : (List.range 49).all (fun z => decide (rt2 7 3 (swp 7 (z : Int)) = cnt2 7 (z : Int))) = true := by decide +kernel
theorem rt2_11 : (List.range 121).all (fun z => decide (rt2 11 2 (swp 11 (z : Int)) = cnt2 11 (z : Int))) = true := by decide +kernel
theorem rt2_13 : (List.range 169).all (fun z => decide (rt2 13 2 (swp 13 (z : Int)) = cnt2 13 (z : Int))) = true := by decide +kernel
theorem rt2_ok {p : Int} (hp : Pr p) {z : Int} (hz : 0 ≤ z ∧ z < p * p) : rt2 p (nsq p) (swp p z) = cnt2 p z := by
  have e : z = ((z.toNat : Nat) : Int) := by omega
  have go : ∀ n : Nat, (n : Int) = p * p → z.toNat ∈ List.range n := fun n hn => List.mem_range.mpr (by omega)
  rw [e]
  rcases hp with rfl | rfl | rfl | rfl | rfl
  · have := List.all_eq_true.mp rt2_3 z.toNat (go 9 rfl); exact of_decide_eq_true this
  · have := List.all_eq_true.mp rt2_5 z.toNat (go 25 rfl); exact of_decide_eq_true this
  · have := List.all_eq_true.mp rt2_7 z.toNat (go 49 rfl); exact of_decide_eq_true this
  · have := List.all_eq_true.mp rt2_11 z.toNat (go 121 rfl); exact of_decide_eq_true this
  · have := List.all_eq_true.mp rt2_13 z.toNat (go 169 rfl); exact of_decide_eq_true this
theorem swp_dg {p v : Int} (hp : Pr p) (hv : 0 ≤ v ∧ v < p * p) : swp p v / p = v % p ∧ swp p v % p = v / p ∧ 0 ≤ swp p v ∧ swp p v < p * p := by
  have hpp := hp.pos
  have a1 := Int.emod_nonneg v (show p ≠ 0 by omega)
  have a2 := Int.emod_lt_of_pos v (show 0 < p by omega)
  have q : 0 ≤ v / p ∧ v / p < p := ⟨Int.ediv_nonneg hv.1 (by omega), Int.ediv_lt_of_lt_mul (by omega) hv.2⟩
  unfold swp
  rcases hp with rfl | rfl | rfl | rfl | rfl <;> omega
theorem swp_swp {p v : Int} (hp : Pr p) (hv : 0 ≤ v ∧ v < p * p) : swp p (swp p v) = v := by
  obtain ⟨h1, h2, -, -⟩ := swp_dg hp hv
  have h3 := Int.emod_add_mul_ediv v p
  have h4 : p * (v / p) = v / p * p := Int.mul_comm _ _
  show swp p v % p * p + swp p v / p = v
  rw [h1, h2]; omega
theorem pT_swp {p m v w : Int} (hp : Pr p) (hv : 0 ≤ v ∧ v < p * p) (hw : 0 ≤ w ∧ w < p * p) : pT p m (swp p v) (swp p w) = swp p (wtc p m v w) := by
  have hpp := hp.pos
  obtain ⟨a1, a2, -, -⟩ := swp_dg hp hv
  obtain ⟨b1, b2, -, -⟩ := swp_dg hp hw
  unfold pT
  rw [a1, a2, b1, b2]
  have x1 := Int.emod_nonneg ((v % p) * (w % p) + (v / p) * (w / p) * m) (show p ≠ 0 by omega)
  have x2 := Int.emod_lt_of_pos ((v % p) * (w % p) + (v / p) * (w / p) * m) (show 0 < p by omega)
  have e1 : (v % p * (w % p) + m * (v / p) % p * (w / p)) % p = ((v % p) * (w % p) + (v / p) * (w / p) * m) % p := by
    refine md_add rfl ?_
    rw [md_mul (md_md _ _) rfl]
    congr 1
    rw [Int.mul_comm m, Int.mul_assoc, Int.mul_comm m, ← Int.mul_assoc]
  rw [e1]
  unfold wtc swp
  generalize ((v % p) * (w % p) + (v / p) * (w / p) * m) % p = X at x1 x2
  generalize ((v % p) * (w / p) + (v / p) * (w % p)) % p = Y
  have k1 : (X + Y * p) % p = X := by rw [Int.add_mul_emod_self_right, Int.emod_eq_of_lt x1 x2]
  have k2 : (X + Y * p) / p = Y := by rw [Int.add_mul_ediv_right _ _ (by omega), Int.ediv_eq_zero_of_lt x1 x2, Int.zero_add]
  rw [k1, k2]
theorem wpl_swp {p v c : Int} (hp : Pr p) (hv : 0 ≤ v ∧ v < p * p) : (swp p v / p + c) % p * p + swp p v % p = swp p (wpl p v c) := by
  have hpp := hp.pos
  obtain ⟨a1, a2, -, -⟩ := swp_dg hp hv
  rw [a1, a2]
  have x1 := Int.emod_nonneg (v % p + c) (show p ≠ 0 by omega)
  have x2 := Int.emod_lt_of_pos (v % p + c) (show 0 < p by omega)
  have e : wpl p v c = (v % p + c) % p + v / p * p := by
    have h2 := Int.emod_add_mul_ediv v p
    have h3 : p * (v / p) = v / p * p := Int.mul_comm _ _
    unfold wpl; omega
  rw [e]
  unfold swp
  generalize (v % p + c) % p = X at x1 x2
  generalize v / p = Y
  have k1 : (X + Y * p) % p = X := by rw [Int.add_mul_emod_self_right, Int.emod_eq_of_lt x1 x2]
  have k2 : (X + Y * p) / p = Y := by rw [Int.add_mul_ediv_right _ _ (by omega), Int.ediv_eq_zero_of_lt x1 x2, Int.zero_add]
  rw [k1, k2]
