/-! numbers: the machine's ints and longs as whole numbers -/
theorem r32i {x : Int} (h : R32 x) : (Int32.ofInt x).toInt = x := by
  unfold R32 at h
  exact Int32.toInt_ofInt_of_le (by omega) (by omega)
theorem r64i {x : Int} (h : R64 x) : (Int64.ofInt x).toInt = x := by
  unfold R64 at h
  exact Int64.toInt_ofInt_of_le (by omega) (by omega)
theorem RR_lt {x y : Int} (h : RR x y) : Int32.ofInt x < Int32.ofInt y ↔ x < y := by
  rcases h with rfl | ⟨h1, h2⟩
  · rw [Int32.lt_iff_toInt_lt]; constructor <;> intro h <;> exact absurd h (Int.lt_irrefl _)
  · rw [Int32.lt_iff_toInt_lt, r32i h1, r32i h2]
theorem RR_le {x y : Int} (h : RR x y) : Int32.ofInt x ≤ Int32.ofInt y ↔ x ≤ y := by
  rcases h with rfl | ⟨h1, h2⟩
  · rw [Int32.le_iff_toInt_le]; constructor <;> intro h <;> exact Int.le_refl _
  · rw [Int32.le_iff_toInt_le, r32i h1, r32i h2]
theorem RR_eq {x y : Int} (h : RR x y) : Int32.ofInt x = Int32.ofInt y ↔ x = y := by
  rcases h with rfl | ⟨h1, h2⟩
  · exact ⟨fun _ => rfl, fun _ => rfl⟩
  · exact ⟨fun e => by rw [← r32i h1, ← r32i h2, e], fun e => by rw [e]⟩
theorem RR.symm {x y : Int} (h : RR x y) : RR y x := h.elim (fun e => Or.inl e.symm) (fun e => Or.inr ⟨e.2, e.1⟩)
theorem R32_0 : R32 0 := by unfold R32; omega
theorem R0_lt {x : Int} (h : R32 x) : Int32.ofInt x < 0 ↔ x < 0 := RR_lt (y := 0) (Or.inr ⟨h, R32_0⟩)
theorem R0_gt {x : Int} (h : R32 x) : 0 < Int32.ofInt x ↔ 0 < x := RR_lt (x := 0) (Or.inr ⟨R32_0, h⟩)
theorem R0_le {x : Int} (h : R32 x) : Int32.ofInt x ≤ 0 ↔ x ≤ 0 := RR_le (y := 0) (Or.inr ⟨h, R32_0⟩)
theorem R0_ge {x : Int} (h : R32 x) : 0 ≤ Int32.ofInt x ↔ 0 ≤ x := RR_le (x := 0) (Or.inr ⟨R32_0, h⟩)
theorem R0_eq {x : Int} (h : R32 x) : Int32.ofInt x = 0 ↔ x = 0 := RR_eq (y := 0) (Or.inr ⟨h, R32_0⟩)
theorem ofI_tdiv {a b : Int} (h1 : R32 a) (h2 : R32 b) : Int32.ofInt (a.tdiv b) = Int32.ofInt a / Int32.ofInt b := by
  unfold R32 at h1 h2
  exact Int32.ofInt_tdiv (by rw [Int32.toInt_minValue]; omega) (by rw [Int32.toInt_maxValue]; omega) (by rw [Int32.toInt_minValue]; omega) (by rw [Int32.toInt_maxValue]; omega)
theorem ofI_tmod {a b : Int} (h1 : R32 a) (h2 : R32 b) : Int32.ofInt (a.tmod b) = Int32.ofInt a - Int32.ofInt a / Int32.ofInt b * Int32.ofInt b := by
  rw [Int.tmod_def, Int32.ofInt_sub, Int32.ofInt_mul, ofI_tdiv h1 h2, Int32.mul_comm]
theorem ofL_tdiv {a b : Int} (h1 : R64 a) (h2 : R64 b) : Int64.ofInt (a.tdiv b) = Int64.ofInt a / Int64.ofInt b := by
  unfold R64 at h1 h2
  exact Int64.ofInt_tdiv (by rw [Int64.toInt_minValue]; omega) (by rw [Int64.toInt_maxValue]; omega) (by rw [Int64.toInt_minValue]; omega) (by rw [Int64.toInt_maxValue]; omega)
theorem ofL_tmod {a b : Int} (h1 : R64 a) (h2 : R64 b) : Int64.ofInt (a.tmod b) = Int64.ofInt a - Int64.ofInt a / Int64.ofInt b * Int64.ofInt b := by
  rw [Int.tmod_def, Int64.ofInt_sub, Int64.ofInt_mul, ofL_tdiv h1 h2, Int64.mul_comm]
theorem ofL_ne {b : Int} (h : R64 b) (h0 : b ≠ 0) : ¬ Int64.ofInt b = 0 := by
  intro e
  have := congrArg Int64.toInt e
  rw [r64i h] at this
  exact h0 this
theorem i2l_of {x : Int} (h : R32 x) : (Int32.ofInt x).toInt64 = Int64.ofInt x := by
  rw [← Int64.ofInt_int32ToInt, r32i h]
theorem lcm3_of {x y : Int} (h : RL x y) : lg_cmp (Int64.ofInt x) (Int64.ofInt y) = Int32.ofInt (lcm3 x y) := by
  unfold lg_cmp lcm3
  rcases h with rfl | ⟨h1, h2⟩
  · simp only [gt_iff_lt, Int64.lt_iff_toInt_lt, Int.lt_irrefl, if_false, if_true]; rfl
  · have e1 : (Int64.ofInt x > Int64.ofInt y) ↔ y < x := by rw [gt_iff_lt, Int64.lt_iff_toInt_lt, r64i h1, r64i h2]
    have e2 : (Int64.ofInt x = Int64.ofInt y) ↔ x = y := ⟨fun e => by rw [← r64i h1, ← r64i h2, e], fun e => by rw [e]⟩
    simp only [e1, e2]
    split
    · rfl
    · split <;> rfl
theorem shl_of : ∀ k : Nat, k < 32 → Int32.ofInt 1 <<< (Int32.ofInt (k : Int) &&& 31) = Int32.ofInt (2 ^ k) := by decide +kernel
theorem shr_amt : ∀ k : Nat, k < 32 → ((Int32.ofInt (k : Int) &&& 31).toBitVec.smod 32).toNat = k := by decide +kernel
theorem shr_of {a b : Int} (ha : R32 a) (h0 : 0 ≤ b) (h1 : b < 32) : Int32.ofInt a >>> (Int32.ofInt b &&& 31) = Int32.ofInt (a / 2 ^ b.toNat) := by
  obtain ⟨k, rfl⟩ : ∃ k : Nat, b = k := ⟨b.toNat, by omega⟩
  have hk : k < 32 := by omega
  apply Int32.toInt.inj
  have e : (Int32.ofInt a >>> (Int32.ofInt (k : Int) &&& 31)).toInt = a / 2 ^ k := by
    show ((Int32.ofInt a).toBitVec.sshiftRight' ((Int32.ofInt (k : Int) &&& 31).toBitVec.smod 32)).toInt = _
    rw [BitVec.sshiftRight', BitVec.toInt_sshiftRight, shr_amt k hk]
    show (Int32.ofInt a).toInt >>> k = _
    rw [r32i ha, Int.shiftRight_eq_div_pow]
    norm_cast
  rw [e]
  have hp : (1 : Int) ≤ 2 ^ k := by
    have := Nat.one_le_two_pow (n := k)
    exact_mod_cast this
  unfold R32 at ha
  have : R32 (a / 2 ^ k) := by
    unfold R32
    constructor
    · rcases Int.le_total 0 a with h | h
      · have := Int.ediv_nonneg h (by omega : (0 : Int) ≤ 2 ^ k); omega
      · have : a ≤ a / 2 ^ k := by
          rw [Int.le_ediv_iff_mul_le (by omega)]
          have := Int.mul_le_mul_of_nonpos_left h hp
          omega
        omega
    · rcases Int.le_total 0 a with h | h
      · have : a / 2 ^ k ≤ a := Int.ediv_le_self _ h
        omega
      · have : a / 2 ^ k ≤ 0 := by
          have h2 : a / 2 ^ k ≤ 0 / 2 ^ k := Int.ediv_le_ediv (by omega) h
          simpa using h2
        omega
  have e2 : ((k : Int)).toNat = k := by omega
  rw [e2, r32i this]
theorem bip_of {c : Int} (h1 : -128 ≤ c) (h2 : c < 128) : (Int8.ofInt c).toInt32 = Int32.ofInt c := by
  rw [← Int32.ofInt_int8ToInt, Int8.toInt_ofInt_of_le (by omega) (by omega)]
theorem sip_of {c : Int} (h1 : -32768 ≤ c) (h2 : c < 32768) : (Int16.ofInt c).toInt32 = Int32.ofInt c := by
  rw [← Int32.ofInt_int16ToInt, Int16.toInt_ofInt_of_le (by omega) (by omega)]
theorem band_of (x y : Int) : Int32.ofInt (band x y) = Int32.ofInt x &&& Int32.ofInt y := by unfold band; rw [Int32.ofInt_toInt]
theorem bor_of (x y : Int) : Int32.ofInt (bor x y) = Int32.ofInt x ||| Int32.ofInt y := by unfold bor; rw [Int32.ofInt_toInt]
theorem ix_of {i : Int} (h0 : 0 ≤ i) (h1 : i ≤ 100000) : (Int32.ofInt i).toNatClampNeg = i.toNat := Int32.toNatClampNeg_ofInt_of_le (by omega) (by omega)
theorem ix_in {i : Int} {n : Nat} (h0 : 0 ≤ i) (h1 : i < n) (hn : n ≤ 100000) : vp_in (Int32.ofInt i) n := by
  intro h
  rcases h with h | h
  · rw [R0_lt (by unfold R32; omega)] at h; omega
  · rw [ix_of h0 (by omega)] at h; omega
theorem am_lnle : am_ln.all (fun x => decide (0 ≤ x) && decide (x ≤ 100000)) = true := by decide +kernel
theorem LN_le (a : Int) : 0 ≤ LN a ∧ LN a ≤ 100000 := by
  unfold LN
  rw [List.getD_eq_getElem?_getD]
  cases h : am_ln[a.toNat]? with
  | none => simp
  | some x =>
    have := List.all_eq_true.mp am_lnle x (List.mem_of_getElem? h)
    simp only [Bool.and_eq_true, decide_eq_true_eq] at this
    exact this
