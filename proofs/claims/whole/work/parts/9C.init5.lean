/-! THE CONSTRUCTOR: the class's state as it begins -/
theorem fz_rw3 : (List.range 218).all (fun a => !decide (KD (a : Int) = 18) || (decide (KD ((a : Int) + 1) = 1) && decide (LN ((a : Int) + 1) = 8) && decide ((a : Int) < 190) && rowArr.contains ((a : Int) + 1))) = true := by decide +kernel
theorem row0 {M : Mem} (h : ∀ b, 1 ≤ b → b < 190 → FzC b M) {r : Int} (hr : KD r = 18) : M r 0 = r + 1 ∧ RS M r (r + 1) ∧ inR (r + 1) = true := by
  obtain ⟨n, hn, rfl⟩ := KD_lt (a := r) (by omega)
  have := List.all_eq_true.mp fz_rw3 n (List.mem_range.mpr hn)
  have h2 : ((KD ((n : Int) + 1) = 1 ∧ LN ((n : Int) + 1) = 8) ∧ (n : Int) < 190) ∧ rowArr.contains ((n : Int) + 1) = true := by simpa [hr] using this
  have n0 : (n : Int) ≠ 0 := fun e => by rw [e] at hr; exact absurd hr (by decide)
  have e := (h (n : Int) (by omega) h2.1.2).2 hr
  exact ⟨e, ⟨⟨kd_of hr (by decide), kd_of h2.1.1.1 (by decide), h2.1.1.2⟩, e⟩, by unfold inR; rw [h2.2]; simp⟩
theorem dgC1 : dg (pC 7 1) = 1 := dg_eq (n := 0) (fun k hk => by rw [pC_c, if_neg (by omega)]; rfl) (by rw [pC_c, if_pos rfl]; decide)
theorem dgC0 : dg (pC 7 0) = 0 := Nat.le_zero.mp (dg_le fun k _ => by rw [pC_c]; split <;> rfl)
noncomputable def rho0 (q : Int) : Option (Pz 7) := if q < 59 ∨ 86 < q then none else if (q - 59) % 5 = 0 then some (pC 7 1) else if (q - 61) % 5 = 0 then some (pC 7 0) else none
theorem cs0 {M : Mem} (h : In0 M) (hz : Fz M) : CS (p := 7) 0 (pC 7 0) [] (fun _ => (pC 7 1, pC 7 0)) (fun _ => 0) (fun _ => 0) (fun _ => 0) M := by
  obtain ⟨h1, h2, h3, h4, h5, h6, h7, h8, h9, h10, h11, h12, h13, h14⟩ := h
  refine ⟨⟨rho0, ⟨⟨hz, Or.inr (Or.inr (Or.inl rfl)), h2, fun v a b => h3 v a b⟩, fun r hr => ?_, fun r s hr hs e => ?_, fun r a hr e => ?_⟩, fun e => absurd e (by omega), fun r hr => ?_⟩, ⟨h4, fun i v e => by cases e⟩, Or.inl ⟨rfl, h5⟩, fun i _ => h9 i, fun j _ => h12 j, fun a _ => h14 a, Or.inl h7, Or.inl h8, Or.inl h13, Or.inl h10, Or.inl h11⟩
  · have := row0 h1 hr
    rw [this.1]; exact this.2
  · have e1 := (row0 h1 hr).1
    have e2 := (row0 h1 hs).1
    omega
  · have hr0 := row0 h1 hr
    unfold rho0 at e
    split at e
    · cases e
    · rename_i q
      split at e
      · rename_i q2
        cases e
        obtain ⟨k, hk⟩ : ∃ k : Nat, r = 58 + 5 * (k : Int) + 1 := ⟨((r - 59) / 5).toNat, by omega⟩
        have hk6 : k < 6 := by omega
        have hh := h6 k hk6
        rw [hr0.1]
        subst hk
        refine ⟨hr0.2.1, fun j hj => ?_, by rw [dgC1]; decide, by rw [dgC1, hh.1]; rfl⟩
        rw [show 58 + 5 * (k : Int) + 1 + 1 = 58 + 5 * (k : Int) + 2 by omega, hh.2.1 j (by omega) (by omega), pC_c]
        by_cases e : j = 0
        · rw [if_pos (by omega), if_pos e]; rfl
        · rw [if_neg (by omega), if_neg e]; rfl
      · split at e
        · rename_i q3
          cases e
          obtain ⟨k, hk⟩ : ∃ k : Nat, r = 58 + 5 * (k : Int) + 3 := ⟨((r - 61) / 5).toNat, by omega⟩
          have hk6 : k < 6 := by omega
          have hh := h6 k hk6
          rw [hr0.1]
          subst hk
          refine ⟨hr0.2.1, fun j hj => ?_, by rw [dgC0]; decide, by rw [dgC0, hh.2.2.1]; rfl⟩
          rw [show 58 + 5 * (k : Int) + 3 + 1 = 58 + 5 * (k : Int) + 4 by omega, hh.2.2.2 j, pC_c]
          split <;> rfl
        · cases e
  · unfold PH rho0
    constructor
    · rw [if_neg (by omega), if_pos (by omega)]
    · rw [if_neg (by omega), if_neg (by omega), if_pos (by omega)]
theorem vs0 : VS (p := 7) 0 (pC 7 0) [] (fun _ => (pC 7 1, pC 7 0)) (fun _ => 0) (fun _ => 0) (fun _ => 0) :=
  ⟨Or.inr (Or.inr (Or.inl rfl)), Or.inl ⟨rfl, fun _ => rfl, fun _ => rfl⟩, ⟨by decide, fun v e => by cases e⟩, ⟨⟨by decide, by decide⟩, fun i _ => ⟨by show (-4 : Int) ≤ 0; decide, by show (0 : Int) ≤ 4; decide⟩⟩, fun j => ⟨by show (0 : Int) ≤ 0; decide, by show (0 : Int) < 7; decide⟩, fun a => by show 0 ≤ 20; decide, fun a _ => rfl⟩
