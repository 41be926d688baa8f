/-! ROWS OF NUMBERS TAKEN TO STEPS: the first place that is not nought, rows taken off, how many vectors are left -/
def ldF (v : Nat → Int) : Nat → Nat → Nat
  | 0, j => j
  | n + 1, j => if v j = 0 then ldF v n (j + 1) else j
def ld (v : Nat → Int) (L : Nat) : Nat := ldF v L 0
theorem ldF_is (v : Nat → Int) : ∀ n j, j ≤ ldF v n j ∧ ldF v n j ≤ j + n ∧ (∀ i, j ≤ i → i < ldF v n j → v i = 0) ∧ (ldF v n j < j + n → v (ldF v n j) ≠ 0)
  | 0, j => ⟨Nat.le_refl _, Nat.le_refl _, fun i h1 h2 => absurd h2 (Nat.not_lt.mpr h1), fun h => absurd h (by show ¬ j < j + 0; omega)⟩
  | n + 1, j => by
    unfold ldF
    by_cases e : v j = 0
    · rw [if_pos e]
      obtain ⟨h1, h2, h3, h4⟩ := ldF_is v n (j + 1)
      refine ⟨by omega, by omega, fun i g1 g2 => ?_, fun g => h4 (by omega)⟩
      by_cases q : i = j
      · subst q; exact e
      · exact h3 i (by omega) g2
    · rw [if_neg e]
      exact ⟨Nat.le_refl _, by omega, fun i g1 g2 => absurd g2 (by omega), fun _ => e⟩
theorem ld_le (v : Nat → Int) (L : Nat) : ld v L ≤ L := by have := (ldF_is v L 0).2.1; unfold ld; omega
theorem ld_lo {v : Nat → Int} {L i : Nat} (h : i < ld v L) : v i = 0 := (ldF_is v L 0).2.2.1 i (by omega) h
theorem ld_ne {v : Nat → Int} {L : Nat} (h : ld v L < L) : v (ld v L) ≠ 0 := (ldF_is v L 0).2.2.2 (by unfold ld at h; omega)
theorem ld_un {v : Nat → Int} {L i : Nat} (h1 : ∀ k, k < i → v k = 0) (h2 : i = L ∨ (i < L ∧ v i ≠ 0)) : ld v L = i := by
  have h3 := ld_le v L
  rcases Nat.lt_trichotomy (ld v L) i with q | q | q
  · exact absurd (h1 _ q) (ld_ne (by omega))
  · exact q
  · rcases h2 with h2 | h2
    · omega
    · exact absurd (ld_lo q) h2.2
theorem ld_cg {v w : Nat → Int} {L : Nat} (h : ∀ j, j < L → v j = w j) : ld v L = ld w L := by
  have h1 := ld_le w L
  refine ld_un (fun k hk => by rw [h k (by omega)]; exact ld_lo hk) ?_
  by_cases e : ld w L = L
  · exact Or.inl e
  · exact Or.inr ⟨by omega, by rw [h _ (by omega)]; exact ld_ne (by omega)⟩
def rd1 (p : Int) (r : Nat → Int) (l : Nat) (v : Nat → Int) : Nat → Int := fun j => (v j - v l * r j) % p
def rdA (p : Int) (L : Nat) : List (Nat → Int) → (Nat → Int) → Nat → Int
  | [], v => v
  | r :: R, v => rdA p L R (rd1 p r (ld r L) v)
theorem rdA_app (p : Int) (L : Nat) : ∀ (R S : List (Nat → Int)) (v : Nat → Int), rdA p L (R ++ S) v = rdA p L S (rdA p L R v)
  | [], _, _ => rfl
  | r :: R, S, v => rdA_app p L R S (rd1 p r (ld r L) v)
def pwm (p x : Int) : Nat → Int
  | 0 => 1
  | n + 1 => pwm p x n * x % p
def pinv (p x : Int) : Int := pwm p x (p.toNat - 2)
theorem pinv_all : ([3, 5, 7, 11, 13] : List Nat).all (fun p => (List.range p).all (fun x => decide (x = 0 ∨ ((x : Int) * pinv (p : Int) (x : Int) % (p : Int) = 1 ∧ 0 ≤ pinv (p : Int) (x : Int) ∧ pinv (p : Int) (x : Int) < (p : Int))))) = true := by decide +kernel
theorem pinv_ok {p x : Int} (hp : Pr p) (h0 : 0 < x) (h1 : x < p) : x * pinv p x % p = 1 ∧ 0 ≤ pinv p x ∧ pinv p x < p := by
  obtain ⟨n, rfl, hn⟩ := hp.nat
  have := of_decide_eq_true (List.all_eq_true.mp (List.all_eq_true.mp pinv_all n hn) x.toNat (List.mem_range.mpr (by omega)))
  rw [Int.toNat_of_nonneg (by omega)] at this
  exact this.resolve_left (by omega)
theorem inv_un {p x w y v : Int} (hp : Pr p) (h1 : x * w % p = 1) (h2 : x * y % p = 1) : v * w % p = v * y % p := by
  have hpp := hp.pos
  have e1 : v * w % p = (v * w * (x * y)) % p := by
    have : (v * w * (x * y)) % p = (v * w * 1) % p := md_mul rfl (by rw [h2]; exact (Int.emod_eq_of_lt (by omega) (by omega)).symm)
    rw [this, Int.mul_one]
  have e2 : v * y % p = (v * y * (x * w)) % p := by
    have : (v * y * (x * w)) % p = (v * y * 1) % p := md_mul rfl (by rw [h1]; exact (Int.emod_eq_of_lt (by omega) (by omega)).symm)
    rw [this, Int.mul_one]
  have e3 : v * w * (x * y) = v * y * (x * w) := by grind
  rw [e1, e2, e3]
def nrm (p : Int) (L : Nat) (v : Nat → Int) : Nat → Int := fun j => v j * pinv p (v (ld v L)) % p
def RgV (p : Int) (v : Nat → Int) : Prop := ∀ j, 0 ≤ v j ∧ v j < p
def gdR (p : Int) (L : Nat) (r : Nat → Int) : Prop := ld r L < L ∧ r (ld r L) = 1 ∧ RgV p r
def Ech (p : Int) (L : Nat) : List (Nat → Int) → Prop
  | [] => True
  | r :: R => gdR p L r ∧ (∀ s ∈ R, s (ld r L) = 0) ∧ Ech p L R
theorem Ech.app {p : Int} {L : Nat} {c : Nat → Int} (hc : gdR p L c) : ∀ {R : List (Nat → Int)}, Ech p L R → (∀ r ∈ R, c (ld r L) = 0) → Ech p L (R ++ [c])
  | [], _, _ => ⟨hc, ⟨fun s h => (by cases h), trivial⟩⟩
  | r :: R, h, h2 => ⟨h.1, fun s hs => by
      rcases List.mem_append.mp hs with hs | hs
      · exact h.2.1 s hs
      · rw [List.mem_singleton.mp hs]; exact h2 r List.mem_cons_self, Ech.app hc h.2.2 (fun s hs => h2 s (List.mem_cons_of_mem _ hs))⟩
theorem Ech.gd {p : Int} {L : Nat} : ∀ {R : List (Nat → Int)}, Ech p L R → ∀ r ∈ R, gdR p L r
  | [], _, r, h => by cases h
  | s :: R, h, r, hr => by
    rcases List.mem_cons.mp hr with hr | hr
    · subst hr; exact h.1
    · exact Ech.gd h.2.2 r hr
theorem rdA_rg {p : Int} (hp : Pr p) (L : Nat) : ∀ (R : List (Nat → Int)) (v : Nat → Int), RgV p v → RgV p (rdA p L R v)
  | [], v, h => h
  | r :: R, v, h => rdA_rg hp L R _ (fun j => by
      have := hp.pos
      exact ⟨Int.emod_nonneg _ (by omega), Int.emod_lt_of_pos _ (by omega)⟩)
theorem rdA_keep {p : Int} (L : Nat) {l : Nat} : ∀ (R : List (Nat → Int)) (v : Nat → Int), (∀ s ∈ R, s l = 0) → v l = 0 → rdA p L R v l = 0
  | [], v, _, h => h
  | r :: R, v, h1, h => rdA_keep L R _ (fun s hs => h1 s (List.mem_cons_of_mem _ hs)) (by
      show (v l - v (ld r L) * r l) % p = 0
      rw [h, h1 r List.mem_cons_self, Int.mul_zero]; exact Int.zero_emod _)
theorem rdA_zero {p : Int} (L : Nat) : ∀ (R : List (Nat → Int)) (v : Nat → Int), Ech p L R → ∀ r ∈ R, rdA p L R v (ld r L) = 0
  | [], v, _, r, h => by cases h
  | s :: R, v, h, r, hr => by
    rcases List.mem_cons.mp hr with hr | hr
    · subst hr
      refine rdA_keep L R _ h.2.1 ?_
      show (v (ld r L) - v (ld r L) * r (ld r L)) % p = 0
      rw [h.1.2.1, Int.mul_one, Int.sub_self]; exact Int.zero_emod _
    · exact rdA_zero L R _ h.2.2 r hr
theorem nrm_gd {p : Int} (hp : Pr p) {L : Nat} {v : Nat → Int} (hv : RgV p v) (h : ld v L < L) : gdR p L (nrm p L v) ∧ ld (nrm p L v) L = ld v L := by
  have hpp := hp.pos
  have hne := ld_ne h
  obtain ⟨a, b⟩ := hv (ld v L)
  obtain ⟨i1, i2, i3⟩ := pinv_ok hp (x := v (ld v L)) (by omega) b
  have e : ld (nrm p L v) L = ld v L := ld_un (fun k hk => by
    show v k * pinv p (v (ld v L)) % p = 0
    rw [ld_lo hk, Int.zero_mul]; exact Int.zero_emod _) (Or.inr ⟨h, by
    show v (ld v L) * pinv p (v (ld v L)) % p ≠ 0
    rw [i1]; decide⟩)
  exact ⟨⟨by rw [e]; exact h, by rw [e]; exact i1, fun j => ⟨Int.emod_nonneg _ (by omega), Int.emod_lt_of_pos _ (by omega)⟩⟩, e⟩
/-- one more row: taken off by the others, and kept where anything is left -/
def ech1 (p : Int) (L : Nat) (R : List (Nat → Int)) (v : Nat → Int) : List (Nat → Int) := if ld (rdA p L R v) L < L then R ++ [nrm p L (rdA p L R v)] else R
theorem ech1_ech {p : Int} (hp : Pr p) {L : Nat} {R : List (Nat → Int)} {v : Nat → Int} (hR : Ech p L R) (hv : RgV p v) : Ech p L (ech1 p L R v) := by
  unfold ech1
  by_cases h : ld (rdA p L R v) L < L
  · rw [if_pos h]
    refine hR.app (nrm_gd hp (rdA_rg hp L R v hv) h).1 (fun r hr => ?_)
    show rdA p L R v (ld r L) * _ % p = 0
    rw [rdA_zero L R v hR r hr, Int.zero_mul]; exact Int.zero_emod _
  · rw [if_neg h]; exact hR
theorem pig {L : Nat} {M : List Nat} (h1 : M.Nodup) (h2 : ∀ x ∈ M, x < L) : M.length ≤ L ∧ (M.length = L → ∀ x, x < L → x ∈ M) := by
  have hn : ((List.range L).filter (fun x => decide (x ∈ M))).Nodup := List.nodup_range.filter _
  have e : M.length = ((List.range L).filter (fun x => decide (x ∈ M))).length := ((List.perm_ext_iff_of_nodup h1 hn).mpr (fun x => by
    rw [List.mem_filter, List.mem_range, decide_eq_true_eq]
    exact ⟨fun h => ⟨h2 x h, h⟩, fun h => h.2⟩)).length_eq
  have hl := List.length_filter_le (fun x => decide (x ∈ M)) (List.range L)
  rw [List.length_range] at hl
  refine ⟨by omega, fun h x hx => ?_⟩
  have h3 : ((List.range L).filter (fun x => decide (x ∈ M))).length = (List.range L).length := by rw [List.length_range]; omega
  have h4 := List.length_filter_eq_length_iff.mp h3 x (List.mem_range.mpr hx)
  exact of_decide_eq_true h4
theorem Ech.nd {p : Int} {L : Nat} : ∀ {R : List (Nat → Int)}, Ech p L R → (R.map (fun r => ld r L)).Nodup
  | [], _ => List.nodup_nil
  | r :: R, h => by
    rw [List.map_cons, List.nodup_cons]
    refine ⟨fun hm => ?_, Ech.nd h.2.2⟩
    obtain ⟨s, hs, e⟩ := List.mem_map.mp hm
    have h1 := h.2.1 s hs
    have h2 := (Ech.gd h.2.2 s hs).2.1
    have e2 : ld s L = ld r L := e
    rw [e2, h1] at h2
    exact absurd h2 (by decide)
theorem Ech.len {p : Int} {L : Nat} {R : List (Nat → Int)} (h : Ech p L R) : R.length ≤ L ∧ (R.length = L → ∀ x, x < L → ∃ r ∈ R, ld r L = x) := by
  have := pig (L := L) h.nd (fun x hx => by
    obtain ⟨s, hs, e⟩ := List.mem_map.mp hx
    have := (Ech.gd h s hs).1
    have e2 : ld s L = x := e
    omega)
  rw [List.length_map] at this
  refine ⟨this.1, fun e x hx => ?_⟩
  obtain ⟨s, hs, e2⟩ := List.mem_map.mp (this.2 e x hx)
  exact ⟨s, hs, e2⟩
theorem ech1_full {p : Int} {L : Nat} {R : List (Nat → Int)} {v : Nat → Int} (hR : Ech p L R) (hf : R.length = L) : ech1 p L R v = R := by
  unfold ech1
  refine if_neg (fun h => ?_)
  obtain ⟨r, hr, e⟩ := hR.len.2 hf _ h
  have := rdA_zero L R v hR r hr
  rw [e] at this
  exact ld_ne h this
theorem rd1_cg {p : Int} {r s v w : Nat → Int} {l L : Nat} (h1 : ∀ j, j < L → r j = s j) (h2 : ∀ j, j < L → v j = w j) (hl : l < L) : ∀ j, j < L → rd1 p r l v j = rd1 p s l w j := fun j hj => by
  show (v j - v l * r j) % p = (w j - w l * s j) % p
  rw [h1 j hj, h2 j hj, h2 l hl]
/-! how many vectors fit -/
def dt (L : Nat) (v w : Nat → Int) : Int := isum (fun j => v j * w j) L
theorem dt_s (L : Nat) (v w : Nat → Int) : dt (L + 1) v w = dt L v w + v L * w L := rfl
theorem dt_rd {p c : Int} (v r w : Nat → Int) : ∀ L, dt L (fun j => (v j - c * r j) % p) w % p = (dt L v w - c * dt L r w) % p
  | 0 => by show (0 : Int) % p = (0 - c * 0) % p; rw [Int.mul_zero]; rfl
  | L + 1 => by
    rw [dt_s, dt_s, dt_s, md_add (dt_rd v r w L) (md_mul (md_md _ _) rfl)]
    congr 1; grind
theorem dt_rdA {p : Int} (L : Nat) {w : Nat → Int} : ∀ (R : List (Nat → Int)) (v : Nat → Int), (∀ r ∈ R, dt L r w % p = 0) → dt L (rdA p L R v) w % p = dt L v w % p
  | [], _, _ => rfl
  | r :: R, v, h => by
    show dt L (rdA p L R (rd1 p r (ld r L) v)) w % p = _
    rw [dt_rdA L R _ (fun s hs => h s (List.mem_cons_of_mem _ hs))]
    show dt L (fun j => (v j - v (ld r L) * r j) % p) w % p = _
    rw [dt_rd, md_sub (b' := v (ld r L) * 0) rfl (md_mul rfl (by rw [h r List.mem_cons_self, Int.zero_emod])), Int.mul_zero, Int.sub_zero]
theorem dt_sc {p k : Int} (v w : Nat → Int) : ∀ L, dt L (fun j => v j * k % p) w % p = (k * dt L v w) % p
  | 0 => by show (0 : Int) % p = (k * 0) % p; rw [Int.mul_zero]
  | L + 1 => by
    rw [dt_s, dt_s, md_add (dt_sc v w L) (md_mul (md_md _ _) rfl)]
    congr 1; grind
theorem dt_z {v w : Nat → Int} : ∀ {L : Nat}, (∀ j, j < L → v j = 0) → dt L v w = 0
  | 0, _ => rfl
  | L + 1, h => by rw [dt_s, dt_z (fun j hj => h j (by omega)), h L (by omega), Int.zero_mul]; rfl
/-- a vector fits a new row and the old ones just if it fits the rows with the new one taken in -/
theorem ech1_sol {p : Int} (hp : Pr p) {L : Nat} {R : List (Nat → Int)} {v w : Nat → Int} (hv : RgV p v) : ((∀ r ∈ R, dt L r w % p = 0) ∧ dt L v w % p = 0) ↔ ∀ r ∈ ech1 p L R v, dt L r w % p = 0 := by
  have hpp := hp.pos
  unfold ech1
  by_cases h : ld (rdA p L R v) L < L
  · rw [if_pos h]
    have hne := ld_ne h
    have hrg := rdA_rg hp L R v hv
    obtain ⟨i1, i2, i3⟩ := pinv_ok hp (x := rdA p L R v (ld (rdA p L R v) L)) (by have := (hrg (ld (rdA p L R v) L)).1; omega) (hrg _).2
    have key : (∀ r ∈ R, dt L r w % p = 0) → (dt L v w % p = 0 ↔ dt L (nrm p L (rdA p L R v)) w % p = 0) := fun hR => by
      have e1 := dt_rdA L R v hR (w := w)
      have e2 : dt L (nrm p L (rdA p L R v)) w % p = (pinv p (rdA p L R v (ld (rdA p L R v) L)) * dt L (rdA p L R v) w) % p := dt_sc _ w L
      rw [e2, ← e1]
      refine ⟨fun q => ?_, fun q => ?_⟩
      · rw [md_mul (b' := 0) rfl (by rw [q, Int.zero_emod]), Int.mul_zero, Int.zero_emod]
      · false_or_by_contra
        rename_i q2
        refine hp.mul_ne ?_ q2 q
        rw [Int.emod_eq_of_lt i2 i3]
        intro q3
        rw [q3, Int.mul_zero, Int.zero_emod] at i1
        exact absurd i1 (by decide)
    constructor
    · rintro ⟨a, b⟩ r hr
      rcases List.mem_append.mp hr with hr | hr
      · exact a r hr
      · rw [List.mem_singleton.mp hr]; exact (key a).mp b
    · intro a
      have aR : ∀ r ∈ R, dt L r w % p = 0 := fun r hr => a r (List.mem_append_left _ hr)
      exact ⟨aR, (key aR).mpr (a _ (List.mem_append_right _ (List.mem_singleton.mpr rfl)))⟩
  · rw [if_neg h]
    have hz : ∀ j, j < L → rdA p L R v j = 0 := fun j hj => ld_lo (L := L) (by have := ld_le (rdA p L R v) L; omega)
    refine ⟨fun a => a.1, fun a => ⟨a, ?_⟩⟩
    rw [← dt_rdA L R v a, dt_z hz, Int.zero_emod]
def upv (w : Nat → Int) (l : Nat) (c : Int) : Nat → Int := fun j => if j = l then c else w j
def VcP (p : Int) (L : Nat) (w : Nat → Int) : Prop := (∀ j, L ≤ j → w j = 0) ∧ RgV p w
def allV (p : Nat) : Nat → List (Nat → Int)
  | 0 => [fun _ => 0]
  | L + 1 => (allV p L).flatMap (fun w => (List.range p).map (fun (c : Nat) => upv w L (c : Int)))
theorem allV_is {p : Nat} (h : 0 < p) : ∀ L, Lst (VcP (p : Int) L) (allV p L) ∧ (allV p L).length = p ^ L
  | 0 => by
    refine ⟨⟨by simp [allV], fun x => ?_⟩, rfl⟩
    show x ∈ [fun _ => 0] ↔ _
    rw [List.mem_singleton]
    refine ⟨fun e => ?_, fun e => funext fun j => e.1 j (by omega)⟩
    subst e
    exact ⟨fun _ _ => rfl, fun j => ⟨Int.le_refl _, by show (0 : Int) < p; omega⟩⟩
  | L + 1 => by
    obtain ⟨⟨h1, h2⟩, h3⟩ := allV_is h L
    refine ⟨⟨?_, fun x => ?_⟩, ?_⟩
    · show List.Pairwise _ _
      unfold allV
      rw [List.pairwise_flatMap]
      refine ⟨fun w hw => ?_, h1.imp_of_mem (fun {a b} ha hb hab x hx y hy e => ?_)⟩
      · rw [List.pairwise_map]
        refine List.nodup_range.imp (fun {a b} hab e => hab ?_)
        have := congrFun e L
        simp only [upv, if_true] at this
        omega
      · obtain ⟨c, hc, rfl⟩ := List.mem_map.mp hx
        obtain ⟨d, hd, rfl⟩ := List.mem_map.mp hy
        refine hab (funext fun j => ?_)
        by_cases q : j = L
        · rw [((h2 a).mp ha).1 j (by omega), ((h2 b).mp hb).1 j (by omega)]
        · have := congrFun e j
          simpa [upv, q] using this
    · unfold allV
      rw [List.mem_flatMap]
      constructor
      · rintro ⟨w, hw, hx⟩
        obtain ⟨c, hc, rfl⟩ := List.mem_map.mp hx
        have hw2 := (h2 w).mp hw
        have hc2 := List.mem_range.mp hc
        refine ⟨fun j hj => ?_, fun j => ?_⟩
        · show (if j = L then (c : Int) else w j) = 0
          rw [if_neg (by omega)]; exact hw2.1 j (by omega)
        · show 0 ≤ (if j = L then (c : Int) else w j) ∧ (if j = L then (c : Int) else w j) < p
          split
          · omega
          · exact hw2.2 j
      · intro hx
        refine ⟨upv x L 0, (h2 _).mpr ⟨fun j hj => ?_, fun j => ?_⟩, List.mem_map.mpr ⟨(x L).toNat, List.mem_range.mpr ?_, ?_⟩⟩
        · show (if j = L then 0 else x j) = 0
          split
          · rfl
          · exact hx.1 j (by omega)
        · show 0 ≤ (if j = L then 0 else x j) ∧ (if j = L then 0 else x j) < p
          split
          · omega
          · exact hx.2 j
        · have := hx.2 L; omega
        · have := hx.2 L
          funext j
          show (if j = L then (((x L).toNat : Nat) : Int) else (if j = L then 0 else x j)) = x j
          by_cases q : j = L
          · rw [if_pos q, q]; omega
          · rw [if_neg q, if_neg q]
    · unfold allV
      have : ∀ M : List (Nat → Int), (M.flatMap (fun w => (List.range p).map (fun (c : Nat) => upv w L (c : Int)))).length = M.length * p := fun M => by
        induction M with
        | nil => simp
        | cons w M ih => rw [List.flatMap_cons, List.length_append, ih, List.length_map, List.length_range, List.length_cons, Nat.add_mul]; omega
      rw [this, h3, Nat.pow_succ]
theorem dt_upv {p : Int} {l : Nat} {c : Int} (r w : Nat → Int) : ∀ {L : Nat}, dt L r (upv w l c) = dt L r w + (if l < L then r l * (c - w l) else 0)
  | 0 => by rw [if_neg (by omega)]; rfl
  | L + 1 => by
    rw [dt_s, dt_s, dt_upv (p := p) r w]
    by_cases q : L = l
    · subst q
      rw [if_neg (by omega), if_pos (by omega)]
      show _ + r L * (if L = L then c else w L) = _
      rw [if_pos rfl, Int.mul_sub]; omega
    · show _ + r L * (if L = l then c else w L) = _
      rw [if_neg q]
      by_cases q2 : l < L
      · rw [if_pos q2, if_pos (by omega)]; omega
      · rw [if_neg q2, if_neg (by omega)]; omega
def SolV (p : Int) (L : Nat) (R : List (Nat → Int)) (w : Nat → Int) : Prop := VcP p L w ∧ ∀ r ∈ R, dt L r w % p = 0
theorem sol_len {p : Nat} (hp : Pr (p : Int)) {L : Nat} : ∀ {R : List (Nat → Int)}, Ech (p : Int) L R → ∃ M, Lst (SolV (p : Int) L R) M ∧ M.length * p ^ R.length = p ^ L
  | [], _ => by
    have hpp := hp.pos
    obtain ⟨h1, h2⟩ := allV_is (p := p) (by omega) L
    refine ⟨allV p L, ⟨h1.1, fun x => (h1.2 x).trans ⟨fun h => ⟨h, fun r hr => by cases hr⟩, fun h => h.1⟩⟩, by rw [h2]; simp⟩
  | r :: R, hE => by
    have hpp := hp.pos
    obtain ⟨M, h1, h2⟩ := sol_len hp hE.2.2
    obtain ⟨⟨g1, g2, g3⟩, g4, -⟩ := hE
    generalize hl : ld r L = l at *
    -- the place l set so that the row fits
    have hs : ∀ (c : Int) (w : Nat → Int), ∀ s ∈ R, dt L s (upv w l c) = dt L s w := fun c w s hs => by
      rw [dt_upv (p := (p : Int)), if_pos g1, g4 s hs, Int.zero_mul, Int.add_zero]
    have hr : ∀ (c : Int) (w : Nat → Int), dt L r (upv w l c) = dt L r w + (c - w l) := fun c w => by
      rw [dt_upv (p := (p : Int)), if_pos g1, g2, Int.one_mul]
    have hv : ∀ (c : Int) (w : Nat → Int), 0 ≤ c → c < p → VcP (p : Int) L w → VcP (p : Int) L (upv w l c) := fun c w c0 c1 hw => by
      refine ⟨fun j hj => ?_, fun j => ?_⟩
      · show (if j = l then c else w j) = 0
        rw [if_neg (by omega)]; exact hw.1 j hj
      · show 0 ≤ (if j = l then c else w j) ∧ (if j = l then c else w j) < p
        split
        · exact ⟨c0, c1⟩
        · exact hw.2 j
    let pj : (Nat → Int) → Nat → Int := fun w => upv w l ((w l - dt L r w) % p)
    have hpj : ∀ w, SolV (p : Int) L R w → SolV (p : Int) L (r :: R) (pj w) := fun w hw => by
      refine ⟨hv _ w (Int.emod_nonneg _ (by omega)) (Int.emod_lt_of_pos _ (by omega)) hw.1, fun s hs' => ?_⟩
      rcases List.mem_cons.mp hs' with q | q
      · subst q
        show dt L s (upv w l ((w l - dt L s w) % p)) % p = 0
        rw [hr]
        have : (dt L s w + ((w l - dt L s w) % (p : Int) - w l)) % p = (dt L s w + ((w l - dt L s w) - w l)) % p := md_add rfl (md_sub (md_md _ _) rfl)
        rw [this]
        have e : dt L s w + (w l - dt L s w - w l) = 0 := by omega
        rw [e]; exact Int.zero_emod _
      · show dt L s (upv w l _) % p = 0
        rw [hs _ w s q]; exact hw.2 s q
    let M' := M.filter (fun w => decide (dt L r w % (p : Int) = 0))
    have hM' : Lst (SolV (p : Int) L (r :: R)) M' := by
      refine ⟨h1.1.filter _, fun w => ?_⟩
      rw [List.mem_filter, decide_eq_true_eq, h1.2 w]
      constructor
      · rintro ⟨a, b⟩
        exact ⟨a.1, fun s hs' => by
          rcases List.mem_cons.mp hs' with q | q
          · subst q; exact b
          · exact a.2 s q⟩
      · intro a
        exact ⟨⟨a.1, fun s hs' => a.2 s (List.mem_cons_of_mem _ hs')⟩, a.2 r List.mem_cons_self⟩
    refine ⟨M', hM', ?_⟩
    have hlen : M.length = M'.length * p := by
      refine fib_len pj p (fun a b => @decide (a = b) (Classical.propDecidable _)) (fun a b => ⟨fun q => @of_decide_eq_true _ (Classical.propDecidable _) q, fun q => @decide_eq_true _ (Classical.propDecidable _) q⟩) M' M hM'.1 (fun w hw => (hM'.2 _).mpr (hpj w ((h1.2 w).mp hw))) (fun b hb => ?_)
      have hb2 := (hM'.2 b).mp hb
      have e1 : Lst (fun w => w ∈ M ∧ pj w = b) (M.filter (fun w => @decide (pj w = b) (Classical.propDecidable _))) := ⟨h1.1.filter _, fun w => by rw [List.mem_filter, @decide_eq_true_eq _ (Classical.propDecidable _)]⟩
      have e2 : Lst (fun w => w ∈ M ∧ pj w = b) ((List.range p).map (fun (c : Nat) => upv b l (c : Int))) := by
        refine ⟨?_, fun w => ?_⟩
        · show List.Pairwise _ _
          rw [List.pairwise_map]
          refine List.nodup_range.imp (fun {x y} hxy e => hxy ?_)
          have := congrFun e l
          simp only [upv, if_true] at this
          omega
        · rw [List.mem_map]
          constructor
          · rintro ⟨c, hc, rfl⟩
            have hc2 := List.mem_range.mp hc
            have hbr := hb2.2 r List.mem_cons_self
            refine ⟨(h1.2 _).mpr ⟨hv _ b (by omega) (by omega) hb2.1, fun s hs' => by rw [hs _ b s hs']; exact hb2.2 s (List.mem_cons_of_mem _ hs')⟩, funext fun j => ?_⟩
            show (if j = l then ((upv b l (c : Int)) l - dt L r (upv b l (c : Int))) % (p : Int) else (if j = l then (c : Int) else b j)) = b j
            by_cases q : j = l
            · rw [if_pos q, hr]
              show ((if l = l then (c : Int) else b l) - _) % (p : Int) = _
              rw [if_pos rfl, q]
              have e : (c : Int) - (dt L r b + ((c : Int) - b l)) = b l - dt L r b := by omega
              rw [e, md_sub (b' := 0) rfl (by rw [hbr, Int.zero_emod]), Int.sub_zero]
              exact Int.emod_eq_of_lt (hb2.1.2 l).1 (hb2.1.2 l).2
            · rw [if_neg q, if_neg q]
          · rintro ⟨hw, e⟩
            have hw2 := (h1.2 w).mp hw
            have := hw2.1.2 l
            refine ⟨(w l).toNat, List.mem_range.mpr (by omega), funext fun j => ?_⟩
            show (if j = l then (((w l).toNat : Nat) : Int) else b j) = w j
            by_cases q : j = l
            · rw [if_pos q, q]; omega
            · rw [if_neg q, ← e]
              show (if j = l then _ else w j) = w j
              rw [if_neg q]
      have := e1.len e2
      rw [List.length_map, List.length_range] at this
      exact this
    rw [List.length_cons, Nat.pow_succ, Nat.mul_comm (p ^ R.length), ← Nat.mul_assoc, ← hlen]
    exact h2
