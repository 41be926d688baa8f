/-! THE CLASS NUMBER: sums in another order, small tables -/
theorem AIz : Grp Int (fun a b : Int => a + b) 0 (fun a => -a) := ⟨fun a b c => Int.add_assoc a b c, fun a b => Int.add_comm a b, fun a => Int.zero_add a, fun a => Int.add_left_neg a⟩
theorem isum_pm {F : Nat → Int} {σ : Nat → Nat} {n : Nat} (h : ((List.range n).map σ).Perm (List.range n)) : isum (fun i => F (σ i)) n = isum F n := by
  rw [← gsum_is, ← gsum_is]
  have := gsum_perm AIz (h.map F)
  rw [List.map_map] at this; exact this
theorem isum_sm (c : Int) (F : Nat → Int) : ∀ n, isum (fun i => c * F i) n = c * isum F n
  | 0 => by show (0 : Int) = c * 0; rw [Int.mul_zero]
  | n + 1 => by
    show isum (fun i => c * F i) n + c * F n = c * (isum F n + F n)
    rw [isum_sm c F n, Int.mul_add]
theorem isum_co (c : Int) : ∀ n : Nat, isum (fun _ => c) n = n * c
  | 0 => by show (0 : Int) = 0 * c; rw [Int.zero_mul]
  | n + 1 => by
    show isum (fun _ => c) n + c = ((n + 1 : Nat) : Int) * c
    rw [isum_co c n, show ((n + 1 : Nat) : Int) = (n : Int) + 1 by omega, Int.add_mul, Int.one_mul]
theorem isum_ns (E : Nat → Nat) : ∀ n, isum (fun i => (E i : Int)) n = (nsum E n : Int)
  | 0 => rfl
  | n + 1 => by
    show isum (fun i => (E i : Int)) n + (E n : Int) = ((nsum E n + E n : Nat) : Int)
    rw [isum_ns E n]; omega
theorem selT_len (b : Nat → Bool) (t : Nat → Int) : ∀ n, ((selT b t n).length : Int) = isum (fun v => if b v = true then 1 else 0) n
  | 0 => rfl
  | n + 1 => by
    show ((selT b t n ++ (if b n then [t n] else [])).length : Int) = isum (fun v => if b v = true then 1 else 0) n + (if b n = true then 1 else 0)
    rw [List.length_append, Int.natCast_add, selT_len b t n]
    split <;> rfl
theorem catT_len (L : Nat → List Int) : ∀ n, ((catT L n).length : Int) = isum (fun u => ((L u).length : Int)) n
  | 0 => rfl
  | n + 1 => by
    show ((catT L n ++ L n).length : Int) = isum (fun u => ((L u).length : Int)) n + ((L n).length : Int)
    rw [List.length_append, Int.natCast_add, catT_len L n]
theorem rowY_len (p s : Int) : ∀ n, ((rowY p s n).length : Int) = isum (fun y => if (y : Int) * y % p = s then 1 else 0) n
  | 0 => rfl
  | n + 1 => by
    rw [rowY_s, List.length_append, Int.natCast_add, rowY_len p s n]
    show _ = isum (fun y => if (y : Int) * y % p = s then 1 else 0) n + (if (n : Int) * n % p = s then 1 else 0)
    split <;> rfl
theorem ptl_len {p : Int} (f : Pz p) : ∀ n, ((ptl f n).length : Int) = isum (fun x => ((rowY p (pev f x) p.toNat).length : Int)) n
  | 0 => rfl
  | n + 1 => by
    rw [ptl_s, List.length_append, Int.natCast_add, ptl_len f n]
    show _ + ((rowP p (pev f n) n p.toNat).length : Int) = isum (fun x => ((rowY p (pev f x) p.toNat).length : Int)) n + ((rowY p (pev f n) p.toNat).length : Int)
    unfold rowP
    rw [List.length_map]
/-- how many of two numbers have this double product, this sum of squares -/
def c3 (p : Int) (n : Nat) (D r s : Int) : Int := isum (fun v => isum (fun w => if 2 * (v : Int) * w % p = r ∧ ((v : Int) * v * D + w * w) % p = s then 1 else 0) n) n
def c3N (p D r s : Nat) : Nat := nsum (fun v => nsum (fun w => bif Nat.beq (2 * v * w % p) r && Nat.beq ((v * v * D + w * w) % p) s then 1 else 0) p) p
def NNq (p s : Nat) : Nat := nsum (fun y => bif Nat.beq (y * y % p) s then 1 else 0) p
theorem beq_if (a b : Nat) : Nat.beq a b = decide (a = b) := by
  by_cases h : a = b
  · subst h; simp
  · have : Nat.beq a b = false := by
      cases e : Nat.beq a b with
      | false => rfl
      | true => exact absurd (Nat.eq_of_beq_eq_true e) h
    rw [this]; simp [h]
theorem c3_N (p D r s : Nat) : c3 p p D r s = (c3N p D r s : Int) := by
  unfold c3 c3N
  rw [← isum_ns]
  refine isum_cg2 p (fun v _ => ?_)
  rw [← isum_ns]
  refine isum_cg2 p (fun w _ => ?_)
  rw [beq_if, beq_if]
  have e1 : (2 * (v : Int) * w % p = r) ↔ (2 * v * w % p = r) := by
    constructor <;> intro h <;> exact_mod_cast h
  have e2 : (((v : Int) * v * D + w * w) % p = s) ↔ ((v * v * D + w * w) % p = s) := by
    constructor <;> intro h <;> exact_mod_cast h
  by_cases h1 : 2 * v * w % p = r
  · by_cases h2 : (v * v * D + w * w) % p = s
    · rw [if_pos ⟨e1.mpr h1, e2.mpr h2⟩]; simp [h1, h2]
    · rw [if_neg (fun h => h2 (e2.mp h.2))]; simp [h2]
  · rw [if_neg (fun h => h1 (e1.mp h.1))]; simp [h1]
theorem NN_N (p s : Nat) : ((rowY (p : Int) (s : Int) p).length : Int) = (NNq p s : Int) := by
  rw [rowY_len]
  unfold NNq
  rw [← isum_ns]
  refine isum_cg2 p (fun y _ => ?_)
  rw [beq_if]
  have e1 : ((y : Int) * y % p = s) ↔ (y * y % p = s) := by
    constructor <;> intro h <;> exact_mod_cast h
  by_cases h1 : y * y % p = s
  · rw [if_pos (e1.mpr h1)]; simp [h1]
  · rw [if_neg (fun h => h1 (e1.mp h))]; simp [h1]
def nsN (p : Nat) : Nat := if p = 7 then 3 else 2
def K1 (p : Nat) : Bool := (List.range p).all (fun r => (List.range p).all (fun s => Nat.beq (c3N p 1 r s) (NNq p ((s + r) % p) * NNq p ((s + (p - r)) % p))))
def K0 (p : Nat) : Bool := (List.range p).all (fun r => (List.range p).all (fun s => (Nat.beq r 0 && Nat.beq s 0) || Nat.beq (c3N p 0 r s + NNq p s) (NNq p s * NNq p s)))
def K3 (p : Nat) : Bool := (List.range p).all (fun s => Nat.beq (NNq p s * NNq p s + 2) (2 * NNq p s + c3N p (nsN p) 0 s))
theorem K1_3 : K1 3 = true := by decide +kernel
theorem K1_5 : K1 5 = true := by decide +kernel
theorem K1_7 : K1 7 = true := by decide +kernel
theorem K1_11 : K1 11 = true := by decide +kernel
theorem K1_13 : K1 13 = true := by decide +kernel
theorem K03 : ([3, 5, 7, 11, 13] : List Nat).all (fun p => K0 p && K3 p) = true := by decide +kernel
/-! orders of the numbers -/
def Pm (p : Nat) : Bool := ((List.range p).map (fun u => (p - u) % p)).isPerm (List.range p) && ((List.range p).map (fun a => 2 * (p - a) % p)).isPerm (List.range p) && (List.range p).all (fun a => ((List.range p).map (fun D => (a * a + (p - D)) % p)).isPerm (List.range p) && ((List.range p).map (fun b => (b + a) % p)).isPerm (List.range p) && ((List.range p).map (fun c => (2 * a + (p - c)) % p)).isPerm (List.range p) && ((List.range p).map (fun c => (2 * c + (p - a)) % p)).isPerm (List.range p) && (Nat.beq a 0 || ((List.range p).map (fun v => v * a % p)).isPerm (List.range p))) && (List.range p ++ List.range p).isPerm ([0, 0] ++ (List.range (p - 1)).map (fun b => (b + 1) * (b + 1) % p) ++ (List.range (p - 1)).map (fun b => nsN p * ((b + 1) * (b + 1)) % p))
theorem Pm_all : ([3, 5, 7, 11, 13] : List Nat).all Pm = true := by decide +kernel
theorem Pr.mem {p : Nat} (hp : Pr (p : Int)) : p ∈ ([3, 5, 7, 11, 13] : List Nat) := by
  obtain ⟨n, e, h⟩ := hp.nat
  have : p = n := by omega
  rw [this]; exact h
theorem K1_p {p : Nat} (hp : Pr (p : Int)) : K1 p = true := by
  have h := hp.mem
  simp only [List.mem_cons, List.not_mem_nil, or_false] at h
  rcases h with rfl | rfl | rfl | rfl | rfl
  · exact K1_3
  · exact K1_5
  · exact K1_7
  · exact K1_11
  · exact K1_13
theorem k1_is {p : Nat} (hp : Pr (p : Int)) {r s : Nat} (hr : r < p) (hs : s < p) : c3N p 1 r s = NNq p ((s + r) % p) * NNq p ((s + (p - r)) % p) :=
  Nat.eq_of_beq_eq_true (List.all_eq_true.mp (List.all_eq_true.mp (K1_p hp) r (List.mem_range.mpr hr)) s (List.mem_range.mpr hs))
theorem k0_is {p : Nat} (hp : Pr (p : Int)) {r s : Nat} (hr : r < p) (hs : s < p) (h0 : ¬ (r = 0 ∧ s = 0)) : c3N p 0 r s + NNq p s = NNq p s * NNq p s := by
  have h := List.all_eq_true.mp K03 p hp.mem
  rw [Bool.and_eq_true] at h
  have h2 := List.all_eq_true.mp (List.all_eq_true.mp h.1 r (List.mem_range.mpr hr)) s (List.mem_range.mpr hs)
  rw [Bool.or_eq_true, Bool.and_eq_true, beq_if, beq_if, decide_eq_true_eq, decide_eq_true_eq] at h2
  exact Nat.eq_of_beq_eq_true (h2.resolve_left h0)
theorem k3_is {p : Nat} (hp : Pr (p : Int)) {s : Nat} (hs : s < p) : NNq p s * NNq p s + 2 = 2 * NNq p s + c3N p (nsN p) 0 s := by
  have h := List.all_eq_true.mp K03 p hp.mem
  rw [Bool.and_eq_true] at h
  exact Nat.eq_of_beq_eq_true (List.all_eq_true.mp h.2 s (List.mem_range.mpr hs))
theorem pm_is {p : Nat} (hp : Pr (p : Int)) : ((List.range p).map (fun u => (p - u) % p)).Perm (List.range p) ∧ ((List.range p).map (fun a => 2 * (p - a) % p)).Perm (List.range p) ∧ (∀ a, a < p → ((List.range p).map (fun D => (a * a + (p - D)) % p)).Perm (List.range p) ∧ ((List.range p).map (fun b => (b + a) % p)).Perm (List.range p) ∧ ((List.range p).map (fun c => (2 * a + (p - c)) % p)).Perm (List.range p) ∧ ((List.range p).map (fun c => (2 * c + (p - a)) % p)).Perm (List.range p) ∧ (a ≠ 0 → ((List.range p).map (fun v => v * a % p)).Perm (List.range p))) ∧ (List.range p ++ List.range p).Perm ([0, 0] ++ (List.range (p - 1)).map (fun b => (b + 1) * (b + 1) % p) ++ (List.range (p - 1)).map (fun b => nsN p * ((b + 1) * (b + 1)) % p)) := by
  have h := List.all_eq_true.mp Pm_all p hp.mem
  unfold Pm at h
  simp only [Bool.and_eq_true, Bool.or_eq_true, List.all_eq_true, List.mem_range, List.isPerm_iff, beq_if, decide_eq_true_eq] at h
  obtain ⟨⟨⟨h1, h2⟩, h3⟩, h4⟩ := h
  exact ⟨h1, h2, fun a ha => ⟨(h3 a ha).1.1.1.1, (h3 a ha).1.1.1.2, (h3 a ha).1.1.2, (h3 a ha).1.2, fun e => (h3 a ha).2.resolve_left e⟩, h4⟩
/-- a square taken out of D -/
theorem c3_sc {p : Nat} (hp : Pr (p : Int)) {b : Nat} (hb : 0 < b ∧ b < p) (D s : Int) {r : Int} (hr : 0 ≤ r ∧ r < p) : c3 p p (D * (b * b) % p) r s = c3 p p D (r * b % p) s := by
  have hpp := hp.pos
  obtain ⟨-, -, hP, -⟩ := pm_is hp
  unfold c3
  rw [← isum_pm (F := fun v => isum (fun w => if 2 * (v : Int) * w % p = r * b % p ∧ ((v : Int) * v * D + w * w) % p = s then 1 else 0) p) ((hP b hb.2).2.2.2.2 (by omega))]
  refine isum_cg2 p (fun v _ => isum_cg2 p (fun w _ => ?_))
  have e0 : ((v * b % p : Nat) : Int) = (v : Int) * b % p := by rw [Int.natCast_emod, Int.natCast_mul]
  rw [e0]
  have e1 : 2 * ((v : Int) * b % p) * w % p = (2 * (v : Int) * w * b) % p := by
    have : 2 * ((v : Int) * b % p) * w % p = 2 * ((v : Int) * b) * w % p := md_mul (md_mul rfl (md_md _ _)) rfl
    rw [this]; congr 1; grind
  have e2 : (((v : Int) * b % p) * ((v : Int) * b % p) * D + w * w) % p = ((v : Int) * v * (D * (b * b) % p) + w * w) % p := by
    have q1 : (((v : Int) * b % p) * ((v : Int) * b % p) * D + w * w) % p = ((v : Int) * b * ((v : Int) * b) * D + w * w) % p := md_add (md_mul (md_mul (md_md _ _) (md_md _ _)) rfl) rfl
    have q2 : ((v : Int) * v * (D * (b * b) % p) + w * w) % p = ((v : Int) * v * (D * (b * b)) + w * w) % p := md_add (md_mul rfl (md_md _ _)) rfl
    rw [q1, q2]; congr 1; grind
  rw [e1, e2]
  have e3 : (2 * (v : Int) * w * b % p = r * b % p) ↔ (2 * (v : Int) * w % p = r) := by
    constructor
    · intro h
      have h2 : ((2 * (v : Int) * w - r) * b) % p = 0 := by
        rw [Int.sub_mul]
        have := md_sub (p := (p : Int)) (b := r * b) (b' := r * b) h rfl
        rw [this, Int.sub_self, Int.zero_emod]
      have h3 : (2 * (v : Int) * w - r) % p = 0 := by
        false_or_by_contra
        rename_i hn
        exact hp.mul_ne hn (by rw [Int.emod_eq_of_lt (by omega) (by omega)]; omega) h2
      have h4 := md_add (p := (p : Int)) (a := 2 * (v : Int) * w - r) (a' := 0) (b := r) (b' := r) (by rw [h3, Int.zero_emod]) rfl
      rw [Int.sub_add_cancel, Int.zero_add, Int.emod_eq_of_lt hr.1 hr.2] at h4
      exact h4
    · intro h
      have : 2 * (v : Int) * w * b % p = (2 * (v : Int) * w % p) * b % p := (md_mul (md_md _ _) rfl).symm
      rw [this, h]
  by_cases c : 2 * (v : Int) * w % p = r
  · by_cases c2 : ((v : Int) * v * (D * (b * b) % p) + w * w) % p = s
    · rw [if_pos ⟨c, c2⟩, if_pos ⟨e3.mpr c, c2⟩]
    · rw [if_neg (fun h => c2 h.2), if_neg (fun h => c2 h.2)]
  · rw [if_neg (fun h => c h.1), if_neg (fun h => c (e3.mp h.1))]
