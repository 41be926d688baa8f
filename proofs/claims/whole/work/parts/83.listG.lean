/-! THE LIST OF CLASSES, in the group: fetched, found -/
theorem lin_put1 {p D : Int} (hp : Pr p) : pput (pput (pC p 1) 1 1) 0 D = lin p 1 D := Pz.ext fun k => by
  have hpp := hp.pos
  rw [pput_c, pput_c, pC_c, lin_c]
  match k with
  | 0 => rfl
  | 1 => exact md_md _ _
  | k + 2 => show (0 : Int) % p % p % p = 0 % p; rw [md_md, md_md]
theorem put_C0 {p D : Int} : pput (pC p 0) 0 D = pC p D := Pz.ext fun k => by
  rw [pput_c, pC_c, pC_c]
  match k with
  | 0 => rfl
  | k + 1 => exact md_md _ _
theorem qd_put {p u0 u1 : Int} : pput (pput (pput (pC p 1) 2 1) 0 u0) 1 u1 = qd p u1 u0 := Pz.ext fun k => by
  rw [pput_c, pput_c, pput_c, pC_c, qd_c]
  match k with
  | 0 => exact md_md _ _
  | 1 => rfl
  | 2 => show (1 : Int) % p % p % p = 1 % p; rw [md_md, md_md]
  | k + 3 => show (0 : Int) % p % p % p % p = 0 % p; rw [md_md, md_md, md_md]
theorem lin_put2 {p v0 v1 : Int} : pput (pput (pC p 0) 0 v0) 1 v1 = lin p v1 v0 := Pz.ext fun k => by
  rw [pput_c, pput_c, pC_c, lin_c]
  match k with
  | 0 => exact md_md _ _
  | 1 => rfl
  | k + 2 => show (0 : Int) % p % p % p = 0 % p; rw [md_md, md_md]
theorem tkl_0 {p : Int} (f : Pz p) (g : Nat) : (tkl f g)[0]? = some 0 := by unfold tkl; rfl
theorem dm1 {p a b : Int} (hp : 0 < p) (hb : 0 ≤ b ∧ b < p) : (a * p + b) % p = b ∧ (a * p + b) / p = a := by
  constructor
  · rw [Int.add_comm, Int.add_mul_emod_self_right]; exact md0 hb
  · rw [Int.add_comm, Int.add_mul_ediv_right b a (by omega), Int.ediv_eq_zero_of_lt hb.1 hb.2, Int.zero_add]
set_option maxHeartbeats 8000000 in
theorem s_fetchG {p : Int} {N : Mem} {ρ : Int → Option (Pz p)} {Q : Post} {f : Pz p} {g : Nat} {q : Int} {z x : Gq f g} {i : Nat} (h : ST p N ρ) (hq : KD q = 16) (hg : g = 1 ∨ g = 2) (hA : TkA N (tkl f g)) (hl : (tkl f g).length ≤ 450) (hx : (cll f g z)[i]? = some x)
    (hQ : ∀ N' ρ', ST p N' ρ' → FR N N' → PH ρ' q x.1 → (∀ r, r ≠ q + 1 → r ≠ q + 3 → ρ' r = ρ r) → Q none NN N') : CL 83 [(2, 88), (0, (i : Int)), (2, q), (9, 0), (9, 0), (9, 0), (9, 0)] NN N Q := by
  have hp := h.1.2.1
  have hpp := hp.pos
  have h4 := p4_le hp
  have ht := cll_at hp hg z hx
  have hil := (List.getElem?_eq_some_iff.mp ht).1
  have hasc := (tkl_ascB hp f g).1
  have hi0 : tkn x.1 = 0 → i = 0 := fun e => by
    rcases Nat.eq_zero_or_pos i with q | q
    · exact q
    · have := hasc 0 i 0 _ q (tkl_0 f g) ht; omega
  have hi1 : tkn x.1 ≠ 0 → 1 ≤ i := fun e => by
    rcases Nat.eq_zero_or_pos i with q | q
    · subst q; rw [tkl_0] at ht; exact absurd (Option.some.inj ht).symm e
    · exact q
  have fin : ∀ (a : Pz p × Pz p) N', a = x.1 → ST p N' (upq (upq ρ (q + 1) a.1) (q + 3) a.2) → FR N N' → Q none NN N' := fun a N' e S1 F1 => by
    refine hQ N' _ S1 F1 ?_ (fun r r1 r2 => by rw [upq_n r2, upq_n r1])
    rw [← e]
    exact ⟨by rw [upq_n (by omega)]; exact upq_e _ _ _, upq_e _ _ _⟩
  rcases red_cases hp (by omega) x.2 with ⟨-, e1, t1⟩ | ⟨-, u0, v0, r1, r2, e1, t1⟩ | ⟨hg2, -, u1, u0, v1, v0, r0, r1, r3, r2, e1, t1⟩
  · have := hi0 t1
    subst this
    exact s_fetch0 h hq fun N' S1 F1 => fin _ N' e1.symm S1 F1
  · have hb := tk_b1 hp r1 r2
    rw [t1] at ht
    refine s_fetch1 h hq hA ⟨hi1 (by omega), by omega⟩ ht hb fun N' S1 F1 => fin _ N' e1.symm ?_ F1
    obtain ⟨d1, d2⟩ := dm1 (p := p) (a := u0) (b := v0) (by omega) r2
    rw [d1, d2, lin_put1 hp, put_C0, md0 r1] at S1
    exact S1
  · have hb := tk_b2 hp r0 r1 r3 r2
    rw [t1] at ht
    refine s_fetch2 h hq hA ⟨hi1 (by omega), by omega⟩ ht hb fun N' S1 F1 => fin _ N' e1.symm ?_ F1
    obtain ⟨d1, d2⟩ := dm1 (p := p) (a := (u1 * p + u0) * p + v1) (b := v0) (by omega) r2
    obtain ⟨d3, d4⟩ := dm1 (p := p) (a := u1 * p + u0) (b := v1) (by omega) r3
    obtain ⟨d5, d6⟩ := dm1 (p := p) (a := u1) (b := u0) (by omega) r1
    rw [d1, d2, d3, d4, d5, d6, qd_put, lin_put2, md0 r0] at S1
    exact S1
theorem cll_ex {p : Int} (hp : Pr p) {f : Pz p} {g : Nat} (hg : g = 1 ∨ g = 2) (z x : Gq f g) : ∃ i : Nat, (cll f g z)[i]? = some x := List.getElem?_of_mem ((cll_is hp hg z).2 x)
theorem cll_len {p : Int} (f : Pz p) (g : Nat) (z : Gq f g) : (cll f g z).length = (tkl f g).length := List.length_map ..
/-- the number of a class -/
noncomputable def clI {p : Int} {f : Pz p} {g : Nat} (z x : Gq f g) : Nat := @dite _ (∃ i : Nat, (cll f g z)[i]? = some x) (Classical.propDecidable _) (fun h => h.choose) (fun _ => 0)
theorem clI_is {p : Int} (hp : Pr p) {f : Pz p} {g : Nat} (hg : g = 1 ∨ g = 2) (z x : Gq f g) : (cll f g z)[clI z x]? = some x := by
  have h := cll_ex hp hg z x
  unfold clI
  rw [dif_pos h]
  exact h.choose_spec
theorem clI_un {p : Int} (hp : Pr p) {f : Pz p} {g : Nat} (hg : g = 1 ∨ g = 2) {z x : Gq f g} {i : Nat} (h : (cll f g z)[i]? = some x) : clI z x = i := by
  have h2 := clI_is hp hg z x
  have t1 := cll_at hp hg z h
  have t2 := cll_at hp hg z h2
  have hasc := (tkl_ascB hp f g).1
  rcases Nat.lt_trichotomy (clI z x) i with q | q | q
  · have := hasc _ _ _ _ q t2 t1; omega
  · exact q
  · have := hasc _ _ _ _ q t1 t2; omega
set_option maxHeartbeats 8000000 in
theorem s_findG {p : Int} {N : Mem} {ρ : Int → Option (Pz p)} {Q : Post} {f : Pz p} {g : Nat} {q : Int} {z x : Gq f g} (h : ST p N ρ) (hq : KD q = 16) (hg : g = 1 ∨ g = 2) (hA : TkA N (tkl f g)) (hl : (tkl f g).length ≤ 450) (hx : PH ρ q x.1) (hQ : Q (some (0, (clI z x : Int))) NN N) : CL 85 [(2, 88), (2, q), (9, 0), (9, 0), (9, 0), (9, 0), (9, 0)] NN N Q := by
  have hp := h.1.2.1
  have h4 := p4_le hp
  have hm : pmo x.1.1 := x.2.1
  refine s_find h hq hx hm.1 hA hl (tkl_ascB hp f g).1 (cll_at hp hg z (clI_is hp hg z x)) (fun t ht => ?_) hQ
  have := (tkl_ascB hp f g).2 t ht
  omega
/-! HOW THE GROUP IS PUT TOGETHER: orders, how many a number brings to nought -/
theorem ord_mul {G : Type} {ad : G → G → G} {z : G} {ng : G → G} (A : Grp G ad z ng) {a : G} {n k : Nat} (h : IsOrd ad z a n) (hk : 0 < k) : IsOrd ad z (nsm ad z k a) (n / Nat.gcd n k) := by
  have hn := h.1
  have hd := Nat.gcd_pos_of_pos_left k hn
  obtain ⟨m, hm⟩ := Nat.gcd_dvd_left n k
  obtain ⟨j, hj⟩ := Nat.gcd_dvd_right n k
  generalize hD : Nat.gcd n k = D at *
  have em : n / D = m := by
    rw [hm, Nat.mul_div_cancel_left _ hd]
  have hm0 : 0 < m := by
    rcases Nat.eq_zero_or_pos m with q | q
    · rw [q, Nat.mul_zero] at hm; omega
    · exact q
  have hco : Nat.gcd m j = 1 := by
    have h1 : Nat.gcd (D * m) (D * j) = D := by rw [← hm, ← hj]; exact hD
    rw [Nat.gcd_mul_left] at h1
    exact Nat.eq_of_mul_eq_mul_left hd (by rw [h1, Nat.mul_one])
  rw [em]
  refine ⟨hm0, ?_, fun t ht hz => ?_⟩
  · rw [← nsm_mul A, hj, Nat.mul_comm D j, Nat.mul_assoc, ← hm, Nat.mul_comm, nsm_mul A, h.2.1, nsm_z A]
  · rw [← nsm_mul A] at hz
    have h1 := (ord_dvd A h _).mp hz
    rw [hm, hj, Nat.mul_assoc] at h1
    have h2 := Nat.dvd_of_mul_dvd_mul_left hd h1
    have h3 : m ∣ t := Nat.Coprime.dvd_of_dvd_mul_left hco h2
    exact Nat.le_of_dvd ht h3
/-- how many classes of a list n brings to nought -/
noncomputable def klN {G : Type} (ad : G → G → G) (z : G) (L : List G) (n : Nat) : Nat := (L.filter (fun x => @decide (nsm ad z n x = z) (Classical.propDecidable _))).length
theorem klN_is {G : Type} (ad : G → G → G) (z : G) {L : List G} (h1 : L.Nodup) (h2 : ∀ x, x ∈ L) (n : Nat) : Lst (fun x => nsm ad z n x = z) (L.filter (fun x => @decide (nsm ad z n x = z) (Classical.propDecidable _))) := ⟨h1.filter _, fun x => by rw [List.mem_filter, @decide_eq_true_eq _ (Classical.propDecidable _)]; exact ⟨fun h => h.2, fun h => ⟨h2 x, h⟩⟩⟩
