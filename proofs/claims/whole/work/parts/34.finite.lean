/-! FINITE GROUPS: rounds, orders, how many are killed -/
def nsm {G : Type} (ad : G → G → G) (z : G) : Nat → G → G
  | 0, _ => z
  | n + 1, a => ad (nsm ad z n a) a
theorem Grp.az {G : Type} {ad : G → G → G} {z : G} {ng : G → G} (A : Grp G ad z ng) (a : G) : ad a z = a := by rw [A.2.1, A.2.2.1]
theorem Grp.an {G : Type} {ad : G → G → G} {z : G} {ng : G → G} (A : Grp G ad z ng) (a : G) : ad a (ng a) = z := by rw [A.2.1, A.2.2.2]
theorem Grp.cl {G : Type} {ad : G → G → G} {z : G} {ng : G → G} (A : Grp G ad z ng) {a b c : G} (h : ad a b = ad a c) : b = c := by
  have := congrArg (ad (ng a)) h
  rwa [← A.1, ← A.1, A.2.2.2, A.2.2.1, A.2.2.1] at this
theorem Grp.cr {G : Type} {ad : G → G → G} {z : G} {ng : G → G} (A : Grp G ad z ng) {a b c : G} (h : ad b a = ad c a) : b = c := A.cl (by rw [A.2.1 a b, A.2.1 a c]; exact h)
theorem Grp.sw {G : Type} {ad : G → G → G} {z : G} {ng : G → G} (A : Grp G ad z ng) (a b c d : G) : ad (ad a b) (ad c d) = ad (ad a c) (ad b d) := by
  rw [A.1, ← A.1 b c d, A.2.1 b c, A.1 c b d, ← A.1]
theorem nsm_add {G : Type} {ad : G → G → G} {z : G} {ng : G → G} (A : Grp G ad z ng) (a : G) (m : Nat) : ∀ n, nsm ad z (m + n) a = ad (nsm ad z m a) (nsm ad z n a)
  | 0 => (A.az _).symm
  | n + 1 => by
    show ad (nsm ad z (m + n) a) a = ad (nsm ad z m a) (ad (nsm ad z n a) a)
    rw [nsm_add A a m n, A.1]
theorem nsm_one {G : Type} {ad : G → G → G} {z : G} {ng : G → G} (A : Grp G ad z ng) (a : G) : nsm ad z 1 a = a := A.2.2.1 a
theorem nsm_z {G : Type} {ad : G → G → G} {z : G} {ng : G → G} (A : Grp G ad z ng) : ∀ n, nsm ad z n z = z
  | 0 => rfl
  | n + 1 => by show ad (nsm ad z n z) z = z; rw [A.az, nsm_z A n]
theorem nsm_ad {G : Type} {ad : G → G → G} {z : G} {ng : G → G} (A : Grp G ad z ng) (a b : G) : ∀ n, nsm ad z n (ad a b) = ad (nsm ad z n a) (nsm ad z n b)
  | 0 => (A.az _).symm
  | n + 1 => by
    show ad (nsm ad z n (ad a b)) (ad a b) = ad (ad (nsm ad z n a) a) (ad (nsm ad z n b) b)
    rw [nsm_ad A a b n, A.sw]
theorem nsm_mul {G : Type} {ad : G → G → G} {z : G} {ng : G → G} (A : Grp G ad z ng) (a : G) (m : Nat) : ∀ n, nsm ad z (m * n) a = nsm ad z n (nsm ad z m a)
  | 0 => rfl
  | n + 1 => by rw [Nat.mul_succ, nsm_add A, nsm_mul A a m n]; rfl
theorem nsm_ng {G : Type} {ad : G → G → G} {z : G} {ng : G → G} (A : Grp G ad z ng) (a : G) (n : Nat) : nsm ad z n (ng a) = ng (nsm ad z n a) := by
  apply A.cr (a := nsm ad z n a)
  rw [← nsm_ad A, A.2.2.2, A.2.2.2, nsm_z A]
def gsum {G : Type} (ad : G → G → G) (z : G) : List G → G
  | [] => z
  | x :: L => ad x (gsum ad z L)
theorem gsum_perm {G : Type} {ad : G → G → G} {z : G} {ng : G → G} (A : Grp G ad z ng) {L M : List G} (h : List.Perm L M) : gsum ad z L = gsum ad z M := by
  induction h with
  | nil => rfl
  | cons x _ ih => show ad x _ = ad x _; rw [ih]
  | swap x y l =>
    show ad y (ad x _) = ad x (ad y _)
    rw [← A.1, A.2.1 y x, A.1]
  | trans _ _ ih1 ih2 => exact ih1.trans ih2
theorem gsum_map {G : Type} {ad : G → G → G} {z : G} {ng : G → G} (A : Grp G ad z ng) (a : G) : ∀ L : List G, gsum ad z (L.map (fun x => ad x a)) = ad (gsum ad z L) (nsm ad z L.length a)
  | [] => (A.az _).symm
  | x :: L => by
    show ad (ad x a) (gsum ad z (L.map _)) = ad (ad x (gsum ad z L)) (ad (nsm ad z L.length a) a)
    rw [gsum_map A a L, A.sw, A.2.1 a, A.1]
theorem nodup_map {G H : Type} {φ : G → H} {L : List G} (hi : ∀ a ∈ L, ∀ b ∈ L, φ a = φ b → a = b) (h : L.Nodup) : (L.map φ).Nodup :=
  List.pairwise_map.mpr (List.Pairwise.imp_of_mem (fun ha hb hab e => hab (hi _ ha _ hb e)) h)
theorem lagr {G : Type} {ad : G → G → G} {z : G} {ng : G → G} (A : Grp G ad z ng) {L : List G} (h1 : L.Nodup) (h2 : ∀ x, x ∈ L) (a : G) : nsm ad z L.length a = z := by
  have hp : List.Perm (L.map (fun x => ad x a)) L := by
    refine (List.perm_ext_iff_of_nodup (nodup_map (fun x _ y _ e => A.cr e) h1) h1).mpr (fun x => ⟨fun _ => h2 x, fun _ => List.mem_map.mpr ⟨ad x (ng a), h2 _, ?_⟩⟩)
    show ad (ad x (ng a)) a = x
    rw [A.1, A.2.2.2, A.az]
  have e := gsum_perm A hp
  rw [gsum_map A] at e
  exact A.cl (e.trans (A.az _).symm)
def IsOrd {G : Type} (ad : G → G → G) (z : G) (a : G) (n : Nat) : Prop := 0 < n ∧ nsm ad z n a = z ∧ ∀ m, 0 < m → nsm ad z m a = z → n ≤ m
theorem least_ex {P : Nat → Prop} : ∀ n, P n → ∃ m, m ≤ n ∧ P m ∧ ∀ k, P k → m ≤ k := by
  intro n
  induction n using Nat.strongRecOn with
  | _ n ih =>
    intro h
    by_cases q : ∃ k, k < n ∧ P k
    · obtain ⟨k, h1, h2⟩ := q
      obtain ⟨m, g1, g2, g3⟩ := ih k h1 h2
      exact ⟨m, by omega, g2, g3⟩
    · exact ⟨n, Nat.le_refl n, h, fun k hk => by
        rcases Nat.lt_or_ge k n with q2 | q2
        · exact absurd ⟨k, q2, hk⟩ q
        · exact q2⟩
theorem ord_ex {G : Type} {ad : G → G → G} {z : G} {a : G} {h : Nat} (h0 : 0 < h) (ha : nsm ad z h a = z) : ∃ n, IsOrd ad z a n := by
  obtain ⟨m, -, ⟨h1, h2⟩, h3⟩ := least_ex (P := fun n => 0 < n ∧ nsm ad z n a = z) h ⟨h0, ha⟩
  exact ⟨m, h1, h2, fun k k1 k2 => h3 k ⟨k1, k2⟩⟩
theorem ord_un {G : Type} {ad : G → G → G} {z : G} {a : G} {m n : Nat} (h1 : IsOrd ad z a m) (h2 : IsOrd ad z a n) : m = n := Nat.le_antisymm (h1.2.2 n h2.1 h2.2.1) (h2.2.2 m h1.1 h1.2.1)
theorem ord_dvd {G : Type} {ad : G → G → G} {z : G} {ng : G → G} (A : Grp G ad z ng) {a : G} {n : Nat} (h : IsOrd ad z a n) (m : Nat) : nsm ad z m a = z ↔ n ∣ m := by
  constructor
  · intro e
    have e2 : nsm ad z (n * (m / n) + m % n) a = z := by rw [Nat.div_add_mod]; exact e
    rw [nsm_add A, nsm_mul A, h.2.1, nsm_z A, A.2.2.1] at e2
    have hl := Nat.mod_lt m h.1
    rcases Nat.eq_zero_or_pos (m % n) with q | q
    · exact Nat.dvd_of_mod_eq_zero q
    · have := h.2.2 _ q e2; omega
  · rintro ⟨k, rfl⟩
    rw [nsm_mul A, h.2.1, nsm_z A]
/-- a list of just those that P says -/
def Lst {G : Type} (P : G → Prop) (M : List G) : Prop := M.Nodup ∧ ∀ x, x ∈ M ↔ P x
theorem Lst.len {G : Type} {P : G → Prop} {M M' : List G} (h : Lst P M) (h' : Lst P M') : M.length = M'.length :=
  ((List.perm_ext_iff_of_nodup h.1 h'.1).mpr (fun x => (h.2 x).trans (h'.2 x).symm)).length_eq
/-- a map with fibres of one size -/
theorem fib_len {G H : Type} (φ : G → H) (k : Nat) (eqH : H → H → Bool) (he : ∀ a b, eqH a b = true ↔ a = b) : ∀ (B : List H) (M : List G), B.Nodup → (∀ x ∈ M, φ x ∈ B) → (∀ b ∈ B, (M.filter (fun x => eqH (φ x) b)).length = k) → M.length = B.length * k
  | [], M, _, h, _ => by
    cases M with
    | nil => simp
    | cons x M => exact absurd (h x List.mem_cons_self) List.not_mem_nil
  | b :: B, M, hn, h, hf => by
    have h1 := hf b List.mem_cons_self
    obtain ⟨hb, hn'⟩ := List.nodup_cons.mp hn
    have h2 := fib_len φ k eqH he B (M.filter (fun x => !eqH (φ x) b)) hn' (fun x hx => by
      obtain ⟨g1, g2⟩ := List.mem_filter.mp hx
      rcases List.mem_cons.mp (h x g1) with e | e
      · rw [(he _ _).mpr e] at g2; cases g2
      · exact e) (fun c hc => by
      rw [← hf c (List.mem_cons_of_mem _ hc), List.filter_filter]
      congr 1
      refine List.filter_congr (fun x _ => ?_)
      cases e1 : eqH (φ x) c with
      | false => rfl
      | true =>
        cases e2 : eqH (φ x) b with
        | false => rfl
        | true =>
          have g1 := (he _ _).mp e1
          have g2 := (he _ _).mp e2
          exact absurd (by rw [← g2, g1]; exact hc) hb)
    have h3 : M.length = (M.filter (fun x => eqH (φ x) b)).length + (M.filter (fun x => !eqH (φ x) b)).length := by
      clear h hf h1 h2 hn
      induction M with
      | nil => rfl
      | cons x M ih =>
        cases e : eqH (φ x) b with
        | false => simp [List.filter_cons, e, ih]; omega
        | true => simp [List.filter_cons, e, ih]; omega
    rw [h3, h1, h2, List.length_cons, Nat.succ_mul]; omega
theorem in_gcd {G : Type} {ad : G → G → G} {z : G} {ng : G → G} (A : Grp G ad z ng) {S : G → Prop} (h2 : ∀ x y, S x → S y → S (ad x y)) (h3 : ∀ x, S x → S (ng x)) (hz : S z) {g : G} : ∀ m n, S (nsm ad z m g) → S (nsm ad z n g) → S (nsm ad z (Nat.gcd m n) g) := by
  intro m n
  induction m, n using Nat.gcd.induction with
  | H0 n => intro _ h; rw [Nat.gcd_zero_left]; exact h
  | H1 m n _ ih =>
    intro hm hn
    rw [Nat.gcd_rec]
    refine ih ?_ hm
    have hk : ∀ k, S (nsm ad z k (nsm ad z m g)) := fun k => by
      induction k with
      | zero => exact hz
      | succ k ih => exact h2 _ _ ih hm
    have e : nsm ad z n g = ad (nsm ad z (n / m) (nsm ad z m g)) (nsm ad z (n % m) g) := by
      rw [← nsm_mul A, ← nsm_add A, Nat.div_add_mod]
    have e2 : nsm ad z (n % m) g = ad (ng (nsm ad z (n / m) (nsm ad z m g))) (nsm ad z n g) := by
      rw [e, ← A.1, A.2.2.2, A.2.2.1]
    rw [e2]
    exact h2 _ _ (h3 _ (hk _)) hn
def Prm (q : Nat) : Prop := 2 ≤ q ∧ ∀ d, d ∣ q → d = 1 ∨ d = q
/-- a finite group that a prime kills has a power of it for its size -/
theorem pow_size {G : Type} {ad : G → G → G} {z : G} {ng : G → G} (A : Grp G ad z ng) {q : Nat} (hq : Prm q) {B : List G} (hB : B.Nodup) (h1 : ∀ x ∈ B, ∀ y ∈ B, ad x y ∈ B) (hk : ∀ x ∈ B, nsm ad z q x = z) :
    ∀ (n : Nat) (S : List G) (s : Nat), S.Nodup → (∀ x ∈ S, x ∈ B) → (∀ x ∈ S, ∀ y ∈ S, ad x y ∈ S) → z ∈ S → S.length = q ^ s → B.length ≤ n + S.length → ∃ t, B.length = q ^ t := by
  intro n
  induction n with
  | zero =>
    intro S s g1 g2 g3 g4 g5 g6
    have : S.length ≤ B.length := List.Nodup.length_le_of_subset g1 (fun x hx => g2 x hx)
    exact ⟨s, by omega⟩
  | succ n ih =>
    intro S s g1 g2 g3 g4 g5 g6
    by_cases hall : ∀ x ∈ B, x ∈ S
    · have h3 : B.length ≤ S.length := List.Nodup.length_le_of_subset hB (fun x hx => hall x hx)
      have h4 : S.length ≤ B.length := List.Nodup.length_le_of_subset g1 (fun x hx => g2 x hx)
      exact ⟨s, by omega⟩
    · have : ∃ g, g ∈ B ∧ ¬ g ∈ S := by
        apply Classical.byContradiction
        intro hn
        exact hall (fun x hx => Classical.byContradiction fun h => hn ⟨x, hx, h⟩)
      obtain ⟨g, hg1, hg2⟩ := this
      have hSn : ∀ x ∈ S, ng x ∈ S := fun x hx => by
        have hm : ∀ k, nsm ad z k x ∈ S := fun k => by
          induction k with
          | zero => exact g4
          | succ k ih2 => exact g3 _ ih2 _ hx
        have e : nsm ad z (q - 1) x = ng x := by
          apply A.cr (a := x)
          show nsm ad z (q - 1 + 1) x = _
          rw [A.2.2.2, Nat.sub_add_cancel (by have := hq.1; omega)]
          exact hk x (g2 x hx)
        rw [← e]; exact hm _
      have hgB : ∀ k, 0 < k → nsm ad z k g ∈ B := fun k h0 => by
        induction k with
        | zero => omega
        | succ k ih2 =>
          rcases Nat.eq_zero_or_pos k with e | e
          · subst e; rw [nsm_one A]; exact hg1
          · exact h1 _ (ih2 e) _ hg1
      have hsep : ∀ d, 0 < d → d < q → ¬ nsm ad z d g ∈ S := fun d d0 d1 hd => by
        have hc := in_gcd A (S := fun x => x ∈ S) (fun x y hx hy => g3 x hx y hy) (fun x hx => hSn x hx) g4 (g := g) d q hd (by show nsm ad z q g ∈ S; rw [hk g hg1]; exact g4)
        rcases hq.2 _ (Nat.gcd_dvd_right d q) with e | e
        · rw [e, nsm_one A] at hc; exact hg2 hc
        · have := Nat.gcd_le_left q d0; omega
      let T := fun i => S.map (fun x => ad x (nsm ad z i g))
      have hT : ∀ k, k ≤ q → ∃ L : List G, L.Nodup ∧ L.length = k * S.length ∧ ∀ x, x ∈ L ↔ ∃ i, i < k ∧ ∃ y ∈ S, x = ad y (nsm ad z i g) := by
        intro k
        induction k with
        | zero => intro _; exact ⟨[], List.nodup_nil, by simp, fun x => ⟨fun h => absurd h List.not_mem_nil, fun ⟨i, hi, _⟩ => by omega⟩⟩
        | succ k ihk =>
          intro hk1
          obtain ⟨L, l1, l2, l3⟩ := ihk (by omega)
          refine ⟨L ++ T k, ?_, ?_, fun x => ?_⟩
          · refine List.nodup_append.mpr ⟨l1, nodup_map (fun a _ b _ e => A.cr e) g1, fun a ha b hb e => ?_⟩
            obtain ⟨i, hi, y, hy, e1⟩ := (l3 a).mp ha
            obtain ⟨y', hy', e2⟩ := List.mem_map.mp hb
            refine hsep (k - i) (by omega) (by omega) ?_
            have e3 : ad y (nsm ad z i g) = ad y' (ad (nsm ad z (k - i) g) (nsm ad z i g)) := by
              rw [← nsm_add A, Nat.sub_add_cancel (by omega), ← e1, e, ← e2]
            rw [← A.1] at e3
            have e4 := A.cr e3
            have e5 : nsm ad z (k - i) g = ad (ng y') y := by rw [e4, ← A.1, A.2.2.2, A.2.2.1]
            rw [e5]
            exact g3 _ (hSn _ hy') _ hy
          · rw [List.length_append, l2]; show _ + (S.map _).length = _; rw [List.length_map, Nat.succ_mul]
          · rw [List.mem_append, l3]
            constructor
            · rintro (⟨i, hi, h⟩ | h)
              · exact ⟨i, by omega, h⟩
              · obtain ⟨y, hy, e⟩ := List.mem_map.mp h
                exact ⟨k, by omega, y, hy, e.symm⟩
            · rintro ⟨i, hi, y, hy, e⟩
              by_cases q2 : i = k
              · subst q2; exact Or.inr (List.mem_map.mpr ⟨y, hy, e.symm⟩)
              · exact Or.inl ⟨i, by omega, y, hy, e⟩
      obtain ⟨L, l1, l2, l3⟩ := hT q (Nat.le_refl q)
      have hq2 := hq.1
      refine ih L (s + 1) l1 (fun x hx => ?_) (fun x hx y hy => ?_) ?_ ?_ ?_
      · obtain ⟨i, hi, y, hy, rfl⟩ := (l3 x).mp hx
        rcases Nat.eq_zero_or_pos i with e | e
        · subst e; show ad y z ∈ B; rw [A.az]; exact g2 y hy
        · exact h1 _ (g2 y hy) _ (hgB i e)
      · obtain ⟨i, hi, a, ha, rfl⟩ := (l3 x).mp hx
        obtain ⟨j, hj, b, hb, rfl⟩ := (l3 y).mp hy
        rw [A.sw, ← nsm_add A]
        refine (l3 _).mpr ?_
        by_cases hij : i + j < q
        · exact ⟨i + j, hij, _, g3 _ ha _ hb, rfl⟩
        · refine ⟨i + j - q, by omega, _, g3 _ ha _ hb, ?_⟩
          have e : i + j = q + (i + j - q) := by omega
          have e2 : nsm ad z (i + j) g = nsm ad z (i + j - q) g := by
            have : nsm ad z (q + (i + j - q)) g = nsm ad z (i + j - q) g := by rw [nsm_add A, hk g hg1, A.2.2.1]
            rw [← e] at this; exact this
          rw [e2]
      · exact (l3 z).mpr ⟨0, by omega, z, g4, (A.az z).symm⟩
      · rw [l2, g5, Nat.pow_succ, Nat.mul_comm]
      · rw [l2]
        have h0 : 1 ≤ S.length := List.length_pos_of_mem g4
        have : 2 * S.length ≤ q * S.length := Nat.mul_le_mul_right _ hq2
        omega
/-- from one power of the prime to the next the killed grow by a power of it, no more than the first -/
theorem killed_step {G : Type} {ad : G → G → G} {z : G} {ng : G → G} (A : Grp G ad z ng) {q : Nat} (hq : Prm q) {j : Nat} {M0 M1 Mj : List G} (k1 : Lst (fun x => nsm ad z q x = z) M1) (k0 : Lst (fun x => nsm ad z (q ^ j) x = z) M0) (kj : Lst (fun x => nsm ad z (q ^ (j + 1)) x = z) Mj) :
    ∃ t, Mj.length = q ^ t * M0.length ∧ q ^ t ≤ M1.length := by
  classical
  have e0 : ∀ x, nsm ad z q (nsm ad z (q ^ j) x) = nsm ad z (q ^ (j + 1)) x := fun x => by rw [← nsm_mul A, Nat.pow_succ]
  let B := M1.filter (fun y => decide (∃ x ∈ Mj, nsm ad z (q ^ j) x = y))
  have hBm : ∀ y, y ∈ B ↔ ∃ x ∈ Mj, nsm ad z (q ^ j) x = y := fun y => by
    constructor
    · intro h; exact of_decide_eq_true (List.mem_filter.mp h).2
    · intro h
      refine List.mem_filter.mpr ⟨?_, decide_eq_true h⟩
      obtain ⟨x, hx, rfl⟩ := h
      exact (k1.2 _).mpr (by show nsm ad z q _ = z; rw [e0]; exact (kj.2 x).mp hx)
  have hBn : B.Nodup := k1.1.filter _
  have hzj : z ∈ Mj := (kj.2 z).mpr (nsm_z A _)
  obtain ⟨t, ht⟩ := pow_size A hq hBn (fun x hx y hy => by
      obtain ⟨a, ha, rfl⟩ := (hBm x).mp hx
      obtain ⟨b, hb, rfl⟩ := (hBm y).mp hy
      refine (hBm _).mpr ⟨ad a b, (kj.2 _).mpr ?_, nsm_ad A a b _⟩
      show nsm ad z _ (ad a b) = z
      rw [nsm_ad A, (kj.2 a).mp ha, (kj.2 b).mp hb, A.2.2.1]) (fun x hx => (k1.2 x).mp (List.mem_filter.mp hx).1) B.length [z] 0 (by simp) (fun x hx => by
      rw [List.mem_singleton.mp hx]
      exact (hBm z).mpr ⟨z, hzj, nsm_z A _⟩) (fun x hx y hy => by
      rw [List.mem_singleton.mp hx, List.mem_singleton.mp hy, A.2.2.1]; exact List.mem_singleton.mpr rfl) (List.mem_singleton.mpr rfl) (by simp) (by simp)
  refine ⟨t, ?_, ?_⟩
  · rw [← ht]
    refine fib_len (fun x => nsm ad z (q ^ j) x) M0.length (fun a b => decide (a = b)) (fun a b => decide_eq_true_iff) B Mj hBn (fun x hx => (hBm _).mpr ⟨x, hx, rfl⟩) (fun b hb => ?_)
    obtain ⟨x0, hx0, rfl⟩ := (hBm b).mp hb
    rw [← List.length_map (as := Mj.filter _) (fun x => ad x (ng x0))]
    refine Lst.len (P := fun x => nsm ad z (q ^ j) x = z) ⟨nodup_map (fun a _ b _ e => A.cr e) (kj.1.filter _), fun x => ?_⟩ k0
    constructor
    · intro h
      obtain ⟨y, hy, rfl⟩ := List.mem_map.mp h
      have := of_decide_eq_true (List.mem_filter.mp hy).2
      show nsm ad z _ (ad y (ng x0)) = z
      rw [nsm_ad A, nsm_ng A, this, A.an]
    · intro h
      refine List.mem_map.mpr ⟨ad x x0, List.mem_filter.mpr ⟨(kj.2 _).mpr ?_, ?_⟩, by show ad (ad x x0) (ng x0) = x; rw [A.1, A.an, A.az]⟩
      · show nsm ad z _ (ad x x0) = z
        rw [← e0, nsm_ad A, h, A.2.2.1, e0]; exact (kj.2 x0).mp hx0
      · refine decide_eq_true ?_
        show nsm ad z _ (ad x x0) = nsm ad z _ x0
        rw [nsm_ad A, h, A.2.2.1]
  · rw [← ht]
    exact List.Nodup.length_le_of_subset hBn (fun x hx => (List.mem_filter.mp hx).1)
