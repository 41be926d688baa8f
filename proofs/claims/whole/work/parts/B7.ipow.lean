/-! POWERS OF IDEALS; ideals that have nothing in common; products as what lies in all -/
def ipw {K : Type} [Lean.Grind.CommRing K] (P : K → Prop) : Nat → K → Prop
  | 0 => fun _ => True
  | n + 1 => imul P (ipw P n)
theorem all_is {K : Type} [Lean.Grind.CommRing K] : IsI (fun _ : K => True) := ⟨trivial, fun _ _ _ _ => trivial, fun _ _ _ => trivial⟩
theorem ipw_is {K : Type} [Lean.Grind.CommRing K] (P : K → Prop) : ∀ n, IsI (ipw P n)
  | 0 => all_is
  | n + 1 => imul_is P (ipw P n)
theorem IsI.mr {K : Type} [Lean.Grind.CommRing K] {P : K → Prop} (h : IsI P) {a : K} (c : K) (ha : P a) : P (a * c) := by
  have e : a * c = c * a := by grind
  rw [e]; exact h.2.2 c a ha
theorem IsI.ng {K : Type} [Lean.Grind.CommRing K] {P : K → Prop} (h : IsI P) {a : K} (ha : P a) : P (-a) := by
  have e : -a = (-1) * a := by grind
  rw [e]; exact h.2.2 _ a ha
theorem IsI.sb {K : Type} [Lean.Grind.CommRing K] {P : K → Prop} (h : IsI P) {a b : K} (ha : P a) (hb : P b) : P (a - b) := by
  have e : a - b = a + -b := by grind
  rw [e]; exact h.2.1 _ _ ha (h.ng hb)
theorem imul_l {K : Type} [Lean.Grind.CommRing K] {P Q : K → Prop} (h : IsI P) {x : K} (hx : imul P Q x) : P x := imul_le h (fun a b ha _ => h.mr b ha) hx
theorem imul_r {K : Type} [Lean.Grind.CommRing K] {P Q : K → Prop} (h : IsI Q) {x : K} (hx : imul P Q x) : Q x := imul_le h (fun a b _ hb => h.2.2 a b hb) hx
theorem imul_all {K : Type} [Lean.Grind.CommRing K] {P : K → Prop} (h : IsI P) : imul P (fun _ => True) = P := by
  refine pred_ext (fun x hx => imul_l h hx) (fun x hx => ?_)
  have e : x = x * 1 := by grind
  rw [e]; exact imul_in hx trivial
theorem all_imul {K : Type} [Lean.Grind.CommRing K] {P : K → Prop} (h : IsI P) : imul (fun _ => True) P = P := by rw [imul_comm, imul_all h]
theorem imul_mono {K : Type} [Lean.Grind.CommRing K] {P P' Q Q' : K → Prop} (h1 : ∀ x, P x → P' x) (h2 : ∀ x, Q x → Q' x) {x : K} (hx : imul P Q x) : imul P' Q' x := imul_le (imul_is P' Q') (fun _ _ ha hb => imul_in (h1 _ ha) (h2 _ hb)) hx
theorem ipw_1 {K : Type} [Lean.Grind.CommRing K] {P : K → Prop} (h : IsI P) : ipw P 1 = P := imul_all h
theorem ipw_add {K : Type} [Lean.Grind.CommRing K] (P : K → Prop) (n : Nat) : ∀ m, ipw P (m + n) = imul (ipw P m) (ipw P n)
  | 0 => by rw [Nat.zero_add]; exact (all_imul (ipw_is P n)).symm
  | m + 1 => by
    rw [show m + 1 + n = (m + n) + 1 by omega]
    show imul P (ipw P (m + n)) = imul (imul P (ipw P m)) (ipw P n)
    rw [ipw_add P n m, imul_assoc]
theorem ipw_mul {K : Type} [Lean.Grind.CommRing K] {P : K → Prop} {m n : Nat} {a b : K} (ha : ipw P m a) (hb : ipw P n b) : ipw P (m + n) (a * b) := by
  rw [ipw_add]; exact imul_in ha hb
theorem ipw_dn {K : Type} [Lean.Grind.CommRing K] {P : K → Prop} {m n : Nat} (h : m ≤ n) {a : K} (ha : ipw P n a) : ipw P m a := by
  obtain ⟨k, rfl⟩ : ∃ k, n = m + k := ⟨n - m, by omega⟩
  rw [ipw_add] at ha; exact imul_l (ipw_is P m) ha
/-- nothing in common -/
def Cmx {K : Type} [Lean.Grind.CommRing K] (P Q : K → Prop) : Prop := ∃ a b, P a ∧ Q b ∧ a + b = 1
theorem Cmx.sy {K : Type} [Lean.Grind.CommRing K] {P Q : K → Prop} (h : Cmx P Q) : Cmx Q P := by
  obtain ⟨a, b, ha, hb, e⟩ := h
  exact ⟨b, a, hb, ha, by grind⟩
theorem Cmx.mul {K : Type} [Lean.Grind.CommRing K] {P Q T : K → Prop} (hP : IsI P) (h1 : Cmx P Q) (h2 : Cmx P T) : Cmx P (imul Q T) := by
  obtain ⟨a, b, ha, hb, e⟩ := h1
  obtain ⟨a', b', ha', hb', e'⟩ := h2
  refine ⟨a + b * a', b * b', hP.2.1 _ _ ha (hP.2.2 _ _ ha'), imul_in hb hb', ?_⟩
  have e3 : a + b * a' + b * b' = a + b * (a' + b') := by clear e e'; grind
  rw [e3, e']
  have e4 : a + b * 1 = a + b := by clear e e' e3; grind
  rw [e4, e]
theorem Cmx.all {K : Type} [Lean.Grind.CommRing K] {P : K → Prop} (hP : IsI P) : Cmx P (fun _ => True) := ⟨0, 1, hP.1, trivial, by grind⟩
theorem Cmx.pw {K : Type} [Lean.Grind.CommRing K] {P Q : K → Prop} (hP : IsI P) (h : Cmx P Q) : ∀ n, Cmx P (ipw Q n)
  | 0 => Cmx.all hP
  | n + 1 => Cmx.mul hP h (Cmx.pw hP h n)
theorem Cmx.pw2 {K : Type} [Lean.Grind.CommRing K] {P Q : K → Prop} (hP : IsI P) (h : Cmx P Q) (m n : Nat) : Cmx (ipw P m) (ipw Q n) := ((Cmx.pw (ipw_is Q n) (Cmx.pw hP h n).sy) m).sy
theorem Cmx.cap {K : Type} [Lean.Grind.CommRing K] {P Q : K → Prop} (h : Cmx P Q) (hP : IsI P) (hQ : IsI Q) (x : K) : imul P Q x ↔ P x ∧ Q x := by
  refine ⟨fun hx => ⟨imul_l hP hx, imul_r hQ hx⟩, fun ⟨h1, h2⟩ => ?_⟩
  obtain ⟨a, b, ha, hb, e⟩ := h
  have e2 : x = a * x + x * b := by
    have : a * x + x * b = (a + b) * x := by clear e; grind
    rw [this, e]; clear e this; grind
  rw [e2]
  exact (imul_is P Q).2.1 _ _ (imul_in ha h2) (imul_in h1 hb)
/-- a product of many -/
def ipN {K : Type} [Lean.Grind.CommRing K] (F : Nat → K → Prop) : Nat → K → Prop
  | 0 => fun _ => True
  | n + 1 => imul (ipN F n) (F n)
theorem ipN_is {K : Type} [Lean.Grind.CommRing K] (F : Nat → K → Prop) : ∀ n, IsI (ipN F n)
  | 0 => all_is
  | n + 1 => imul_is _ _
theorem ipN_cmx {K : Type} [Lean.Grind.CommRing K] {F : Nat → K → Prop} {P : K → Prop} (hP : IsI P) : ∀ n, (∀ i, i < n → Cmx P (F i)) → Cmx P (ipN F n)
  | 0, _ => Cmx.all hP
  | n + 1, h => Cmx.mul hP (ipN_cmx hP n (fun i hi => h i (by omega))) (h n (by omega))
theorem ipN_cap {K : Type} [Lean.Grind.CommRing K] {F : Nat → K → Prop} (x : K) : ∀ n, (∀ i, i < n → IsI (F i)) → (∀ i j, i < j → j < n → Cmx (F j) (F i)) → (ipN F n x ↔ ∀ i, i < n → F i x)
  | 0, _, _ => ⟨fun _ i hi => absurd hi (Nat.not_lt_zero i), fun _ => trivial⟩
  | n + 1, hI, hc => by
    have c := ipN_cmx (hI n (by omega)) n (fun i hi => hc i n hi (by omega))
    have e := c.sy.cap (ipN_is F n) (hI n (by omega)) x
    have ih := ipN_cap x n (fun i hi => hI i (by omega)) (fun i j h1 h2 => hc i j h1 (by omega))
    refine e.trans ⟨fun ⟨a, b⟩ i hi => ?_, fun a => ⟨ih.mpr (fun i hi => a i (by omega)), a n (by omega)⟩⟩
    by_cases q : i = n
    · subst q; exact b
    · exact ih.mp a i (by omega)
/-- the powers of the ideal of a place told by an order -/
theorem ord_pw {K : Type} [Lean.Grind.CommRing K] {O : Nat → K → Prop} {L : Nat} {π : K} (pk : Nat → K) (pk0 : pk 0 = 1) (pks : ∀ k, pk (k + 1) = π * pk k)
    (h0 : ∀ x, O 0 x) (hI : ∀ k, k ≤ L → IsI (O k)) (hm : ∀ m n a b, m + n ≤ L → O m a → O n b → O (m + n) (a * b)) (hd : ∀ k x, O (k + 1) x → O k x)
    (hL : 1 ≤ L) (hπ : O 1 π) (hk : ∀ k h, k + 1 ≤ L → O (k + 1) (pk k * h) → O 1 h) (hs : ∀ x, O 1 x → ∃ h y, ipw (O 1) 2 y ∧ x = π * h + y) :
    ∀ k, k ≤ L → ∀ x, ipw (O 1) k x ↔ O k x := by
  have hI1 := hI 1 hL
  have hpk : ∀ k, ipw (O 1) k (pk k) := fun k => by
    induction k with
    | zero => exact trivial
    | succ k ih => rw [pks]; exact imul_in hπ ih
  have hg : ∀ k x, ipw (O 1) k x → ∃ h y, ipw (O 1) (k + 1) y ∧ x = pk k * h + y := fun k => by
    induction k with
    | zero => intro x _; exact ⟨x, 0, (ipw_is _ _).1, by rw [pk0]; grind⟩
    | succ k ih =>
      intro x hx
      have hS : IsI (fun x : K => ∃ h y, ipw (O 1) (k + 2) y ∧ x = pk (k + 1) * h + y) := by
        refine ⟨⟨0, 0, (ipw_is _ _).1, by grind⟩, ?_, ?_⟩
        · rintro a b ⟨h, y, hy, rfl⟩ ⟨h', y', hy', rfl⟩
          exact ⟨h + h', y + y', (ipw_is _ _).2.1 _ _ hy hy', by grind⟩
        · rintro c a ⟨h, y, hy, rfl⟩
          exact ⟨c * h, c * y, (ipw_is _ _).2.2 _ _ hy, by grind⟩
      refine imul_le hS (fun a b ha hb => ?_) hx
      obtain ⟨h1, y1, hy1, e1⟩ := hs a ha
      obtain ⟨h2, y2, hy2, e2⟩ := ih b hb
      refine ⟨h1 * h2, π * h1 * y2 + y1 * b, (ipw_is _ _).2.1 _ _ ?_ ?_, ?_⟩
      · have e : π * h1 * y2 = h1 * (π * y2) := by clear e1 e2; grind
        rw [e]; exact (ipw_is _ _).2.2 _ _ (imul_in hπ hy2)
      · have := ipw_mul hy1 hb
        rw [show 2 + k = k + 2 by omega] at this; exact this
      · have e3 : a * b = π * h1 * b + y1 * b := by rw [e1]; clear e1 e2; grind
        rw [e3, pks]
        have e4 : π * h1 * b = π * h1 * (pk k * h2 + y2) := congrArg (fun z => π * h1 * z) e2
        rw [e4]; clear e1 e2 e3 e4; grind
  intro k
  induction k with
  | zero => intro _ x; exact ⟨fun _ => h0 x, fun _ => trivial⟩
  | succ k ih =>
    intro hkL x
    have ihk := ih (by omega)
    constructor
    · intro hx
      refine imul_le (hI (k + 1) hkL) (fun a b ha hb => ?_) hx
      have := hm 1 k a b (by omega) ha ((ihk b).mp hb)
      rw [show 1 + k = k + 1 by omega] at this; exact this
    · intro hx
      have h1 := (ihk x).mpr (hd k x hx)
      obtain ⟨h, y, hy, e⟩ := hg k x h1
      have hy2 : O (k + 1) y := by
        refine imul_le (hI (k + 1) hkL) (fun a b ha hb => ?_) hy
        have := hm 1 k a b (by omega) ha ((ihk b).mp hb)
        rw [show 1 + k = k + 1 by omega] at this; exact this
      have e2 : pk k * h = x - y := by rw [e]; clear e; grind
      have h2 : O (k + 1) (pk k * h) := by rw [e2]; exact (hI (k + 1) hkL).sb hx hy2
      have h3 := hk k h hkL h2
      rw [e]
      refine (ipw_is _ _).2.1 _ _ ?_ hy
      have e3 : pk k * h = h * pk k := by clear e e2; grind
      rw [e3]
      have := ipw_mul (m := 1) (n := k) (by rw [ipw_1 hI1]; exact h3) (hpk k)
      rw [show 1 + k = k + 1 by omega] at this; exact this
