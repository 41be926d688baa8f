/-! THE LIST OF CLASSES: tokens ever greater; what is in the list -/
def AscB (L : List Int) (lo hi : Int) : Prop := Asc L ∧ ∀ x ∈ L, lo ≤ x ∧ x < hi
theorem AscB.nil (lo hi : Int) : AscB [] lo hi := ⟨fun i j s t _ h _ => (by simp at h), fun x h => (by cases h)⟩
theorem AscB.one {x lo hi : Int} (h1 : lo ≤ x) (h2 : x < hi) : AscB [x] lo hi := ⟨fun i j s t hij hi hj => by
    have := (List.getElem?_eq_some_iff.mp hj).1
    simp at this; omega, fun y h => by rw [List.mem_singleton.mp h]; exact ⟨h1, h2⟩⟩
theorem AscB.wd {L : List Int} {lo hi lo' hi' : Int} (h : AscB L lo hi) (h1 : lo' ≤ lo) (h2 : hi ≤ hi') : AscB L lo' hi' := ⟨h.1, fun x hx => by have := h.2 x hx; omega⟩
theorem AscB.app {L M : List Int} {a b c : Int} (h1 : AscB L a b) (h2 : AscB M b c) (hab : a ≤ b) (hbc : b ≤ c) : AscB (L ++ M) a c := by
  refine ⟨fun i j s t hij hi hj => ?_, fun x hx => ?_⟩
  · by_cases q1 : i < L.length
    · rw [List.getElem?_append_left q1] at hi
      by_cases q2 : j < L.length
      · rw [List.getElem?_append_left q2] at hj; exact h1.1 i j s t hij hi hj
      · rw [List.getElem?_append_right (by omega)] at hj
        have a1 := h1.2 s (List.mem_of_getElem? hi)
        have a2 := h2.2 t (List.mem_of_getElem? hj)
        omega
    · rw [List.getElem?_append_right (by omega)] at hi hj
      exact h2.1 _ _ s t (by omega) hi hj
  · rcases List.mem_append.mp hx with hx | hx
    · have := h1.2 x hx; omega
    · have := h2.2 x hx; omega
theorem AscB.sel {b : Nat → Bool} {t : Nat → Int} {base : Int} (ht : ∀ i : Nat, t i = base + i) : ∀ n : Nat, AscB (selT b t n) base (base + n)
  | 0 => AscB.nil _ _
  | n + 1 => by
    show AscB (selT b t n ++ (if b n then [t n] else [])) _ _
    refine (AscB.sel ht n).app (b := base + n) ?_ (by omega) (by omega)
    split
    · exact AscB.one (by rw [ht n]; omega) (by rw [ht n]; omega)
    · exact AscB.nil _ _
theorem AscB.cat {L : Nat → List Int} {base s : Int} (hs : 0 ≤ s) : ∀ n : Nat, (∀ i : Nat, i < n → AscB (L i) (base + i * s) (base + (i + 1) * s)) → AscB (catT L n) base (base + n * s)
  | 0, _ => AscB.nil _ _
  | n + 1, h => by
    have h1 := Int.mul_nonneg (show (0 : Int) ≤ n by omega) hs
    have h2 : ((n + 1 : Nat) : Int) * s = n * s + s := by rw [show ((n + 1 : Nat) : Int) = (n : Int) + 1 by omega, Int.add_mul, Int.one_mul]
    have h3 : ((n : Int) + 1) * s = n * s + s := by rw [Int.add_mul, Int.one_mul]
    have := h n (by omega)
    rw [h3] at this
    rw [h2]
    exact (AscB.cat hs n (fun i hi => h i (by omega))).app (b := base + n * s) (this.wd (by omega) (by omega)) (by omega) (by omega)
theorem tkl_ascB {p : Int} (hp : Pr p) (f : Pz p) (g : Nat) : AscB (tkl f g) 0 (3 * (p * p * p * p)) := by
  have hpp := hp.pos
  have h4 := p4_le hp
  have h2 := pp_le hp
  have hp4 := pp_p4 hp
  have ep : ((p.toNat : Nat) : Int) = p := Int.toNat_of_nonneg (by omega)
  have a1 : AscB (tkP f p.toNat) (p * p * p * p) (2 * (p * p * p * p)) := by
    have := AscB.cat (L := fun u => tkPr f u p.toNat) (base := p * p * p * p) (s := p) (by omega) p.toNat (fun i hi => by
      have := AscB.sel (b := fun v => decide ((v : Int) * v % p = pev f ((p - i) % p))) (t := fun v => p * p * p * p + i * p + v) (base := p * p * p * p + i * p) (fun v => rfl) p.toNat
      rw [ep] at this
      exact this.wd (by omega) (by rw [Int.add_mul, Int.one_mul]; omega))
    rw [ep] at this
    exact this.wd (by omega) (by omega)
  have b1 : ∀ u1 u0 : Int, AscB (tkR f u1 u0 p.toNat) (tk0 p u1 u0) (tk0 p u1 u0 + p * p) := fun u1 u0 => by
    have := AscB.cat (L := fun v1 => tkRr f u1 u0 v1 p.toNat) (base := tk0 p u1 u0) (s := p) (by omega) p.toNat (fun i hi => by
      have := AscB.sel (b := fun v0 => decide (2 * (i : Int) * v0 % p = hiR f u1 u0 i) && decide ((v0 : Int) * v0 % p = loR f u1 u0 i)) (t := fun v0 => tk0 p u1 u0 + i * p + v0) (base := tk0 p u1 u0 + i * p) (fun v => rfl) p.toNat
      rw [ep] at this
      exact this.wd (by omega) (by rw [Int.add_mul, Int.one_mul]; omega))
    rw [ep] at this
    exact this
  have b2 : ∀ u1 : Int, AscB (tkS1 f u1 p.toNat) (2 * (p * p * p * p) + u1 * p * p * p) (2 * (p * p * p * p) + u1 * p * p * p + p * p * p) := fun u1 => by
    have := AscB.cat (L := fun u0 => tkR f u1 u0 p.toNat) (base := 2 * (p * p * p * p) + u1 * p * p * p) (s := p * p) (by omega) p.toNat (fun i hi => by
      have e : tk0 p u1 i = 2 * (p * p * p * p) + u1 * p * p * p + i * (p * p) := by
        unfold tk0
        have : (u1 * p + (i : Int)) * p * p = u1 * p * p * p + i * (p * p) := by grind
        omega
      have := b1 u1 i
      rw [e] at this
      exact this.wd (by omega) (by rw [Int.add_mul, Int.one_mul]; omega))
    rw [ep, show p * (p * p) = p * p * p by grind] at this
    exact this
  have a2 : AscB (tkS f p.toNat) (2 * (p * p * p * p)) (3 * (p * p * p * p)) := by
    have hp3 : 0 ≤ p * p * p := Int.mul_nonneg (by omega) (by omega)
    have := AscB.cat (L := fun u1 => tkS1 f u1 p.toNat) (base := 2 * (p * p * p * p)) (s := p * p * p) hp3 p.toNat (fun i hi => by
      have e : (i : Int) * p * p * p = i * (p * p * p) := by grind
      have := b2 i
      rw [e] at this
      exact this.wd (by omega) (by rw [Int.add_mul, Int.one_mul]; omega))
    rw [ep] at this
    have e : p * (p * p * p) = p * p * p * p := by grind
    rw [e] at this
    exact this.wd (by omega) (by omega)
  unfold tkl
  have a0 : AscB ([0] ++ tkP f p.toNat) 0 (2 * (p * p * p * p)) := (AscB.one (x := 0) (lo := 0) (hi := p * p * p * p) (by omega) (by omega)).app a1 (by omega) (by omega)
  refine a0.app (b := 2 * (p * p * p * p)) ?_ (by omega) (by omega)
  split
  · exact a2
  · exact AscB.nil _ _
theorem selT_in {b : Nat → Bool} {t : Nat → Int} : ∀ {n i : Nat}, i < n → b i = true → t i ∈ selT b t n
  | 0, i, h, _ => by omega
  | n + 1, i, h, hb => by
    show t i ∈ selT b t n ++ (if b n then [t n] else [])
    by_cases e : i = n
    · subst e; rw [if_pos hb]; exact List.mem_append_right _ (List.mem_singleton.mpr rfl)
    · exact List.mem_append_left _ (selT_in (by omega) hb)
theorem catT_in {L : Nat → List Int} {x : Int} : ∀ {n i : Nat}, i < n → x ∈ L i → x ∈ catT L n
  | 0, i, h, _ => by omega
  | n + 1, i, h, hx => by
    show x ∈ catT L n ++ L n
    by_cases e : i = n
    · subst e; exact List.mem_append_right _ hx
    · exact List.mem_append_left _ (catT_in (by omega) hx)
theorem tkl_in {p : Int} (hp : Pr p) {f : Pz p} {g : Nat} (hg : g = 1 ∨ g = 2) {a : Pz p × Pz p} (ha : pRed f g a) : tkn a ∈ tkl f g := by
  have hpp := hp.pos
  rcases red_cases hp (by omega) ha with ⟨-, e1, t1⟩ | ⟨-, u0, v0, r1, r2, e1, t1⟩ | ⟨hg2, -, u1, u0, v1, v0, r0, r1, r3, r2, e1, t1⟩
  · rw [t1]; exact List.mem_append_left _ (List.mem_append_left _ (List.mem_singleton.mpr rfl))
  · rw [t1]
    rw [e1] at ha
    have h := (red_1 hp (by omega) r1 r2).mp ha
    refine List.mem_append_left _ (List.mem_append_right _ (catT_in (i := u0.toNat) (by omega) ?_))
    have := selT_in (b := fun v : Nat => decide ((v : Int) * v % p = pev f ((p - u0) % p))) (t := fun v : Nat => p * p * p * p + u0 * p + v) (n := p.toNat) (i := v0.toNat) (by omega) (by
      show decide (((v0.toNat : Nat) : Int) * ((v0.toNat : Nat) : Int) % p = pev f ((p - u0) % p)) = true
      rw [Int.toNat_of_nonneg r2.1]; exact decide_eq_true h)
    show _ ∈ tkPr f u0.toNat p.toNat
    unfold tkPr
    rw [Int.toNat_of_nonneg r1.1]
    have e : p * p * p * p + (u0 * p + v0) = p * p * p * p + u0 * p + ((v0.toNat : Nat) : Int) := by omega
    rw [e]; exact this
  · rw [t1]
    subst hg2
    rw [e1] at ha
    have h := (red_2 hp r0 r1 r3 r2).mp ha
    unfold tkl
    rw [if_pos rfl]
    refine List.mem_append_right _ (catT_in (i := u1.toNat) (by omega) (catT_in (i := u0.toNat) (by omega) (catT_in (i := v1.toNat) (by omega) ?_)))
    rw [Int.toNat_of_nonneg r0.1, Int.toNat_of_nonneg r1.1, Int.toNat_of_nonneg r3.1]
    have := selT_in (b := fun v : Nat => decide (2 * v1 * (v : Int) % p = hiR f u1 u0 v1) && decide ((v : Int) * v % p = loR f u1 u0 v1)) (t := fun v : Nat => tk0 p u1 u0 + v1 * p + v) (n := p.toNat) (i := v0.toNat) (by omega) (by
      show (decide (2 * v1 * ((v0.toNat : Nat) : Int) % p = hiR f u1 u0 v1) && decide (((v0.toNat : Nat) : Int) * ((v0.toNat : Nat) : Int) % p = loR f u1 u0 v1)) = true
      rw [Int.toNat_of_nonneg r2.1, decide_eq_true h.1, decide_eq_true h.2]; rfl)
    have e : 2 * (p * p * p * p) + (((u1 * p + u0) * p + v1) * p + v0) = tk0 p u1 u0 + v1 * p + ((v0.toNat : Nat) : Int) := by
      unfold tk0
      rw [Int.add_mul ((u1 * p + u0) * p)]
      omega
    rw [e]; exact this
theorem tkl_ex {p : Int} (hp : Pr p) {f : Pz p} {g : Nat} (hg : g = 1 ∨ g = 2) {t : Int} (ht : t ∈ tkl f g) : ∃ a, pRed f g a ∧ tkn a = t := by
  have hpp := hp.pos
  have e1p : dg (pC p 1) = 1 := dg_C (by rw [md0 (by omega)]; decide)
  unfold tkl at ht
  rcases List.mem_append.mp ht with ht | ht
  · rcases List.mem_append.mp ht with ht | ht
    · rw [List.mem_singleton.mp ht]
      refine ⟨(pC p 1, pC p 0), ⟨pmo_1 hp, by show dg (pC p 1) ≤ g + 1; omega, by show dg (pC p 0) < dg (pC p 1); rw [dg_zero.mpr rfl]; omega, ⟨padd (pmul (pC p 0) (pC p 0)) (pneg f), ?_⟩⟩, tkn_0 e1p⟩
      show _ = pmul (pC p 1) _
      rw [pC_one_mul]; rfl
    · obtain ⟨u, hu, ht⟩ := catT_mem _ ht
      obtain ⟨v, hv, hb, e⟩ := selT_mem _ ht
      have ru : 0 ≤ (u : Int) ∧ (u : Int) < p := by omega
      have rv : 0 ≤ (v : Int) ∧ (v : Int) < p := by omega
      have hr := (red_1 hp (f := f) (g := g) (by omega) ru rv).mpr (of_decide_eq_true hb)
      refine ⟨_, hr, ?_⟩
      rw [tkn_1 (lin_dg hp).1, e]
      have c1 : (lin p 1 (u : Int)).1 0 = u := by rw [lin_c, if_pos rfl]; exact md0 ru
      have c2 : (pC p (v : Int)).1 0 = v := by rw [pC_c, if_pos rfl]; exact md0 rv
      show p * p * p * p + ((lin p 1 (u : Int)).1 0 * p + (pC p (v : Int)).1 0) = _
      rw [c1, c2]; omega
  · by_cases hg2 : g = 2
    · rw [if_pos hg2] at ht
      rename_i ht0
      clear ht0
      subst hg2
      obtain ⟨u1, hu1, ht⟩ := catT_mem _ ht
      obtain ⟨u0, hu0, ht⟩ := catT_mem _ ht
      obtain ⟨v1, hv1, ht⟩ := catT_mem _ ht
      obtain ⟨v0, hv0, hb, e⟩ := selT_mem _ ht
      have ru1 : 0 ≤ (u1 : Int) ∧ (u1 : Int) < p := by omega
      have ru0 : 0 ≤ (u0 : Int) ∧ (u0 : Int) < p := by omega
      have rv1 : 0 ≤ (v1 : Int) ∧ (v1 : Int) < p := by omega
      have rv0 : 0 ≤ (v0 : Int) ∧ (v0 : Int) < p := by omega
      have hb2 : 2 * (v1 : Int) * v0 % p = hiR f u1 u0 v1 ∧ (v0 : Int) * v0 % p = loR f u1 u0 v1 := by simpa [Bool.and_eq_true] using hb
      have hr := (red_2 hp (f := f) ru1 ru0 rv1 rv0).mpr hb2
      refine ⟨_, hr, ?_⟩
      rw [tkn_2 (qd_dg hp), e]
      have c1 : (qd p (u1 : Int) (u0 : Int)).1 0 = u0 := by rw [qd_c, if_pos rfl]; exact md0 ru0
      have c2 : (qd p (u1 : Int) (u0 : Int)).1 1 = u1 := by rw [qd_c, if_neg (by omega), if_pos rfl]; exact md0 ru1
      have c3 : (lin p (v1 : Int) (v0 : Int)).1 0 = v0 := by rw [lin_c, if_pos rfl]; exact md0 rv0
      have c4 : (lin p (v1 : Int) (v0 : Int)).1 1 = v1 := by rw [lin_c, if_neg (by omega), if_pos rfl]; exact md0 rv1
      show 2 * (p * p * p * p) + ((((qd p (u1 : Int) (u0 : Int)).1 1 * p + (qd p (u1 : Int) (u0 : Int)).1 0) * p + (lin p (v1 : Int) (v0 : Int)).1 1) * p + (lin p (v1 : Int) (v0 : Int)).1 0) = _
      rw [c1, c2, c3, c4]
      unfold tk0
      rw [Int.add_mul (((u1 : Int) * p + u0) * p)]
      omega
    · rw [if_neg hg2] at ht; cases ht
theorem Asc.nd {L : List Int} (h : Asc L) : L.Nodup := by
  rw [List.Nodup, List.pairwise_iff_getElem]
  intro i j hi hj hij e
  have := h i j _ _ hij (List.getElem?_eq_getElem hi) (List.getElem?_eq_getElem hj)
  omega
/-- the class with token t -/
noncomputable def ofT {p : Int} (f : Pz p) (g : Nat) (z : Gq f g) (t : Int) : Gq f g := @dite _ (∃ a : Gq f g, tkn a.1 = t) (Classical.propDecidable _) (fun h => h.choose) (fun _ => z)
theorem ofT_is {p : Int} (hp : Pr p) {f : Pz p} {g : Nat} (hg : g = 1 ∨ g = 2) (z a : Gq f g) : ofT f g z (tkn a.1) = a := by
  have h : ∃ b : Gq f g, tkn b.1 = tkn a.1 := ⟨a, rfl⟩
  unfold ofT
  rw [dif_pos h]
  exact Subtype.ext (tkn_inj hp (by omega) h.choose.2 a.2 h.choose_spec)
theorem ofT_t {p : Int} (hp : Pr p) {f : Pz p} {g : Nat} (hg : g = 1 ∨ g = 2) (z : Gq f g) {t : Int} (ht : t ∈ tkl f g) : tkn (ofT f g z t).1 = t := by
  obtain ⟨a, h1, h2⟩ := tkl_ex hp hg ht
  have h : ∃ b : Gq f g, tkn b.1 = t := ⟨⟨a, h1⟩, h2⟩
  unfold ofT
  rw [dif_pos h]
  exact h.choose_spec
/-- all classes, in their order -/
noncomputable def cll {p : Int} (f : Pz p) (g : Nat) (z : Gq f g) : List (Gq f g) := (tkl f g).map (ofT f g z)
theorem cll_is {p : Int} (hp : Pr p) {f : Pz p} {g : Nat} (hg : g = 1 ∨ g = 2) (z : Gq f g) : (cll f g z).Nodup ∧ ∀ x, x ∈ cll f g z := by
  refine ⟨nodup_map (fun a ha b hb e => ?_) (tkl_ascB hp f g).1.nd, fun x => List.mem_map.mpr ⟨tkn x.1, tkl_in hp hg x.2, ofT_is hp hg z x⟩⟩
  have := congrArg (fun y : Gq f g => tkn y.1) e
  simp only [ofT_t hp hg z ha, ofT_t hp hg z hb] at this
  exact this
theorem cll_at {p : Int} (hp : Pr p) {f : Pz p} {g : Nat} (hg : g = 1 ∨ g = 2) (z : Gq f g) {i : Nat} {x : Gq f g} (h : (cll f g z)[i]? = some x) : (tkl f g)[i]? = some (tkn x.1) := by
  unfold cll at h
  rw [List.getElem?_map] at h
  cases e : (tkl f g)[i]? with
  | none => rw [e] at h; cases h
  | some t =>
    rw [e] at h
    have h2 : ofT f g z t = x := by simpa using h
    rw [← h2, ofT_t hp hg z (List.mem_of_getElem? e)]
theorem CN_ll {p : Int} (hp : Pr p) {f : Pz p} {g : Nat} (hg : g = 1 ∨ g = 2) (z : Gq f g) : CN f g (tkl f g).length := ⟨cll f g z, (cll_is hp hg z).1, (cll_is hp hg z).2, List.length_map ..⟩
