/-! HOW MANY FUNCTIONS A ROOM HAS: one room against another, lists against lists -/
theorem evn_nn (m : Int) : 0 ≤ evn m := by unfold evn; split <;> omega
theorem II_pl {R : Type} [Lean.Grind.CommRing R] {dg : R → Nat} {mo : R → Prop} (E : Euc R dg mo) {f u v : R} {g : Nat} (hu : u ≠ 0) (hd : dg u ≤ g + 1) (hv : dg v < dg u) (q b : R) (M : Int) : PlL dg g (f := f) M (u * q - b * v, b) ↔ (dg q : Int) ≤ evn (M - 2 * ((dg u : Int) - 1)) ∧ (dg b : Int) ≤ evn (M - (2 * g + 1)) := by
  have hbv : dg (b * v) = 0 ∨ (dg b ≠ 0 ∧ dg (b * v) + 1 ≤ dg b + g) := by
    by_cases h1 : b = 0
    · exact Or.inl (E.z.mpr (by rw [h1]; grind))
    · by_cases h2 : v = 0
      · exact Or.inl (E.z.mpr (by rw [h2]; grind))
      · have := E.mul h1 h2
        exact Or.inr ⟨E.nz h1, by omega⟩
  have huq : (dg q = 0 ∧ dg (u * q) = 0) ∨ (dg q ≠ 0 ∧ dg (u * q) + 1 = dg u + dg q) := by
    by_cases h1 : q = 0
    · exact Or.inl ⟨E.z.mpr h1, E.z.mpr (by rw [h1]; grind)⟩
    · exact Or.inr ⟨E.nz h1, E.mul hu h1⟩
  have hu0 := E.nz hu
  have k1 := E.sub (u * q) (b * v)
  have k2 := E.add (u * q - b * v) (b * v)
  have e : u * q - b * v + b * v = u * q := by grind
  rw [e] at k2
  show ((dg (u * q - b * v) : Int) ≤ evn M ∧ (dg b : Int) ≤ evn (M - (2 * g + 1))) ↔ _
  generalize dg (u * q - b * v) = A at *
  generalize dg (u * q) = B at *
  generalize dg (b * v) = C at *
  generalize dg b = b' at *
  generalize dg q = q' at *
  generalize dg u = u' at *
  have b1 : A ≤ B ∨ A ≤ C := by omega
  have b2 : B ≤ A ∨ B ≤ C := by omega
  clear k1 k2 e
  unfold evn
  constructor
  · rintro ⟨h1, h2⟩
    refine ⟨?_, h2⟩
    split at h1 <;> split at h2 <;> split <;> omega
  · rintro ⟨h1, h2⟩
    refine ⟨?_, h2⟩
    split at h1 <;> split at h2 <;> split <;> omega
theorem filter_ne_len {B : Type} (y : B) : ∀ M : List B, y ∈ M → (M.filter (fun x => @decide (x ≠ y) (Classical.propDecidable _))).length + 1 ≤ M.length
  | [], h => by cases h
  | b :: M, h => by
    by_cases q : b = y
    · rw [List.filter_cons_of_neg (by rw [@decide_eq_true_eq _ (Classical.propDecidable _)]; exact fun w => w q)]
      have := List.length_filter_le (fun x => @decide (x ≠ y) (Classical.propDecidable _)) M
      rw [List.length_cons]; omega
    · rw [List.filter_cons_of_pos (by rw [@decide_eq_true_eq _ (Classical.propDecidable _)]; exact q)]
      have := filter_ne_len y M ((List.mem_cons.mp h).resolve_left (fun w => q w.symm))
      rw [List.length_cons, List.length_cons]; omega
theorem rel_le {A B : Type} (Rl : A → B → Prop) : ∀ (M : List A) (M' : List B), M.Nodup → (∀ x ∈ M, ∃ y, y ∈ M' ∧ Rl x y) → (∀ x x' y, x ∈ M → x' ∈ M → Rl x y → Rl x' y → x = x') → M.length ≤ M'.length
  | [], _, _, _, _ => Nat.zero_le _
  | x :: M, M', h1, h2, h3 => by
    obtain ⟨y, hy, hr⟩ := h2 x List.mem_cons_self
    rw [List.nodup_cons] at h1
    have := rel_le Rl M (M'.filter (fun x => @decide (x ≠ y) (Classical.propDecidable _))) h1.2 (fun x' hx' => by
      obtain ⟨y', hy', hr'⟩ := h2 x' (List.mem_cons_of_mem _ hx')
      refine ⟨y', List.mem_filter.mpr ⟨hy', ?_⟩, hr'⟩
      rw [@decide_eq_true_eq _ (Classical.propDecidable _)]
      intro e
      rw [e] at hr'
      have := h3 x x' y List.mem_cons_self (List.mem_cons_of_mem _ hx') hr hr'
      rw [this] at h1; exact h1.1 hx') (fun a b c ha hb => h3 a b c (List.mem_cons_of_mem _ ha) (List.mem_cons_of_mem _ hb))
    have := filter_ne_len y M' hy
    rw [List.length_cons]; omega
theorem bcan {R : Type} [Lean.Grind.CommRing R] {dg : R → Nat} {mo : R → Prop} (E : Euc R dg mo) {f : R} {g : Nat} (hf : dg f = 2 * g + 2) {s w w' : BB R f} (hs : bnm s ≠ 0) (e : bmul s w = bmul s w') : w = w' := by
  refine @Dom.cancel (BB R f) (bring f) (bdom E hf) s w w' (fun q => hs ?_) e
  rw [q]
  show (OfNat.ofNat 0 : R) * OfNat.ofNat 0 - 0 * 0 * f = 0
  grind
theorem room_bij {R : Type} [Lean.Grind.CommRing R] {dg : R → Nat} {mo : R → Prop} (E : Euc R dg mo) {f u v : R} {g n : Nat} (hf : dg f = 2 * g + 2) {J : BB R f → Prop} {s t : BB R f} (hs : bnm s ≠ 0) (ht : bnm t ≠ 0) (e : bsc s J = bsc t (II f u v)) (hn : dg (bnm s) + n = dg (bnm t) + (dg u - 1)) (hu : u ≠ 0) (hd : dg u ≤ g + 1) (hv : dg v < dg u)
    {mt M : Int} (hM : M = mt - n + ((dg u : Int) - 1)) {X : List (BB R f)} (hX : Lst (fun w => J w ∧ PlL dg g mt w) X) {Y : List (R × R)} (hY : Lst (fun q => (dg q.1 : Int) ≤ evn (M - 2 * ((dg u : Int) - 1)) ∧ (dg q.2 : Int) ≤ evn (M - (2 * g + 1))) Y) : X.length = Y.length := by
  have hD := E.dom
  have hu0 := E.nz hu
  have hPl : ∀ w y : BB R f, bmul s w = bmul t y → (PlL dg g mt w ↔ PlL dg g M y) := fun w y h => by
    have hb : bnm s * bnm w = bnm t * bnm y := by rw [← bnm_mul, ← bnm_mul, h]
    by_cases q : bnm w = 0
    · have q2 : bnm y = 0 := by
        refine (hD.1 (bnm t) (bnm y) ?_).resolve_left ht
        rw [← hb, q]; clear hb; grind
      have w1 := bnm_ne E hf q
      have w2 := bnm_ne E hf q2
      unfold PlL
      rw [E.z.mpr w1.1, E.z.mpr w1.2, E.z.mpr w2.1, E.z.mpr w2.2]
      exact ⟨fun _ => ⟨evn_nn _, evn_nn _⟩, fun _ => ⟨evn_nn _, evn_nn _⟩⟩
    · have q2 : bnm y ≠ 0 := fun q2 => by
        refine q ((hD.1 (bnm s) (bnm w) ?_).resolve_left hs)
        rw [hb, q2]; clear hb; grind
      rw [PlL_n E hf q, PlL_n E hf q2]
      have m1 := E.mul hs q
      have m2 := E.mul ht q2
      rw [hb] at m1
      omega
  have up : X.length ≤ Y.length := by
    refine rel_le (fun (w : BB R f) (q : R × R) => bmul s w = bmul t (u * q.1 - q.2 * v, q.2)) X Y hX.1 (fun w hw => ?_) (fun w w' q _ _ h1 h2 => bcan E hf hs (h1.trans h2.symm))
    obtain ⟨hJ, hp⟩ := (hX.2 w).mp hw
    have : bsc t (II f u v) (bmul s w) := by rw [← e]; exact ⟨w, hJ, rfl⟩
    obtain ⟨⟨y1, y2⟩, hy, ey⟩ := this
    obtain ⟨k, rfl⟩ := II_e hy
    refine ⟨(k, y2), (hY.2 _).mpr ?_, ey⟩
    exact (II_pl E (f := f) hu hd hv k y2 M).mp ((hPl w _ ey).mp hp)
  have dn : Y.length ≤ X.length := by
    refine rel_le (fun (q : R × R) (w : BB R f) => bmul s w = bmul t (u * q.1 - q.2 * v, q.2)) Y X hY.1 (fun q hq => ?_) (fun q q' w _ _ h1 h2 => ?_)
    · have hq2 := (hY.2 q).mp hq
      have : bsc s J (bmul t (u * q.1 - q.2 * v, q.2)) := by rw [e]; exact ⟨_, II_m rfl, rfl⟩
      obtain ⟨w, hw, ew⟩ := this
      have ew2 : bmul s w = bmul t (u * q.1 - q.2 * v, q.2) := ew.symm
      exact ⟨w, (hX.2 w).mpr ⟨hw, (hPl w _ ew2).mpr ((II_pl E (f := f) hu hd hv q.1 q.2 M).mpr hq2)⟩, ew2⟩
    · have h3 := bcan E hf ht (h1.symm.trans h2)
      have h4 := congrArg Prod.fst h3
      have h5 := congrArg Prod.snd h3
      replace h4 : u * q.1 - q.2 * v = u * q'.1 - q'.2 * v := h4
      replace h5 : q.2 = q'.2 := h5
      have h6 : u * q.1 = u * q'.1 := by rw [h5] at h4; clear h1 h2 h3 h5; grind
      exact Prod.ext (hD.cancel hu h6) h5
  omega
/-! vectors and pairs of rows -/
def vcA {p : Int} (n : Nat) (w : Nat → Int) : Pz p := pmk p (fun k => if k < n then w k else 0) ⟨n, fun k hk => if_neg (by omega)⟩
def vcB {p : Int} (n m : Nat) (w : Nat → Int) : Pz p := pmk p (fun k => if k < m then w (n + k) else 0) ⟨m, fun k hk => if_neg (by omega)⟩
theorem vcA_c {p : Int} (n : Nat) (w : Nat → Int) (k : Nat) : (vcA n w : Pz p).1 k = (if k < n then w k else 0) % p := rfl
theorem vcB_c {p : Int} (n m : Nat) (w : Nat → Int) (k : Nat) : (vcB n m w : Pz p).1 k = (if k < m then w (n + k) else 0) % p := rfl
theorem vcA_dg {p : Int} (n : Nat) (w : Nat → Int) : dg (vcA n w : Pz p) ≤ n := dg_le fun k hk => by rw [vcA_c, if_neg (by omega)]; exact Int.zero_emod _
theorem vcB_dg {p : Int} (n m : Nat) (w : Nat → Int) : dg (vcB n m w : Pz p) ≤ m := dg_le fun k hk => by rw [vcB_c, if_neg (by omega)]; exact Int.zero_emod _
def ofAB {p : Int} (n m : Nat) (a b : Pz p) : Nat → Int := fun k => if k < n then a.1 k else if k < n + m then b.1 (k - n) else 0
theorem ofAB_v {p : Int} (hp : Pr p) (n m : Nat) (a b : Pz p) : VcP p (n + m) (ofAB n m a b) := by
  have hpp := hp.pos
  refine ⟨fun j hj => by unfold ofAB; rw [if_neg (by omega), if_neg (by omega)], fun j => ?_⟩
  unfold ofAB
  split
  · exact hp.lt (a.2.1 j)
  · split
    · exact hp.lt (b.2.1 _)
    · omega
theorem ofAB_a {p : Int} {n m : Nat} {a b : Pz p} (h : dg a ≤ n) : vcA n (ofAB n m a b) = a := Pz.ext fun k => by
  rw [vcA_c]
  by_cases q : k < n
  · rw [if_pos q]; unfold ofAB; rw [if_pos q]; exact a.2.1 k
  · rw [if_neg q, dg_far a (by omega)]; exact Int.zero_emod _
theorem ofAB_b {p : Int} {n m : Nat} {a b : Pz p} (h : dg b ≤ m) : vcB n m (ofAB n m a b) = b := Pz.ext fun k => by
  rw [vcB_c]
  by_cases q : k < m
  · rw [if_pos q]; unfold ofAB; rw [if_neg (by omega), if_pos (by omega), show n + k - n = k by omega]; exact b.2.1 k
  · rw [if_neg q, dg_far b (by omega)]; exact Int.zero_emod _
theorem vc_inj {p : Int} (hp : Pr p) {n m : Nat} {w w' : Nat → Int} (h : VcP p (n + m) w) (h' : VcP p (n + m) w') (e1 : (vcA n w : Pz p) = vcA n w') (e2 : (vcB n m w : Pz p) = vcB n m w') : w = w' := funext fun j => by
  have k1 := hp.of (h.2 j).1 (h.2 j).2
  have k2 := hp.of (h'.2 j).1 (h'.2 j).2
  by_cases q : j < n
  · have := congrArg (fun a : Pz p => a.1 j) e1
    simp only [vcA_c, if_pos q] at this
    rw [k1, k2] at this; exact this
  · by_cases q2 : j < n + m
    · have := congrArg (fun a : Pz p => a.1 (j - n)) e2
      simp only [vcB_c] at this
      rw [if_pos (by omega), if_pos (by omega), show n + (j - n) = j by omega, k1, k2] at this; exact this
    · rw [h.1 j (by omega), h'.1 j (by omega)]
theorem vc_lst {p : Int} (hp : Pr p) {n m : Nat} {J : Pz p × Pz p → Prop} {L : List (Nat → Int)} (h : Lst (fun w => VcP p (n + m) w ∧ J (vcA n w, vcB n m w)) L) : Lst (fun q : Pz p × Pz p => J q ∧ dg q.1 ≤ n ∧ dg q.2 ≤ m) (L.map (fun w => ((vcA n w, vcB n m w) : Pz p × Pz p))) := by
  refine ⟨nodup_map (fun a ha b hb e => ?_) h.1, fun q => ?_⟩
  · have e1 := congrArg Prod.fst e
    have e2 := congrArg Prod.snd e
    exact vc_inj hp ((h.2 a).mp ha).1 ((h.2 b).mp hb).1 e1 e2
  · rw [List.mem_map]
    constructor
    · rintro ⟨w, hw, rfl⟩
      exact ⟨((h.2 w).mp hw).2, vcA_dg n w, vcB_dg n m w⟩
    · rintro ⟨h1, h2, h3⟩
      refine ⟨ofAB n m q.1 q.2, (h.2 _).mpr ⟨ofAB_v hp n m _ _, ?_⟩, ?_⟩
      · rw [ofAB_a h2, ofAB_b h3]; exact h1
      · rw [ofAB_a h2, ofAB_b h3]
theorem pow_inj {p a b : Nat} (hp : 1 < p) (h : p ^ a = p ^ b) : a = b := by
  rcases Nat.lt_trichotomy a b with q | q | q
  · have := Nat.pow_lt_pow_right hp q; omega
  · exact q
  · have := Nat.pow_lt_pow_right hp q; omega
/-- the width: what is left of the coefficients behind the conditions -/
theorem room_dim {p : Nat} (hp : Pr (p : Int)) {f u v : Pz (p : Int)} {g n : Nat} (hf : dg f = 2 * g + 2) {J : BB (Pz (p : Int)) f → Prop} (hJ : @NF (Pz (p : Int)) (pring p) dg f J n) (hr : pRed f g (u, v)) (hc : @beq (Pz (p : Int)) (pring p) f J (@II (Pz (p : Int)) (pring p) f u v)) {mt : Int} {n1 n2 : Nat} (e1 : (n1 : Int) = evn mt) (e2 : (n2 : Int) = evn (mt - (2 * g + 1))) {R : List (Nat → Int)} (hR : Ech (p : Int) (n1 + n2) R)
    (hS : ∀ w, VcP (p : Int) (n1 + n2) w → ((∀ r ∈ R, dt (n1 + n2) r w % (p : Int) = 0) ↔ J (vcA n1 w, vcB n1 n2 w))) : ((n1 + n2 : Nat) : Int) - (R.length : Int) = evn (mt - n - ((dg u : Int) - 1)) + evn (mt - n + ((dg u : Int) - 1) - (2 * g + 1)) := by
  have hpp := hp.pos
  have E := Euc_Pz hp
  have hu : u ≠ (pC (p : Int) 0) := E.2.2.2.2.2.2.2.2.2.2 u hr.1
  obtain ⟨s, t, hs, ht, e, hn⟩ := @xfer (Pz (p : Int)) (pring p) dg pmo E f g hf J n u v hJ hu hc
  obtain ⟨M, hM, hl⟩ := sol_len hp hR
  have hM2 : Lst (fun w => VcP (p : Int) (n1 + n2) w ∧ J (vcA n1 w, vcB n1 n2 w)) M := ⟨hM.1, fun w => (hM.2 w).trans ⟨fun h => ⟨h.1, (hS w h.1).mp h.2⟩, fun h => ⟨h.1, (hS w h.1).mpr h.2⟩⟩⟩
  have hX := vc_lst hp (J := J) hM2
  have hX2 : Lst (fun w : BB (Pz (p : Int)) f => J w ∧ @PlL (Pz (p : Int)) (pring p) dg g f mt w) (M.map (fun w => ((vcA n1 w, vcB n1 n2 w) : Pz (p : Int) × Pz (p : Int)))) := ⟨hX.1, fun w => (hX.2 w).trans (by
    have : (dg w.1 ≤ n1 ∧ dg w.2 ≤ n2) ↔ @PlL (Pz (p : Int)) (pring p) dg g f mt w := by
      unfold PlL; omega
    exact ⟨fun h => ⟨h.1, this.mp h.2⟩, fun h => ⟨h.1, this.mpr h.2⟩⟩)⟩
  have b1 := evn_nn (mt - n + ((dg u : Int) - 1) - 2 * ((dg u : Int) - 1))
  have b2 := evn_nn (mt - n + ((dg u : Int) - 1) - (2 * g + 1))
  obtain ⟨m1, h1⟩ : ∃ m1 : Nat, (m1 : Int) = evn (mt - n + ((dg u : Int) - 1) - 2 * ((dg u : Int) - 1)) := ⟨_, Int.toNat_of_nonneg b1⟩
  obtain ⟨m2, h2⟩ : ∃ m2 : Nat, (m2 : Int) = evn (mt - n + ((dg u : Int) - 1) - (2 * g + 1)) := ⟨_, Int.toNat_of_nonneg b2⟩
  obtain ⟨c1, c2⟩ := allV_is (p := p) (by omega) (m1 + m2)
  have hY := vc_lst hp (n := m1) (m := m2) (J := fun _ => True) (L := allV p (m1 + m2)) ⟨c1.1, fun w => (c1.2 w).trans ⟨fun h => ⟨h, trivial⟩, fun h => h.1⟩⟩
  have hY2 : Lst (fun q : Pz (p : Int) × Pz (p : Int) => (dg q.1 : Int) ≤ evn (mt - n + ((dg u : Int) - 1) - 2 * ((dg u : Int) - 1)) ∧ (dg q.2 : Int) ≤ evn (mt - n + ((dg u : Int) - 1) - (2 * g + 1))) ((allV p (m1 + m2)).map (fun w => ((vcA m1 w, vcB m1 m2 w) : Pz (p : Int) × Pz (p : Int)))) := ⟨hY.1, fun w => (hY.2 w).trans ⟨fun h => ⟨by rw [← h1]; exact Int.ofNat_le.mpr h.2.1, by rw [← h2]; exact Int.ofNat_le.mpr h.2.2⟩, fun h => ⟨trivial, by
    have q : (dg w.1 : Int) ≤ (m1 : Int) := by rw [h1]; exact h.1
    omega, by
    have q : (dg w.2 : Int) ≤ (m2 : Int) := by rw [h2]; exact h.2
    omega⟩⟩⟩
  have key := @room_bij (Pz (p : Int)) (pring p) dg pmo E f u v g n hf J s t hs ht e hn hu hr.2.1 hr.2.2.1 mt _ rfl _ hX2 _ hY2
  replace key : (M.map (fun w => ((vcA n1 w, vcB n1 n2 w) : Pz (p : Int) × Pz (p : Int)))).length = ((allV p (m1 + m2)).map (fun w => ((vcA m1 w, vcB m1 m2 w) : Pz (p : Int) × Pz (p : Int)))).length := key
  rw [List.length_map, List.length_map, c2] at key
  rw [key, ← Nat.pow_add] at hl
  have := pow_inj (by omega) hl
  rw [show mt - n - ((dg u : Int) - 1) = mt - n + ((dg u : Int) - 1) - 2 * ((dg u : Int) - 1) by omega, ← h1, ← h2]
  omega
