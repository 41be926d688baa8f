/-! memory, making, calls, answers -/
theorem va_P_one {D : va_G} {cl : List vw_C} {q : Nat × va_E} {H : Heap} (h : va_at D cl q H) : va_P D cl [q] H := fun k p hp => by
  have hk : k < 1 := (List.getElem?_eq_some_iff.mp hp).1
  rw [show k = 0 by omega] at hp
  cases hp
  exact h
theorem lay_good {C : String} {T : u_T} {N : Nat} : ∀ w ∈ u_ws C T N, goodWord w = true := by
  intro w hw
  obtain ⟨k, -, rfl⟩ := List.mem_map.mp hw
  unfold u_lay
  split <;> rfl
theorem tag_all : (List.range 13).all (fun ci => (List.range (am_C ci).2.2).all (fun k => decide (tyTag (ciTy ci k) ≤ 2))) = true := by decide +kernel
theorem tag_le {ci k : Nat} (h1 : ci < 13) (h2 : k < (am_C ci).2.2) : tyTag (ciTy ci k) ≤ 2 :=
  of_decide_eq_true (List.all_eq_true.mp (List.all_eq_true.mp tag_all ci (List.mem_range.mpr h1)) k (List.mem_range.mpr h2))
theorem fvl_cnc {zb b w : Nat} {x : Int} (h : w ≤ 2) (hn : w = 2 → x ≠ 0) : fvl zb w x = cnc zb b (w, x) := by
  have : w = 0 ∨ w = 1 ∨ w = 2 := by omega
  rcases this with rfl | rfl | rfl
  · rfl
  · rfl
  · unfold fvl cnc
    simp [hn rfl]
theorem put_ok {zb b : Nat} {ty : FieldType} {t1 w : Nat} {x1 : Int} (h : if ty = .boolean then w = 5 else w = tyTag ty) (ht : tyTag ty ≤ 2) (h1 : if w = 5 then t1 = 0 ∧ (x1 = 0 ∨ x1 = 1) else t1 = w) (h2 : w = 2 → x1 ≠ 0) :
    cnc zb b (t1, x1) = fvl zb (tyTag ty) x1 ∧ narrow ty (cnc zb b (t1, x1)) = cnc zb b (t1, x1) ∧ fits ty (cnc zb b (t1, x1)) = true := by
  cases ty with
  | boolean =>
    rw [if_pos rfl] at h
    subst h
    rw [if_pos rfl] at h1
    obtain ⟨rfl, rfl | rfl⟩ := h1 <;> exact ⟨rfl, rfl, rfl⟩
  | int =>
    rw [if_neg (by decide)] at h
    obtain rfl : w = 0 := h
    rw [if_neg (by decide)] at h1
    subst h1
    exact ⟨rfl, rfl, rfl⟩
  | long =>
    rw [if_neg (by decide)] at h
    obtain rfl : w = 1 := h
    rw [if_neg (by decide)] at h1
    subst h1
    exact ⟨rfl, rfl, rfl⟩
  | object C =>
    rw [if_neg (by intro q; cases q)] at h
    obtain rfl : w = 2 := h
    rw [if_neg (by decide)] at h1
    subst h1
    refine ⟨(fvl_cnc (by decide) h2).symm, rfl, rfl⟩
  | array t =>
    rw [if_neg (by intro q; cases q)] at h
    obtain rfl : w = 2 := h
    rw [if_neg (by decide)] at h1
    subst h1
    refine ⟨(fvl_cnc (by decide) h2).symm, rfl, rfl⟩
  | _ => exact absurd ht (by decide)
theorem dflt_ok {zb : Nat} {ty : FieldType} (h : tyTag ty ≤ 2) : defaultValue ty = fvl zb (tyTag ty) 0 := by
  cases ty with
  | boolean => rfl
  | int => rfl
  | long => rfl
  | object C => rfl
  | array t => rfl
  | _ => exact absurd h (by decide)
theorem nest_own : tables_1.all (fun w => match w with | .fieldLinkNest a _ c _ _ _ => decide (a ≠ c) | _ => true) = true := by decide +kernel
theorem lkPair : Cond.classLink "CurveRooms" 49 "CurveRooms$Pair" ∈ tables_1 := List.mem_of_getElem? (i := 251) (by decide +kernel)
theorem lkGrid : Cond.classLink "CurveRooms$Code" 15 "[[I" ∈ tables_1 := List.mem_of_getElem? (i := 348) (by decide +kernel)
theorem lkAI : Cond.arrayClass .int ∈ tables_1 := List.mem_of_getElem? (i := 53) (by decide +kernel)
theorem lkAL : Cond.arrayClass .long ∈ tables_1 := List.mem_of_getElem? (i := 164) (by decide +kernel)
theorem lkOI : Cond.instanceMethod Lib.objectInit ∈ tables_1 := List.mem_of_getElem? (i := 22) (by decide +kernel)
theorem lkOC : Cond.code Lib.objectInit ⟨#[0xb1]⟩ 1 none ∈ tables_1 := List.mem_of_getElem? (i := 23) (by decide +kernel)

set_option maxHeartbeats 8000000 in
set_option maxRecDepth 20000 in
theorem sx_getfield {zb b L : Nat} {xs : Nat → Int32} {D : va_G} {cs : Nat → ClassId} {m : Nat} {k : Nat × Nat} {pc : Nat} {ls st : List V} {n : Int} {M : Mem} {Q : Post} {i : Instr} {len x w : Nat} {z y : Int} {tg : List Nat}
    (hm : m < NMT) (hdec : decode (am_M m).2.2.1 pc = .ok (i, len)) (hok : eok m (pc, i, len, x, w, z, y, tg) = true) (hi : ∃ q, i = .getfield q)
    (hw : wpX (SX zb b L xs D cs) m (pc, i, len, x, w, z, y, tg) k ls st n M Q) : SX zb b L xs D cs m k pc ls st n M Q := by
  intro _ p l ev s mid args below meth c H locs lc Z hF hSW hWd hS hL hk1 hk2 hret
  obtain ⟨hx, hb, hml, hr, hlk, hown, hnm, hts⟩ := id hF
  have run : ∀ (k' : Nat × Nat) (pc' : Nat) (ls' st' : List V) (n' : Int) (M' : Mem) (H' : Heap) (locs' : List Loc) (lc' : Array Slot), SX zb b L xs D cs m k' pc' ls' st' n' M' Q → World zb L xs D cs M' n' H' → va_S (AWz zb) s.heap H' locs' → LocR zb b (am_M m).2.2.2.1 ls' lc' → k'.1 ≤ (rmM m).cells → k'.2 ≤ (rmM m).slots → W p l ev (rmM m) s mid args below meth c H' locs' k'.1 k'.2 Z (F0 mid pc' lc' (st'.map (cnc zb b))) := fun k' pc' ls' st' n' M' H' locs' lc' g1 g2 g3 g4 g5 g6 => g1 hm p l ev s mid args below meth c H' locs' lc' Z hF hSW g2 g3 g4 g5 g6 hret
  have run0 : ∀ (pc' : Nat) (st' : List V), SX zb b L xs D cs m k pc' ls st' n M Q → W p l ev (rmM m) s mid args below meth c H locs k.1 k.2 Z (F0 mid pc' lc (st'.map (cnc zb b))) := fun pc' st' g => run k pc' ls st' n M H locs lc g hWd hS hL hk1 hk2
  obtain ⟨q, rfl⟩ := hi
  obtain ⟨hl, hz, hy, hci, hyn, hlk2, hwt, hdc⟩ : len = 3 ∧ 10 ≤ z ∧ 0 ≤ y ∧ (z - 10).toNat < 13 ∧ y.toNat < (am_C (z - 10).toNat).2.2 ∧ ((am_M m).1, q, (z - 10).toNat, y.toNat) ∈ lkF_L ∧ w = tyTag (ciTy (z - 10).toNat y.toNat) ∧ ((am_C (z - 10).toNat).2.1 y.toNat).1 = (am_C (z - 10).toNat).1 := of_decide_eq_true hok
  subst hl
  rcases st with _ | ⟨⟨t1, x1⟩, r⟩
  · exact False.elim hw
  · obtain ⟨e1, c1, c2, hw⟩ : t1 = 2 ∧ kd n x1 = z ∧ (w = 2 → M x1 y ≠ 0) ∧ SX zb b L xs D cs m k (pc + 3) ls ((w, M x1 y) :: r) n M Q := hw
    subst e1
    obtain ⟨a1, a2, a3⟩ := kd_spec c1 (by omega)
    have hat := hWd.at a1 a2
    rw [entC_o a3 hz] at hat
    have hv := flds_get (zb := zb) (f := M x1) hyn
    rw [Int.toNat_of_nonneg hy, ← hwt] at hv
    have hw3 : W p l ev (rmM m) s mid args below meth c H locs k.1 k.2 Z (F0 mid (pc + 3) lc (fvl zb w (M x1 y) :: List.map (cnc zb b) r)) := by
      rw [fvl_cnc (b := b) (by rw [hwt]; exact tag_le hci hyn) c2]
      exact run0 _ _ hw
    show W p l ev (rmM m) s mid args below meth c H locs k.1 k.2 Z (F0 mid pc lc (.ref (zb + x1.toNat) :: List.map (cnc zb b) r))
    have hto : ∀ w ∈ u_ws (am_C (z - 10).toNat).1 (am_C (z - 10).toNat).2.1 (am_C (z - 10).toNat).2.2, w.before args s = true := fun w hw => hts w (List.mem_append_right _ (am_inC _ hci w hw)) (lay_good w hw)
    rcases lkF_ok _ hlk2 with hfl | hfl
    · exact va_get (T := (am_C (z - 10).toNat).2.1) hx hb hto (fun w h => h) hown hSW.1 (va_P_one hat) 0 rfl (am_get _ hci) y.toNat hyn (hts _ (List.mem_append_right _ hfl) rfl) (fun x h => by rw [← hdc]; exact h) hv hdec hw3
    · exact va_getN (T := (am_C (z - 10).toNat).2.1) hx hb hto (fun w h => h) hown hSW.1 (va_P_one hat) 0 rfl (am_get _ hci) y.toNat hyn (va_Nw.use rfl (hSW.2.1 _ hfl rfl)) (fun x h => by rw [← hdc]; exact h) hv hdec hw3

set_option maxHeartbeats 8000000 in
set_option maxRecDepth 20000 in
theorem sx_putfield {zb b L : Nat} {xs : Nat → Int32} {D : va_G} {cs : Nat → ClassId} {m : Nat} {k : Nat × Nat} {pc : Nat} {ls st : List V} {n : Int} {M : Mem} {Q : Post} {i : Instr} {len x w : Nat} {z y : Int} {tg : List Nat}
    (hm : m < NMT) (hdec : decode (am_M m).2.2.1 pc = .ok (i, len)) (hok : eok m (pc, i, len, x, w, z, y, tg) = true) (hi : ∃ q, i = .putfield q)
    (hw : wpX (SX zb b L xs D cs) m (pc, i, len, x, w, z, y, tg) k ls st n M Q) : SX zb b L xs D cs m k pc ls st n M Q := by
  intro _ p l ev s mid args below meth c H locs lc Z hF hSW hWd hS hL hk1 hk2 hret
  obtain ⟨hx, hb, hml, hr, hlk, hown, hnm, hts⟩ := id hF
  have run : ∀ (k' : Nat × Nat) (pc' : Nat) (ls' st' : List V) (n' : Int) (M' : Mem) (H' : Heap) (locs' : List Loc) (lc' : Array Slot), SX zb b L xs D cs m k' pc' ls' st' n' M' Q → World zb L xs D cs M' n' H' → va_S (AWz zb) s.heap H' locs' → LocR zb b (am_M m).2.2.2.1 ls' lc' → k'.1 ≤ (rmM m).cells → k'.2 ≤ (rmM m).slots → W p l ev (rmM m) s mid args below meth c H' locs' k'.1 k'.2 Z (F0 mid pc' lc' (st'.map (cnc zb b))) := fun k' pc' ls' st' n' M' H' locs' lc' g1 g2 g3 g4 g5 g6 => g1 hm p l ev s mid args below meth c H' locs' lc' Z hF hSW g2 g3 g4 g5 g6 hret
  have run0 : ∀ (pc' : Nat) (st' : List V), SX zb b L xs D cs m k pc' ls st' n M Q → W p l ev (rmM m) s mid args below meth c H locs k.1 k.2 Z (F0 mid pc' lc (st'.map (cnc zb b))) := fun pc' st' g => run k pc' ls st' n M H locs lc g hWd hS hL hk1 hk2
  obtain ⟨q, rfl⟩ := hi
  obtain ⟨hl, hz, hy, hci, hyn, hlk2, hwt, hdc, hfin⟩ : len = 3 ∧ 10 ≤ z ∧ 0 ≤ y ∧ (z - 10).toNat < 13 ∧ y.toNat < (am_C (z - 10).toNat).2.2 ∧ ((am_M m).1, q, (z - 10).toNat, y.toNat) ∈ lkF_L ∧ (if ciTy (z - 10).toNat y.toNat = .boolean then w = 5 else w = tyTag (ciTy (z - 10).toNat y.toNat)) ∧ ((am_C (z - 10).toNat).2.1 y.toNat).1 = (am_C (z - 10).toNat).1 ∧ (((am_C (z - 10).toNat).2.1 y.toNat).2.2.2 = true → (am_M m).2.1.name = "<init>" ∧ am_cnm (am_M m).1 = (am_C (z - 10).toNat).1) := of_decide_eq_true hok
  subst hl
  rcases st with _ | ⟨⟨t1, x1⟩, _ | ⟨⟨t2, x2⟩, r⟩⟩
  · exact False.elim hw
  · exact False.elim hw
  · obtain ⟨e2, c1, c3, c2, hw⟩ : t2 = 2 ∧ kd n x2 = z ∧ (if w = 5 then t1 = 0 ∧ (x1 = 0 ∨ x1 = 1) else t1 = w) ∧ (w = 2 → x1 ≠ 0) ∧ SX zb b L xs D cs m k (pc + 3) ls r n (ust M x2 y x1) Q := hw
    subst e2
    obtain ⟨a1, a2, a3⟩ := kd_spec c1 (by omega)
    have hat := hWd.at a1 a2
    rw [entC_o a3 hz] at hat
    obtain ⟨p1, p2, p3⟩ := put_ok (zb := zb) (b := b) hwt (tag_le hci hyn) c3 c2
    show W p l ev (rmM m) s mid args below meth c H locs k.1 k.2 Z (F0 mid pc lc (cnc zb b (t1, x1) :: .ref (zb + x2.toNat) :: List.map (cnc zb b) r))
    have hto : ∀ w ∈ u_ws (am_C (z - 10).toNat).1 (am_C (z - 10).toNat).2.1 (am_C (z - 10).toNat).2.2, w.before args s = true := fun w hw => hts w (List.mem_append_right _ (am_inC _ hci w hw)) (lay_good w hw)
    have fin : ∀ (H1 : Heap) (i : Nat), H1.size = H.size → (∀ q : Nat, q ≠ zb + x2.toNat → H1[q]? = H[q]?) → va_at D classes (zb + x2.toNat, .inr ((z - 10).toNat, (flds zb (z - 10).toNat (M x2)).set y.toNat (cnc zb b (t1, x1)))) H1 → W p l ev (rmM m) s mid args below meth c H1 (locs ++ [⟨zb + x2.toNat, i⟩]) k.1 k.2 Z (F0 mid (pc + 3) lc (List.map (cnc zb b) r)) := fun H1 i g1 g2 g3 => by
      refine run k _ ls r n _ H1 _ lc hw (hWd.put a1 a2 (fun b hb => ust_ne hb) g1 g2 ?_) (hS.put g1 g2 (by show zb < zb + x2.toNat; omega)) hL hk1 hk2
      rw [entC_o a3 hz]
      rw [p1, flds_set x1 hyn (g := ust M x2 y x1 x2) (by rw [ust_at, Int.toNat_of_nonneg hy]; simp) (fun j hj => by rw [ust_at, if_neg (by omega)])] at g3
      exact g3
    by_cases hff : ((am_C (z - 10).toNat).2.1 y.toNat).2.2.2 = true
    · obtain ⟨f1, f2⟩ := hfin hff
      rcases lkF_ok _ hlk2 with hfl | hfl
      · exact am_putF (T := (am_C (z - 10).toNat).2.1) hx hb hto (fun w h => h) (ciTy (z - 10).toNat) (am_tyC _ hci) (am_nmC _ hci) hown hSW.1 hat (am_get _ hci) y.toNat hyn (hts _ (List.mem_append_right _ hfl) rfl) (fun x h => by rw [← hdc]; exact h) hff (hnm.trans f1) (hdc.trans f2.symm) (am_tyC _ hci _ hyn) p2 p3 (by rw [flds_len]; exact hyn) hdec fin
      · have := List.all_eq_true.mp nest_own _ hfl
        exact absurd f2 (of_decide_eq_true this)
    · exact am_putK (T := (am_C (z - 10).toNat).2.1) hx hb hto (fun w h => h) (ciTy (z - 10).toNat) (am_tyC _ hci) (am_nmC _ hci) hown hSW.1 hat (am_get _ hci) y.toNat hyn ((lkF_ok _ hlk2).elim (fun hfl => Or.inl (hts _ (List.mem_append_right _ hfl) rfl)) (fun hfl => Or.inr ⟨_, va_Nw.use rfl (hSW.2.1 _ hfl rfl)⟩)) (fun x h => by rw [← hdc]; exact h) (by simpa using hff) (am_tyC _ hci _ hyn) p2 p3 (by rw [flds_len]; exact hyn) hdec fin

set_option maxHeartbeats 8000000 in
set_option maxRecDepth 20000 in
theorem sx_iaload {zb b L : Nat} {xs : Nat → Int32} {D : va_G} {cs : Nat → ClassId} {m : Nat} {k : Nat × Nat} {pc : Nat} {ls st : List V} {n : Int} {M : Mem} {Q : Post} {i : Instr} {len x w : Nat} {z y : Int} {tg : List Nat}
    (hm : m < NMT) (hdec : decode (am_M m).2.2.1 pc = .ok (i, len)) (hok : eok m (pc, i, len, x, w, z, y, tg) = true) (hi : i = .iaload)
    (hw : wpX (SX zb b L xs D cs) m (pc, i, len, x, w, z, y, tg) k ls st n M Q) : SX zb b L xs D cs m k pc ls st n M Q := by
  intro _ p l ev s mid args below meth c H locs lc Z hF hSW hWd hS hL hk1 hk2 hret
  obtain ⟨hx, hb, hml, hr, hlk, hown, hnm, hts⟩ := id hF
  have run : ∀ (k' : Nat × Nat) (pc' : Nat) (ls' st' : List V) (n' : Int) (M' : Mem) (H' : Heap) (locs' : List Loc) (lc' : Array Slot), SX zb b L xs D cs m k' pc' ls' st' n' M' Q → World zb L xs D cs M' n' H' → va_S (AWz zb) s.heap H' locs' → LocR zb b (am_M m).2.2.2.1 ls' lc' → k'.1 ≤ (rmM m).cells → k'.2 ≤ (rmM m).slots → W p l ev (rmM m) s mid args below meth c H' locs' k'.1 k'.2 Z (F0 mid pc' lc' (st'.map (cnc zb b))) := fun k' pc' ls' st' n' M' H' locs' lc' g1 g2 g3 g4 g5 g6 => g1 hm p l ev s mid args below meth c H' locs' lc' Z hF hSW g2 g3 g4 g5 g6 hret
  have run0 : ∀ (pc' : Nat) (st' : List V), SX zb b L xs D cs m k pc' ls st' n M Q → W p l ev (rmM m) s mid args below meth c H locs k.1 k.2 Z (F0 mid pc' lc (st'.map (cnc zb b))) := fun pc' st' g => run k pc' ls st' n M H locs lc g hWd hS hL hk1 hk2
  subst hi
  have hl : len = 1 := of_decide_eq_true hok
  subst hl
  rcases st with _ | ⟨⟨t1, x1⟩, _ | ⟨⟨t2, x2⟩, r⟩⟩
  · exact False.elim hw
  · exact False.elim hw
  · obtain ⟨e1, hw⟩ : t1 = 0 ∧ (if t2 = 3 then w = 1 ∧ 0 ≤ x1 ∧ x1 < M (-1) 0 ∧ SX zb b L xs D cs m k (pc + 1) ls ((0, M 0 x1) :: r) n M Q else t2 = 2 ∧ kd n x2 = 1 ∧ 0 ≤ x1 ∧ x1 < LN x2 ∧ SX zb b L xs D cs m k (pc + 1) ls ((0, M x2 x1) :: r) n M Q) := hw
    subst e1
    by_cases e2 : t2 = 3
    · rw [if_pos e2] at hw
      subst e2
      obtain ⟨-, c1, c2, hw⟩ := hw
      obtain ⟨nn, hn, g1, g2, g3, g4, g5⟩ := id hWd
      obtain ⟨-, -, -, -, hX, hbz, hsz, hLm⟩ := id hSW
      rw [g4] at c2
      have hi := ix_of c1 (by omega)
      have hv := g5 x1.toNat (by omega)
      rw [Int.toNat_of_nonneg c1] at hv
      show W p l ev (rmM m) s mid args below meth c H locs k.1 k.2 Z (F0 mid pc lc (.int (Int32.ofInt x1) :: .ref b :: List.map (cnc zb b) r))
      refine va_sld hx hb hX (by omega) (by show ¬ zb < b; omega) hS (ix_in c1 c2 hLm) hdec ?_
      have := run0 _ _ hw
      rw [hi]
      have e3 : cnc zb b (0, M 0 x1) = .int (xs x1.toNat) := by rw [hv]; show Value.int (Int32.ofInt (xs x1.toNat).toInt) = _; rw [Int32.ofInt_toInt]
      rw [List.map_cons, e3] at this
      exact this
    · rw [if_neg e2] at hw
      obtain ⟨e2, c0, c1, c2, hw⟩ := hw
      subst e2
      obtain ⟨a1, a2, a3⟩ := kd_spec c0 (by omega)
      have hat := hWd.at a1 a2
      rw [entC_1 a3] at hat
      have hln := LN_le x2
      show W p l ev (rmM m) s mid args below meth c H locs k.1 k.2 Z (F0 mid pc lc (.int (Int32.ofInt x1) :: .ref (zb + x2.toNat) :: List.map (cnc zb b) r))
      refine va_iald hx hb hSW.1 (va_P_one hat) 0 0 rfl rfl (ix_in c1 (by omega) (by omega)) hdec ?_
      have := run0 _ _ hw
      rw [ix_of c1 (by omega), Int.toNat_of_nonneg c1]
      exact this

set_option maxHeartbeats 8000000 in
set_option maxRecDepth 20000 in
theorem sx_laload {zb b L : Nat} {xs : Nat → Int32} {D : va_G} {cs : Nat → ClassId} {m : Nat} {k : Nat × Nat} {pc : Nat} {ls st : List V} {n : Int} {M : Mem} {Q : Post} {i : Instr} {len x w : Nat} {z y : Int} {tg : List Nat}
    (hm : m < NMT) (hdec : decode (am_M m).2.2.1 pc = .ok (i, len)) (hok : eok m (pc, i, len, x, w, z, y, tg) = true) (hi : i = .laload)
    (hw : wpX (SX zb b L xs D cs) m (pc, i, len, x, w, z, y, tg) k ls st n M Q) : SX zb b L xs D cs m k pc ls st n M Q := by
  intro _ p l ev s mid args below meth c H locs lc Z hF hSW hWd hS hL hk1 hk2 hret
  obtain ⟨hx, hb, hml, hr, hlk, hown, hnm, hts⟩ := id hF
  have run : ∀ (k' : Nat × Nat) (pc' : Nat) (ls' st' : List V) (n' : Int) (M' : Mem) (H' : Heap) (locs' : List Loc) (lc' : Array Slot), SX zb b L xs D cs m k' pc' ls' st' n' M' Q → World zb L xs D cs M' n' H' → va_S (AWz zb) s.heap H' locs' → LocR zb b (am_M m).2.2.2.1 ls' lc' → k'.1 ≤ (rmM m).cells → k'.2 ≤ (rmM m).slots → W p l ev (rmM m) s mid args below meth c H' locs' k'.1 k'.2 Z (F0 mid pc' lc' (st'.map (cnc zb b))) := fun k' pc' ls' st' n' M' H' locs' lc' g1 g2 g3 g4 g5 g6 => g1 hm p l ev s mid args below meth c H' locs' lc' Z hF hSW g2 g3 g4 g5 g6 hret
  have run0 : ∀ (pc' : Nat) (st' : List V), SX zb b L xs D cs m k pc' ls st' n M Q → W p l ev (rmM m) s mid args below meth c H locs k.1 k.2 Z (F0 mid pc' lc (st'.map (cnc zb b))) := fun pc' st' g => run k pc' ls st' n M H locs lc g hWd hS hL hk1 hk2
  subst hi
  have hl : len = 1 := of_decide_eq_true hok
  subst hl
  rcases st with _ | ⟨⟨t1, x1⟩, _ | ⟨⟨t2, x2⟩, r⟩⟩
  · exact False.elim hw
  · exact False.elim hw
  · obtain ⟨e1, e2, c0, c1, c2, hw⟩ : t1 = 0 ∧ t2 = 2 ∧ kd n x2 = 2 ∧ 0 ≤ x1 ∧ x1 < LN x2 ∧ SX zb b L xs D cs m k (pc + 1) ls ((1, M x2 x1) :: r) n M Q := hw
    subst e1
    subst e2
    obtain ⟨a1, a2, a3⟩ := kd_spec c0 (by omega)
    have hat := hWd.at a1 a2
    rw [entC_2 a3] at hat
    have hln := LN_le x2
    show W p l ev (rmM m) s mid args below meth c H locs k.1 k.2 Z (F0 mid pc lc (.int (Int32.ofInt x1) :: .ref (zb + x2.toNat) :: List.map (cnc zb b) r))
    refine va_lald hx hb hSW.1 (va_P_one hat) 0 1 rfl rfl (ix_in c1 (by omega) (by omega)) hdec ?_
    have := run0 _ _ hw
    rw [ix_of c1 (by omega), Int.toNat_of_nonneg c1]
    exact this

set_option maxHeartbeats 8000000 in
set_option maxRecDepth 20000 in
theorem sx_aaload {zb b L : Nat} {xs : Nat → Int32} {D : va_G} {cs : Nat → ClassId} {m : Nat} {k : Nat × Nat} {pc : Nat} {ls st : List V} {n : Int} {M : Mem} {Q : Post} {i : Instr} {len x w : Nat} {z y : Int} {tg : List Nat}
    (hm : m < NMT) (hdec : decode (am_M m).2.2.1 pc = .ok (i, len)) (hok : eok m (pc, i, len, x, w, z, y, tg) = true) (hi : i = .aaload)
    (hw : wpX (SX zb b L xs D cs) m (pc, i, len, x, w, z, y, tg) k ls st n M Q) : SX zb b L xs D cs m k pc ls st n M Q := by
  intro _ p l ev s mid args below meth c H locs lc Z hF hSW hWd hS hL hk1 hk2 hret
  obtain ⟨hx, hb, hml, hr, hlk, hown, hnm, hts⟩ := id hF
  have run : ∀ (k' : Nat × Nat) (pc' : Nat) (ls' st' : List V) (n' : Int) (M' : Mem) (H' : Heap) (locs' : List Loc) (lc' : Array Slot), SX zb b L xs D cs m k' pc' ls' st' n' M' Q → World zb L xs D cs M' n' H' → va_S (AWz zb) s.heap H' locs' → LocR zb b (am_M m).2.2.2.1 ls' lc' → k'.1 ≤ (rmM m).cells → k'.2 ≤ (rmM m).slots → W p l ev (rmM m) s mid args below meth c H' locs' k'.1 k'.2 Z (F0 mid pc' lc' (st'.map (cnc zb b))) := fun k' pc' ls' st' n' M' H' locs' lc' g1 g2 g3 g4 g5 g6 => g1 hm p l ev s mid args below meth c H' locs' lc' Z hF hSW g2 g3 g4 g5 g6 hret
  have run0 : ∀ (pc' : Nat) (st' : List V), SX zb b L xs D cs m k pc' ls st' n M Q → W p l ev (rmM m) s mid args below meth c H locs k.1 k.2 Z (F0 mid pc' lc (st'.map (cnc zb b))) := fun pc' st' g => run k pc' ls st' n M H locs lc g hWd hS hL hk1 hk2
  subst hi
  have hl : len = 1 := of_decide_eq_true hok
  subst hl
  rcases st with _ | ⟨⟨t1, x1⟩, _ | ⟨⟨t2, x2⟩, r⟩⟩
  · exact False.elim hw
  · exact False.elim hw
  · obtain ⟨e1, e2, c0, c1, c2, c3, hw⟩ : t1 = 0 ∧ t2 = 2 ∧ (kd n x2 = 3 ∨ kd n x2 = 4) ∧ 0 ≤ x1 ∧ x1 < LN x2 ∧ M x2 x1 ≠ 0 ∧ SX zb b L xs D cs m k (pc + 1) ls ((2, M x2 x1) :: r) n M Q := hw
    subst e1
    subst e2
    have hln := LN_le x2
    have hw2 := run0 _ _ hw
    have hrf : va_rf (rfo zb (M x2 x1)) = cnc zb b (2, M x2 x1) := by unfold rfo; rw [if_neg c3]; rfl
    show W p l ev (rmM m) s mid args below meth c H locs k.1 k.2 Z (F0 mid pc lc (.int (Int32.ofInt x1) :: .ref (zb + x2.toNat) :: List.map (cnc zb b) r))
    rcases c0 with c0 | c0
    · obtain ⟨a1, a2, a3⟩ := kd_spec c0 (by omega)
      have hat := hWd.at a1 a2
      rw [entC_3 a3] at hat
      refine va_aldq hx hb hSW.1 (va_P_one hat) 0 2 rfl rfl (ix_in c1 (by omega) (by omega)) hdec ?_
      rw [ix_of c1 (by omega), Int.toNat_of_nonneg c1, hrf]
      exact hw2
    · obtain ⟨a1, a2, a3⟩ := kd_spec c0 (by omega)
      have hat := hWd.at a1 a2
      rw [entC_4 a3] at hat
      have hin : vp_in (Int32.ofInt x1) (LN x2).toNat := ix_in c1 (by omega) (by omega)
      have hin2 : (Int32.ofInt x1).toNatClampNeg < (LN x2).toNat := by rw [ix_of c1 (by omega)]; omega
      refine W.aald (v := va_rf (rfo zb (M x2 x1))) (ty := .array .int) hx hb hat ((hSW.1.2 3 _ rfl).1 (LN x2).toNat (fun j => va_rf (rfo zb (M x2 (j : Int))))) rfl (fun q => by cases q) (by show ¬ (_ ∨ (arrV _ _ _).slots.size ≤ _); rw [arrV_size]; exact hin) (by show (arrV _ _ _).slots[_]? = _; rw [arrV_read _ _ hin2, ix_of c1 (by omega)]; show some (va_rf (rfo zb (M x2 (x1.toNat : Int)))) = _; rw [Int.toNat_of_nonneg c1]) rfl rfl hdec ?_
      rw [hrf]
      exact hw2

set_option maxHeartbeats 8000000 in
set_option maxRecDepth 20000 in
theorem sx_iastore {zb b L : Nat} {xs : Nat → Int32} {D : va_G} {cs : Nat → ClassId} {m : Nat} {k : Nat × Nat} {pc : Nat} {ls st : List V} {n : Int} {M : Mem} {Q : Post} {i : Instr} {len x w : Nat} {z y : Int} {tg : List Nat}
    (hm : m < NMT) (hdec : decode (am_M m).2.2.1 pc = .ok (i, len)) (hok : eok m (pc, i, len, x, w, z, y, tg) = true) (hi : i = .iastore)
    (hw : wpX (SX zb b L xs D cs) m (pc, i, len, x, w, z, y, tg) k ls st n M Q) : SX zb b L xs D cs m k pc ls st n M Q := by
  intro _ p l ev s mid args below meth c H locs lc Z hF hSW hWd hS hL hk1 hk2 hret
  obtain ⟨hx, hb, hml, hr, hlk, hown, hnm, hts⟩ := id hF
  have run : ∀ (k' : Nat × Nat) (pc' : Nat) (ls' st' : List V) (n' : Int) (M' : Mem) (H' : Heap) (locs' : List Loc) (lc' : Array Slot), SX zb b L xs D cs m k' pc' ls' st' n' M' Q → World zb L xs D cs M' n' H' → va_S (AWz zb) s.heap H' locs' → LocR zb b (am_M m).2.2.2.1 ls' lc' → k'.1 ≤ (rmM m).cells → k'.2 ≤ (rmM m).slots → W p l ev (rmM m) s mid args below meth c H' locs' k'.1 k'.2 Z (F0 mid pc' lc' (st'.map (cnc zb b))) := fun k' pc' ls' st' n' M' H' locs' lc' g1 g2 g3 g4 g5 g6 => g1 hm p l ev s mid args below meth c H' locs' lc' Z hF hSW g2 g3 g4 g5 g6 hret
  have run0 : ∀ (pc' : Nat) (st' : List V), SX zb b L xs D cs m k pc' ls st' n M Q → W p l ev (rmM m) s mid args below meth c H locs k.1 k.2 Z (F0 mid pc' lc (st'.map (cnc zb b))) := fun pc' st' g => run k pc' ls st' n M H locs lc g hWd hS hL hk1 hk2
  subst hi
  have hl : len = 1 := of_decide_eq_true hok
  subst hl
  rcases st with _ | ⟨⟨t1, x1⟩, _ | ⟨⟨t2, x2⟩, _ | ⟨⟨t3, x3⟩, r⟩⟩⟩
  · exact False.elim hw
  · exact False.elim hw
  · exact False.elim hw
  · obtain ⟨e1, e2, e3, c0, c1, c2, hw⟩ : t1 = 0 ∧ t2 = 0 ∧ t3 = 2 ∧ kd n x3 = 1 ∧ 0 ≤ x2 ∧ x2 < LN x3 ∧ SX zb b L xs D cs m k (pc + 1) ls r n (ust M x3 x2 x1) Q := hw
    subst e1
    subst e2
    subst e3
    obtain ⟨a1, a2, a3⟩ := kd_spec c0 (by omega)
    have hat := hWd.at a1 a2
    rw [entC_1 a3] at hat
    have hln := LN_le x3
    have hin : vp_in (Int32.ofInt x2) (LN x3).toNat := ix_in c1 (by omega) (by omega)
    show W p l ev (rmM m) s mid args below meth c H locs k.1 k.2 Z (F0 mid pc lc (.int (Int32.ofInt x1) :: .int (Int32.ofInt x2) :: .ref (zb + x3.toNat) :: List.map (cnc zb b) r))
    refine W.iast hx hb hat ((hSW.1.2 0 _ rfl).1 (LN x3).toNat (fun j => .int (Int32.ofInt (M x3 (j : Int))))) (fun q => by cases q) (by show ¬ (_ ∨ (arrV _ _ _).slots.size ≤ _); rw [arrV_size]; exact hin) rfl rfl hdec fun H1 e z oq => ?_
    refine run k _ ls r n _ H1 _ lc hw (hWd.put a1 a2 (fun b hb => ust_ne hb) z oq ?_) (hS.put z oq (by show zb < zb + x3.toNat; omega)) hL hk1 hk2
    rw [entC_1 a3]
    show H1[zb + x3.toNat]? = some (vp_cell _ _)
    rw [e, vp_cell_i, vp_cell_i, arrV_store]
    congr 2
    funext j
    rw [ix_of c1 (by omega)]
    by_cases hj : j = x2.toNat
    · subst hj
      simp [updV, ust_at, Int.toNat_of_nonneg c1]
    · have : ¬ (j : Int) = x2 := by omega
      simp [updV, hj, ust_at, this]

set_option maxHeartbeats 8000000 in
set_option maxRecDepth 20000 in
theorem sx_lastore {zb b L : Nat} {xs : Nat → Int32} {D : va_G} {cs : Nat → ClassId} {m : Nat} {k : Nat × Nat} {pc : Nat} {ls st : List V} {n : Int} {M : Mem} {Q : Post} {i : Instr} {len x w : Nat} {z y : Int} {tg : List Nat}
    (hm : m < NMT) (hdec : decode (am_M m).2.2.1 pc = .ok (i, len)) (hok : eok m (pc, i, len, x, w, z, y, tg) = true) (hi : i = .lastore)
    (hw : wpX (SX zb b L xs D cs) m (pc, i, len, x, w, z, y, tg) k ls st n M Q) : SX zb b L xs D cs m k pc ls st n M Q := by
  intro _ p l ev s mid args below meth c H locs lc Z hF hSW hWd hS hL hk1 hk2 hret
  obtain ⟨hx, hb, hml, hr, hlk, hown, hnm, hts⟩ := id hF
  have run : ∀ (k' : Nat × Nat) (pc' : Nat) (ls' st' : List V) (n' : Int) (M' : Mem) (H' : Heap) (locs' : List Loc) (lc' : Array Slot), SX zb b L xs D cs m k' pc' ls' st' n' M' Q → World zb L xs D cs M' n' H' → va_S (AWz zb) s.heap H' locs' → LocR zb b (am_M m).2.2.2.1 ls' lc' → k'.1 ≤ (rmM m).cells → k'.2 ≤ (rmM m).slots → W p l ev (rmM m) s mid args below meth c H' locs' k'.1 k'.2 Z (F0 mid pc' lc' (st'.map (cnc zb b))) := fun k' pc' ls' st' n' M' H' locs' lc' g1 g2 g3 g4 g5 g6 => g1 hm p l ev s mid args below meth c H' locs' lc' Z hF hSW g2 g3 g4 g5 g6 hret
  have run0 : ∀ (pc' : Nat) (st' : List V), SX zb b L xs D cs m k pc' ls st' n M Q → W p l ev (rmM m) s mid args below meth c H locs k.1 k.2 Z (F0 mid pc' lc (st'.map (cnc zb b))) := fun pc' st' g => run k pc' ls st' n M H locs lc g hWd hS hL hk1 hk2
  subst hi
  have hl : len = 1 := of_decide_eq_true hok
  subst hl
  rcases st with _ | ⟨⟨t1, x1⟩, _ | ⟨⟨t2, x2⟩, _ | ⟨⟨t3, x3⟩, r⟩⟩⟩
  · exact False.elim hw
  · exact False.elim hw
  · exact False.elim hw
  · obtain ⟨e1, e2, e3, c0, c1, c2, hw⟩ : t1 = 1 ∧ t2 = 0 ∧ t3 = 2 ∧ kd n x3 = 2 ∧ 0 ≤ x2 ∧ x2 < LN x3 ∧ SX zb b L xs D cs m k (pc + 1) ls r n (ust M x3 x2 x1) Q := hw
    subst e1
    subst e2
    subst e3
    obtain ⟨a1, a2, a3⟩ := kd_spec c0 (by omega)
    have hat := hWd.at a1 a2
    rw [entC_2 a3] at hat
    have hln := LN_le x3
    have hin : vp_in (Int32.ofInt x2) (LN x3).toNat := ix_in c1 (by omega) (by omega)
    show W p l ev (rmM m) s mid args below meth c H locs k.1 k.2 Z (F0 mid pc lc (.long (Int64.ofInt x1) :: .int (Int32.ofInt x2) :: .ref (zb + x3.toNat) :: List.map (cnc zb b) r))
    refine W.last hx hb hat ((hSW.1.2 1 _ rfl).1 (LN x3).toNat (fun j => .long (Int64.ofInt (M x3 (j : Int))))) (fun q => by cases q) (by show ¬ (_ ∨ (arrV _ _ _).slots.size ≤ _); rw [arrV_size]; exact hin) rfl rfl hdec fun H1 e z oq => ?_
    refine run k _ ls r n _ H1 _ lc hw (hWd.put a1 a2 (fun b hb => ust_ne hb) z oq ?_) (hS.put z oq (by show zb < zb + x3.toNat; omega)) hL hk1 hk2
    rw [entC_2 a3]
    show H1[zb + x3.toNat]? = some (vp_cell _ _)
    rw [e, vp_cell_l, vp_cell_l, arrV_store]
    congr 2
    funext j
    rw [ix_of c1 (by omega)]
    by_cases hj : j = x2.toNat
    · subst hj
      simp [updV, ust_at, Int.toNat_of_nonneg c1]
    · have : ¬ (j : Int) = x2 := by omega
      simp [updV, hj, ust_at, this]

set_option maxHeartbeats 8000000 in
set_option maxRecDepth 20000 in
theorem sx_aastore {zb b L : Nat} {xs : Nat → Int32} {D : va_G} {cs : Nat → ClassId} {m : Nat} {k : Nat × Nat} {pc : Nat} {ls st : List V} {n : Int} {M : Mem} {Q : Post} {i : Instr} {len x w : Nat} {z y : Int} {tg : List Nat}
    (hm : m < NMT) (hdec : decode (am_M m).2.2.1 pc = .ok (i, len)) (hok : eok m (pc, i, len, x, w, z, y, tg) = true) (hi : i = .aastore)
    (hw : wpX (SX zb b L xs D cs) m (pc, i, len, x, w, z, y, tg) k ls st n M Q) : SX zb b L xs D cs m k pc ls st n M Q := by
  intro _ p l ev s mid args below meth c H locs lc Z hF hSW hWd hS hL hk1 hk2 hret
  obtain ⟨hx, hb, hml, hr, hlk, hown, hnm, hts⟩ := id hF
  have run : ∀ (k' : Nat × Nat) (pc' : Nat) (ls' st' : List V) (n' : Int) (M' : Mem) (H' : Heap) (locs' : List Loc) (lc' : Array Slot), SX zb b L xs D cs m k' pc' ls' st' n' M' Q → World zb L xs D cs M' n' H' → va_S (AWz zb) s.heap H' locs' → LocR zb b (am_M m).2.2.2.1 ls' lc' → k'.1 ≤ (rmM m).cells → k'.2 ≤ (rmM m).slots → W p l ev (rmM m) s mid args below meth c H' locs' k'.1 k'.2 Z (F0 mid pc' lc' (st'.map (cnc zb b))) := fun k' pc' ls' st' n' M' H' locs' lc' g1 g2 g3 g4 g5 g6 => g1 hm p l ev s mid args below meth c H' locs' lc' Z hF hSW g2 g3 g4 g5 g6 hret
  have run0 : ∀ (pc' : Nat) (st' : List V), SX zb b L xs D cs m k pc' ls st' n M Q → W p l ev (rmM m) s mid args below meth c H locs k.1 k.2 Z (F0 mid pc' lc (st'.map (cnc zb b))) := fun pc' st' g => run k pc' ls st' n M H locs lc g hWd hS hL hk1 hk2
  subst hi
  have hl : len = 1 := of_decide_eq_true hok
  subst hl
  rcases st with _ | ⟨⟨t1, x1⟩, _ | ⟨⟨t2, x2⟩, _ | ⟨⟨t3, x3⟩, r⟩⟩⟩
  · exact False.elim hw
  · exact False.elim hw
  · exact False.elim hw
  · obtain ⟨e1, e2, e3, c0, c9, c1, c2, hw⟩ : t1 = 2 ∧ t2 = 0 ∧ t3 = 2 ∧ kd n x3 = 3 ∧ kd n x1 = 16 ∧ 0 ≤ x2 ∧ x2 < LN x3 ∧ SX zb b L xs D cs m k (pc + 1) ls r n (ust M x3 x2 x1) Q := hw
    subst e1
    subst e2
    subst e3
    obtain ⟨a1, a2, a3⟩ := kd_spec c0 (by omega)
    obtain ⟨b1, b2, b3⟩ := kd_spec c9 (by omega)
    have hat := hWd.at a1 a2
    rw [entC_3 a3] at hat
    have hbt := hWd.at b1 b2
    rw [entC_o b3 (by omega)] at hbt
    have hln := LN_le x3
    obtain ⟨r', hr', cellV, g1, g2, g3, -⟩ := hbt
    have hcls := (hSW.1.1 6 _ (am_get 6 (by decide))).2
    obtain ⟨kA, comp, k1, k2, k3, -⟩ := (hSW.1.2 2 _ rfl).2
    have hcomp : comp = D.1 6 := Option.some.inj (k3.symm.trans hcls.1)
    subst hcomp
    obtain ⟨kC, hkC, -⟩ := hcls.2
    have g2 : cellV.cls = D.1 6 := g2
    have hin2 : (Int32.ofInt x2).toNatClampNeg < (LN x3).toNat := by rw [ix_of c1 (by omega)]; omega
    show W p l ev (rmM m) s mid args below meth c H locs k.1 k.2 Z (F0 mid pc lc (.ref (zb + x1.toNat) :: .int (Int32.ofInt x2) :: .ref (zb + x3.toNat) :: List.map (cnc zb b) r))
    refine W.aast hx hb hat (fun q h => by cases h) (fun h => by cases h) k1 k2 rfl hkC ⟨by rw [R0_lt (by unfold R32; omega)]; omega, by show _ < (arrV _ _ _).slots.size; rw [arrV_size]; exact hin2⟩ g1 (fun q h => by rw [g3] at h; cases h) (by rw [g2]; exact hkC) (by rw [g2]; exact va_assign hcls) rfl rfl hdec fun H1 e z oq => ?_
    refine run k _ ls r n _ H1 _ lc hw (hWd.put a1 a2 (fun b hb => ust_ne hb) z oq ?_) (hS.put z oq (by show zb < zb + x3.toNat; omega)) hL hk1 hk2
    rw [entC_3 a3]
    show H1[zb + x3.toNat]? = some (vp_cell _ _)
    rw [e, vp_cell_q, vp_cell_q, arrV_store]
    congr 2
    funext j
    rw [ix_of c1 (by omega)]
    by_cases hj : j = x2.toNat
    · subst hj
      have : ¬ x1 = 0 := by omega
      simp [updV, ust_at, Int.toNat_of_nonneg c1, rfo, this, va_rf]
    · have : ¬ (j : Int) = x2 := by omega
      simp [updV, hj, ust_at, this]

set_option maxHeartbeats 8000000 in
set_option maxRecDepth 20000 in
theorem sx_alen {zb b L : Nat} {xs : Nat → Int32} {D : va_G} {cs : Nat → ClassId} {m : Nat} {k : Nat × Nat} {pc : Nat} {ls st : List V} {n : Int} {M : Mem} {Q : Post} {i : Instr} {len x w : Nat} {z y : Int} {tg : List Nat}
    (hm : m < NMT) (hdec : decode (am_M m).2.2.1 pc = .ok (i, len)) (hok : eok m (pc, i, len, x, w, z, y, tg) = true) (hi : i = .arraylength)
    (hw : wpX (SX zb b L xs D cs) m (pc, i, len, x, w, z, y, tg) k ls st n M Q) : SX zb b L xs D cs m k pc ls st n M Q := by
  intro _ p l ev s mid args below meth c H locs lc Z hF hSW hWd hS hL hk1 hk2 hret
  obtain ⟨hx, hb, hml, hr, hlk, hown, hnm, hts⟩ := id hF
  have run : ∀ (k' : Nat × Nat) (pc' : Nat) (ls' st' : List V) (n' : Int) (M' : Mem) (H' : Heap) (locs' : List Loc) (lc' : Array Slot), SX zb b L xs D cs m k' pc' ls' st' n' M' Q → World zb L xs D cs M' n' H' → va_S (AWz zb) s.heap H' locs' → LocR zb b (am_M m).2.2.2.1 ls' lc' → k'.1 ≤ (rmM m).cells → k'.2 ≤ (rmM m).slots → W p l ev (rmM m) s mid args below meth c H' locs' k'.1 k'.2 Z (F0 mid pc' lc' (st'.map (cnc zb b))) := fun k' pc' ls' st' n' M' H' locs' lc' g1 g2 g3 g4 g5 g6 => g1 hm p l ev s mid args below meth c H' locs' lc' Z hF hSW g2 g3 g4 g5 g6 hret
  have run0 : ∀ (pc' : Nat) (st' : List V), SX zb b L xs D cs m k pc' ls st' n M Q → W p l ev (rmM m) s mid args below meth c H locs k.1 k.2 Z (F0 mid pc' lc (st'.map (cnc zb b))) := fun pc' st' g => run k pc' ls st' n M H locs lc g hWd hS hL hk1 hk2
  subst hi
  have hl : len = 1 := of_decide_eq_true hok
  subst hl
  rcases st with _ | ⟨⟨t1, x1⟩, r⟩
  · exact False.elim hw
  · replace hw : (if t1 = 3 then w = 1 ∧ SX zb b L xs D cs m k (pc + 1) ls ((0, M (-1) 0) :: r) n M Q else t1 = 2 ∧ (kd n x1 = 1 ∨ kd n x1 = 2 ∨ kd n x1 = 4) ∧ SX zb b L xs D cs m k (pc + 1) ls ((0, LN x1) :: r) n M Q) := hw
    by_cases e2 : t1 = 3
    · rw [if_pos e2] at hw
      subst e2
      obtain ⟨nn, hn, g1, g2, g3, g4, g5⟩ := id hWd
      obtain ⟨-, -, -, -, hX, hbz, hsz, hLm⟩ := id hSW
      show W p l ev (rmM m) s mid args below meth c H locs k.1 k.2 Z (F0 mid pc lc (.ref b :: List.map (cnc zb b) r))
      refine va_slen hx hb hX (by omega) (by show ¬ zb < b; omega) hS hdec ?_
      have := run0 _ _ hw.2
      rw [g4] at this
      rw [List.map_cons, show cnc zb b (0, (L : Int)) = .int (Int32.ofNat L) from congrArg Value.int (Int32.ofInt_eq_ofNat ..)] at this
      exact this
    · rw [if_neg e2] at hw
      obtain ⟨e2, c0, hw⟩ := hw
      subst e2
      have hln := LN_le x1
      have hv : Int32.ofNat (LN x1).toNat = Int32.ofInt (LN x1) := by
        have : LN x1 = ((LN x1).toNat : Int) := by omega
        rw [this]; exact (Int32.ofInt_eq_ofNat ..).symm
      have hw2 := run0 _ _ hw
      show W p l ev (rmM m) s mid args below meth c H locs k.1 k.2 Z (F0 mid pc lc (.ref (zb + x1.toNat) :: List.map (cnc zb b) r))
      rcases c0 with c0 | c0 | c0
      · obtain ⟨a1, a2, a3⟩ := kd_spec c0 (by omega)
        have hat := hWd.at a1 a2
        rw [entC_1 a3] at hat
        exact va_alen hx hb hSW.1 (va_P_one hat) 0 0 rfl rfl hv hdec hw2
      · obtain ⟨a1, a2, a3⟩ := kd_spec c0 (by omega)
        have hat := hWd.at a1 a2
        rw [entC_2 a3] at hat
        exact va_alen hx hb hSW.1 (va_P_one hat) 0 1 rfl rfl hv hdec hw2
      · obtain ⟨a1, a2, a3⟩ := kd_spec c0 (by omega)
        have hat := hWd.at a1 a2
        rw [entC_4 a3] at hat
        exact va_alen hx hb hSW.1 (va_P_one hat) 0 3 rfl rfl hv hdec hw2

