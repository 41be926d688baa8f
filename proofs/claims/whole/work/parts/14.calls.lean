set_option maxHeartbeats 8000000 in
set_option maxRecDepth 20000 in
theorem sx_new {zb b L : Nat} {xs : Nat → Int32} {D : va_G} {cs : Nat → ClassId} {m : Nat} {k : Nat × Nat} {pc : Nat} {ls st : List V} {n : Int} {M : Mem} {Q : Post} {i : Instr} {len x w : Nat} {z y : Int} {tg : List Nat}
    (hm : m < NMT) (hdec : decode (am_M m).2.2.1 pc = .ok (i, len)) (hok : eok m (pc, i, len, x, w, z, y, tg) = true) (hi : ∃ q, i = .new q)
    (hw : wpX (SX zb b L xs D cs) m (pc, i, len, x, w, z, y, tg) k ls st n M Q) : SX zb b L xs D cs m k pc ls st n M Q := by
  intro _ p l ev s mid args below meth c H locs lc Z hF hSW hWd hS hL hk1 hk2 hret
  obtain ⟨hx, hb, hml, hr, hlk, hown, hnm, hts⟩ := id hF
  have run : ∀ (k' : Nat × Nat) (pc' : Nat) (ls' st' : List V) (n' : Int) (M' : Mem) (H' : Heap) (locs' : List Loc) (lc' : Array Slot), SX zb b L xs D cs m k' pc' ls' st' n' M' Q → World zb L xs D cs M' n' H' → va_S (AWz zb) s.heap H' locs' → LocR zb b (am_M m).2.2.2.1 ls' lc' → k'.1 ≤ (rmM m).cells → k'.2 ≤ (rmM m).slots → W p l ev (rmM m) s mid args below meth c H' locs' k'.1 k'.2 Z (F0 mid pc' lc' (st'.map (cnc zb b))) := fun k' pc' ls' st' n' M' H' locs' lc' g1 g2 g3 g4 g5 g6 => g1 hm p l ev s mid args below meth c H' locs' lc' Z hF hSW g2 g3 g4 g5 g6 hret
  have run0 : ∀ (pc' : Nat) (st' : List V), SX zb b L xs D cs m k pc' ls st' n M Q → W p l ev (rmM m) s mid args below meth c H locs k.1 k.2 Z (F0 mid pc' lc (st'.map (cnc zb b))) := fun pc' st' g => run k pc' ls st' n M H locs lc g hWd hS hL hk1 hk2
  obtain ⟨q, rfl⟩ := hi
  obtain ⟨hl, hz, hci, hlk2, hwN, ht0, ht1⟩ : len = 3 ∧ 10 ≤ z ∧ (z - 10).toNat < 13 ∧ ((am_M m).1, q, (z - 10).toNat) ∈ lkN_L ∧ w = (am_C (z - 10).toNat).2.2 ∧ tgn tg 0 = (am_M m).2.2.2.2.2.2.2.1 ∧ tgn tg 1 = (am_M m).2.2.2.2.2.2.2.2 := of_decide_eq_true hok
  subst hl
  obtain ⟨c1, c2, c3, hw⟩ : KD n = z ∧ k.1 + 1 ≤ tgn tg 0 ∧ k.2 + w ≤ tgn tg 1 ∧ SX zb b L xs D cs m (k.1 + 1, k.2 + w) (pc + 3) ls ((2, n) :: st) (n + 1) (zro M n) Q := hw
  rw [ht0] at c2
  rw [ht1] at c3
  obtain ⟨n1, n2, n3⟩ := lkN_ok _ hlk2
  dsimp only at n1 n2 n3
  have hto : ∀ w ∈ u_ws (am_C (z - 10).toNat).1 (am_C (z - 10).toNat).2.1 (am_C (z - 10).toNat).2.2, w.before args s = true := fun w hw => hts w (List.mem_append_right _ (am_inC _ hci w hw)) (lay_good w hw)
  have hKn := hSW.1.1 _ _ (am_get _ hci)
  obtain ⟨hsz, hn1⟩ := hWd.sz
  refine W.newcK hx hb hown (hts _ (List.mem_append_right _ n1) rfl) (hts _ (List.mem_append_right _ n2) rfl) (hts _ (List.mem_append_right _ n3) rfl) rfl hdec c2 (by rw [← hwN]; exact c3) hKn.2.1 rfl fun H1 kC hkC e1 z1 o1 => ?_
  rw [← hwN]
  have hWd' : World zb L xs D cs (zro M n) (n + 1) H1 := by
    refine hWd.new (fun b hb => zro_ne (by omega)) z1 o1 ?_
    rw [entC_o c1 hz]
    refine ⟨_, am_get _ hci, (u_born (ciTy (z - 10).toNat) hto (fun w h => h) hKn hkC e1 (am_tyC _ hci)).to (fun j hj => ?_)⟩
    unfold vp_V
    rw [List.getD_eq_getElem?_getD, flds_get hj, zro_at]
    exact dflt_ok (tag_le hci hj)
  have e3 : cnc zb b (2, n) = .ref H.size := by rw [hsz]; rfl
  have := run (k.1 + 1, k.2 + w) _ ls ((2, n) :: st) (n + 1) _ H1 locs lc hw hWd' (S_new hS (by omega) o1) hL c2 c3
  rw [List.map_cons, e3] at this
  exact this

set_option maxHeartbeats 8000000 in
set_option maxRecDepth 20000 in
theorem sx_newarray {zb b L : Nat} {xs : Nat → Int32} {D : va_G} {cs : Nat → ClassId} {m : Nat} {k : Nat × Nat} {pc : Nat} {ls st : List V} {n : Int} {M : Mem} {Q : Post} {i : Instr} {len x w : Nat} {z y : Int} {tg : List Nat}
    (hm : m < NMT) (hdec : decode (am_M m).2.2.1 pc = .ok (i, len)) (hok : eok m (pc, i, len, x, w, z, y, tg) = true) (hi : ∃ q, i = .newarray q)
    (hw : wpX (SX zb b L xs D cs) m (pc, i, len, x, w, z, y, tg) k ls st n M Q) : SX zb b L xs D cs m k pc ls st n M Q := by
  intro _ p l ev s mid args below meth c H locs lc Z hF hSW hWd hS hL hk1 hk2 hret
  obtain ⟨hx, hb, hml, hr, hlk, hown, hnm, hts⟩ := id hF
  have run : ∀ (k' : Nat × Nat) (pc' : Nat) (ls' st' : List V) (n' : Int) (M' : Mem) (H' : Heap) (locs' : List Loc) (lc' : Array Slot), SX zb b L xs D cs m k' pc' ls' st' n' M' Q → World zb L xs D cs M' n' H' → va_S (AWz zb) s.heap H' locs' → LocR zb b (am_M m).2.2.2.1 ls' lc' → k'.1 ≤ (rmM m).cells → k'.2 ≤ (rmM m).slots → W p l ev (rmM m) s mid args below meth c H' locs' k'.1 k'.2 Z (F0 mid pc' lc' (st'.map (cnc zb b))) := fun k' pc' ls' st' n' M' H' locs' lc' g1 g2 g3 g4 g5 g6 => g1 hm p l ev s mid args below meth c H' locs' lc' Z hF hSW g2 g3 g4 g5 g6 hret
  have run0 : ∀ (pc' : Nat) (st' : List V), SX zb b L xs D cs m k pc' ls st' n M Q → W p l ev (rmM m) s mid args below meth c H locs k.1 k.2 Z (F0 mid pc' lc (st'.map (cnc zb b))) := fun pc' st' g => run k pc' ls st' n M H locs lc g hWd hS hL hk1 hk2
  obtain ⟨q, rfl⟩ := hi
  obtain ⟨hl, htt, ht0, ht1⟩ : len = 2 ∧ ((q = .int ∧ z = 1) ∨ (q = .long ∧ z = 2)) ∧ tgn tg 0 = (am_M m).2.2.2.2.2.2.2.1 ∧ tgn tg 1 = (am_M m).2.2.2.2.2.2.2.2 := of_decide_eq_true hok
  subst hl
  rcases st with _ | ⟨⟨t1, x1⟩, r⟩
  · exact False.elim hw
  · obtain ⟨e1, c1, c2, c3, c4, c5, c6, hw⟩ : t1 = 0 ∧ 0 ≤ x1 ∧ x1 ≤ 100000 ∧ KD n = z ∧ LN n = x1 ∧ k.1 + 1 ≤ tgn tg 0 ∧ k.2 + x1.toNat ≤ tgn tg 1 ∧ SX zb b L xs D cs m (k.1 + 1, k.2 + x1.toNat) (pc + 2) ls ((2, n) :: r) (n + 1) (zro M n) Q := hw
    subst e1
    rw [ht0] at c5
    rw [ht1] at c6
    obtain ⟨hsz, hn1⟩ := hWd.sz
    have e3 : cnc zb b (2, n) = .ref H.size := by rw [hsz]; rfl
    rcases htt with ⟨rfl, rfl⟩ | ⟨rfl, rfl⟩
    · refine va_newaK (atype := .int) hx hb (hts _ (List.mem_append_right _ lkAI) rfl) rfl hdec rfl (by rw [R0_lt (by unfold R32; omega)]; omega) (ix_of c1 c2) (by show x1.toNat * 4 ≤ _; omega) c5 c6 rfl fun H1 cA e1 z1 o1 hAr hNm => ?_
      have hcA : cA = cs 1 := Option.some.inj (hNm.symm.trans (hSW.1.2 0 _ rfl).2)
      subst hcA
      have hWd' : World zb L xs D cs (zro M n) (n + 1) H1 := by
        refine hWd.new (fun b hb => zro_ne (by omega)) z1 o1 ?_
        rw [entC_1 c3]
        show H1[H.size]? = some (vp_cell _ _)
        rw [e1, vp_cell_i, c4]
        congr 2
        funext j
        rw [zro_at]
        rfl
      have := run (k.1 + 1, k.2 + x1.toNat) _ ls ((2, n) :: r) (n + 1) _ H1 locs lc hw hWd' (S_new hS (by omega) o1) hL c5 c6
      rw [List.map_cons, e3] at this
      exact this

    · refine va_newaK (atype := .long) hx hb (hts _ (List.mem_append_right _ lkAL) rfl) rfl hdec rfl (by rw [R0_lt (by unfold R32; omega)]; omega) (ix_of c1 c2) (by show x1.toNat * 8 ≤ _; omega) c5 c6 rfl fun H1 cA e1 z1 o1 hAr hNm => ?_
      have hcA : cA = cs 2 := Option.some.inj (hNm.symm.trans (hSW.1.2 1 _ rfl).2)
      subst hcA
      have hWd' : World zb L xs D cs (zro M n) (n + 1) H1 := by
        refine hWd.new (fun b hb => zro_ne (by omega)) z1 o1 ?_
        rw [entC_2 c3]
        show H1[H.size]? = some (vp_cell _ _)
        rw [e1, vp_cell_l, c4]
        congr 2
        funext j
        rw [zro_at]
        rfl
      have := run (k.1 + 1, k.2 + x1.toNat) _ ls ((2, n) :: r) (n + 1) _ H1 locs lc hw hWd' (S_new hS (by omega) o1) hL c5 c6
      rw [List.map_cons, e3] at this
      exact this


set_option maxHeartbeats 8000000 in
set_option maxRecDepth 20000 in
theorem sx_anewarray {zb b L : Nat} {xs : Nat → Int32} {D : va_G} {cs : Nat → ClassId} {m : Nat} {k : Nat × Nat} {pc : Nat} {ls st : List V} {n : Int} {M : Mem} {Q : Post} {i : Instr} {len x w : Nat} {z y : Int} {tg : List Nat}
    (hm : m < NMT) (hdec : decode (am_M m).2.2.1 pc = .ok (i, len)) (hok : eok m (pc, i, len, x, w, z, y, tg) = true) (hi : ∃ q, i = .anewarray q)
    (hw : wpX (SX zb b L xs D cs) m (pc, i, len, x, w, z, y, tg) k ls st n M Q) : SX zb b L xs D cs m k pc ls st n M Q := by
  intro _ p l ev s mid args below meth c H locs lc Z hF hSW hWd hS hL hk1 hk2 hret
  obtain ⟨hx, hb, hml, hr, hlk, hown, hnm, hts⟩ := id hF
  have run : ∀ (k' : Nat × Nat) (pc' : Nat) (ls' st' : List V) (n' : Int) (M' : Mem) (H' : Heap) (locs' : List Loc) (lc' : Array Slot), SX zb b L xs D cs m k' pc' ls' st' n' M' Q → World zb L xs D cs M' n' H' → va_S (AWz zb) s.heap H' locs' → LocR zb b (am_M m).2.2.2.1 ls' lc' → k'.1 ≤ (rmM m).cells → k'.2 ≤ (rmM m).slots → W p l ev (rmM m) s mid args below meth c H' locs' k'.1 k'.2 Z (F0 mid pc' lc' (st'.map (cnc zb b))) := fun k' pc' ls' st' n' M' H' locs' lc' g1 g2 g3 g4 g5 g6 => g1 hm p l ev s mid args below meth c H' locs' lc' Z hF hSW g2 g3 g4 g5 g6 hret
  have run0 : ∀ (pc' : Nat) (st' : List V), SX zb b L xs D cs m k pc' ls st' n M Q → W p l ev (rmM m) s mid args below meth c H locs k.1 k.2 Z (F0 mid pc' lc (st'.map (cnc zb b))) := fun pc' st' g => run k pc' ls st' n M H locs lc g hWd hS hL hk1 hk2
  obtain ⟨q, rfl⟩ := hi
  obtain ⟨hl, hcl, hq, ht0, ht1⟩ : len = 3 ∧ (am_M m).1 = 11 ∧ q = 49 ∧ tgn tg 0 = (am_M m).2.2.2.2.2.2.2.1 ∧ tgn tg 1 = (am_M m).2.2.2.2.2.2.2.2 := of_decide_eq_true hok
  subst hl
  subst hq
  rcases st with _ | ⟨⟨t1, x1⟩, r⟩
  · exact False.elim hw
  · obtain ⟨e1, c1, c2, c3, c4, c5, c6, hw⟩ : t1 = 0 ∧ 0 ≤ x1 ∧ x1 ≤ 100000 ∧ KD n = 3 ∧ LN n = x1 ∧ k.1 + 1 ≤ tgn tg 0 ∧ k.2 + x1.toNat ≤ tgn tg 1 ∧ SX zb b L xs D cs m (k.1 + 1, k.2 + x1.toNat) (pc + 3) ls ((2, n) :: r) (n + 1) (zro M n) Q := hw
    subst e1
    rw [ht0] at c5
    rw [ht1] at c6
    obtain ⟨hsz, hn1⟩ := hWd.sz
    have e3 : cnc zb b (2, n) = .ref H.size := by rw [hsz]; rfl
    rw [hcl] at hown
    have hix := ix_of c1 c2
    show W p l ev (rmM m) s mid args below meth c H locs k.1 k.2 Z (F0 mid pc lc (.int (Int32.ofInt x1) :: List.map (cnc zb b) r))
    refine W.anew (own := "CurveRooms") (C := "CurveRooms$Pair") hx hb hown (hts _ (List.mem_append_right _ lkPair) rfl) (va_AO.use hSW.2.2.1) rfl hdec rfl (by rw [R0_lt (by unfold R32; omega)]; omega) (by rw [hix]; omega) c5 (by rw [hix]; exact c6) fun cA kA comp f1 f2 f3 f4 => ?_
    rw [hix]
    generalize hH1 : H.push ({ cls := cA, slots := Array.replicate x1.toNat .null, vm := .none } : Cell) = H1
    have z1 : H1.size = H.size + 1 := by rw [← hH1, Array.size_push]
    have e1 : H1[H.size]? = some (arrV cA x1.toNat (fun _ => .null)) := by rw [← hH1, Array.getElem?_push_size, ← arrV_new]
    have o1 : ∀ q : Nat, q < H.size → H1[q]? = H[q]? := fun q hq => by rw [← hH1, Array.getElem?_push, if_neg (Nat.ne_of_lt hq)]
    obtain ⟨-, -, -, -, -, hnm3⟩ := (hSW.1.2 2 _ rfl).2
    have hcA : cA = cs 3 := Option.some.inj (f1.symm.trans hnm3)
    subst hcA
    have hWd' : World zb L xs D cs (zro M n) (n + 1) H1 := by
      refine hWd.new (fun b hb => zro_ne (by omega)) z1 o1 ?_
      rw [entC_3 c3]
      show H1[H.size]? = some (vp_cell _ _)
      rw [e1, vp_cell_q, c4]
      congr 2
      funext j
      rw [zro_at]
      rfl
    have := run (k.1 + 1, k.2 + x1.toNat) _ ls ((2, n) :: r) (n + 1) _ H1 locs lc hw hWd' (S_new hS (by omega) o1) hL c5 c6
    rw [List.map_cons, e3] at this
    exact this

theorem outerC_eq (c : ClassId) (N h0 : Nat) : ∀ i : Nat, Jvm.Free.Multi.outerC c N h0 i = arrV c N (fun j => va_rf (if j < i then some (h0 + 1 + j) else none))
  | 0 => by
    show ({ cls := c, slots := Array.replicate N .null, vm := .none } : Cell) = _
    rw [arrV_new]
    refine congrArg (arrV c N) (funext fun j => ?_)
    simp [va_rf]
  | i + 1 => by
    show (Jvm.Free.Multi.outerC c N h0 i).setSlot i (.ref (h0 + 1 + i)) = _
    rw [outerC_eq c N h0 i, arrV_store]
    refine congrArg (arrV c N) (funext fun j => ?_)
    by_cases e : j = i
    · subst e
      simp [updV, va_rf]
    · by_cases h : j < i
      · simp [updV, e, h, Nat.lt_succ_of_lt h]
      · simp [updV, e, h, show ¬ j < i + 1 by omega]

set_option maxHeartbeats 8000000 in
set_option maxRecDepth 20000 in
theorem sx_multi {zb b L : Nat} {xs : Nat → Int32} {D : va_G} {cs : Nat → ClassId} {m : Nat} {k : Nat × Nat} {pc : Nat} {ls st : List V} {n : Int} {M : Mem} {Q : Post} {i : Instr} {len x w : Nat} {z y : Int} {tg : List Nat}
    (hm : m < NMT) (hdec : decode (am_M m).2.2.1 pc = .ok (i, len)) (hok : eok m (pc, i, len, x, w, z, y, tg) = true) (hi : ∃ q d, i = .multianewarray q d)
    (hw : wpX (SX zb b L xs D cs) m (pc, i, len, x, w, z, y, tg) k ls st n M Q) : SX zb b L xs D cs m k pc ls st n M Q := by
  intro _ p l ev s mid args below meth c H locs lc Z hF hSW hWd hS hL hk1 hk2 hret
  obtain ⟨hx, hb, hml, hr, hlk, hown, hnm, hts⟩ := id hF
  have run : ∀ (k' : Nat × Nat) (pc' : Nat) (ls' st' : List V) (n' : Int) (M' : Mem) (H' : Heap) (locs' : List Loc) (lc' : Array Slot), SX zb b L xs D cs m k' pc' ls' st' n' M' Q → World zb L xs D cs M' n' H' → va_S (AWz zb) s.heap H' locs' → LocR zb b (am_M m).2.2.2.1 ls' lc' → k'.1 ≤ (rmM m).cells → k'.2 ≤ (rmM m).slots → W p l ev (rmM m) s mid args below meth c H' locs' k'.1 k'.2 Z (F0 mid pc' lc' (st'.map (cnc zb b))) := fun k' pc' ls' st' n' M' H' locs' lc' g1 g2 g3 g4 g5 g6 => g1 hm p l ev s mid args below meth c H' locs' lc' Z hF hSW g2 g3 g4 g5 g6 hret
  have run0 : ∀ (pc' : Nat) (st' : List V), SX zb b L xs D cs m k pc' ls st' n M Q → W p l ev (rmM m) s mid args below meth c H locs k.1 k.2 Z (F0 mid pc' lc (st'.map (cnc zb b))) := fun pc' st' g => run k pc' ls st' n M H locs lc g hWd hS hL hk1 hk2
  obtain ⟨q, d, rfl⟩ := hi
  obtain ⟨hl, hd2, hcl, hq, ht0, ht1⟩ : len = 4 ∧ d = 2 ∧ (am_M m).1 = 1 ∧ q = 15 ∧ tgn tg 0 = (am_M m).2.2.2.2.2.2.2.1 ∧ tgn tg 1 = (am_M m).2.2.2.2.2.2.2.2 := of_decide_eq_true hok
  subst hl
  subst hq
  subst hd2
  rcases st with _ | ⟨⟨t1, x1⟩, _ | ⟨⟨t2, x2⟩, r⟩⟩
  · exact False.elim hw
  · exact False.elim hw
  · obtain ⟨e2, e1, c1, c2, d1, d2, c3, c4, c7, c5, c6, hw⟩ : t2 = 0 ∧ t1 = 0 ∧ 0 ≤ x2 ∧ x2 ≤ 100000 ∧ 0 ≤ x1 ∧ x1 ≤ 100000 ∧ KD n = 4 ∧ LN n = x2 ∧ mnaOK n x2 x1 = true ∧ k.1 + (1 + x2.toNat) ≤ tgn tg 0 ∧ k.2 + (x2.toNat + x2.toNat * x1.toNat) ≤ tgn tg 1 ∧ SX zb b L xs D cs m (k.1 + 1 + x2.toNat, k.2 + x2.toNat + x2.toNat * x1.toNat) (pc + 4) ls ((2, n) :: r) (n + 1 + x2) (mna M n x2) Q := hw
    subst e1
    subst e2
    rw [ht0] at c5
    rw [ht1] at c6
    obtain ⟨hsz, hn1⟩ := hWd.sz
    have e3 : cnc zb b (2, n) = .ref H.size := by rw [hsz]; rfl
    rw [hcl] at hown
    have hix := ix_of c1 c2
    have hiy := ix_of d1 d2
    intro T hT X
    obtain ⟨vm₁, cA, comp, -, fA, fC, hO, -, X', step⟩ := Stand.multianewarray2F X hx (own := "CurveRooms$Code") (index := 15) (ty := .int) hown (hts _ (List.mem_append_right _ lkGrid) rfl) (show (Cond.arrayOver (.array .int)).before args s = true from hSW.2.2.2.1) (hts _ (List.mem_append_right _ lkAI) rfl) (g := F0 mid pc lc (.int (Int32.ofInt x1) :: .int (Int32.ofInt x2) :: List.map (cnc zb b) r)) rfl (by rw [hb]; exact hdec) rfl (by rw [R0_lt (by unfold R32; omega)]; omega) (by rw [R0_lt (by unfold R32; omega)]; omega) (by rw [hix]; omega) (by rw [hiy]; show x1.toNat * 4 ≤ _; omega) (by rw [hiy]; omega) rfl rfl (by rw [hix]; exact c5) (by rw [hix, hiy]; exact c6)
    rw [hix, hiy] at X' step
    have hcA : cA = cs 4 := Option.some.inj (fA.symm.trans (hSW.1.2 3 _ rfl).2)
    have hcI : comp = cs 1 := Option.some.inj (fC.symm.trans (hSW.1.2 0 _ rfl).2)
    subst hcA
    subst hcI
    have hTh : (T.setVm vm₁).heap = H := hT
    generalize hF : Jvm.Free.Multi.fill (T.setVm vm₁) (cs 4) (cs 1) x2.toNat x1.toNat (defaultValue .int) x2.toNat = F at X' step
    obtain ⟨f1, f2, -, -⟩ := Jvm.Free.Multi.fill_facts (T.setVm vm₁) (cs 4) (cs 1) x2.toNat x1.toNat (defaultValue .int) x2.toNat
    rw [hF, hTh] at f1 f2
    have hold : ∀ x : Nat, x < H.size → F.heap[x]? = H[x]? := fun x hx => by
      have := Jvm.Free.Multi.fill_old (T.setVm vm₁) (cs 4) (cs 1) x2.toNat x1.toNat (defaultValue .int) (a := x) (by rw [hTh]; exact hx) x2.toNat
      rw [hF, hTh] at this
      exact this
    have hrow : ∀ j : Nat, j < x2.toNat → F.heap[H.size + 1 + j]? = some (Jvm.Free.Multi.innerC (cs 1) x1.toNat (defaultValue .int)) := fun j hj => by
      have := Jvm.Free.Multi.fill_inner (T.setVm vm₁) (cs 4) (cs 1) x2.toNat x1.toNat (defaultValue .int) x2.toNat j hj
      rw [hF, hTh] at this
      exact this
    have hWd' : World zb L xs D cs (mna M n x2) (n + 1 + x2) F.heap := by
      obtain ⟨nn, hn, g1, g2, g3, g4, g5⟩ := id hWd
      subst hn
      have hMo : ∀ a : Int, a < nn → mna M nn x2 a = M a := fun a ha => by
        funext j; unfold mna; rw [if_neg (by omega), if_neg (by omega)]
      refine ⟨nn + 1 + x2.toNat, by omega, by omega, by omega, fun i q hq => ?_, by rw [hMo _ (by omega)]; exact g4, fun i hi => by rw [hMo _ (by omega)]; exact g5 i hi⟩
      have hl := (List.getElem?_eq_some_iff.mp hq).1
      rw [wsC_len] at hl
      rw [wsC_at hl] at hq
      cases hq
      by_cases h1 : i < nn - 1
      · rw [entC_congr (hMo _ (by omega))]
        exact (g3 i _ (wsC_at h1)).kept (hold _ (by omega))
      · by_cases h2 : i = nn - 1
        · subst h2
          rw [show nn - 1 + 1 = nn by omega, entC_4 c3]
          show F.heap[zb + nn]? = some (vp_cell _ _)
          rw [← g2, f2, outerC_eq, vp_cell_q, c4]
          congr 2
          funext j
          unfold mna
          rw [if_pos rfl]
          by_cases hj : j < x2.toNat
          · rw [if_pos hj, if_pos (by omega)]
            unfold rfo
            rw [if_neg (by omega)]
            congr 2
            omega
          · rw [if_neg hj, if_neg (by omega)]
            rfl
        · have hj : i - nn < x2.toNat := by omega
          have hk := List.all_eq_true.mp c7 (i - nn) (List.mem_range.mpr hj)
          simp only [Bool.and_eq_true, beq_iff_eq] at hk
          have hid : (nn : Int) + 1 + ((i - nn : Nat) : Int) = ((i + 1 : Nat) : Int) := by omega
          rw [hid] at hk
          rw [entC_1 hk.1]
          show F.heap[zb + (i + 1)]? = some (vp_cell _ _)
          rw [show zb + (i + 1) = H.size + 1 + (i - nn) by omega, hrow _ hj, vp_cell_i, hk.2]
          show some ({ cls := cs 1, slots := Array.replicate x1.toNat (.int 0), vm := .none } : Cell) = _
          rw [arrV_new]
          congr 2
          funext j
          unfold mna
          rw [if_neg (by omega), if_pos (by omega)]
          rfl
    have := run (k.1 + 1 + x2.toNat, k.2 + x2.toNat + x2.toNat * x1.toNat) _ ls ((2, n) :: r) _ _ F.heap locs lc hw hWd' (S_new hS (by omega) hold) hL (by show k.1 + 1 + x2.toNat ≤ (am_M m).2.2.2.2.2.2.2.1; omega) (by show k.2 + x2.toNat + x2.toNat * x1.toNat ≤ (am_M m).2.2.2.2.2.2.2.2; omega)
    rw [List.map_cons, e3] at this
    obtain ⟨t, a1, b1⟩ := this F rfl X'
    refine ⟨t, step t ?_, b1⟩
    rw [hT]
    exact a1

theorem popN_spec : ∀ (k : Nat) (st acc : List V), k ≤ st.length → ∃ bs r, bs.length = k ∧ st = bs ++ r ∧ popN k st acc = (bs.reverse ++ acc, r)
  | 0, st, acc, _ => ⟨[], st, rfl, rfl, rfl⟩
  | k + 1, [], acc, h => by simp at h
  | k + 1, v :: st, acc, h => by
    obtain ⟨bs, r, h1, h2, h3⟩ := popN_spec k st (v :: acc) (by simpa using h)
    refine ⟨v :: bs, r, by simp [h1], by simp [h2], ?_⟩
    simp only [popN, h3]
    simp
theorem tgn_5 {tg : List Nat} {a b c d e : Nat} (h : tg = [a, b, c, d, e]) : tgn tg 0 = a ∧ tgn tg 1 = b ∧ tgn tg 2 = c ∧ tgn tg 3 = d ∧ tgn tg 4 = e := by subst h; exact ⟨rfl, rfl, rfl, rfl, rfl⟩
theorem wsY_in {m w kd : Nat} (hY : (m, w, kd) ∈ lkY_L) : ∀ u ∈ wsY m, u ∈ tblG := by
  intro u hu
  rcases List.mem_cons.mp hu with rfl | h
  · have hk := lkY_ok _ hY
    unfold MOK at hk
    exact tblG_mem hk.1 rfl
  · exact h

theorem am_names : ∀ c : Nat, c < 13 → (am_C c).1 = am_cnm c := by decide +kernel
theorem init_all : (List.range LAWM).all (fun m => decide ((am_M m).2.1.name = "<init>" → (am_M m).2.2.2.2.1 = none)) = true := by decide +kernel
theorem init_void {m : Nat} (h : m < LAWM) (hn : (am_M m).2.1.name = "<init>") : (am_M m).2.2.2.2.1 = none := of_decide_eq_true (List.all_eq_true.mp init_all m (List.mem_range.mpr h)) hn

set_option maxHeartbeats 8000000 in
set_option maxRecDepth 20000 in
theorem sx_static {zb b L : Nat} {xs : Nat → Int32} {D : va_G} {cs : Nat → ClassId} {m : Nat} {k : Nat × Nat} {pc : Nat} {ls st : List V} {n : Int} {M : Mem} {Q : Post} {i : Instr} {len x w : Nat} {z y : Int} {tg : List Nat}
    (hm : m < NMT) (hdec : decode (am_M m).2.2.1 pc = .ok (i, len)) (hok : eok m (pc, i, len, x, w, z, y, tg) = true) (hi : ∃ q, i = .invokestatic q)
    (hw : wpX (SX zb b L xs D cs) m (pc, i, len, x, w, z, y, tg) k ls st n M Q) : SX zb b L xs D cs m k pc ls st n M Q := by
  intro _ p l ev s mid args below meth c H locs lc Z hF hSW hWd hS hL hk1 hk2 hret
  obtain ⟨hx, hb, hml, hr, hlk, hown, hnm, hts⟩ := id hF
  have run : ∀ (k' : Nat × Nat) (pc' : Nat) (ls' st' : List V) (n' : Int) (M' : Mem) (H' : Heap) (locs' : List Loc) (lc' : Array Slot), SX zb b L xs D cs m k' pc' ls' st' n' M' Q → World zb L xs D cs M' n' H' → va_S (AWz zb) s.heap H' locs' → LocR zb b (am_M m).2.2.2.1 ls' lc' → k'.1 ≤ (rmM m).cells → k'.2 ≤ (rmM m).slots → W p l ev (rmM m) s mid args below meth c H' locs' k'.1 k'.2 Z (F0 mid pc' lc' (st'.map (cnc zb b))) := fun k' pc' ls' st' n' M' H' locs' lc' g1 g2 g3 g4 g5 g6 => g1 hm p l ev s mid args below meth c H' locs' lc' Z hF hSW g2 g3 g4 g5 g6 hret
  have run0 : ∀ (pc' : Nat) (st' : List V), SX zb b L xs D cs m k pc' ls st' n M Q → W p l ev (rmM m) s mid args below meth c H locs k.1 k.2 Z (F0 mid pc' lc (st'.map (cnc zb b))) := fun pc' st' g => run k pc' ls st' n M H locs lc g hWd hS hL hk1 hk2
  obtain ⟨q, rfl⟩ := hi
  unfold wpX wpI at hw
  dsimp only at hw
  unfold eok at hok
  dsimp only at hok
  by_cases hmax : x = 1001
  · rw [if_pos hmax] at hw
    subst hmax
    have hok2 : decide (len = 3 ∧ ((am_M m).1, q) ∈ lkHmax_L ∧ 1 ≤ (am_M m).2.2.2.2.2.1 ∧ 21 ≤ (am_M m).2.2.2.2.2.2.1) = true := hok
    obtain ⟨hl, h1, h2, h3⟩ := of_decide_eq_true hok2
    subst hl
    rcases st with _ | ⟨⟨t1, x1⟩, _ | ⟨⟨t2, x2⟩, r⟩⟩
    · exact False.elim hw
    · exact False.elim hw
    · obtain ⟨e2, e1, g1, g2, g3, hw⟩ : t2 = 0 ∧ t1 = 0 ∧ R32 x2 ∧ R32 x1 ∧ wsm r ≤ 8 ∧ SX zb b L xs D cs m k (pc + 3) ls ((0, max x2 x1) :: r) n M Q := hw
      subst e1
      subst e2
      show W p l ev (rmM m) s mid args below meth c H locs k.1 k.2 Z (F0 mid pc lc (.int (Int32.ofInt x1) :: .int (Int32.ofInt x2) :: List.map (cnc zb b) r))
      refine va_mmax hx hb (hml.trans hL.2.1.symm) hown (hts _ (List.mem_append_right _ (lkHmax_ok _ h1)) rfl) (hts _ (List.mem_append_right _ mth_max.1) rfl) (hts _ (List.mem_append_right _ mth_max.2.2) rfl) (hts _ (List.mem_append_right _ mth_max.2.1) rfl) h2 (by rw [wsm_cat]; show _ ≤ (am_M m).2.2.2.2.2.2.1; omega) hk1 hk2 hdec ?_
      have e4 : (if Int32.ofInt x2 < Int32.ofInt x1 then Int32.ofInt x1 else Int32.ofInt x2) = Int32.ofInt (max x2 x1) := by
        simp only [RR_lt (Or.inr ⟨g1, g2⟩ : RR x2 x1)]
        split
        · congr 1; omega
        · congr 1; omega
      rw [e4]
      exact run0 _ _ hw
  rw [if_neg hmax] at hw hok
  by_cases hmin : x = 1002
  · rw [if_pos hmin] at hw
    subst hmin
    have hok2 : decide (len = 3 ∧ ((am_M m).1, q) ∈ lkHmin_L ∧ 1 ≤ (am_M m).2.2.2.2.2.1 ∧ 21 ≤ (am_M m).2.2.2.2.2.2.1) = true := hok
    obtain ⟨hl, h1, h2, h3⟩ := of_decide_eq_true hok2
    subst hl
    rcases st with _ | ⟨⟨t1, x1⟩, _ | ⟨⟨t2, x2⟩, r⟩⟩
    · exact False.elim hw
    · exact False.elim hw
    · obtain ⟨e2, e1, g1, g2, g3, hw⟩ : t2 = 0 ∧ t1 = 0 ∧ R32 x2 ∧ R32 x1 ∧ wsm r ≤ 8 ∧ SX zb b L xs D cs m k (pc + 3) ls ((0, min x2 x1) :: r) n M Q := hw
      subst e1
      subst e2
      show W p l ev (rmM m) s mid args below meth c H locs k.1 k.2 Z (F0 mid pc lc (.int (Int32.ofInt x1) :: .int (Int32.ofInt x2) :: List.map (cnc zb b) r))
      refine va_mmin hx hb (hml.trans hL.2.1.symm) hown (hts _ (List.mem_append_right _ (lkHmin_ok _ h1)) rfl) (hts _ (List.mem_append_right _ mth_min.1) rfl) (hts _ (List.mem_append_right _ mth_min.2.2) rfl) (hts _ (List.mem_append_right _ mth_min.2.1) rfl) h2 (by rw [wsm_cat]; show _ ≤ (am_M m).2.2.2.2.2.2.1; omega) hk1 hk2 hdec ?_
      have e4 : (if Int32.ofInt x1 < Int32.ofInt x2 then Int32.ofInt x1 else Int32.ofInt x2) = Int32.ofInt (min x2 x1) := by
        simp only [RR_lt (Or.inr ⟨g2, g1⟩ : RR x1 x2)]
        split
        · congr 1; omega
        · congr 1; omega
      rw [e4]
      exact run0 _ _ hw
  rw [if_neg hmin] at hw hok
  by_cases habs : x = 1003
  · rw [if_pos habs] at hw
    subst habs
    have hok2 : decide (len = 3 ∧ ((am_M m).1, q) ∈ lkHabs_L ∧ 1 ≤ (am_M m).2.2.2.2.2.1 ∧ 21 ≤ (am_M m).2.2.2.2.2.2.1) = true := hok
    obtain ⟨hl, h1, h2, h3⟩ := of_decide_eq_true hok2
    subst hl
    rcases st with _ | ⟨⟨t1, x1⟩, r⟩
    · exact False.elim hw
    · obtain ⟨e1, g1, g3, hw⟩ : t1 = 0 ∧ R32 x1 ∧ wsm r ≤ 8 ∧ SX zb b L xs D cs m k (pc + 3) ls ((0, if 0 ≤ x1 then x1 else -x1) :: r) n M Q := hw
      subst e1
      show W p l ev (rmM m) s mid args below meth c H locs k.1 k.2 Z (F0 mid pc lc (.int (Int32.ofInt x1) :: List.map (cnc zb b) r))
      refine va_mabs hx hb (hml.trans hL.2.1.symm) hown (hts _ (List.mem_append_right _ (lkHabs_ok _ h1)) rfl) (hts _ (List.mem_append_right _ mth_abs.1) rfl) (hts _ (List.mem_append_right _ mth_abs.2.2) rfl) (hts _ (List.mem_append_right _ mth_abs.2.1) rfl) h2 (by rw [wsm_cat]; show _ ≤ (am_M m).2.2.2.2.2.2.1; omega) hk1 hk2 hdec ?_
      have e4 : (if 0 ≤ Int32.ofInt x1 then Int32.ofInt x1 else 0 - Int32.ofInt x1) = Int32.ofInt (if 0 ≤ x1 then x1 else -x1) := by
        simp only [R0_ge g1]
        split
        · rfl
        · rw [Int32.ofInt_neg, Int32.zero_sub]
      rw [e4]
      exact run0 _ _ hw
  rw [if_neg habs] at hw hok
  obtain ⟨hl, hlm, hY, hxl, htg, hfr, hlo⟩ : len = 3 ∧ ((am_M m).1, q, x) ∈ lkM_L ∧ (x, w, 1) ∈ lkY_L ∧ x < LAWM ∧ tg = [(am_M x).2.2.2.1, (am_M x).2.2.2.2.2.2.2.1, (am_M x).2.2.2.2.2.2.2.2, (am_M m).2.2.2.2.2.2.2.1, (am_M m).2.2.2.2.2.2.2.2] ∧ (am_M x).2.2.2.2.2.1 + 1 ≤ (am_M m).2.2.2.2.2.1 ∧ 8 + ((am_M x).2.2.2.1 + 11) + (am_M x).2.2.2.2.2.2.1 ≤ (am_M m).2.2.2.2.2.2.1 := of_decide_eq_true hok
  subst hl
  obtain ⟨t0', t1', t2', t3', t4'⟩ := tgn_5 htg
  have hlen : w ≤ st.length := by
    generalize hpp : popN w st [] = pp at hw
    obtain ⟨as, rr⟩ := pp
    exact hw.1
  obtain ⟨bs, r0, g1, g2, g3⟩ := popN_spec w st [] hlen
  rw [g3, List.append_nil] at hw
  have hk := lkY_ok _ hY
  unfold MOK at hk
  dsimp only at hk
  obtain ⟨hcode, hini, ⟨-, hy1, hy2, hpar, hcn⟩, hkd⟩ := hk
  have hm' : x < NMT := Nat.lt_of_lt_of_le hxl (by decide)
  have htG : ∀ u ∈ tblG, u.before args s = true := fun u hu => hts u (List.mem_filter.mp hu).1 (List.mem_filter.mp hu).2
  subst g2
  obtain ⟨r, rfl⟩ : ∃ r, r = r0 := ⟨_, rfl⟩
  generalize has : bs.reverse = as at hw
  obtain ⟨c0, c9, c8, c5, c6, hw⟩ : w ≤ (bs ++ r).length ∧ wsm as ≤ tgn tg 0 ∧ wsm r ≤ 8 ∧ k.1 + tgn tg 1 ≤ tgn tg 3 ∧ k.2 + tgn tg 2 ≤ tgn tg 4 ∧ SX zb b L xs D cs x (0, 0) 0 (entL (tgn tg 0) as) [] n M (fun o n' M' => SX zb b L xs D cs m (k.1 + tgn tg 1, k.2 + tgn tg 2) (pc + 3) ls (o.toList ++ r) n' M' Q) := hw
  rw [t0'] at c9 hw
  have hstk : List.map (cnc zb b) (bs ++ r) = (as.map (cnc zb b)).reverse ++ List.map (cnc zb b) r := by rw [← has]; simp
  have hasl : (as.map (cnc zb b)).length = w := by rw [← has]; simp [g1]
  rw [if_pos rfl] at hkd
  have hM := met_of (zb := zb) (b := b) (L := L) (xs := xs) (D := D) (cs := cs) l hY hm' c9 hw
  rw [hstk]
  refine am_back (b := b) (L := L) (xs := xs) (D := D) (cs := cs) (av := (as.map (cnc zb b)).toArray) (mc := (rmM x).cells) (ms := (rmM x).slots) (rest := List.map (cnc zb b) r) (Q' := (fun o n' M' => SX zb b L xs D cs m (k.1 + tgn tg 1, k.2 + tgn tg 2) (pc + 3) ls (o.toList ++ r) n' M' Q)) ?_ hS (fun o n' M' H1 locs1 hq hWd1 hS1 => ?_)
  · rcases lkM_ok _ hlm with hlk3 | hlk3
    · exact va_runS (nL := (am_M m).2.2.2.1) ⟨hx, hb, hml, hown, htG⟩ hM (va_cwS w htG (tblG_good (fun u hu => by
        unfold va_wsS at hu
        rcases List.mem_append.mp hu with h | h
        · simp only [List.mem_cons, List.not_mem_nil, or_false] at h
          rcases h with rfl | rfl | rfl
          · exact tblG_mem hlk3 rfl
          · exact tblG_mem hkd rfl
          · exact tblG_mem hini rfl
        · exact wsY_in hY u h)) rfl rfl rfl ⟨hy1, hy2, hpar⟩ ⟨hfr, hlo⟩) ⟨fun a U g mk q => ⟨q.1, SW_calling q.2.1, q.2.2⟩, fun U hU hW => ⟨by simp, SW_moved hW hU hS hSW, by rw [hU]; exact hWd⟩⟩ rfl hasl hL.2.1 rfl (by show 2 * 0 + _ ≤ 8; rw [wsm_cat]; omega) hdec ⟨by rw [t1', t3'] at c5; exact c5, by rw [t2', t4'] at c6; exact c6⟩
    · exact va_runSN (nL := (am_M m).2.2.2.1) ⟨hx, hb, hml, hown, htG⟩ hM ⟨va_cnB w htG (tblG_good (wsY_in hY)) rfl rfl rfl (hSW.2.1 _ hlk3 rfl) (hts _ (List.mem_append_right _ hini) rfl) ⟨hy1, hy2, hpar⟩ ⟨hfr, hlo⟩, hts _ (List.mem_append_right _ hkd) rfl, trivial⟩ ⟨fun a U g mk q => ⟨q.1, SW_calling q.2.1, q.2.2⟩, fun U hU hW => ⟨by simp, SW_moved hW hU hS hSW, by rw [hU]; exact hWd⟩⟩ rfl hasl hL.2.1 rfl (by show 2 * 0 + _ ≤ 8; rw [wsm_cat]; omega) hdec ⟨by rw [t1', t3'] at c5; exact c5, by rw [t2', t4'] at c6; exact c6⟩
  · have := run _ _ ls _ n' M' H1 locs1 lc hq hWd1 hS1 hL (by rw [t1', t3'] at *; exact c5) (by rw [t2', t4'] at *; exact c6)
    rw [t1', t2', List.map_append] at this
    exact this

set_option maxHeartbeats 8000000 in
set_option maxRecDepth 20000 in
theorem sx_virtual {zb b L : Nat} {xs : Nat → Int32} {D : va_G} {cs : Nat → ClassId} {m : Nat} {k : Nat × Nat} {pc : Nat} {ls st : List V} {n : Int} {M : Mem} {Q : Post} {i : Instr} {len x w : Nat} {z y : Int} {tg : List Nat}
    (hm : m < NMT) (hdec : decode (am_M m).2.2.1 pc = .ok (i, len)) (hok : eok m (pc, i, len, x, w, z, y, tg) = true) (hi : ∃ q, i = .invokevirtual q)
    (hw : wpX (SX zb b L xs D cs) m (pc, i, len, x, w, z, y, tg) k ls st n M Q) : SX zb b L xs D cs m k pc ls st n M Q := by
  intro _ p l ev s mid args below meth c H locs lc Z hF hSW hWd hS hL hk1 hk2 hret
  obtain ⟨hx, hb, hml, hr, hlk, hown, hnm, hts⟩ := id hF
  have run : ∀ (k' : Nat × Nat) (pc' : Nat) (ls' st' : List V) (n' : Int) (M' : Mem) (H' : Heap) (locs' : List Loc) (lc' : Array Slot), SX zb b L xs D cs m k' pc' ls' st' n' M' Q → World zb L xs D cs M' n' H' → va_S (AWz zb) s.heap H' locs' → LocR zb b (am_M m).2.2.2.1 ls' lc' → k'.1 ≤ (rmM m).cells → k'.2 ≤ (rmM m).slots → W p l ev (rmM m) s mid args below meth c H' locs' k'.1 k'.2 Z (F0 mid pc' lc' (st'.map (cnc zb b))) := fun k' pc' ls' st' n' M' H' locs' lc' g1 g2 g3 g4 g5 g6 => g1 hm p l ev s mid args below meth c H' locs' lc' Z hF hSW g2 g3 g4 g5 g6 hret
  have run0 : ∀ (pc' : Nat) (st' : List V), SX zb b L xs D cs m k pc' ls st' n M Q → W p l ev (rmM m) s mid args below meth c H locs k.1 k.2 Z (F0 mid pc' lc (st'.map (cnc zb b))) := fun pc' st' g => run k pc' ls st' n M H locs lc g hWd hS hL hk1 hk2
  obtain ⟨q, rfl⟩ := hi
  unfold wpX wpI at hw
  dsimp only at hw
  unfold eok at hok
  dsimp only at hok
  obtain ⟨hl, hlm, hY, hxl, hzc, hc13, htg, hfr, hlo⟩ : len = 3 ∧ ((am_M m).1, q, x) ∈ lkM_L ∧ (x, w, 0) ∈ lkY_L ∧ x < LAWM ∧ z = 10 + ((am_M x).1 : Int) ∧ (am_M x).1 < 13 ∧ tg = [(am_M x).2.2.2.1, (am_M x).2.2.2.2.2.2.2.1, (am_M x).2.2.2.2.2.2.2.2, (am_M m).2.2.2.2.2.2.2.1, (am_M m).2.2.2.2.2.2.2.2] ∧ (am_M x).2.2.2.2.2.1 + 1 ≤ (am_M m).2.2.2.2.2.1 ∧ 8 + ((am_M x).2.2.2.1 + 11) + (am_M x).2.2.2.2.2.2.1 ≤ (am_M m).2.2.2.2.2.2.1 := of_decide_eq_true hok
  subst hl
  obtain ⟨t0', t1', t2', t3', t4'⟩ := tgn_5 htg
  have hlen : w ≤ st.length := by
    generalize hpp : popN w st [] = pp at hw
    obtain ⟨as, rr⟩ := pp
    cases rr with
    | nil => exact False.elim hw
    | cons a rr => exact hw.1
  obtain ⟨bs, r0, g1, g2, g3⟩ := popN_spec w st [] hlen
  rw [g3, List.append_nil] at hw
  have hk := lkY_ok _ hY
  unfold MOK at hk
  dsimp only at hk
  obtain ⟨hcode, hini, ⟨-, hy1, hy2, hpar, hcn⟩, hkd⟩ := hk
  have hm' : x < NMT := Nat.lt_of_lt_of_le hxl (by decide)
  have htG : ∀ u ∈ tblG, u.before args s = true := fun u hu => hts u (List.mem_filter.mp hu).1 (List.mem_filter.mp hu).2
  subst g2
  rcases r0 with _ | ⟨⟨ta, xa⟩, r⟩
  · exact False.elim hw
  generalize has : bs.reverse = as at hw
  obtain ⟨c0, c9, ea, ck, c8, c5, c6, hw⟩ : w ≤ (bs ++ (ta, xa) :: r).length ∧ wsm ((ta, xa) :: as) ≤ tgn tg 0 ∧ ta = 2 ∧ kd n xa = z ∧ wsm r ≤ 8 ∧ k.1 + tgn tg 1 ≤ tgn tg 3 ∧ k.2 + tgn tg 2 ≤ tgn tg 4 ∧ SX zb b L xs D cs x (0, 0) 0 (entL (tgn tg 0) ((ta, xa) :: as)) [] n M (fun o n' M' => SX zb b L xs D cs m (k.1 + tgn tg 1, k.2 + tgn tg 2) (pc + 3) ls (o.toList ++ r) n' M' Q) := hw
  subst ea
  rw [t0'] at c9 hw
  have hstk : List.map (cnc zb b) (bs ++ (2, xa) :: r) = (as.map (cnc zb b)).reverse ++ .ref (zb + xa.toNat) :: List.map (cnc zb b) r := by rw [← has]; simp; rfl
  have hasl : (as.map (cnc zb b)).length = w := by rw [← has]; simp [g1]
  rw [if_neg (by decide)] at hkd
  rw [if_neg (by decide)] at hkd
  obtain ⟨a1, a2, a3⟩ := kd_spec ck (by omega)
  have hat := hWd.at a1 a2
  rw [entC_o a3 (by omega)] at hat
  have hM := met_of (zb := zb) (b := b) (L := L) (xs := xs) (D := D) (cs := cs) l hY hm' c9 hw
  rw [hstk]
  refine am_back (b := b) (L := L) (xs := xs) (D := D) (cs := cs) (av := (Value.ref (zb + xa.toNat) :: as.map (cnc zb b)).toArray) (mc := (rmM x).cells) (ms := (rmM x).slots) (rest := List.map (cnc zb b) r) (Q' := (fun o n' M' => SX zb b L xs D cs m (k.1 + tgn tg 1, k.2 + tgn tg 2) (pc + 3) ls (o.toList ++ r) n' M' Q)) ?_ hS (fun o n' M' H1 locs1 hq hWd1 hS1 => ?_)
  · rcases lkM_ok _ hlm with hlk3 | hlk3
    · exact va_runV (nL := (am_M m).2.2.2.1) (C := (am_M x).2.1.cls) ⟨hx, hb, hml, hown, htG⟩ hM (cwV w htG (tblG_good (fun u hu => by
        unfold wsV at hu
        rcases List.mem_append.mp hu with h | h
        · simp only [List.mem_cons, List.not_mem_nil, or_false] at h
          rcases h with rfl | rfl | rfl | rfl
          · exact tblG_mem hlk3 rfl
          · exact tblG_mem hkd.1 rfl
          · exact List.mem_filter.mpr ⟨hkd.2, rfl⟩
          · exact tblG_mem hini rfl
        · exact wsY_in hY u h)) rfl rfl rfl ⟨rfl, hy1, hy2, hpar⟩ ⟨hfr, hlo⟩) ⟨fun a U g mk q => ⟨q.1, SW_calling q.2.1, q.2.2⟩, (by
        have hrv := va_recv hSW.1 (va_P_one hat) (am_get (z - 10).toNat (by omega)) (q0 := 0) rfl
        have hcc : (am_C (z - 10).toNat).1 = (am_M x).2.1.cls := by rw [show (z - 10).toNat = (am_M x).1 by omega, ← hcn]; exact am_names _ hc13
        rw [hcc] at hrv
        exact hrv), fun U hU hW => ⟨rfl, SW_moved hW hU hS hSW, by rw [hU]; exact hWd⟩⟩ rfl hasl hL.2.1 rfl (by show 2 * 0 + _ ≤ 8; rw [wsm_cat]; omega) hdec ⟨by rw [t1', t3'] at c5; exact c5, by rw [t2', t4'] at c6; exact c6⟩
    · exact va_runVN (nL := (am_M m).2.2.2.1) (C := (am_M x).2.1.cls) ⟨hx, hb, hml, hown, htG⟩ hM ⟨va_cnB w htG (tblG_good (wsY_in hY)) rfl rfl rfl (hSW.2.1 _ hlk3 rfl) (hts _ (List.mem_append_right _ hini) rfl) ⟨hy1, hy2, hpar⟩ ⟨hfr, hlo⟩, hts _ (List.mem_append_right _ hkd.1) rfl, hts _ hkd.2 rfl⟩ ⟨fun a U g mk q => ⟨q.1, SW_calling q.2.1, q.2.2⟩, (by
        have hrv := va_recv hSW.1 (va_P_one hat) (am_get (z - 10).toNat (by omega)) (q0 := 0) rfl
        have hcc : (am_C (z - 10).toNat).1 = (am_M x).2.1.cls := by rw [show (z - 10).toNat = (am_M x).1 by omega, ← hcn]; exact am_names _ hc13
        rw [hcc] at hrv
        exact hrv), fun U hU hW => ⟨rfl, SW_moved hW hU hS hSW, by rw [hU]; exact hWd⟩⟩ rfl hasl hL.2.1 rfl (by show 2 * 0 + _ ≤ 8; rw [wsm_cat]; omega) hdec ⟨by rw [t1', t3'] at c5; exact c5, by rw [t2', t4'] at c6; exact c6⟩
  · have := run _ _ ls _ n' M' H1 locs1 lc hq hWd1 hS1 hL (by rw [t1', t3'] at *; exact c5) (by rw [t2', t4'] at *; exact c6)
    rw [t1', t2', List.map_append] at this
    exact this

set_option maxHeartbeats 8000000 in
set_option maxRecDepth 20000 in
theorem sx_special {zb b L : Nat} {xs : Nat → Int32} {D : va_G} {cs : Nat → ClassId} {m : Nat} {k : Nat × Nat} {pc : Nat} {ls st : List V} {n : Int} {M : Mem} {Q : Post} {i : Instr} {len x w : Nat} {z y : Int} {tg : List Nat}
    (hm : m < NMT) (hdec : decode (am_M m).2.2.1 pc = .ok (i, len)) (hok : eok m (pc, i, len, x, w, z, y, tg) = true) (hi : ∃ q, i = .invokespecial q)
    (hw : wpX (SX zb b L xs D cs) m (pc, i, len, x, w, z, y, tg) k ls st n M Q) : SX zb b L xs D cs m k pc ls st n M Q := by
  intro _ p l ev s mid args below meth c H locs lc Z hF hSW hWd hS hL hk1 hk2 hret
  obtain ⟨hx, hb, hml, hr, hlk, hown, hnm, hts⟩ := id hF
  have run : ∀ (k' : Nat × Nat) (pc' : Nat) (ls' st' : List V) (n' : Int) (M' : Mem) (H' : Heap) (locs' : List Loc) (lc' : Array Slot), SX zb b L xs D cs m k' pc' ls' st' n' M' Q → World zb L xs D cs M' n' H' → va_S (AWz zb) s.heap H' locs' → LocR zb b (am_M m).2.2.2.1 ls' lc' → k'.1 ≤ (rmM m).cells → k'.2 ≤ (rmM m).slots → W p l ev (rmM m) s mid args below meth c H' locs' k'.1 k'.2 Z (F0 mid pc' lc' (st'.map (cnc zb b))) := fun k' pc' ls' st' n' M' H' locs' lc' g1 g2 g3 g4 g5 g6 => g1 hm p l ev s mid args below meth c H' locs' lc' Z hF hSW g2 g3 g4 g5 g6 hret
  have run0 : ∀ (pc' : Nat) (st' : List V), SX zb b L xs D cs m k pc' ls st' n M Q → W p l ev (rmM m) s mid args below meth c H locs k.1 k.2 Z (F0 mid pc' lc (st'.map (cnc zb b))) := fun pc' st' g => run k pc' ls st' n M H locs lc g hWd hS hL hk1 hk2
  obtain ⟨q, rfl⟩ := hi
  unfold wpX wpI at hw
  dsimp only at hw
  unfold eok at hok
  dsimp only at hok
  by_cases h999 : x = 999
  · rw [if_pos h999] at hw
    subst h999
    have hok2 : decide (len = 3 ∧ ((am_M m).1, q) ∈ lkO_L ∧ 1 ≤ (am_M m).2.2.2.2.2.1 ∧ 20 ≤ (am_M m).2.2.2.2.2.2.1) = true := hok
    obtain ⟨hl, h1, h2, h3⟩ := of_decide_eq_true hok2
    subst hl
    rcases st with _ | ⟨⟨t1, x1⟩, r⟩
    · exact False.elim hw
    · obtain ⟨e1, c1, hw⟩ : t1 = 2 ∧ wsm r ≤ 8 ∧ SX zb b L xs D cs m k (pc + 3) ls r n M Q := hw
      subst e1
      refine W.objInit hx hb hown (hts _ (List.mem_append_right _ (lkO_ok _ h1)) rfl) (hts _ (List.mem_append_right _ lkOI) rfl) (hts _ (List.mem_append_right _ lkOC) rfl) rfl (by rw [hml]; exact hL.2.1) rfl hdec h2 (by show 2 * 0 + ((List.map (cnc zb b) r).map fun v => v.category).sum + 12 ≤ _; rw [wsm_cat]; show _ ≤ (am_M m).2.2.2.2.2.2.1; omega) (run0 _ r hw)
  · rw [if_neg h999] at hw hok
    obtain ⟨hl, hlm, hY, hxl, hzc, hc13, htg, hfr, hlo⟩ : len = 3 ∧ ((am_M m).1, q, x) ∈ lkM_L ∧ (x, w, 2) ∈ lkY_L ∧ x < LAWM ∧ z = 10 + ((am_M x).1 : Int) ∧ (am_M x).1 < 13 ∧ tg = [(am_M x).2.2.2.1, (am_M x).2.2.2.2.2.2.2.1, (am_M x).2.2.2.2.2.2.2.2, (am_M m).2.2.2.2.2.2.2.1, (am_M m).2.2.2.2.2.2.2.2] ∧ (am_M x).2.2.2.2.2.1 + 1 ≤ (am_M m).2.2.2.2.2.1 ∧ 8 + ((am_M x).2.2.2.1 + 11) + (am_M x).2.2.2.2.2.2.1 ≤ (am_M m).2.2.2.2.2.2.1 := of_decide_eq_true hok
    subst hl
    obtain ⟨t0', t1', t2', t3', t4'⟩ := tgn_5 htg
    have hlen : w ≤ st.length := by
      generalize hpp : popN w st [] = pp at hw
      obtain ⟨as, rr⟩ := pp
      cases rr with
      | nil => exact False.elim hw
      | cons a rr => exact hw.1
    obtain ⟨bs, r0, g1, g2, g3⟩ := popN_spec w st [] hlen
    rw [g3, List.append_nil] at hw
    have hk := lkY_ok _ hY
    unfold MOK at hk
    dsimp only at hk
    obtain ⟨hcode, hini, ⟨-, hy1, hy2, hpar, hcn⟩, hkd⟩ := hk
    have hm' : x < NMT := Nat.lt_of_lt_of_le hxl (by decide)
    have htG : ∀ u ∈ tblG, u.before args s = true := fun u hu => hts u (List.mem_filter.mp hu).1 (List.mem_filter.mp hu).2
    subst g2
    rcases r0 with _ | ⟨⟨ta, xa⟩, r⟩
    · exact False.elim hw
    generalize has : bs.reverse = as at hw
    obtain ⟨c0, c9, ea, ck, c8, c5, c6, hw⟩ : w ≤ (bs ++ (ta, xa) :: r).length ∧ wsm ((ta, xa) :: as) ≤ tgn tg 0 ∧ ta = 2 ∧ kd n xa = z ∧ wsm r ≤ 8 ∧ k.1 + tgn tg 1 ≤ tgn tg 3 ∧ k.2 + tgn tg 2 ≤ tgn tg 4 ∧ SX zb b L xs D cs x (0, 0) 0 (entL (tgn tg 0) ((ta, xa) :: as)) [] n M (fun o n' M' => SX zb b L xs D cs m (k.1 + tgn tg 1, k.2 + tgn tg 2) (pc + 3) ls (o.toList ++ r) n' M' Q) := hw
    subst ea
    rw [t0'] at c9 hw
    have hstk : List.map (cnc zb b) (bs ++ (2, xa) :: r) = (as.map (cnc zb b)).reverse ++ .ref (zb + xa.toNat) :: List.map (cnc zb b) r := by rw [← has]; simp; rfl
    have hasl : (as.map (cnc zb b)).length = w := by rw [← has]; simp [g1]
    rw [if_neg (by decide)] at hkd
    rw [if_pos rfl] at hkd
    obtain ⟨a1, a2, a3⟩ := kd_spec ck (by omega)
    have hat := hWd.at a1 a2
    rw [entC_o a3 (by omega)] at hat
    have hM := met_of (zb := zb) (b := b) (L := L) (xs := xs) (D := D) (cs := cs) l hY hm' c9 hw
    rw [hstk]
    have hret0 : (am_M x).2.2.2.2.1 = none := init_void hxl hkd.2
    refine am_back (b := b) (L := L) (xs := xs) (D := D) (cs := cs) (av := (Value.ref (zb + xa.toNat) :: as.map (cnc zb b)).toArray) (mc := (rmM x).cells) (ms := (rmM x).slots) (rest := List.map (cnc zb b) r) (Q' := (fun o n' M' => SX zb b L xs D cs m (k.1 + tgn tg 1, k.2 + tgn tg 2) (pc + 3) ls (o.toList ++ r) n' M' Q)) ?_ hS (fun o n' M' H1 locs1 hq hWd1 hS1 => ?_)
    · rcases lkM_ok _ hlm with hlk3 | hlk3
      · exact va_runI (nL := (am_M m).2.2.2.1) ⟨hx, hb, hml, hown, htG⟩ hM (cwI w htG (tblG_good (wsY_in hY)) (by unfold wsY; rw [hret0]) rfl rfl (hts _ (List.mem_append_right _ hini) rfl) (hts _ (List.mem_append_right _ hlk3) rfl) (hts _ (List.mem_append_right _ hkd.1) rfl) hkd.2 ⟨hy1, hy2, hpar⟩ ⟨hfr, hlo⟩) ⟨fun a U g mk q => ⟨q.1, SW_calling q.2.1, q.2.2⟩, fun U hU hW => ⟨rfl, SW_moved hW hU hS hSW, by rw [hU]; exact hWd⟩⟩ rfl hasl hL.2.1 rfl (by show 2 * 0 + _ ≤ 8; rw [wsm_cat]; omega) hdec ⟨by rw [t1', t3'] at c5; exact c5, by rw [t2', t4'] at c6; exact c6⟩
      · exact va_runIN (nL := (am_M m).2.2.2.1) ⟨hx, hb, hml, hown, htG⟩ hM ⟨va_cnB w htG (tblG_good (wsY_in hY)) (by unfold wsY; rw [hret0]) rfl rfl (hSW.2.1 _ hlk3 rfl) (hts _ (List.mem_append_right _ hini) rfl) ⟨hy1, hy2, hpar⟩ ⟨hfr, hlo⟩, hkd.2, hts _ (List.mem_append_right _ hkd.1) rfl⟩ ⟨fun a U g mk q => ⟨q.1, SW_calling q.2.1, q.2.2⟩, fun U hU hW => ⟨rfl, SW_moved hW hU hS hSW, by rw [hU]; exact hWd⟩⟩ rfl hasl hL.2.1 rfl (by show 2 * 0 + _ ≤ 8; rw [wsm_cat]; omega) hdec ⟨by rw [t1', t3'] at c5; exact c5, by rw [t2', t4'] at c6; exact c6⟩
    · have := run _ _ ls _ n' M' H1 locs1 lc hq hWd1 hS1 hL (by rw [t1', t3'] at *; exact c5) (by rw [t2', t4'] at *; exact c6)
      rw [t1', t2', List.map_append] at this
      exact this

set_option maxHeartbeats 8000000 in
set_option maxRecDepth 20000 in
theorem sx_ireturn {zb b L : Nat} {xs : Nat → Int32} {D : va_G} {cs : Nat → ClassId} {m : Nat} {k : Nat × Nat} {pc : Nat} {ls st : List V} {n : Int} {M : Mem} {Q : Post} {i : Instr} {len x w : Nat} {z y : Int} {tg : List Nat}
    (hm : m < NMT) (hdec : decode (am_M m).2.2.1 pc = .ok (i, len)) (hok : eok m (pc, i, len, x, w, z, y, tg) = true) (hi : i = .ireturn)
    (hw : wpX (SX zb b L xs D cs) m (pc, i, len, x, w, z, y, tg) k ls st n M Q) : SX zb b L xs D cs m k pc ls st n M Q := by
  intro _ p l ev s mid args below meth c H locs lc Z hF hSW hWd hS hL hk1 hk2 hret
  obtain ⟨hx, hb, hml, hr, hlk, hown, hnm, hts⟩ := id hF
  have run : ∀ (k' : Nat × Nat) (pc' : Nat) (ls' st' : List V) (n' : Int) (M' : Mem) (H' : Heap) (locs' : List Loc) (lc' : Array Slot), SX zb b L xs D cs m k' pc' ls' st' n' M' Q → World zb L xs D cs M' n' H' → va_S (AWz zb) s.heap H' locs' → LocR zb b (am_M m).2.2.2.1 ls' lc' → k'.1 ≤ (rmM m).cells → k'.2 ≤ (rmM m).slots → W p l ev (rmM m) s mid args below meth c H' locs' k'.1 k'.2 Z (F0 mid pc' lc' (st'.map (cnc zb b))) := fun k' pc' ls' st' n' M' H' locs' lc' g1 g2 g3 g4 g5 g6 => g1 hm p l ev s mid args below meth c H' locs' lc' Z hF hSW g2 g3 g4 g5 g6 hret
  have run0 : ∀ (pc' : Nat) (st' : List V), SX zb b L xs D cs m k pc' ls st' n M Q → W p l ev (rmM m) s mid args below meth c H locs k.1 k.2 Z (F0 mid pc' lc (st'.map (cnc zb b))) := fun pc' st' g => run k pc' ls st' n M H locs lc g hWd hS hL hk1 hk2
  subst hi
  obtain ⟨hl, h1⟩ : len = 1 ∧ (if w = 1 then (am_M m).2.2.2.2.1 = some .boolean else (am_M m).2.2.2.2.1 = some .int) := of_decide_eq_true hok
  subst hl
  rcases st with _ | ⟨⟨t1, x1⟩, _ | ⟨v2, r⟩⟩
  · exact False.elim hw
  · obtain ⟨e1, c1, hw⟩ : t1 = 0 ∧ (w = 1 → x1 = 0 ∨ x1 = 1) ∧ Q (some (0, x1)) n M := hw
    subst e1
    refine hret (some (0, x1)) n M H locs k lc pc hw hWd hS hk1 hk2 (Or.inl ⟨x1, rfl, hdec, ?_⟩)
    by_cases q : w = 1
    · rw [if_pos q] at h1; exact Or.inr ⟨h1, c1 q⟩
    · rw [if_neg q] at h1; exact Or.inl h1
  · exact False.elim hw

set_option maxHeartbeats 8000000 in
set_option maxRecDepth 20000 in
theorem sx_lreturn {zb b L : Nat} {xs : Nat → Int32} {D : va_G} {cs : Nat → ClassId} {m : Nat} {k : Nat × Nat} {pc : Nat} {ls st : List V} {n : Int} {M : Mem} {Q : Post} {i : Instr} {len x w : Nat} {z y : Int} {tg : List Nat}
    (hm : m < NMT) (hdec : decode (am_M m).2.2.1 pc = .ok (i, len)) (hok : eok m (pc, i, len, x, w, z, y, tg) = true) (hi : i = .lreturn)
    (hw : wpX (SX zb b L xs D cs) m (pc, i, len, x, w, z, y, tg) k ls st n M Q) : SX zb b L xs D cs m k pc ls st n M Q := by
  intro _ p l ev s mid args below meth c H locs lc Z hF hSW hWd hS hL hk1 hk2 hret
  obtain ⟨hx, hb, hml, hr, hlk, hown, hnm, hts⟩ := id hF
  have run : ∀ (k' : Nat × Nat) (pc' : Nat) (ls' st' : List V) (n' : Int) (M' : Mem) (H' : Heap) (locs' : List Loc) (lc' : Array Slot), SX zb b L xs D cs m k' pc' ls' st' n' M' Q → World zb L xs D cs M' n' H' → va_S (AWz zb) s.heap H' locs' → LocR zb b (am_M m).2.2.2.1 ls' lc' → k'.1 ≤ (rmM m).cells → k'.2 ≤ (rmM m).slots → W p l ev (rmM m) s mid args below meth c H' locs' k'.1 k'.2 Z (F0 mid pc' lc' (st'.map (cnc zb b))) := fun k' pc' ls' st' n' M' H' locs' lc' g1 g2 g3 g4 g5 g6 => g1 hm p l ev s mid args below meth c H' locs' lc' Z hF hSW g2 g3 g4 g5 g6 hret
  have run0 : ∀ (pc' : Nat) (st' : List V), SX zb b L xs D cs m k pc' ls st' n M Q → W p l ev (rmM m) s mid args below meth c H locs k.1 k.2 Z (F0 mid pc' lc (st'.map (cnc zb b))) := fun pc' st' g => run k pc' ls st' n M H locs lc g hWd hS hL hk1 hk2
  subst hi
  obtain ⟨hl, h1⟩ : len = 1 ∧ (am_M m).2.2.2.2.1 = some .long := of_decide_eq_true hok
  subst hl
  rcases st with _ | ⟨⟨t1, x1⟩, _ | ⟨v2, r⟩⟩
  · exact False.elim hw
  · obtain ⟨e1, hw⟩ : t1 = 1 ∧ Q (some (1, x1)) n M := hw
    subst e1
    exact hret (some (1, x1)) n M H locs k lc pc hw hWd hS hk1 hk2 (Or.inr (Or.inl ⟨x1, rfl, hdec, h1⟩))
  · exact False.elim hw

set_option maxHeartbeats 8000000 in
set_option maxRecDepth 20000 in
theorem sx_return {zb b L : Nat} {xs : Nat → Int32} {D : va_G} {cs : Nat → ClassId} {m : Nat} {k : Nat × Nat} {pc : Nat} {ls st : List V} {n : Int} {M : Mem} {Q : Post} {i : Instr} {len x w : Nat} {z y : Int} {tg : List Nat}
    (hm : m < NMT) (hdec : decode (am_M m).2.2.1 pc = .ok (i, len)) (hok : eok m (pc, i, len, x, w, z, y, tg) = true) (hi : i = .return_)
    (hw : wpX (SX zb b L xs D cs) m (pc, i, len, x, w, z, y, tg) k ls st n M Q) : SX zb b L xs D cs m k pc ls st n M Q := by
  intro _ p l ev s mid args below meth c H locs lc Z hF hSW hWd hS hL hk1 hk2 hret
  obtain ⟨hx, hb, hml, hr, hlk, hown, hnm, hts⟩ := id hF
  have run : ∀ (k' : Nat × Nat) (pc' : Nat) (ls' st' : List V) (n' : Int) (M' : Mem) (H' : Heap) (locs' : List Loc) (lc' : Array Slot), SX zb b L xs D cs m k' pc' ls' st' n' M' Q → World zb L xs D cs M' n' H' → va_S (AWz zb) s.heap H' locs' → LocR zb b (am_M m).2.2.2.1 ls' lc' → k'.1 ≤ (rmM m).cells → k'.2 ≤ (rmM m).slots → W p l ev (rmM m) s mid args below meth c H' locs' k'.1 k'.2 Z (F0 mid pc' lc' (st'.map (cnc zb b))) := fun k' pc' ls' st' n' M' H' locs' lc' g1 g2 g3 g4 g5 g6 => g1 hm p l ev s mid args below meth c H' locs' lc' Z hF hSW g2 g3 g4 g5 g6 hret
  have run0 : ∀ (pc' : Nat) (st' : List V), SX zb b L xs D cs m k pc' ls st' n M Q → W p l ev (rmM m) s mid args below meth c H locs k.1 k.2 Z (F0 mid pc' lc (st'.map (cnc zb b))) := fun pc' st' g => run k pc' ls st' n M H locs lc g hWd hS hL hk1 hk2
  subst hi
  obtain ⟨hl, h1⟩ : len = 1 ∧ (am_M m).2.2.2.2.1 = none := of_decide_eq_true hok
  subst hl
  rcases st with _ | ⟨v1, r⟩
  · exact hret none n M H locs k lc pc hw hWd hS hk1 hk2 (Or.inr (Or.inr ⟨rfl, hdec, h1⟩))
  · exact False.elim hw

set_option maxHeartbeats 8000000 in
theorem SX_clo (zb b L : Nat) (xs : Nat → Int32) (D : va_G) (cs : Nat → ClassId) : Clo (SX zb b L xs D cs) := by
  intro m k pc ls st n M Q e he hw hm
  obtain ⟨hmem, hpc⟩ := fet_spec he
  have hdec := am_dec hm hmem
  have hok := am_ok hm hmem
  obtain ⟨pc0, i, len, x, w, z, y, tg⟩ := e
  dsimp only at hpc hdec
  subst hpc
  cases i with
  | iconst a0 => exact sx_iconst hm hdec hok ⟨_, rfl⟩ hw hm
  | bipush a0 => exact sx_bipush hm hdec hok ⟨_, rfl⟩ hw hm
  | sipush a0 => exact sx_sipush hm hdec hok ⟨_, rfl⟩ hw hm
  | lconst a0 => exact sx_lconst hm hdec hok ⟨_, rfl⟩ hw hm
  | ldc a0 => exact sx_ldc hm hdec hok ⟨_, rfl⟩ hw hm
  | ldc2_w a0 => exact sx_ldc2 hm hdec hok ⟨_, rfl⟩ hw hm
  | iload a0 => exact sx_iload hm hdec hok ⟨_, rfl⟩ hw hm
  | iload_n a0 => exact sx_iload_n hm hdec hok ⟨_, rfl⟩ hw hm
  | lload a0 => exact sx_lload hm hdec hok ⟨_, rfl⟩ hw hm
  | lload_n a0 => exact sx_lload_n hm hdec hok ⟨_, rfl⟩ hw hm
  | aload a0 => exact sx_aload hm hdec hok ⟨_, rfl⟩ hw hm
  | aload_n a0 => exact sx_aload_n hm hdec hok ⟨_, rfl⟩ hw hm
  | istore a0 => exact sx_istore hm hdec hok ⟨_, rfl⟩ hw hm
  | istore_n a0 => exact sx_istore_n hm hdec hok ⟨_, rfl⟩ hw hm
  | astore a0 => exact sx_astore hm hdec hok ⟨_, rfl⟩ hw hm
  | astore_n a0 => exact sx_astore_n hm hdec hok ⟨_, rfl⟩ hw hm
  | lstore a0 => exact sx_lstore hm hdec hok ⟨_, rfl⟩ hw hm
  | lstore_n a0 => exact sx_lstore_n hm hdec hok ⟨_, rfl⟩ hw hm
  | iinc a0 a1 => exact sx_iinc hm hdec hok ⟨_, _, rfl⟩ hw hm
  | iadd => exact sx_iadd hm hdec hok rfl hw hm
  | isub => exact sx_isub hm hdec hok rfl hw hm
  | imul => exact sx_imul hm hdec hok rfl hw hm
  | ladd => exact sx_ladd hm hdec hok rfl hw hm
  | lsub => exact sx_lsub hm hdec hok rfl hw hm
  | lmul => exact sx_lmul hm hdec hok rfl hw hm
  | idiv => exact sx_idiv hm hdec hok rfl hw hm
  | irem => exact sx_irem hm hdec hok rfl hw hm
  | ldiv => exact sx_ldiv hm hdec hok rfl hw hm
  | lrem => exact sx_lrem hm hdec hok rfl hw hm
  | iand => exact sx_iand hm hdec hok rfl hw hm
  | ior => exact sx_ior hm hdec hok rfl hw hm
  | ishl => exact sx_ishl hm hdec hok rfl hw hm
  | ishr => exact sx_ishr hm hdec hok rfl hw hm
  | ineg => exact sx_ineg hm hdec hok rfl hw hm
  | lcmp => exact sx_lcmp hm hdec hok rfl hw hm
  | i2l => exact sx_i2l hm hdec hok rfl hw hm
  | l2i => exact sx_l2i hm hdec hok rfl hw hm
  | dup => exact sx_dup hm hdec hok rfl hw hm
  | dup2 => exact sx_dup2 hm hdec hok rfl hw hm
  | if_icmp cd off => cases cd with
    | eq => exact sx_icmp_eq hm hdec hok ⟨_, rfl⟩ hw hm
    | ne => exact sx_icmp_ne hm hdec hok ⟨_, rfl⟩ hw hm
    | lt => exact sx_icmp_lt hm hdec hok ⟨_, rfl⟩ hw hm
    | ge => exact sx_icmp_ge hm hdec hok ⟨_, rfl⟩ hw hm
    | gt => exact sx_icmp_gt hm hdec hok ⟨_, rfl⟩ hw hm
    | le => exact sx_icmp_le hm hdec hok ⟨_, rfl⟩ hw hm
  | ifCond cd off => cases cd with
    | eq => exact sx_if_eq hm hdec hok ⟨_, rfl⟩ hw hm
    | ne => exact sx_if_ne hm hdec hok ⟨_, rfl⟩ hw hm
    | lt => exact sx_if_lt hm hdec hok ⟨_, rfl⟩ hw hm
    | ge => exact sx_if_ge hm hdec hok ⟨_, rfl⟩ hw hm
    | gt => exact sx_if_gt hm hdec hok ⟨_, rfl⟩ hw hm
    | le => exact sx_if_le hm hdec hok ⟨_, rfl⟩ hw hm
  | goto a0 => exact sx_goto hm hdec hok ⟨_, rfl⟩ hw hm
  | tableswitch a0 a1 a2 a3 => exact sx_table hm hdec hok ⟨_, _, _, _, rfl⟩ hw hm
  | getfield a0 => exact sx_getfield hm hdec hok ⟨_, rfl⟩ hw hm
  | putfield a0 => exact sx_putfield hm hdec hok ⟨_, rfl⟩ hw hm
  | iaload => exact sx_iaload hm hdec hok rfl hw hm
  | laload => exact sx_laload hm hdec hok rfl hw hm
  | aaload => exact sx_aaload hm hdec hok rfl hw hm
  | iastore => exact sx_iastore hm hdec hok rfl hw hm
  | lastore => exact sx_lastore hm hdec hok rfl hw hm
  | aastore => exact sx_aastore hm hdec hok rfl hw hm
  | arraylength => exact sx_alen hm hdec hok rfl hw hm
  | new a0 => exact sx_new hm hdec hok ⟨_, rfl⟩ hw hm
  | newarray a0 => exact sx_newarray hm hdec hok ⟨_, rfl⟩ hw hm
  | anewarray a0 => exact sx_anewarray hm hdec hok ⟨_, rfl⟩ hw hm
  | multianewarray a0 a1 => exact sx_multi hm hdec hok ⟨_, _, rfl⟩ hw hm
  | invokestatic a0 => exact sx_static hm hdec hok ⟨_, rfl⟩ hw hm
  | invokevirtual a0 => exact sx_virtual hm hdec hok ⟨_, rfl⟩ hw hm
  | invokespecial a0 => exact sx_special hm hdec hok ⟨_, rfl⟩ hw hm
  | ireturn => exact sx_ireturn hm hdec hok rfl hw hm
  | lreturn => exact sx_lreturn hm hdec hok rfl hw hm
  | return_ => exact sx_return hm hdec hok rfl hw hm
  | _ => exact False.elim hw
/-- what the abstract machine runs, the real one runs -/
theorem WP_sound {zb b L : Nat} {xs : Nat → Int32} {D : va_G} {cs : Nat → ClassId} {m : Nat} {k : Nat × Nat} {pc : Nat} {ls st : List V} {n : Int} {M : Mem} {Q : Post} (h : WP m k pc ls st n M Q) : SX zb b L xs D cs m k pc ls st n M Q := h _ (SX_mon zb b L xs D cs) (SX_clo zb b L xs D cs)
