/-! THE ABSTRACT MACHINE IS SOUND: SX is closed under every instruction -/
theorem KD_np {a : Int} (h : a ≤ 0) : KD a = 0 := by unfold KD; rw [Int.toNat_of_nonpos h]; rfl
theorem kd_spec {n a z : Int} (h : kd n a = z) (hz : z ≠ 0) : 1 ≤ a ∧ a < n ∧ KD a = z := by
  unfold kd at h
  split at h
  · rename_i h1
    refine ⟨?_, h1, h⟩
    rcases Int.lt_or_le 0 a with q | q
    · omega
    · rw [KD_np q] at h; exact absurd h.symm hz
  · exact absurd h.symm hz
theorem entC_1 {zb : Nat} {cs : Nat → ClassId} {M : Mem} {a : Int} (h : KD a = 1) : entC zb cs M a = .inl (cs 1, (LN a).toNat, .inl (fun i => Int32.ofInt (M a (i : Int)))) := by
  unfold entC; rw [if_pos h]
theorem entC_2 {zb : Nat} {cs : Nat → ClassId} {M : Mem} {a : Int} (h : KD a = 2) : entC zb cs M a = .inl (cs 2, (LN a).toNat, .inr (.inl (fun i => Int64.ofInt (M a (i : Int))))) := by
  unfold entC; rw [if_neg (by omega), if_pos h]
theorem entC_3 {zb : Nat} {cs : Nat → ClassId} {M : Mem} {a : Int} (h : KD a = 3) : entC zb cs M a = .inl (cs 3, (LN a).toNat, .inr (.inr (.inr (.inr (fun i => rfo zb (M a (i : Int))))))) := by
  unfold entC; rw [if_neg (by omega), if_neg (by omega), if_pos h]
theorem entC_4 {zb : Nat} {cs : Nat → ClassId} {M : Mem} {a : Int} (h : KD a = 4) : entC zb cs M a = .inl (cs 4, (LN a).toNat, .inr (.inr (.inr (.inr (fun i => rfo zb (M a (i : Int))))))) := by
  unfold entC; rw [if_neg (by omega), if_neg (by omega), if_neg (by omega), if_pos h]
theorem entC_o {zb : Nat} {cs : Nat → ClassId} {M : Mem} {a z : Int} (h : KD a = z) (hz : 10 ≤ z) : entC zb cs M a = .inr ((z - 10).toNat, flds zb (z - 10).toNat (M a)) := by
  unfold entC; rw [if_neg (by omega), if_neg (by omega), if_neg (by omega), if_neg (by omega), h]
theorem flds_len (zb ci : Nat) (f : Int → Int) : (flds zb ci f).length = (am_C ci).2.2 := by unfold flds; simp
theorem flds_get {zb ci : Nat} {f : Int → Int} {k : Nat} (h : k < (am_C ci).2.2) : (flds zb ci f)[k]? = some (fvl zb (tyTag (ciTy ci k)) (f (k : Int))) := by
  unfold flds; rw [List.getElem?_map, List.getElem?_range h]; rfl
theorem flds_set {zb ci : Nat} {f g : Int → Int} {k : Nat} (x : Int) (h : k < (am_C ci).2.2) (hg : g (k : Int) = x) (ho : ∀ j : Nat, j ≠ k → g (j : Int) = f (j : Int)) : (flds zb ci f).set k (fvl zb (tyTag (ciTy ci k)) x) = flds zb ci g := by
  apply List.ext_getElem?
  intro i
  by_cases hi : i < (am_C ci).2.2
  · by_cases e : i = k
    · subst e
      rw [List.getElem?_set_self (by rw [flds_len]; exact hi), flds_get hi, hg]
    · rw [List.getElem?_set_ne (Ne.symm e), flds_get hi, flds_get hi, ho i e]
  · rw [List.getElem?_eq_none (by rw [List.length_set, flds_len]; omega), List.getElem?_eq_none (by rw [flds_len]; omega)]
theorem World.at {zb L : Nat} {xs : Nat → Int32} {D : va_G} {cs : Nat → ClassId} {M : Mem} {n : Int} {H : Heap} (h : World zb L xs D cs M n H) {a : Int} (h1 : 1 ≤ a) (h2 : a < n) : va_at D classes (zb + a.toNat, entC zb cs M a) H := by
  obtain ⟨nn, rfl, g1, g2, g3, -⟩ := h
  exact g3 _ _ (wsC_get h1 h2)
theorem World.put {zb L : Nat} {xs : Nat → Int32} {D : va_G} {cs : Nat → ClassId} {M M' : Mem} {n : Int} {H H1 : Heap} (h : World zb L xs D cs M n H) {a : Int} (h1 : 1 ≤ a) (h2 : a < n) (hM : ∀ b, b ≠ a → M' b = M b) (hz : H1.size = H.size) (ho : ∀ q : Nat, q ≠ zb + a.toNat → H1[q]? = H[q]?) (hat : va_at D classes (zb + a.toNat, entC zb cs M' a) H1) : World zb L xs D cs M' n H1 := by
  obtain ⟨nn, rfl, g1, g2, g3, g4, g5⟩ := h
  refine ⟨nn, rfl, g1, by rw [hz]; exact g2, ?_, ?_, ?_⟩
  · have := g3.set (wsC_D zb cs M nn) (wsC_get h1 h2) hat ho
    rw [wsC_set h1 h2 hM] at this
    exact this
  · rw [hM _ (by omega)]; exact g4
  · intro i hi; rw [hM _ (by omega)]; exact g5 i hi
theorem World.new {zb L : Nat} {xs : Nat → Int32} {D : va_G} {cs : Nat → ClassId} {M M' : Mem} {n : Int} {H H1 : Heap} (h : World zb L xs D cs M n H) (hM : ∀ b, b < n → M' b = M b) (hz : H1.size = H.size + 1) (ho : ∀ q : Nat, q < H.size → H1[q]? = H[q]?) (hat : va_at D classes (H.size, entC zb cs M' n) H1) : World zb L xs D cs M' (n + 1) H1 := by
  obtain ⟨nn, rfl, g1, g2, g3, g4, g5⟩ := h
  refine ⟨nn + 1, by omega, by omega, by omega, ?_, ?_, ?_⟩
  · rw [wsC_push g1 hM]
    refine (g3.kept (fun k q hq => ho _ ((g3 k q hq).lt))).app (fun k q hq => ?_)
    have hk : k < 1 := (List.getElem?_eq_some_iff.mp hq).1
    rw [show k = 0 by omega] at hq
    cases hq
    rw [← g2]; exact hat
  · rw [hM _ (by omega)]; exact g4
  · intro i hi; rw [hM _ (by omega)]; exact g5 i hi
theorem S_new {zb : Nat} {H0 H H1 : Heap} {locs : List Loc} (hS : va_S (AWz zb) H0 H locs) (hz : H.size ≤ H1.size) (ho : ∀ q : Nat, q < H.size → H1[q]? = H[q]?) : va_S (AWz zb) H0 H1 locs :=
  ⟨Nat.le_trans hS.1 hz, fun x h1 h2 => (ho x (Nat.lt_of_lt_of_le h1 hS.1)).trans (hS.2.1 x h1 h2), hS.2.2⟩
theorem World.sz {zb L : Nat} {xs : Nat → Int32} {D : va_G} {cs : Nat → ClassId} {M : Mem} {n : Int} {H : Heap} (h : World zb L xs D cs M n H) : H.size = zb + n.toNat ∧ 1 ≤ n := by
  obtain ⟨nn, rfl, g1, g2, -⟩ := h
  exact ⟨by omega, by omega⟩
theorem ust_ne {M : Mem} {a i v b : Int} (h : b ≠ a) : ust M a i v b = M b := by funext j; unfold ust; rw [if_neg (fun q => h q.1)]
theorem ust_at {M : Mem} {a i v : Int} (j : Int) : ust M a i v a j = if j = i then v else M a j := by unfold ust; simp
theorem zro_ne {M : Mem} {a b : Int} (h : b ≠ a) : zro M a b = M b := by funext j; unfold zro; rw [if_neg h]
theorem zro_at {M : Mem} {a : Int} (j : Int) : zro M a a j = 0 := by unfold zro; simp
theorem SW.own {zb b L : Nat} {xs : Nat → Int32} {D : va_G} {cs : Nat → ClassId} {s : State} (h : SW zb b L xs D cs s) : va_K D classes (tysC cs) s := h.1
theorem bump {zb b L : Nat} {xs : Nat → Int32} {D : va_G} {cs : Nat → ClassId} {m : Nat} {k k' : Nat × Nat} {pc : Nat} {ls st : List V} {n : Int} {M : Mem} {Q : Post} (h : SX zb b L xs D cs m k pc ls st n M Q) (e : k = k') : SX zb b L xs D cs m k' pc ls st n M Q := e ▸ h

set_option maxHeartbeats 8000000 in
set_option maxRecDepth 20000 in
theorem sx_iconst {zb b L : Nat} {xs : Nat → Int32} {D : va_G} {cs : Nat → ClassId} {m : Nat} {k : Nat × Nat} {pc : Nat} {ls st : List V} {n : Int} {M : Mem} {Q : Post} {i : Instr} {len x w : Nat} {z y : Int} {tg : List Nat}
    (hm : m < NMT) (hdec : decode (am_M m).2.2.1 pc = .ok (i, len)) (hok : eok m (pc, i, len, x, w, z, y, tg) = true) (hi : ∃ q, i = .iconst q)
    (hw : wpX (SX zb b L xs D cs) m (pc, i, len, x, w, z, y, tg) k ls st n M Q) : SX zb b L xs D cs m k pc ls st n M Q := by
  intro _ p l ev s mid args below meth c H locs lc Z hF hSW hWd hS hL hk1 hk2 hret
  obtain ⟨hx, hb, hml, hr, hlk, hown, hnm, hts⟩ := id hF
  have run : ∀ (k' : Nat × Nat) (pc' : Nat) (ls' st' : List V) (n' : Int) (M' : Mem) (H' : Heap) (locs' : List Loc) (lc' : Array Slot), SX zb b L xs D cs m k' pc' ls' st' n' M' Q → World zb L xs D cs M' n' H' → va_S (AWz zb) s.heap H' locs' → LocR zb b (am_M m).2.2.2.1 ls' lc' → k'.1 ≤ (rmM m).cells → k'.2 ≤ (rmM m).slots → W p l ev (rmM m) s mid args below meth c H' locs' k'.1 k'.2 Z (F0 mid pc' lc' (st'.map (cnc zb b))) := fun k' pc' ls' st' n' M' H' locs' lc' g1 g2 g3 g4 g5 g6 => g1 hm p l ev s mid args below meth c H' locs' lc' Z hF hSW g2 g3 g4 g5 g6 hret
  have run0 : ∀ (pc' : Nat) (st' : List V), SX zb b L xs D cs m k pc' ls st' n M Q → W p l ev (rmM m) s mid args below meth c H locs k.1 k.2 Z (F0 mid pc' lc (st'.map (cnc zb b))) := fun pc' st' g => run k pc' ls st' n M H locs lc g hWd hS hL hk1 hk2
  obtain ⟨q, rfl⟩ := hi
  have hl : len = 1 := of_decide_eq_true hok
  subst hl
  exact lv_iconst (v := Int32.ofInt q) hx hb hdec rfl (run0 _ ((0, q) :: st) hw)

set_option maxHeartbeats 8000000 in
set_option maxRecDepth 20000 in
theorem sx_bipush {zb b L : Nat} {xs : Nat → Int32} {D : va_G} {cs : Nat → ClassId} {m : Nat} {k : Nat × Nat} {pc : Nat} {ls st : List V} {n : Int} {M : Mem} {Q : Post} {i : Instr} {len x w : Nat} {z y : Int} {tg : List Nat}
    (hm : m < NMT) (hdec : decode (am_M m).2.2.1 pc = .ok (i, len)) (hok : eok m (pc, i, len, x, w, z, y, tg) = true) (hi : ∃ q, i = .bipush q)
    (hw : wpX (SX zb b L xs D cs) m (pc, i, len, x, w, z, y, tg) k ls st n M Q) : SX zb b L xs D cs m k pc ls st n M Q := by
  intro _ p l ev s mid args below meth c H locs lc Z hF hSW hWd hS hL hk1 hk2 hret
  obtain ⟨hx, hb, hml, hr, hlk, hown, hnm, hts⟩ := id hF
  have run : ∀ (k' : Nat × Nat) (pc' : Nat) (ls' st' : List V) (n' : Int) (M' : Mem) (H' : Heap) (locs' : List Loc) (lc' : Array Slot), SX zb b L xs D cs m k' pc' ls' st' n' M' Q → World zb L xs D cs M' n' H' → va_S (AWz zb) s.heap H' locs' → LocR zb b (am_M m).2.2.2.1 ls' lc' → k'.1 ≤ (rmM m).cells → k'.2 ≤ (rmM m).slots → W p l ev (rmM m) s mid args below meth c H' locs' k'.1 k'.2 Z (F0 mid pc' lc' (st'.map (cnc zb b))) := fun k' pc' ls' st' n' M' H' locs' lc' g1 g2 g3 g4 g5 g6 => g1 hm p l ev s mid args below meth c H' locs' lc' Z hF hSW g2 g3 g4 g5 g6 hret
  have run0 : ∀ (pc' : Nat) (st' : List V), SX zb b L xs D cs m k pc' ls st' n M Q → W p l ev (rmM m) s mid args below meth c H locs k.1 k.2 Z (F0 mid pc' lc (st'.map (cnc zb b))) := fun pc' st' g => run k pc' ls st' n M H locs lc g hWd hS hL hk1 hk2
  obtain ⟨q, rfl⟩ := hi
  obtain ⟨hl, h1, h2⟩ : len = 2 ∧ -128 ≤ q ∧ q < 128 := of_decide_eq_true hok
  subst hl
  exact lv_bipush (v := Int32.ofInt q) hx hb hdec (bip_of h1 h2) (run0 _ ((0, q) :: st) hw)

set_option maxHeartbeats 8000000 in
set_option maxRecDepth 20000 in
theorem sx_sipush {zb b L : Nat} {xs : Nat → Int32} {D : va_G} {cs : Nat → ClassId} {m : Nat} {k : Nat × Nat} {pc : Nat} {ls st : List V} {n : Int} {M : Mem} {Q : Post} {i : Instr} {len x w : Nat} {z y : Int} {tg : List Nat}
    (hm : m < NMT) (hdec : decode (am_M m).2.2.1 pc = .ok (i, len)) (hok : eok m (pc, i, len, x, w, z, y, tg) = true) (hi : ∃ q, i = .sipush q)
    (hw : wpX (SX zb b L xs D cs) m (pc, i, len, x, w, z, y, tg) k ls st n M Q) : SX zb b L xs D cs m k pc ls st n M Q := by
  intro _ p l ev s mid args below meth c H locs lc Z hF hSW hWd hS hL hk1 hk2 hret
  obtain ⟨hx, hb, hml, hr, hlk, hown, hnm, hts⟩ := id hF
  have run : ∀ (k' : Nat × Nat) (pc' : Nat) (ls' st' : List V) (n' : Int) (M' : Mem) (H' : Heap) (locs' : List Loc) (lc' : Array Slot), SX zb b L xs D cs m k' pc' ls' st' n' M' Q → World zb L xs D cs M' n' H' → va_S (AWz zb) s.heap H' locs' → LocR zb b (am_M m).2.2.2.1 ls' lc' → k'.1 ≤ (rmM m).cells → k'.2 ≤ (rmM m).slots → W p l ev (rmM m) s mid args below meth c H' locs' k'.1 k'.2 Z (F0 mid pc' lc' (st'.map (cnc zb b))) := fun k' pc' ls' st' n' M' H' locs' lc' g1 g2 g3 g4 g5 g6 => g1 hm p l ev s mid args below meth c H' locs' lc' Z hF hSW g2 g3 g4 g5 g6 hret
  have run0 : ∀ (pc' : Nat) (st' : List V), SX zb b L xs D cs m k pc' ls st' n M Q → W p l ev (rmM m) s mid args below meth c H locs k.1 k.2 Z (F0 mid pc' lc (st'.map (cnc zb b))) := fun pc' st' g => run k pc' ls st' n M H locs lc g hWd hS hL hk1 hk2
  obtain ⟨q, rfl⟩ := hi
  obtain ⟨hl, h1, h2⟩ : len = 3 ∧ -32768 ≤ q ∧ q < 32768 := of_decide_eq_true hok
  subst hl
  exact lv_sipush (v := Int32.ofInt q) hx hb hdec (sip_of h1 h2) (run0 _ ((0, q) :: st) hw)

set_option maxHeartbeats 8000000 in
set_option maxRecDepth 20000 in
theorem sx_lconst {zb b L : Nat} {xs : Nat → Int32} {D : va_G} {cs : Nat → ClassId} {m : Nat} {k : Nat × Nat} {pc : Nat} {ls st : List V} {n : Int} {M : Mem} {Q : Post} {i : Instr} {len x w : Nat} {z y : Int} {tg : List Nat}
    (hm : m < NMT) (hdec : decode (am_M m).2.2.1 pc = .ok (i, len)) (hok : eok m (pc, i, len, x, w, z, y, tg) = true) (hi : ∃ q, i = .lconst q)
    (hw : wpX (SX zb b L xs D cs) m (pc, i, len, x, w, z, y, tg) k ls st n M Q) : SX zb b L xs D cs m k pc ls st n M Q := by
  intro _ p l ev s mid args below meth c H locs lc Z hF hSW hWd hS hL hk1 hk2 hret
  obtain ⟨hx, hb, hml, hr, hlk, hown, hnm, hts⟩ := id hF
  have run : ∀ (k' : Nat × Nat) (pc' : Nat) (ls' st' : List V) (n' : Int) (M' : Mem) (H' : Heap) (locs' : List Loc) (lc' : Array Slot), SX zb b L xs D cs m k' pc' ls' st' n' M' Q → World zb L xs D cs M' n' H' → va_S (AWz zb) s.heap H' locs' → LocR zb b (am_M m).2.2.2.1 ls' lc' → k'.1 ≤ (rmM m).cells → k'.2 ≤ (rmM m).slots → W p l ev (rmM m) s mid args below meth c H' locs' k'.1 k'.2 Z (F0 mid pc' lc' (st'.map (cnc zb b))) := fun k' pc' ls' st' n' M' H' locs' lc' g1 g2 g3 g4 g5 g6 => g1 hm p l ev s mid args below meth c H' locs' lc' Z hF hSW g2 g3 g4 g5 g6 hret
  have run0 : ∀ (pc' : Nat) (st' : List V), SX zb b L xs D cs m k pc' ls st' n M Q → W p l ev (rmM m) s mid args below meth c H locs k.1 k.2 Z (F0 mid pc' lc (st'.map (cnc zb b))) := fun pc' st' g => run k pc' ls st' n M H locs lc g hWd hS hL hk1 hk2
  obtain ⟨q, rfl⟩ := hi
  obtain ⟨hl, h1⟩ : len = 1 ∧ z = ((q : Nat) : Int) := of_decide_eq_true hok
  subst hl
  exact lv_lconst (v := Int64.ofInt z) hx hb hdec (by rw [h1]; exact (Int64.ofInt_eq_ofNat ..).symm) (run0 _ ((1, z) :: st) hw)

set_option maxHeartbeats 8000000 in
set_option maxRecDepth 20000 in
theorem sx_ldc {zb b L : Nat} {xs : Nat → Int32} {D : va_G} {cs : Nat → ClassId} {m : Nat} {k : Nat × Nat} {pc : Nat} {ls st : List V} {n : Int} {M : Mem} {Q : Post} {i : Instr} {len x w : Nat} {z y : Int} {tg : List Nat}
    (hm : m < NMT) (hdec : decode (am_M m).2.2.1 pc = .ok (i, len)) (hok : eok m (pc, i, len, x, w, z, y, tg) = true) (hi : ∃ q, i = .ldc q)
    (hw : wpX (SX zb b L xs D cs) m (pc, i, len, x, w, z, y, tg) k ls st n M Q) : SX zb b L xs D cs m k pc ls st n M Q := by
  intro _ p l ev s mid args below meth c H locs lc Z hF hSW hWd hS hL hk1 hk2 hret
  obtain ⟨hx, hb, hml, hr, hlk, hown, hnm, hts⟩ := id hF
  have run : ∀ (k' : Nat × Nat) (pc' : Nat) (ls' st' : List V) (n' : Int) (M' : Mem) (H' : Heap) (locs' : List Loc) (lc' : Array Slot), SX zb b L xs D cs m k' pc' ls' st' n' M' Q → World zb L xs D cs M' n' H' → va_S (AWz zb) s.heap H' locs' → LocR zb b (am_M m).2.2.2.1 ls' lc' → k'.1 ≤ (rmM m).cells → k'.2 ≤ (rmM m).slots → W p l ev (rmM m) s mid args below meth c H' locs' k'.1 k'.2 Z (F0 mid pc' lc' (st'.map (cnc zb b))) := fun k' pc' ls' st' n' M' H' locs' lc' g1 g2 g3 g4 g5 g6 => g1 hm p l ev s mid args below meth c H' locs' lc' Z hF hSW g2 g3 g4 g5 g6 hret
  have run0 : ∀ (pc' : Nat) (st' : List V), SX zb b L xs D cs m k pc' ls st' n M Q → W p l ev (rmM m) s mid args below meth c H locs k.1 k.2 Z (F0 mid pc' lc (st'.map (cnc zb b))) := fun pc' st' g => run k pc' ls st' n M H locs lc g hWd hS hL hk1 hk2
  obtain ⟨q, rfl⟩ := hi
  obtain ⟨hl, h1⟩ : len = 2 ∧ ((am_M m).1, q, z) ∈ lkK_L := of_decide_eq_true hok
  subst hl
  exact lv_ldc (v := Int32.ofInt z) hx hb hown (hts _ (List.mem_append_right _ (lkK_ok _ h1)) rfl) hdec (run0 _ ((0, z) :: st) hw)

set_option maxHeartbeats 8000000 in
set_option maxRecDepth 20000 in
theorem sx_ldc2 {zb b L : Nat} {xs : Nat → Int32} {D : va_G} {cs : Nat → ClassId} {m : Nat} {k : Nat × Nat} {pc : Nat} {ls st : List V} {n : Int} {M : Mem} {Q : Post} {i : Instr} {len x w : Nat} {z y : Int} {tg : List Nat}
    (hm : m < NMT) (hdec : decode (am_M m).2.2.1 pc = .ok (i, len)) (hok : eok m (pc, i, len, x, w, z, y, tg) = true) (hi : ∃ q, i = .ldc2_w q)
    (hw : wpX (SX zb b L xs D cs) m (pc, i, len, x, w, z, y, tg) k ls st n M Q) : SX zb b L xs D cs m k pc ls st n M Q := by
  intro _ p l ev s mid args below meth c H locs lc Z hF hSW hWd hS hL hk1 hk2 hret
  obtain ⟨hx, hb, hml, hr, hlk, hown, hnm, hts⟩ := id hF
  have run : ∀ (k' : Nat × Nat) (pc' : Nat) (ls' st' : List V) (n' : Int) (M' : Mem) (H' : Heap) (locs' : List Loc) (lc' : Array Slot), SX zb b L xs D cs m k' pc' ls' st' n' M' Q → World zb L xs D cs M' n' H' → va_S (AWz zb) s.heap H' locs' → LocR zb b (am_M m).2.2.2.1 ls' lc' → k'.1 ≤ (rmM m).cells → k'.2 ≤ (rmM m).slots → W p l ev (rmM m) s mid args below meth c H' locs' k'.1 k'.2 Z (F0 mid pc' lc' (st'.map (cnc zb b))) := fun k' pc' ls' st' n' M' H' locs' lc' g1 g2 g3 g4 g5 g6 => g1 hm p l ev s mid args below meth c H' locs' lc' Z hF hSW g2 g3 g4 g5 g6 hret
  have run0 : ∀ (pc' : Nat) (st' : List V), SX zb b L xs D cs m k pc' ls st' n M Q → W p l ev (rmM m) s mid args below meth c H locs k.1 k.2 Z (F0 mid pc' lc (st'.map (cnc zb b))) := fun pc' st' g => run k pc' ls st' n M H locs lc g hWd hS hL hk1 hk2
  obtain ⟨q, rfl⟩ := hi
  obtain ⟨hl, h1⟩ : len = 3 ∧ ((am_M m).1, q, z) ∈ lkJ_L := of_decide_eq_true hok
  subst hl
  exact lv_ldc2 (v := Int64.ofInt z) hx hb hown (hts _ (List.mem_append_right _ (lkJ_ok _ h1)) rfl) hdec (run0 _ ((1, z) :: st) hw)

set_option maxHeartbeats 8000000 in
set_option maxRecDepth 20000 in
theorem sx_iload {zb b L : Nat} {xs : Nat → Int32} {D : va_G} {cs : Nat → ClassId} {m : Nat} {k : Nat × Nat} {pc : Nat} {ls st : List V} {n : Int} {M : Mem} {Q : Post} {i : Instr} {len x w : Nat} {z y : Int} {tg : List Nat}
    (hm : m < NMT) (hdec : decode (am_M m).2.2.1 pc = .ok (i, len)) (hok : eok m (pc, i, len, x, w, z, y, tg) = true) (hi : ∃ q, i = .iload q)
    (hw : wpX (SX zb b L xs D cs) m (pc, i, len, x, w, z, y, tg) k ls st n M Q) : SX zb b L xs D cs m k pc ls st n M Q := by
  intro _ p l ev s mid args below meth c H locs lc Z hF hSW hWd hS hL hk1 hk2 hret
  obtain ⟨hx, hb, hml, hr, hlk, hown, hnm, hts⟩ := id hF
  have run : ∀ (k' : Nat × Nat) (pc' : Nat) (ls' st' : List V) (n' : Int) (M' : Mem) (H' : Heap) (locs' : List Loc) (lc' : Array Slot), SX zb b L xs D cs m k' pc' ls' st' n' M' Q → World zb L xs D cs M' n' H' → va_S (AWz zb) s.heap H' locs' → LocR zb b (am_M m).2.2.2.1 ls' lc' → k'.1 ≤ (rmM m).cells → k'.2 ≤ (rmM m).slots → W p l ev (rmM m) s mid args below meth c H' locs' k'.1 k'.2 Z (F0 mid pc' lc' (st'.map (cnc zb b))) := fun k' pc' ls' st' n' M' H' locs' lc' g1 g2 g3 g4 g5 g6 => g1 hm p l ev s mid args below meth c H' locs' lc' Z hF hSW g2 g3 g4 g5 g6 hret
  have run0 : ∀ (pc' : Nat) (st' : List V), SX zb b L xs D cs m k pc' ls st' n M Q → W p l ev (rmM m) s mid args below meth c H locs k.1 k.2 Z (F0 mid pc' lc (st'.map (cnc zb b))) := fun pc' st' g => run k pc' ls st' n M H locs lc g hWd hS hL hk1 hk2
  obtain ⟨q, rfl⟩ := hi
  obtain ⟨hl, h1⟩ : len = 2 ∧ q = x := of_decide_eq_true hok
  subst hl
  obtain ⟨e0, hw⟩ : (lget x ls).1 = 0 ∧ _ := hw
  have hg := hL.2.2.2 x (by rw [e0]; decide)
  have hw2 := run0 _ _ hw
  generalize lget x ls = u at hg hw2 e0
  obtain ⟨t, v⟩ := u
  obtain rfl : t = 0 := e0
  exact lv_iload hx hb hdec (h1 ▸ hg) hw2

set_option maxHeartbeats 8000000 in
set_option maxRecDepth 20000 in
theorem sx_iload_n {zb b L : Nat} {xs : Nat → Int32} {D : va_G} {cs : Nat → ClassId} {m : Nat} {k : Nat × Nat} {pc : Nat} {ls st : List V} {n : Int} {M : Mem} {Q : Post} {i : Instr} {len x w : Nat} {z y : Int} {tg : List Nat}
    (hm : m < NMT) (hdec : decode (am_M m).2.2.1 pc = .ok (i, len)) (hok : eok m (pc, i, len, x, w, z, y, tg) = true) (hi : ∃ q, i = .iload_n q)
    (hw : wpX (SX zb b L xs D cs) m (pc, i, len, x, w, z, y, tg) k ls st n M Q) : SX zb b L xs D cs m k pc ls st n M Q := by
  intro _ p l ev s mid args below meth c H locs lc Z hF hSW hWd hS hL hk1 hk2 hret
  obtain ⟨hx, hb, hml, hr, hlk, hown, hnm, hts⟩ := id hF
  have run : ∀ (k' : Nat × Nat) (pc' : Nat) (ls' st' : List V) (n' : Int) (M' : Mem) (H' : Heap) (locs' : List Loc) (lc' : Array Slot), SX zb b L xs D cs m k' pc' ls' st' n' M' Q → World zb L xs D cs M' n' H' → va_S (AWz zb) s.heap H' locs' → LocR zb b (am_M m).2.2.2.1 ls' lc' → k'.1 ≤ (rmM m).cells → k'.2 ≤ (rmM m).slots → W p l ev (rmM m) s mid args below meth c H' locs' k'.1 k'.2 Z (F0 mid pc' lc' (st'.map (cnc zb b))) := fun k' pc' ls' st' n' M' H' locs' lc' g1 g2 g3 g4 g5 g6 => g1 hm p l ev s mid args below meth c H' locs' lc' Z hF hSW g2 g3 g4 g5 g6 hret
  have run0 : ∀ (pc' : Nat) (st' : List V), SX zb b L xs D cs m k pc' ls st' n M Q → W p l ev (rmM m) s mid args below meth c H locs k.1 k.2 Z (F0 mid pc' lc (st'.map (cnc zb b))) := fun pc' st' g => run k pc' ls st' n M H locs lc g hWd hS hL hk1 hk2
  obtain ⟨q, rfl⟩ := hi
  obtain ⟨hl, h1⟩ : len = 1 ∧ (q : Nat) = x := of_decide_eq_true hok
  subst hl
  obtain ⟨e0, hw⟩ : (lget x ls).1 = 0 ∧ _ := hw
  have hg := hL.2.2.2 x (by rw [e0]; decide)
  have hw2 := run0 _ _ hw
  generalize lget x ls = u at hg hw2 e0
  obtain ⟨t, v⟩ := u
  obtain rfl : t = 0 := e0
  exact lv_iload_n hx hb hdec h1 hg hw2

set_option maxHeartbeats 8000000 in
set_option maxRecDepth 20000 in
theorem sx_lload {zb b L : Nat} {xs : Nat → Int32} {D : va_G} {cs : Nat → ClassId} {m : Nat} {k : Nat × Nat} {pc : Nat} {ls st : List V} {n : Int} {M : Mem} {Q : Post} {i : Instr} {len x w : Nat} {z y : Int} {tg : List Nat}
    (hm : m < NMT) (hdec : decode (am_M m).2.2.1 pc = .ok (i, len)) (hok : eok m (pc, i, len, x, w, z, y, tg) = true) (hi : ∃ q, i = .lload q)
    (hw : wpX (SX zb b L xs D cs) m (pc, i, len, x, w, z, y, tg) k ls st n M Q) : SX zb b L xs D cs m k pc ls st n M Q := by
  intro _ p l ev s mid args below meth c H locs lc Z hF hSW hWd hS hL hk1 hk2 hret
  obtain ⟨hx, hb, hml, hr, hlk, hown, hnm, hts⟩ := id hF
  have run : ∀ (k' : Nat × Nat) (pc' : Nat) (ls' st' : List V) (n' : Int) (M' : Mem) (H' : Heap) (locs' : List Loc) (lc' : Array Slot), SX zb b L xs D cs m k' pc' ls' st' n' M' Q → World zb L xs D cs M' n' H' → va_S (AWz zb) s.heap H' locs' → LocR zb b (am_M m).2.2.2.1 ls' lc' → k'.1 ≤ (rmM m).cells → k'.2 ≤ (rmM m).slots → W p l ev (rmM m) s mid args below meth c H' locs' k'.1 k'.2 Z (F0 mid pc' lc' (st'.map (cnc zb b))) := fun k' pc' ls' st' n' M' H' locs' lc' g1 g2 g3 g4 g5 g6 => g1 hm p l ev s mid args below meth c H' locs' lc' Z hF hSW g2 g3 g4 g5 g6 hret
  have run0 : ∀ (pc' : Nat) (st' : List V), SX zb b L xs D cs m k pc' ls st' n M Q → W p l ev (rmM m) s mid args below meth c H locs k.1 k.2 Z (F0 mid pc' lc (st'.map (cnc zb b))) := fun pc' st' g => run k pc' ls st' n M H locs lc g hWd hS hL hk1 hk2
  obtain ⟨q, rfl⟩ := hi
  obtain ⟨hl, h1⟩ : len = 2 ∧ q = x := of_decide_eq_true hok
  subst hl
  obtain ⟨e0, hw⟩ : (lget x ls).1 = 1 ∧ _ := hw
  have hg := hL.2.2.2 x (by rw [e0]; decide)
  have hw2 := run0 _ _ hw
  generalize lget x ls = u at hg hw2 e0
  obtain ⟨t, v⟩ := u
  obtain rfl : t = 1 := e0
  exact lv_lload hx hb hdec (h1 ▸ hg) hw2

set_option maxHeartbeats 8000000 in
set_option maxRecDepth 20000 in
theorem sx_lload_n {zb b L : Nat} {xs : Nat → Int32} {D : va_G} {cs : Nat → ClassId} {m : Nat} {k : Nat × Nat} {pc : Nat} {ls st : List V} {n : Int} {M : Mem} {Q : Post} {i : Instr} {len x w : Nat} {z y : Int} {tg : List Nat}
    (hm : m < NMT) (hdec : decode (am_M m).2.2.1 pc = .ok (i, len)) (hok : eok m (pc, i, len, x, w, z, y, tg) = true) (hi : ∃ q, i = .lload_n q)
    (hw : wpX (SX zb b L xs D cs) m (pc, i, len, x, w, z, y, tg) k ls st n M Q) : SX zb b L xs D cs m k pc ls st n M Q := by
  intro _ p l ev s mid args below meth c H locs lc Z hF hSW hWd hS hL hk1 hk2 hret
  obtain ⟨hx, hb, hml, hr, hlk, hown, hnm, hts⟩ := id hF
  have run : ∀ (k' : Nat × Nat) (pc' : Nat) (ls' st' : List V) (n' : Int) (M' : Mem) (H' : Heap) (locs' : List Loc) (lc' : Array Slot), SX zb b L xs D cs m k' pc' ls' st' n' M' Q → World zb L xs D cs M' n' H' → va_S (AWz zb) s.heap H' locs' → LocR zb b (am_M m).2.2.2.1 ls' lc' → k'.1 ≤ (rmM m).cells → k'.2 ≤ (rmM m).slots → W p l ev (rmM m) s mid args below meth c H' locs' k'.1 k'.2 Z (F0 mid pc' lc' (st'.map (cnc zb b))) := fun k' pc' ls' st' n' M' H' locs' lc' g1 g2 g3 g4 g5 g6 => g1 hm p l ev s mid args below meth c H' locs' lc' Z hF hSW g2 g3 g4 g5 g6 hret
  have run0 : ∀ (pc' : Nat) (st' : List V), SX zb b L xs D cs m k pc' ls st' n M Q → W p l ev (rmM m) s mid args below meth c H locs k.1 k.2 Z (F0 mid pc' lc (st'.map (cnc zb b))) := fun pc' st' g => run k pc' ls st' n M H locs lc g hWd hS hL hk1 hk2
  obtain ⟨q, rfl⟩ := hi
  obtain ⟨hl, h1⟩ : len = 1 ∧ (q : Nat) = x := of_decide_eq_true hok
  subst hl
  obtain ⟨e0, hw⟩ : (lget x ls).1 = 1 ∧ _ := hw
  have hg := hL.2.2.2 x (by rw [e0]; decide)
  have hw2 := run0 _ _ hw
  generalize lget x ls = u at hg hw2 e0
  obtain ⟨t, v⟩ := u
  obtain rfl : t = 1 := e0
  exact lv_lload_n hx hb hdec h1 hg hw2

set_option maxHeartbeats 8000000 in
set_option maxRecDepth 20000 in
theorem sx_aload {zb b L : Nat} {xs : Nat → Int32} {D : va_G} {cs : Nat → ClassId} {m : Nat} {k : Nat × Nat} {pc : Nat} {ls st : List V} {n : Int} {M : Mem} {Q : Post} {i : Instr} {len x w : Nat} {z y : Int} {tg : List Nat}
    (hm : m < NMT) (hdec : decode (am_M m).2.2.1 pc = .ok (i, len)) (hok : eok m (pc, i, len, x, w, z, y, tg) = true) (hi : ∃ q, i = .aload q)
    (hw : wpX (SX zb b L xs D cs) m (pc, i, len, x, w, z, y, tg) k ls st n M Q) : SX zb b L xs D cs m k pc ls st n M Q := by
  intro _ p l ev s mid args below meth c H locs lc Z hF hSW hWd hS hL hk1 hk2 hret
  obtain ⟨hx, hb, hml, hr, hlk, hown, hnm, hts⟩ := id hF
  have run : ∀ (k' : Nat × Nat) (pc' : Nat) (ls' st' : List V) (n' : Int) (M' : Mem) (H' : Heap) (locs' : List Loc) (lc' : Array Slot), SX zb b L xs D cs m k' pc' ls' st' n' M' Q → World zb L xs D cs M' n' H' → va_S (AWz zb) s.heap H' locs' → LocR zb b (am_M m).2.2.2.1 ls' lc' → k'.1 ≤ (rmM m).cells → k'.2 ≤ (rmM m).slots → W p l ev (rmM m) s mid args below meth c H' locs' k'.1 k'.2 Z (F0 mid pc' lc' (st'.map (cnc zb b))) := fun k' pc' ls' st' n' M' H' locs' lc' g1 g2 g3 g4 g5 g6 => g1 hm p l ev s mid args below meth c H' locs' lc' Z hF hSW g2 g3 g4 g5 g6 hret
  have run0 : ∀ (pc' : Nat) (st' : List V), SX zb b L xs D cs m k pc' ls st' n M Q → W p l ev (rmM m) s mid args below meth c H locs k.1 k.2 Z (F0 mid pc' lc (st'.map (cnc zb b))) := fun pc' st' g => run k pc' ls st' n M H locs lc g hWd hS hL hk1 hk2
  obtain ⟨q, rfl⟩ := hi
  obtain ⟨hl, h1⟩ : len = 2 ∧ q = x := of_decide_eq_true hok
  subst hl
  obtain ⟨e0, hw⟩ : ((lget x ls).1 = 2 ∨ (lget x ls).1 = 3) ∧ _ := hw
  have hg := hL.2.2.2 x (by rcases e0 with e | e <;> rw [e] <;> decide)
  have hw2 := run0 _ _ hw
  generalize lget x ls = u at hg hw2 e0
  obtain ⟨t, v⟩ := u
  rcases e0 with e0 | e0
  · obtain rfl : t = 2 := e0
    exact lv_aload hx hb hdec (h1 ▸ hg) hw2
  · obtain rfl : t = 3 := e0
    exact lv_aload hx hb hdec (h1 ▸ hg) hw2

set_option maxHeartbeats 8000000 in
set_option maxRecDepth 20000 in
theorem sx_aload_n {zb b L : Nat} {xs : Nat → Int32} {D : va_G} {cs : Nat → ClassId} {m : Nat} {k : Nat × Nat} {pc : Nat} {ls st : List V} {n : Int} {M : Mem} {Q : Post} {i : Instr} {len x w : Nat} {z y : Int} {tg : List Nat}
    (hm : m < NMT) (hdec : decode (am_M m).2.2.1 pc = .ok (i, len)) (hok : eok m (pc, i, len, x, w, z, y, tg) = true) (hi : ∃ q, i = .aload_n q)
    (hw : wpX (SX zb b L xs D cs) m (pc, i, len, x, w, z, y, tg) k ls st n M Q) : SX zb b L xs D cs m k pc ls st n M Q := by
  intro _ p l ev s mid args below meth c H locs lc Z hF hSW hWd hS hL hk1 hk2 hret
  obtain ⟨hx, hb, hml, hr, hlk, hown, hnm, hts⟩ := id hF
  have run : ∀ (k' : Nat × Nat) (pc' : Nat) (ls' st' : List V) (n' : Int) (M' : Mem) (H' : Heap) (locs' : List Loc) (lc' : Array Slot), SX zb b L xs D cs m k' pc' ls' st' n' M' Q → World zb L xs D cs M' n' H' → va_S (AWz zb) s.heap H' locs' → LocR zb b (am_M m).2.2.2.1 ls' lc' → k'.1 ≤ (rmM m).cells → k'.2 ≤ (rmM m).slots → W p l ev (rmM m) s mid args below meth c H' locs' k'.1 k'.2 Z (F0 mid pc' lc' (st'.map (cnc zb b))) := fun k' pc' ls' st' n' M' H' locs' lc' g1 g2 g3 g4 g5 g6 => g1 hm p l ev s mid args below meth c H' locs' lc' Z hF hSW g2 g3 g4 g5 g6 hret
  have run0 : ∀ (pc' : Nat) (st' : List V), SX zb b L xs D cs m k pc' ls st' n M Q → W p l ev (rmM m) s mid args below meth c H locs k.1 k.2 Z (F0 mid pc' lc (st'.map (cnc zb b))) := fun pc' st' g => run k pc' ls st' n M H locs lc g hWd hS hL hk1 hk2
  obtain ⟨q, rfl⟩ := hi
  obtain ⟨hl, h1⟩ : len = 1 ∧ (q : Nat) = x := of_decide_eq_true hok
  subst hl
  obtain ⟨e0, hw⟩ : ((lget x ls).1 = 2 ∨ (lget x ls).1 = 3) ∧ _ := hw
  have hg := hL.2.2.2 x (by rcases e0 with e | e <;> rw [e] <;> decide)
  have hw2 := run0 _ _ hw
  generalize lget x ls = u at hg hw2 e0
  obtain ⟨t, v⟩ := u
  rcases e0 with e0 | e0
  · obtain rfl : t = 2 := e0
    exact lv_aload_n hx hb hdec h1 hg hw2
  · obtain rfl : t = 3 := e0
    exact lv_aload_n hx hb hdec h1 hg hw2

set_option maxHeartbeats 8000000 in
set_option maxRecDepth 20000 in
theorem sx_istore {zb b L : Nat} {xs : Nat → Int32} {D : va_G} {cs : Nat → ClassId} {m : Nat} {k : Nat × Nat} {pc : Nat} {ls st : List V} {n : Int} {M : Mem} {Q : Post} {i : Instr} {len x w : Nat} {z y : Int} {tg : List Nat}
    (hm : m < NMT) (hdec : decode (am_M m).2.2.1 pc = .ok (i, len)) (hok : eok m (pc, i, len, x, w, z, y, tg) = true) (hi : ∃ q, i = .istore q)
    (hw : wpX (SX zb b L xs D cs) m (pc, i, len, x, w, z, y, tg) k ls st n M Q) : SX zb b L xs D cs m k pc ls st n M Q := by
  intro _ p l ev s mid args below meth c H locs lc Z hF hSW hWd hS hL hk1 hk2 hret
  obtain ⟨hx, hb, hml, hr, hlk, hown, hnm, hts⟩ := id hF
  have run : ∀ (k' : Nat × Nat) (pc' : Nat) (ls' st' : List V) (n' : Int) (M' : Mem) (H' : Heap) (locs' : List Loc) (lc' : Array Slot), SX zb b L xs D cs m k' pc' ls' st' n' M' Q → World zb L xs D cs M' n' H' → va_S (AWz zb) s.heap H' locs' → LocR zb b (am_M m).2.2.2.1 ls' lc' → k'.1 ≤ (rmM m).cells → k'.2 ≤ (rmM m).slots → W p l ev (rmM m) s mid args below meth c H' locs' k'.1 k'.2 Z (F0 mid pc' lc' (st'.map (cnc zb b))) := fun k' pc' ls' st' n' M' H' locs' lc' g1 g2 g3 g4 g5 g6 => g1 hm p l ev s mid args below meth c H' locs' lc' Z hF hSW g2 g3 g4 g5 g6 hret
  have run0 : ∀ (pc' : Nat) (st' : List V), SX zb b L xs D cs m k pc' ls st' n M Q → W p l ev (rmM m) s mid args below meth c H locs k.1 k.2 Z (F0 mid pc' lc (st'.map (cnc zb b))) := fun pc' st' g => run k pc' ls st' n M H locs lc g hWd hS hL hk1 hk2
  obtain ⟨q, rfl⟩ := hi
  obtain ⟨hl, h1, h2⟩ : len = 2 ∧ q = x ∧ x < (am_M m).2.2.2.1 := of_decide_eq_true hok
  subst hl
  subst h1
  rcases st with _ | ⟨⟨t1, x1⟩, r⟩
  · exact False.elim hw
  · obtain ⟨e1, hw⟩ : t1 = 0 ∧ _ := hw
    subst e1
    show W p l ev (rmM m) s mid args below meth c H locs k.1 k.2 Z (F0 mid pc lc (.int (Int32.ofInt x1) :: List.map (cnc zb b) r))
    refine lv_istore hx hb hdec hL.lv h2 rfl (fun lc' hl' => ?_)
    exact run k _ _ r n M H locs lc' hw hWd hS (LocR.st1 (v := (0, x1)) hL h2 hl') hk1 hk2

set_option maxHeartbeats 8000000 in
set_option maxRecDepth 20000 in
theorem sx_istore_n {zb b L : Nat} {xs : Nat → Int32} {D : va_G} {cs : Nat → ClassId} {m : Nat} {k : Nat × Nat} {pc : Nat} {ls st : List V} {n : Int} {M : Mem} {Q : Post} {i : Instr} {len x w : Nat} {z y : Int} {tg : List Nat}
    (hm : m < NMT) (hdec : decode (am_M m).2.2.1 pc = .ok (i, len)) (hok : eok m (pc, i, len, x, w, z, y, tg) = true) (hi : ∃ q, i = .istore_n q)
    (hw : wpX (SX zb b L xs D cs) m (pc, i, len, x, w, z, y, tg) k ls st n M Q) : SX zb b L xs D cs m k pc ls st n M Q := by
  intro _ p l ev s mid args below meth c H locs lc Z hF hSW hWd hS hL hk1 hk2 hret
  obtain ⟨hx, hb, hml, hr, hlk, hown, hnm, hts⟩ := id hF
  have run : ∀ (k' : Nat × Nat) (pc' : Nat) (ls' st' : List V) (n' : Int) (M' : Mem) (H' : Heap) (locs' : List Loc) (lc' : Array Slot), SX zb b L xs D cs m k' pc' ls' st' n' M' Q → World zb L xs D cs M' n' H' → va_S (AWz zb) s.heap H' locs' → LocR zb b (am_M m).2.2.2.1 ls' lc' → k'.1 ≤ (rmM m).cells → k'.2 ≤ (rmM m).slots → W p l ev (rmM m) s mid args below meth c H' locs' k'.1 k'.2 Z (F0 mid pc' lc' (st'.map (cnc zb b))) := fun k' pc' ls' st' n' M' H' locs' lc' g1 g2 g3 g4 g5 g6 => g1 hm p l ev s mid args below meth c H' locs' lc' Z hF hSW g2 g3 g4 g5 g6 hret
  have run0 : ∀ (pc' : Nat) (st' : List V), SX zb b L xs D cs m k pc' ls st' n M Q → W p l ev (rmM m) s mid args below meth c H locs k.1 k.2 Z (F0 mid pc' lc (st'.map (cnc zb b))) := fun pc' st' g => run k pc' ls st' n M H locs lc g hWd hS hL hk1 hk2
  obtain ⟨q, rfl⟩ := hi
  obtain ⟨hl, h1, h2⟩ : len = 1 ∧ (q : Nat) = x ∧ x < (am_M m).2.2.2.1 := of_decide_eq_true hok
  subst hl
  rcases st with _ | ⟨⟨t1, x1⟩, r⟩
  · exact False.elim hw
  · obtain ⟨e1, hw⟩ : t1 = 0 ∧ _ := hw
    subst e1
    show W p l ev (rmM m) s mid args below meth c H locs k.1 k.2 Z (F0 mid pc lc (.int (Int32.ofInt x1) :: List.map (cnc zb b) r))
    refine lv_istore_n hx hb hdec h1 hL.lv h2 rfl (fun lc' hl' => ?_)
    exact run k _ _ r n M H locs lc' hw hWd hS (LocR.st1 (v := (0, x1)) hL h2 hl') hk1 hk2

set_option maxHeartbeats 8000000 in
set_option maxRecDepth 20000 in
theorem sx_astore {zb b L : Nat} {xs : Nat → Int32} {D : va_G} {cs : Nat → ClassId} {m : Nat} {k : Nat × Nat} {pc : Nat} {ls st : List V} {n : Int} {M : Mem} {Q : Post} {i : Instr} {len x w : Nat} {z y : Int} {tg : List Nat}
    (hm : m < NMT) (hdec : decode (am_M m).2.2.1 pc = .ok (i, len)) (hok : eok m (pc, i, len, x, w, z, y, tg) = true) (hi : ∃ q, i = .astore q)
    (hw : wpX (SX zb b L xs D cs) m (pc, i, len, x, w, z, y, tg) k ls st n M Q) : SX zb b L xs D cs m k pc ls st n M Q := by
  intro _ p l ev s mid args below meth c H locs lc Z hF hSW hWd hS hL hk1 hk2 hret
  obtain ⟨hx, hb, hml, hr, hlk, hown, hnm, hts⟩ := id hF
  have run : ∀ (k' : Nat × Nat) (pc' : Nat) (ls' st' : List V) (n' : Int) (M' : Mem) (H' : Heap) (locs' : List Loc) (lc' : Array Slot), SX zb b L xs D cs m k' pc' ls' st' n' M' Q → World zb L xs D cs M' n' H' → va_S (AWz zb) s.heap H' locs' → LocR zb b (am_M m).2.2.2.1 ls' lc' → k'.1 ≤ (rmM m).cells → k'.2 ≤ (rmM m).slots → W p l ev (rmM m) s mid args below meth c H' locs' k'.1 k'.2 Z (F0 mid pc' lc' (st'.map (cnc zb b))) := fun k' pc' ls' st' n' M' H' locs' lc' g1 g2 g3 g4 g5 g6 => g1 hm p l ev s mid args below meth c H' locs' lc' Z hF hSW g2 g3 g4 g5 g6 hret
  have run0 : ∀ (pc' : Nat) (st' : List V), SX zb b L xs D cs m k pc' ls st' n M Q → W p l ev (rmM m) s mid args below meth c H locs k.1 k.2 Z (F0 mid pc' lc (st'.map (cnc zb b))) := fun pc' st' g => run k pc' ls st' n M H locs lc g hWd hS hL hk1 hk2
  obtain ⟨q, rfl⟩ := hi
  obtain ⟨hl, h1, h2⟩ : len = 2 ∧ q = x ∧ x < (am_M m).2.2.2.1 := of_decide_eq_true hok
  subst hl
  subst h1
  rcases st with _ | ⟨⟨t1, x1⟩, r⟩
  · exact False.elim hw
  · obtain ⟨e1, hw⟩ : t1 = 2 ∧ _ := hw
    subst e1
    show W p l ev (rmM m) s mid args below meth c H locs k.1 k.2 Z (F0 mid pc lc (.ref (zb + Int.toNat x1) :: List.map (cnc zb b) r))
    refine lv_astore hx hb hdec hL.lv h2 rfl (fun lc' hl' => ?_)
    exact run k _ _ r n M H locs lc' hw hWd hS (LocR.st1 (v := (2, x1)) hL h2 hl') hk1 hk2

set_option maxHeartbeats 8000000 in
set_option maxRecDepth 20000 in
theorem sx_astore_n {zb b L : Nat} {xs : Nat → Int32} {D : va_G} {cs : Nat → ClassId} {m : Nat} {k : Nat × Nat} {pc : Nat} {ls st : List V} {n : Int} {M : Mem} {Q : Post} {i : Instr} {len x w : Nat} {z y : Int} {tg : List Nat}
    (hm : m < NMT) (hdec : decode (am_M m).2.2.1 pc = .ok (i, len)) (hok : eok m (pc, i, len, x, w, z, y, tg) = true) (hi : ∃ q, i = .astore_n q)
    (hw : wpX (SX zb b L xs D cs) m (pc, i, len, x, w, z, y, tg) k ls st n M Q) : SX zb b L xs D cs m k pc ls st n M Q := by
  intro _ p l ev s mid args below meth c H locs lc Z hF hSW hWd hS hL hk1 hk2 hret
  obtain ⟨hx, hb, hml, hr, hlk, hown, hnm, hts⟩ := id hF
  have run : ∀ (k' : Nat × Nat) (pc' : Nat) (ls' st' : List V) (n' : Int) (M' : Mem) (H' : Heap) (locs' : List Loc) (lc' : Array Slot), SX zb b L xs D cs m k' pc' ls' st' n' M' Q → World zb L xs D cs M' n' H' → va_S (AWz zb) s.heap H' locs' → LocR zb b (am_M m).2.2.2.1 ls' lc' → k'.1 ≤ (rmM m).cells → k'.2 ≤ (rmM m).slots → W p l ev (rmM m) s mid args below meth c H' locs' k'.1 k'.2 Z (F0 mid pc' lc' (st'.map (cnc zb b))) := fun k' pc' ls' st' n' M' H' locs' lc' g1 g2 g3 g4 g5 g6 => g1 hm p l ev s mid args below meth c H' locs' lc' Z hF hSW g2 g3 g4 g5 g6 hret
  have run0 : ∀ (pc' : Nat) (st' : List V), SX zb b L xs D cs m k pc' ls st' n M Q → W p l ev (rmM m) s mid args below meth c H locs k.1 k.2 Z (F0 mid pc' lc (st'.map (cnc zb b))) := fun pc' st' g => run k pc' ls st' n M H locs lc g hWd hS hL hk1 hk2
  obtain ⟨q, rfl⟩ := hi
  obtain ⟨hl, h1, h2⟩ : len = 1 ∧ (q : Nat) = x ∧ x < (am_M m).2.2.2.1 := of_decide_eq_true hok
  subst hl
  rcases st with _ | ⟨⟨t1, x1⟩, r⟩
  · exact False.elim hw
  · obtain ⟨e1, hw⟩ : t1 = 2 ∧ _ := hw
    subst e1
    show W p l ev (rmM m) s mid args below meth c H locs k.1 k.2 Z (F0 mid pc lc (.ref (zb + Int.toNat x1) :: List.map (cnc zb b) r))
    refine lv_astore_n hx hb hdec h1 hL.lv h2 rfl (fun lc' hl' => ?_)
    exact run k _ _ r n M H locs lc' hw hWd hS (LocR.st1 (v := (2, x1)) hL h2 hl') hk1 hk2

set_option maxHeartbeats 8000000 in
set_option maxRecDepth 20000 in
theorem sx_lstore {zb b L : Nat} {xs : Nat → Int32} {D : va_G} {cs : Nat → ClassId} {m : Nat} {k : Nat × Nat} {pc : Nat} {ls st : List V} {n : Int} {M : Mem} {Q : Post} {i : Instr} {len x w : Nat} {z y : Int} {tg : List Nat}
    (hm : m < NMT) (hdec : decode (am_M m).2.2.1 pc = .ok (i, len)) (hok : eok m (pc, i, len, x, w, z, y, tg) = true) (hi : ∃ q, i = .lstore q)
    (hw : wpX (SX zb b L xs D cs) m (pc, i, len, x, w, z, y, tg) k ls st n M Q) : SX zb b L xs D cs m k pc ls st n M Q := by
  intro _ p l ev s mid args below meth c H locs lc Z hF hSW hWd hS hL hk1 hk2 hret
  obtain ⟨hx, hb, hml, hr, hlk, hown, hnm, hts⟩ := id hF
  have run : ∀ (k' : Nat × Nat) (pc' : Nat) (ls' st' : List V) (n' : Int) (M' : Mem) (H' : Heap) (locs' : List Loc) (lc' : Array Slot), SX zb b L xs D cs m k' pc' ls' st' n' M' Q → World zb L xs D cs M' n' H' → va_S (AWz zb) s.heap H' locs' → LocR zb b (am_M m).2.2.2.1 ls' lc' → k'.1 ≤ (rmM m).cells → k'.2 ≤ (rmM m).slots → W p l ev (rmM m) s mid args below meth c H' locs' k'.1 k'.2 Z (F0 mid pc' lc' (st'.map (cnc zb b))) := fun k' pc' ls' st' n' M' H' locs' lc' g1 g2 g3 g4 g5 g6 => g1 hm p l ev s mid args below meth c H' locs' lc' Z hF hSW g2 g3 g4 g5 g6 hret
  have run0 : ∀ (pc' : Nat) (st' : List V), SX zb b L xs D cs m k pc' ls st' n M Q → W p l ev (rmM m) s mid args below meth c H locs k.1 k.2 Z (F0 mid pc' lc (st'.map (cnc zb b))) := fun pc' st' g => run k pc' ls st' n M H locs lc g hWd hS hL hk1 hk2
  obtain ⟨q, rfl⟩ := hi
  obtain ⟨hl, h1, h2⟩ : len = 2 ∧ q = x ∧ x + 1 < (am_M m).2.2.2.1 := of_decide_eq_true hok
  subst hl
  subst h1
  rcases st with _ | ⟨⟨t1, x1⟩, r⟩
  · exact False.elim hw
  · obtain ⟨e1, hw⟩ : t1 = 1 ∧ _ := hw
    subst e1
    show W p l ev (rmM m) s mid args below meth c H locs k.1 k.2 Z (F0 mid pc lc (.long (Int64.ofInt x1) :: List.map (cnc zb b) r))
    refine lv_lstore hx hb hdec hL.lv h2 rfl (fun lc' hl' => ?_)
    exact run k _ _ r n M H locs lc' hw hWd hS (LocR.st2 (v := (1, x1)) hL h2 hl') hk1 hk2

set_option maxHeartbeats 8000000 in
set_option maxRecDepth 20000 in
theorem sx_lstore_n {zb b L : Nat} {xs : Nat → Int32} {D : va_G} {cs : Nat → ClassId} {m : Nat} {k : Nat × Nat} {pc : Nat} {ls st : List V} {n : Int} {M : Mem} {Q : Post} {i : Instr} {len x w : Nat} {z y : Int} {tg : List Nat}
    (hm : m < NMT) (hdec : decode (am_M m).2.2.1 pc = .ok (i, len)) (hok : eok m (pc, i, len, x, w, z, y, tg) = true) (hi : ∃ q, i = .lstore_n q)
    (hw : wpX (SX zb b L xs D cs) m (pc, i, len, x, w, z, y, tg) k ls st n M Q) : SX zb b L xs D cs m k pc ls st n M Q := by
  intro _ p l ev s mid args below meth c H locs lc Z hF hSW hWd hS hL hk1 hk2 hret
  obtain ⟨hx, hb, hml, hr, hlk, hown, hnm, hts⟩ := id hF
  have run : ∀ (k' : Nat × Nat) (pc' : Nat) (ls' st' : List V) (n' : Int) (M' : Mem) (H' : Heap) (locs' : List Loc) (lc' : Array Slot), SX zb b L xs D cs m k' pc' ls' st' n' M' Q → World zb L xs D cs M' n' H' → va_S (AWz zb) s.heap H' locs' → LocR zb b (am_M m).2.2.2.1 ls' lc' → k'.1 ≤ (rmM m).cells → k'.2 ≤ (rmM m).slots → W p l ev (rmM m) s mid args below meth c H' locs' k'.1 k'.2 Z (F0 mid pc' lc' (st'.map (cnc zb b))) := fun k' pc' ls' st' n' M' H' locs' lc' g1 g2 g3 g4 g5 g6 => g1 hm p l ev s mid args below meth c H' locs' lc' Z hF hSW g2 g3 g4 g5 g6 hret
  have run0 : ∀ (pc' : Nat) (st' : List V), SX zb b L xs D cs m k pc' ls st' n M Q → W p l ev (rmM m) s mid args below meth c H locs k.1 k.2 Z (F0 mid pc' lc (st'.map (cnc zb b))) := fun pc' st' g => run k pc' ls st' n M H locs lc g hWd hS hL hk1 hk2
  obtain ⟨q, rfl⟩ := hi
  obtain ⟨hl, h1, h2⟩ : len = 1 ∧ (q : Nat) = x ∧ x + 1 < (am_M m).2.2.2.1 := of_decide_eq_true hok
  subst hl
  rcases st with _ | ⟨⟨t1, x1⟩, r⟩
  · exact False.elim hw
  · obtain ⟨e1, hw⟩ : t1 = 1 ∧ _ := hw
    subst e1
    show W p l ev (rmM m) s mid args below meth c H locs k.1 k.2 Z (F0 mid pc lc (.long (Int64.ofInt x1) :: List.map (cnc zb b) r))
    refine lv_lstore_n hx hb hdec h1 hL.lv h2 rfl (fun lc' hl' => ?_)
    exact run k _ _ r n M H locs lc' hw hWd hS (LocR.st2 (v := (1, x1)) hL h2 hl') hk1 hk2

set_option maxHeartbeats 8000000 in
set_option maxRecDepth 20000 in
theorem sx_iinc {zb b L : Nat} {xs : Nat → Int32} {D : va_G} {cs : Nat → ClassId} {m : Nat} {k : Nat × Nat} {pc : Nat} {ls st : List V} {n : Int} {M : Mem} {Q : Post} {i : Instr} {len x w : Nat} {z y : Int} {tg : List Nat}
    (hm : m < NMT) (hdec : decode (am_M m).2.2.1 pc = .ok (i, len)) (hok : eok m (pc, i, len, x, w, z, y, tg) = true) (hi : ∃ q r, i = .iinc q r)
    (hw : wpX (SX zb b L xs D cs) m (pc, i, len, x, w, z, y, tg) k ls st n M Q) : SX zb b L xs D cs m k pc ls st n M Q := by
  intro _ p l ev s mid args below meth c H locs lc Z hF hSW hWd hS hL hk1 hk2 hret
  obtain ⟨hx, hb, hml, hr, hlk, hown, hnm, hts⟩ := id hF
  have run : ∀ (k' : Nat × Nat) (pc' : Nat) (ls' st' : List V) (n' : Int) (M' : Mem) (H' : Heap) (locs' : List Loc) (lc' : Array Slot), SX zb b L xs D cs m k' pc' ls' st' n' M' Q → World zb L xs D cs M' n' H' → va_S (AWz zb) s.heap H' locs' → LocR zb b (am_M m).2.2.2.1 ls' lc' → k'.1 ≤ (rmM m).cells → k'.2 ≤ (rmM m).slots → W p l ev (rmM m) s mid args below meth c H' locs' k'.1 k'.2 Z (F0 mid pc' lc' (st'.map (cnc zb b))) := fun k' pc' ls' st' n' M' H' locs' lc' g1 g2 g3 g4 g5 g6 => g1 hm p l ev s mid args below meth c H' locs' lc' Z hF hSW g2 g3 g4 g5 g6 hret
  have run0 : ∀ (pc' : Nat) (st' : List V), SX zb b L xs D cs m k pc' ls st' n M Q → W p l ev (rmM m) s mid args below meth c H locs k.1 k.2 Z (F0 mid pc' lc (st'.map (cnc zb b))) := fun pc' st' g => run k pc' ls st' n M H locs lc g hWd hS hL hk1 hk2
  obtain ⟨q, r, rfl⟩ := hi
  obtain ⟨hl, h1, h2⟩ : len = 3 ∧ q = x ∧ x < (am_M m).2.2.2.1 := of_decide_eq_true hok
  subst hl
  subst h1
  obtain ⟨e0, hw⟩ : (lget q ls).1 = 0 ∧ _ := hw
  have hmem : (q, cnc zb b (lget q ls)) ∈ lvp zb b ls := lvp_mem (by rw [e0]; decide)
  obtain ⟨kk, hkk⟩ := List.getElem?_of_mem hmem
  have hc : cnc zb b (lget q ls) = .int (Int32.ofInt (lget q ls).2) := by unfold cnc; rw [if_pos e0]
  rw [hc] at hkk
  refine lv_iinc (v := Int32.ofInt ((lget q ls).2 + r)) hx hb hdec hL.lv hkk (by rw [Int32.ofInt_add]) h2 rfl (fun lc' hl' => ?_)
  exact run k _ _ st n M H locs lc' hw hWd hS (LocR.st1 (v := (0, (lget q ls).2 + r)) hL h2 hl') hk1 hk2

set_option maxHeartbeats 8000000 in
set_option maxRecDepth 20000 in
theorem sx_iadd {zb b L : Nat} {xs : Nat → Int32} {D : va_G} {cs : Nat → ClassId} {m : Nat} {k : Nat × Nat} {pc : Nat} {ls st : List V} {n : Int} {M : Mem} {Q : Post} {i : Instr} {len x w : Nat} {z y : Int} {tg : List Nat}
    (hm : m < NMT) (hdec : decode (am_M m).2.2.1 pc = .ok (i, len)) (hok : eok m (pc, i, len, x, w, z, y, tg) = true) (hi : i = .iadd)
    (hw : wpX (SX zb b L xs D cs) m (pc, i, len, x, w, z, y, tg) k ls st n M Q) : SX zb b L xs D cs m k pc ls st n M Q := by
  intro _ p l ev s mid args below meth c H locs lc Z hF hSW hWd hS hL hk1 hk2 hret
  obtain ⟨hx, hb, hml, hr, hlk, hown, hnm, hts⟩ := id hF
  have run : ∀ (k' : Nat × Nat) (pc' : Nat) (ls' st' : List V) (n' : Int) (M' : Mem) (H' : Heap) (locs' : List Loc) (lc' : Array Slot), SX zb b L xs D cs m k' pc' ls' st' n' M' Q → World zb L xs D cs M' n' H' → va_S (AWz zb) s.heap H' locs' → LocR zb b (am_M m).2.2.2.1 ls' lc' → k'.1 ≤ (rmM m).cells → k'.2 ≤ (rmM m).slots → W p l ev (rmM m) s mid args below meth c H' locs' k'.1 k'.2 Z (F0 mid pc' lc' (st'.map (cnc zb b))) := fun k' pc' ls' st' n' M' H' locs' lc' g1 g2 g3 g4 g5 g6 => g1 hm p l ev s mid args below meth c H' locs' lc' Z hF hSW g2 g3 g4 g5 g6 hret
  have run0 : ∀ (pc' : Nat) (st' : List V), SX zb b L xs D cs m k pc' ls st' n M Q → W p l ev (rmM m) s mid args below meth c H locs k.1 k.2 Z (F0 mid pc' lc (st'.map (cnc zb b))) := fun pc' st' g => run k pc' ls st' n M H locs lc g hWd hS hL hk1 hk2
  subst hi
  have hl : len = 1 := of_decide_eq_true hok
  subst hl
  rcases st with _ | ⟨⟨t1, x1⟩, _ | ⟨⟨t2, x2⟩, r⟩⟩
  · exact False.elim hw
  · exact False.elim hw
  · obtain ⟨e2, e1, hw⟩ : t2 = 0 ∧ t1 = 0 ∧ _ := hw
    subst e1
    subst e2
    show W p l ev (rmM m) s mid args below meth c H locs k.1 k.2 Z (F0 mid pc lc (.int (Int32.ofInt x1) :: .int (Int32.ofInt x2) :: List.map (cnc zb b) r))
    have hv : Int32.ofInt (x2 + x1) = Int32.ofInt x2 + Int32.ofInt x1 := Int32.ofInt_add _ _
    refine lv_iadd hx hb hdec ?_
    rw [← hv]
    exact run0 _ ((0, x2 + x1) :: r) hw

set_option maxHeartbeats 8000000 in
set_option maxRecDepth 20000 in
theorem sx_isub {zb b L : Nat} {xs : Nat → Int32} {D : va_G} {cs : Nat → ClassId} {m : Nat} {k : Nat × Nat} {pc : Nat} {ls st : List V} {n : Int} {M : Mem} {Q : Post} {i : Instr} {len x w : Nat} {z y : Int} {tg : List Nat}
    (hm : m < NMT) (hdec : decode (am_M m).2.2.1 pc = .ok (i, len)) (hok : eok m (pc, i, len, x, w, z, y, tg) = true) (hi : i = .isub)
    (hw : wpX (SX zb b L xs D cs) m (pc, i, len, x, w, z, y, tg) k ls st n M Q) : SX zb b L xs D cs m k pc ls st n M Q := by
  intro _ p l ev s mid args below meth c H locs lc Z hF hSW hWd hS hL hk1 hk2 hret
  obtain ⟨hx, hb, hml, hr, hlk, hown, hnm, hts⟩ := id hF
  have run : ∀ (k' : Nat × Nat) (pc' : Nat) (ls' st' : List V) (n' : Int) (M' : Mem) (H' : Heap) (locs' : List Loc) (lc' : Array Slot), SX zb b L xs D cs m k' pc' ls' st' n' M' Q → World zb L xs D cs M' n' H' → va_S (AWz zb) s.heap H' locs' → LocR zb b (am_M m).2.2.2.1 ls' lc' → k'.1 ≤ (rmM m).cells → k'.2 ≤ (rmM m).slots → W p l ev (rmM m) s mid args below meth c H' locs' k'.1 k'.2 Z (F0 mid pc' lc' (st'.map (cnc zb b))) := fun k' pc' ls' st' n' M' H' locs' lc' g1 g2 g3 g4 g5 g6 => g1 hm p l ev s mid args below meth c H' locs' lc' Z hF hSW g2 g3 g4 g5 g6 hret
  have run0 : ∀ (pc' : Nat) (st' : List V), SX zb b L xs D cs m k pc' ls st' n M Q → W p l ev (rmM m) s mid args below meth c H locs k.1 k.2 Z (F0 mid pc' lc (st'.map (cnc zb b))) := fun pc' st' g => run k pc' ls st' n M H locs lc g hWd hS hL hk1 hk2
  subst hi
  have hl : len = 1 := of_decide_eq_true hok
  subst hl
  rcases st with _ | ⟨⟨t1, x1⟩, _ | ⟨⟨t2, x2⟩, r⟩⟩
  · exact False.elim hw
  · exact False.elim hw
  · obtain ⟨e2, e1, hw⟩ : t2 = 0 ∧ t1 = 0 ∧ _ := hw
    subst e1
    subst e2
    show W p l ev (rmM m) s mid args below meth c H locs k.1 k.2 Z (F0 mid pc lc (.int (Int32.ofInt x1) :: .int (Int32.ofInt x2) :: List.map (cnc zb b) r))
    have hv : Int32.ofInt (x2 - x1) = Int32.ofInt x2 - Int32.ofInt x1 := Int32.ofInt_sub _ _
    refine lv_isub hx hb hdec ?_
    rw [← hv]
    exact run0 _ ((0, x2 - x1) :: r) hw

set_option maxHeartbeats 8000000 in
set_option maxRecDepth 20000 in
theorem sx_imul {zb b L : Nat} {xs : Nat → Int32} {D : va_G} {cs : Nat → ClassId} {m : Nat} {k : Nat × Nat} {pc : Nat} {ls st : List V} {n : Int} {M : Mem} {Q : Post} {i : Instr} {len x w : Nat} {z y : Int} {tg : List Nat}
    (hm : m < NMT) (hdec : decode (am_M m).2.2.1 pc = .ok (i, len)) (hok : eok m (pc, i, len, x, w, z, y, tg) = true) (hi : i = .imul)
    (hw : wpX (SX zb b L xs D cs) m (pc, i, len, x, w, z, y, tg) k ls st n M Q) : SX zb b L xs D cs m k pc ls st n M Q := by
  intro _ p l ev s mid args below meth c H locs lc Z hF hSW hWd hS hL hk1 hk2 hret
  obtain ⟨hx, hb, hml, hr, hlk, hown, hnm, hts⟩ := id hF
  have run : ∀ (k' : Nat × Nat) (pc' : Nat) (ls' st' : List V) (n' : Int) (M' : Mem) (H' : Heap) (locs' : List Loc) (lc' : Array Slot), SX zb b L xs D cs m k' pc' ls' st' n' M' Q → World zb L xs D cs M' n' H' → va_S (AWz zb) s.heap H' locs' → LocR zb b (am_M m).2.2.2.1 ls' lc' → k'.1 ≤ (rmM m).cells → k'.2 ≤ (rmM m).slots → W p l ev (rmM m) s mid args below meth c H' locs' k'.1 k'.2 Z (F0 mid pc' lc' (st'.map (cnc zb b))) := fun k' pc' ls' st' n' M' H' locs' lc' g1 g2 g3 g4 g5 g6 => g1 hm p l ev s mid args below meth c H' locs' lc' Z hF hSW g2 g3 g4 g5 g6 hret
  have run0 : ∀ (pc' : Nat) (st' : List V), SX zb b L xs D cs m k pc' ls st' n M Q → W p l ev (rmM m) s mid args below meth c H locs k.1 k.2 Z (F0 mid pc' lc (st'.map (cnc zb b))) := fun pc' st' g => run k pc' ls st' n M H locs lc g hWd hS hL hk1 hk2
  subst hi
  have hl : len = 1 := of_decide_eq_true hok
  subst hl
  rcases st with _ | ⟨⟨t1, x1⟩, _ | ⟨⟨t2, x2⟩, r⟩⟩
  · exact False.elim hw
  · exact False.elim hw
  · obtain ⟨e2, e1, hw⟩ : t2 = 0 ∧ t1 = 0 ∧ _ := hw
    subst e1
    subst e2
    show W p l ev (rmM m) s mid args below meth c H locs k.1 k.2 Z (F0 mid pc lc (.int (Int32.ofInt x1) :: .int (Int32.ofInt x2) :: List.map (cnc zb b) r))
    have hv : Int32.ofInt (x2 * x1) = Int32.ofInt x2 * Int32.ofInt x1 := Int32.ofInt_mul _ _
    refine lv_imul hx hb hdec ?_
    rw [← hv]
    exact run0 _ ((0, x2 * x1) :: r) hw

set_option maxHeartbeats 8000000 in
set_option maxRecDepth 20000 in
theorem sx_ladd {zb b L : Nat} {xs : Nat → Int32} {D : va_G} {cs : Nat → ClassId} {m : Nat} {k : Nat × Nat} {pc : Nat} {ls st : List V} {n : Int} {M : Mem} {Q : Post} {i : Instr} {len x w : Nat} {z y : Int} {tg : List Nat}
    (hm : m < NMT) (hdec : decode (am_M m).2.2.1 pc = .ok (i, len)) (hok : eok m (pc, i, len, x, w, z, y, tg) = true) (hi : i = .ladd)
    (hw : wpX (SX zb b L xs D cs) m (pc, i, len, x, w, z, y, tg) k ls st n M Q) : SX zb b L xs D cs m k pc ls st n M Q := by
  intro _ p l ev s mid args below meth c H locs lc Z hF hSW hWd hS hL hk1 hk2 hret
  obtain ⟨hx, hb, hml, hr, hlk, hown, hnm, hts⟩ := id hF
  have run : ∀ (k' : Nat × Nat) (pc' : Nat) (ls' st' : List V) (n' : Int) (M' : Mem) (H' : Heap) (locs' : List Loc) (lc' : Array Slot), SX zb b L xs D cs m k' pc' ls' st' n' M' Q → World zb L xs D cs M' n' H' → va_S (AWz zb) s.heap H' locs' → LocR zb b (am_M m).2.2.2.1 ls' lc' → k'.1 ≤ (rmM m).cells → k'.2 ≤ (rmM m).slots → W p l ev (rmM m) s mid args below meth c H' locs' k'.1 k'.2 Z (F0 mid pc' lc' (st'.map (cnc zb b))) := fun k' pc' ls' st' n' M' H' locs' lc' g1 g2 g3 g4 g5 g6 => g1 hm p l ev s mid args below meth c H' locs' lc' Z hF hSW g2 g3 g4 g5 g6 hret
  have run0 : ∀ (pc' : Nat) (st' : List V), SX zb b L xs D cs m k pc' ls st' n M Q → W p l ev (rmM m) s mid args below meth c H locs k.1 k.2 Z (F0 mid pc' lc (st'.map (cnc zb b))) := fun pc' st' g => run k pc' ls st' n M H locs lc g hWd hS hL hk1 hk2
  subst hi
  have hl : len = 1 := of_decide_eq_true hok
  subst hl
  rcases st with _ | ⟨⟨t1, x1⟩, _ | ⟨⟨t2, x2⟩, r⟩⟩
  · exact False.elim hw
  · exact False.elim hw
  · obtain ⟨e2, e1, hw⟩ : t2 = 1 ∧ t1 = 1 ∧ _ := hw
    subst e1
    subst e2
    show W p l ev (rmM m) s mid args below meth c H locs k.1 k.2 Z (F0 mid pc lc (.long (Int64.ofInt x1) :: .long (Int64.ofInt x2) :: List.map (cnc zb b) r))
    have hv : Int64.ofInt (x2 + x1) = Int64.ofInt x2 + Int64.ofInt x1 := Int64.ofInt_add _ _
    refine lv_ladd hx hb hdec ?_
    rw [← hv]
    exact run0 _ ((1, x2 + x1) :: r) hw

set_option maxHeartbeats 8000000 in
set_option maxRecDepth 20000 in
theorem sx_lsub {zb b L : Nat} {xs : Nat → Int32} {D : va_G} {cs : Nat → ClassId} {m : Nat} {k : Nat × Nat} {pc : Nat} {ls st : List V} {n : Int} {M : Mem} {Q : Post} {i : Instr} {len x w : Nat} {z y : Int} {tg : List Nat}
    (hm : m < NMT) (hdec : decode (am_M m).2.2.1 pc = .ok (i, len)) (hok : eok m (pc, i, len, x, w, z, y, tg) = true) (hi : i = .lsub)
    (hw : wpX (SX zb b L xs D cs) m (pc, i, len, x, w, z, y, tg) k ls st n M Q) : SX zb b L xs D cs m k pc ls st n M Q := by
  intro _ p l ev s mid args below meth c H locs lc Z hF hSW hWd hS hL hk1 hk2 hret
  obtain ⟨hx, hb, hml, hr, hlk, hown, hnm, hts⟩ := id hF
  have run : ∀ (k' : Nat × Nat) (pc' : Nat) (ls' st' : List V) (n' : Int) (M' : Mem) (H' : Heap) (locs' : List Loc) (lc' : Array Slot), SX zb b L xs D cs m k' pc' ls' st' n' M' Q → World zb L xs D cs M' n' H' → va_S (AWz zb) s.heap H' locs' → LocR zb b (am_M m).2.2.2.1 ls' lc' → k'.1 ≤ (rmM m).cells → k'.2 ≤ (rmM m).slots → W p l ev (rmM m) s mid args below meth c H' locs' k'.1 k'.2 Z (F0 mid pc' lc' (st'.map (cnc zb b))) := fun k' pc' ls' st' n' M' H' locs' lc' g1 g2 g3 g4 g5 g6 => g1 hm p l ev s mid args below meth c H' locs' lc' Z hF hSW g2 g3 g4 g5 g6 hret
  have run0 : ∀ (pc' : Nat) (st' : List V), SX zb b L xs D cs m k pc' ls st' n M Q → W p l ev (rmM m) s mid args below meth c H locs k.1 k.2 Z (F0 mid pc' lc (st'.map (cnc zb b))) := fun pc' st' g => run k pc' ls st' n M H locs lc g hWd hS hL hk1 hk2
  subst hi
  have hl : len = 1 := of_decide_eq_true hok
  subst hl
  rcases st with _ | ⟨⟨t1, x1⟩, _ | ⟨⟨t2, x2⟩, r⟩⟩
  · exact False.elim hw
  · exact False.elim hw
  · obtain ⟨e2, e1, hw⟩ : t2 = 1 ∧ t1 = 1 ∧ _ := hw
    subst e1
    subst e2
    show W p l ev (rmM m) s mid args below meth c H locs k.1 k.2 Z (F0 mid pc lc (.long (Int64.ofInt x1) :: .long (Int64.ofInt x2) :: List.map (cnc zb b) r))
    have hv : Int64.ofInt (x2 - x1) = Int64.ofInt x2 - Int64.ofInt x1 := Int64.ofInt_sub _ _
    refine lv_lsub hx hb hdec ?_
    rw [← hv]
    exact run0 _ ((1, x2 - x1) :: r) hw

set_option maxHeartbeats 8000000 in
set_option maxRecDepth 20000 in
theorem sx_lmul {zb b L : Nat} {xs : Nat → Int32} {D : va_G} {cs : Nat → ClassId} {m : Nat} {k : Nat × Nat} {pc : Nat} {ls st : List V} {n : Int} {M : Mem} {Q : Post} {i : Instr} {len x w : Nat} {z y : Int} {tg : List Nat}
    (hm : m < NMT) (hdec : decode (am_M m).2.2.1 pc = .ok (i, len)) (hok : eok m (pc, i, len, x, w, z, y, tg) = true) (hi : i = .lmul)
    (hw : wpX (SX zb b L xs D cs) m (pc, i, len, x, w, z, y, tg) k ls st n M Q) : SX zb b L xs D cs m k pc ls st n M Q := by
  intro _ p l ev s mid args below meth c H locs lc Z hF hSW hWd hS hL hk1 hk2 hret
  obtain ⟨hx, hb, hml, hr, hlk, hown, hnm, hts⟩ := id hF
  have run : ∀ (k' : Nat × Nat) (pc' : Nat) (ls' st' : List V) (n' : Int) (M' : Mem) (H' : Heap) (locs' : List Loc) (lc' : Array Slot), SX zb b L xs D cs m k' pc' ls' st' n' M' Q → World zb L xs D cs M' n' H' → va_S (AWz zb) s.heap H' locs' → LocR zb b (am_M m).2.2.2.1 ls' lc' → k'.1 ≤ (rmM m).cells → k'.2 ≤ (rmM m).slots → W p l ev (rmM m) s mid args below meth c H' locs' k'.1 k'.2 Z (F0 mid pc' lc' (st'.map (cnc zb b))) := fun k' pc' ls' st' n' M' H' locs' lc' g1 g2 g3 g4 g5 g6 => g1 hm p l ev s mid args below meth c H' locs' lc' Z hF hSW g2 g3 g4 g5 g6 hret
  have run0 : ∀ (pc' : Nat) (st' : List V), SX zb b L xs D cs m k pc' ls st' n M Q → W p l ev (rmM m) s mid args below meth c H locs k.1 k.2 Z (F0 mid pc' lc (st'.map (cnc zb b))) := fun pc' st' g => run k pc' ls st' n M H locs lc g hWd hS hL hk1 hk2
  subst hi
  have hl : len = 1 := of_decide_eq_true hok
  subst hl
  rcases st with _ | ⟨⟨t1, x1⟩, _ | ⟨⟨t2, x2⟩, r⟩⟩
  · exact False.elim hw
  · exact False.elim hw
  · obtain ⟨e2, e1, hw⟩ : t2 = 1 ∧ t1 = 1 ∧ _ := hw
    subst e1
    subst e2
    show W p l ev (rmM m) s mid args below meth c H locs k.1 k.2 Z (F0 mid pc lc (.long (Int64.ofInt x1) :: .long (Int64.ofInt x2) :: List.map (cnc zb b) r))
    have hv : Int64.ofInt (x2 * x1) = Int64.ofInt x2 * Int64.ofInt x1 := Int64.ofInt_mul _ _
    refine lv_lmul hx hb hdec ?_
    rw [← hv]
    exact run0 _ ((1, x2 * x1) :: r) hw

set_option maxHeartbeats 8000000 in
set_option maxRecDepth 20000 in
theorem sx_idiv {zb b L : Nat} {xs : Nat → Int32} {D : va_G} {cs : Nat → ClassId} {m : Nat} {k : Nat × Nat} {pc : Nat} {ls st : List V} {n : Int} {M : Mem} {Q : Post} {i : Instr} {len x w : Nat} {z y : Int} {tg : List Nat}
    (hm : m < NMT) (hdec : decode (am_M m).2.2.1 pc = .ok (i, len)) (hok : eok m (pc, i, len, x, w, z, y, tg) = true) (hi : i = .idiv)
    (hw : wpX (SX zb b L xs D cs) m (pc, i, len, x, w, z, y, tg) k ls st n M Q) : SX zb b L xs D cs m k pc ls st n M Q := by
  intro _ p l ev s mid args below meth c H locs lc Z hF hSW hWd hS hL hk1 hk2 hret
  obtain ⟨hx, hb, hml, hr, hlk, hown, hnm, hts⟩ := id hF
  have run : ∀ (k' : Nat × Nat) (pc' : Nat) (ls' st' : List V) (n' : Int) (M' : Mem) (H' : Heap) (locs' : List Loc) (lc' : Array Slot), SX zb b L xs D cs m k' pc' ls' st' n' M' Q → World zb L xs D cs M' n' H' → va_S (AWz zb) s.heap H' locs' → LocR zb b (am_M m).2.2.2.1 ls' lc' → k'.1 ≤ (rmM m).cells → k'.2 ≤ (rmM m).slots → W p l ev (rmM m) s mid args below meth c H' locs' k'.1 k'.2 Z (F0 mid pc' lc' (st'.map (cnc zb b))) := fun k' pc' ls' st' n' M' H' locs' lc' g1 g2 g3 g4 g5 g6 => g1 hm p l ev s mid args below meth c H' locs' lc' Z hF hSW g2 g3 g4 g5 g6 hret
  have run0 : ∀ (pc' : Nat) (st' : List V), SX zb b L xs D cs m k pc' ls st' n M Q → W p l ev (rmM m) s mid args below meth c H locs k.1 k.2 Z (F0 mid pc' lc (st'.map (cnc zb b))) := fun pc' st' g => run k pc' ls st' n M H locs lc g hWd hS hL hk1 hk2
  subst hi
  have hl : len = 1 := of_decide_eq_true hok
  subst hl
  rcases st with _ | ⟨⟨t1, x1⟩, _ | ⟨⟨t2, x2⟩, r⟩⟩
  · exact False.elim hw
  · exact False.elim hw
  · obtain ⟨e2, e1, c1, c2, c3, hw⟩ : t2 = 0 ∧ t1 = 0 ∧ R32 x2 ∧ R32 x1 ∧ x1 ≠ 0 ∧ _ := hw
    subst e1
    subst e2
    show W p l ev (rmM m) s mid args below meth c H locs k.1 k.2 Z (F0 mid pc lc (.int (Int32.ofInt x1) :: .int (Int32.ofInt x2) :: List.map (cnc zb b) r))
    have hv : Int32.ofInt (x2.tdiv x1) = Int32.ofInt x2 / Int32.ofInt x1 := ofI_tdiv c1 c2
    refine lv_idiv hx hb hdec (fun q => c3 ((R0_eq c2).mp q)) ?_
    rw [← hv]
    exact run0 _ ((0, x2.tdiv x1) :: r) hw

set_option maxHeartbeats 8000000 in
set_option maxRecDepth 20000 in
theorem sx_irem {zb b L : Nat} {xs : Nat → Int32} {D : va_G} {cs : Nat → ClassId} {m : Nat} {k : Nat × Nat} {pc : Nat} {ls st : List V} {n : Int} {M : Mem} {Q : Post} {i : Instr} {len x w : Nat} {z y : Int} {tg : List Nat}
    (hm : m < NMT) (hdec : decode (am_M m).2.2.1 pc = .ok (i, len)) (hok : eok m (pc, i, len, x, w, z, y, tg) = true) (hi : i = .irem)
    (hw : wpX (SX zb b L xs D cs) m (pc, i, len, x, w, z, y, tg) k ls st n M Q) : SX zb b L xs D cs m k pc ls st n M Q := by
  intro _ p l ev s mid args below meth c H locs lc Z hF hSW hWd hS hL hk1 hk2 hret
  obtain ⟨hx, hb, hml, hr, hlk, hown, hnm, hts⟩ := id hF
  have run : ∀ (k' : Nat × Nat) (pc' : Nat) (ls' st' : List V) (n' : Int) (M' : Mem) (H' : Heap) (locs' : List Loc) (lc' : Array Slot), SX zb b L xs D cs m k' pc' ls' st' n' M' Q → World zb L xs D cs M' n' H' → va_S (AWz zb) s.heap H' locs' → LocR zb b (am_M m).2.2.2.1 ls' lc' → k'.1 ≤ (rmM m).cells → k'.2 ≤ (rmM m).slots → W p l ev (rmM m) s mid args below meth c H' locs' k'.1 k'.2 Z (F0 mid pc' lc' (st'.map (cnc zb b))) := fun k' pc' ls' st' n' M' H' locs' lc' g1 g2 g3 g4 g5 g6 => g1 hm p l ev s mid args below meth c H' locs' lc' Z hF hSW g2 g3 g4 g5 g6 hret
  have run0 : ∀ (pc' : Nat) (st' : List V), SX zb b L xs D cs m k pc' ls st' n M Q → W p l ev (rmM m) s mid args below meth c H locs k.1 k.2 Z (F0 mid pc' lc (st'.map (cnc zb b))) := fun pc' st' g => run k pc' ls st' n M H locs lc g hWd hS hL hk1 hk2
  subst hi
  have hl : len = 1 := of_decide_eq_true hok
  subst hl
  rcases st with _ | ⟨⟨t1, x1⟩, _ | ⟨⟨t2, x2⟩, r⟩⟩
  · exact False.elim hw
  · exact False.elim hw
  · obtain ⟨e2, e1, c1, c2, c3, hw⟩ : t2 = 0 ∧ t1 = 0 ∧ R32 x2 ∧ R32 x1 ∧ x1 ≠ 0 ∧ _ := hw
    subst e1
    subst e2
    show W p l ev (rmM m) s mid args below meth c H locs k.1 k.2 Z (F0 mid pc lc (.int (Int32.ofInt x1) :: .int (Int32.ofInt x2) :: List.map (cnc zb b) r))
    have hv : Int32.ofInt (x2.tmod x1) = Int32.ofInt x2 - Int32.ofInt x2 / Int32.ofInt x1 * Int32.ofInt x1 := ofI_tmod c1 c2
    refine lv_irem hx hb hdec (fun q => c3 ((R0_eq c2).mp q)) ?_
    rw [← hv]
    exact run0 _ ((0, x2.tmod x1) :: r) hw

set_option maxHeartbeats 8000000 in
set_option maxRecDepth 20000 in
theorem sx_ldiv {zb b L : Nat} {xs : Nat → Int32} {D : va_G} {cs : Nat → ClassId} {m : Nat} {k : Nat × Nat} {pc : Nat} {ls st : List V} {n : Int} {M : Mem} {Q : Post} {i : Instr} {len x w : Nat} {z y : Int} {tg : List Nat}
    (hm : m < NMT) (hdec : decode (am_M m).2.2.1 pc = .ok (i, len)) (hok : eok m (pc, i, len, x, w, z, y, tg) = true) (hi : i = .ldiv)
    (hw : wpX (SX zb b L xs D cs) m (pc, i, len, x, w, z, y, tg) k ls st n M Q) : SX zb b L xs D cs m k pc ls st n M Q := by
  intro _ p l ev s mid args below meth c H locs lc Z hF hSW hWd hS hL hk1 hk2 hret
  obtain ⟨hx, hb, hml, hr, hlk, hown, hnm, hts⟩ := id hF
  have run : ∀ (k' : Nat × Nat) (pc' : Nat) (ls' st' : List V) (n' : Int) (M' : Mem) (H' : Heap) (locs' : List Loc) (lc' : Array Slot), SX zb b L xs D cs m k' pc' ls' st' n' M' Q → World zb L xs D cs M' n' H' → va_S (AWz zb) s.heap H' locs' → LocR zb b (am_M m).2.2.2.1 ls' lc' → k'.1 ≤ (rmM m).cells → k'.2 ≤ (rmM m).slots → W p l ev (rmM m) s mid args below meth c H' locs' k'.1 k'.2 Z (F0 mid pc' lc' (st'.map (cnc zb b))) := fun k' pc' ls' st' n' M' H' locs' lc' g1 g2 g3 g4 g5 g6 => g1 hm p l ev s mid args below meth c H' locs' lc' Z hF hSW g2 g3 g4 g5 g6 hret
  have run0 : ∀ (pc' : Nat) (st' : List V), SX zb b L xs D cs m k pc' ls st' n M Q → W p l ev (rmM m) s mid args below meth c H locs k.1 k.2 Z (F0 mid pc' lc (st'.map (cnc zb b))) := fun pc' st' g => run k pc' ls st' n M H locs lc g hWd hS hL hk1 hk2
  subst hi
  have hl : len = 1 := of_decide_eq_true hok
  subst hl
  rcases st with _ | ⟨⟨t1, x1⟩, _ | ⟨⟨t2, x2⟩, r⟩⟩
  · exact False.elim hw
  · exact False.elim hw
  · obtain ⟨e2, e1, c1, c2, c3, hw⟩ : t2 = 1 ∧ t1 = 1 ∧ R64 x2 ∧ R64 x1 ∧ x1 ≠ 0 ∧ _ := hw
    subst e1
    subst e2
    show W p l ev (rmM m) s mid args below meth c H locs k.1 k.2 Z (F0 mid pc lc (.long (Int64.ofInt x1) :: .long (Int64.ofInt x2) :: List.map (cnc zb b) r))
    have hv : Int64.ofInt (x2.tdiv x1) = Int64.ofInt x2 / Int64.ofInt x1 := ofL_tdiv c1 c2
    refine lv_ldiv hx hb hdec (ofL_ne c2 c3) ?_
    rw [← hv]
    exact run0 _ ((1, x2.tdiv x1) :: r) hw

set_option maxHeartbeats 8000000 in
set_option maxRecDepth 20000 in
theorem sx_lrem {zb b L : Nat} {xs : Nat → Int32} {D : va_G} {cs : Nat → ClassId} {m : Nat} {k : Nat × Nat} {pc : Nat} {ls st : List V} {n : Int} {M : Mem} {Q : Post} {i : Instr} {len x w : Nat} {z y : Int} {tg : List Nat}
    (hm : m < NMT) (hdec : decode (am_M m).2.2.1 pc = .ok (i, len)) (hok : eok m (pc, i, len, x, w, z, y, tg) = true) (hi : i = .lrem)
    (hw : wpX (SX zb b L xs D cs) m (pc, i, len, x, w, z, y, tg) k ls st n M Q) : SX zb b L xs D cs m k pc ls st n M Q := by
  intro _ p l ev s mid args below meth c H locs lc Z hF hSW hWd hS hL hk1 hk2 hret
  obtain ⟨hx, hb, hml, hr, hlk, hown, hnm, hts⟩ := id hF
  have run : ∀ (k' : Nat × Nat) (pc' : Nat) (ls' st' : List V) (n' : Int) (M' : Mem) (H' : Heap) (locs' : List Loc) (lc' : Array Slot), SX zb b L xs D cs m k' pc' ls' st' n' M' Q → World zb L xs D cs M' n' H' → va_S (AWz zb) s.heap H' locs' → LocR zb b (am_M m).2.2.2.1 ls' lc' → k'.1 ≤ (rmM m).cells → k'.2 ≤ (rmM m).slots → W p l ev (rmM m) s mid args below meth c H' locs' k'.1 k'.2 Z (F0 mid pc' lc' (st'.map (cnc zb b))) := fun k' pc' ls' st' n' M' H' locs' lc' g1 g2 g3 g4 g5 g6 => g1 hm p l ev s mid args below meth c H' locs' lc' Z hF hSW g2 g3 g4 g5 g6 hret
  have run0 : ∀ (pc' : Nat) (st' : List V), SX zb b L xs D cs m k pc' ls st' n M Q → W p l ev (rmM m) s mid args below meth c H locs k.1 k.2 Z (F0 mid pc' lc (st'.map (cnc zb b))) := fun pc' st' g => run k pc' ls st' n M H locs lc g hWd hS hL hk1 hk2
  subst hi
  have hl : len = 1 := of_decide_eq_true hok
  subst hl
  rcases st with _ | ⟨⟨t1, x1⟩, _ | ⟨⟨t2, x2⟩, r⟩⟩
  · exact False.elim hw
  · exact False.elim hw
  · obtain ⟨e2, e1, c1, c2, c3, hw⟩ : t2 = 1 ∧ t1 = 1 ∧ R64 x2 ∧ R64 x1 ∧ x1 ≠ 0 ∧ _ := hw
    subst e1
    subst e2
    show W p l ev (rmM m) s mid args below meth c H locs k.1 k.2 Z (F0 mid pc lc (.long (Int64.ofInt x1) :: .long (Int64.ofInt x2) :: List.map (cnc zb b) r))
    have hv : Int64.ofInt (x2.tmod x1) = Int64.ofInt x2 - Int64.ofInt x2 / Int64.ofInt x1 * Int64.ofInt x1 := ofL_tmod c1 c2
    refine lv_lrem hx hb hdec (ofL_ne c2 c3) ?_
    rw [← hv]
    exact run0 _ ((1, x2.tmod x1) :: r) hw

set_option maxHeartbeats 8000000 in
set_option maxRecDepth 20000 in
theorem sx_iand {zb b L : Nat} {xs : Nat → Int32} {D : va_G} {cs : Nat → ClassId} {m : Nat} {k : Nat × Nat} {pc : Nat} {ls st : List V} {n : Int} {M : Mem} {Q : Post} {i : Instr} {len x w : Nat} {z y : Int} {tg : List Nat}
    (hm : m < NMT) (hdec : decode (am_M m).2.2.1 pc = .ok (i, len)) (hok : eok m (pc, i, len, x, w, z, y, tg) = true) (hi : i = .iand)
    (hw : wpX (SX zb b L xs D cs) m (pc, i, len, x, w, z, y, tg) k ls st n M Q) : SX zb b L xs D cs m k pc ls st n M Q := by
  intro _ p l ev s mid args below meth c H locs lc Z hF hSW hWd hS hL hk1 hk2 hret
  obtain ⟨hx, hb, hml, hr, hlk, hown, hnm, hts⟩ := id hF
  have run : ∀ (k' : Nat × Nat) (pc' : Nat) (ls' st' : List V) (n' : Int) (M' : Mem) (H' : Heap) (locs' : List Loc) (lc' : Array Slot), SX zb b L xs D cs m k' pc' ls' st' n' M' Q → World zb L xs D cs M' n' H' → va_S (AWz zb) s.heap H' locs' → LocR zb b (am_M m).2.2.2.1 ls' lc' → k'.1 ≤ (rmM m).cells → k'.2 ≤ (rmM m).slots → W p l ev (rmM m) s mid args below meth c H' locs' k'.1 k'.2 Z (F0 mid pc' lc' (st'.map (cnc zb b))) := fun k' pc' ls' st' n' M' H' locs' lc' g1 g2 g3 g4 g5 g6 => g1 hm p l ev s mid args below meth c H' locs' lc' Z hF hSW g2 g3 g4 g5 g6 hret
  have run0 : ∀ (pc' : Nat) (st' : List V), SX zb b L xs D cs m k pc' ls st' n M Q → W p l ev (rmM m) s mid args below meth c H locs k.1 k.2 Z (F0 mid pc' lc (st'.map (cnc zb b))) := fun pc' st' g => run k pc' ls st' n M H locs lc g hWd hS hL hk1 hk2
  subst hi
  have hl : len = 1 := of_decide_eq_true hok
  subst hl
  rcases st with _ | ⟨⟨t1, x1⟩, _ | ⟨⟨t2, x2⟩, r⟩⟩
  · exact False.elim hw
  · exact False.elim hw
  · obtain ⟨e2, e1, hw⟩ : t2 = 0 ∧ t1 = 0 ∧ _ := hw
    subst e1
    subst e2
    show W p l ev (rmM m) s mid args below meth c H locs k.1 k.2 Z (F0 mid pc lc (.int (Int32.ofInt x1) :: .int (Int32.ofInt x2) :: List.map (cnc zb b) r))
    have hv : Int32.ofInt (band x2 x1) = Int32.ofInt x2 &&& Int32.ofInt x1 := band_of _ _
    refine lv_iand hx hb hdec ?_
    rw [← hv]
    exact run0 _ ((0, band x2 x1) :: r) hw

set_option maxHeartbeats 8000000 in
set_option maxRecDepth 20000 in
theorem sx_ior {zb b L : Nat} {xs : Nat → Int32} {D : va_G} {cs : Nat → ClassId} {m : Nat} {k : Nat × Nat} {pc : Nat} {ls st : List V} {n : Int} {M : Mem} {Q : Post} {i : Instr} {len x w : Nat} {z y : Int} {tg : List Nat}
    (hm : m < NMT) (hdec : decode (am_M m).2.2.1 pc = .ok (i, len)) (hok : eok m (pc, i, len, x, w, z, y, tg) = true) (hi : i = .ior)
    (hw : wpX (SX zb b L xs D cs) m (pc, i, len, x, w, z, y, tg) k ls st n M Q) : SX zb b L xs D cs m k pc ls st n M Q := by
  intro _ p l ev s mid args below meth c H locs lc Z hF hSW hWd hS hL hk1 hk2 hret
  obtain ⟨hx, hb, hml, hr, hlk, hown, hnm, hts⟩ := id hF
  have run : ∀ (k' : Nat × Nat) (pc' : Nat) (ls' st' : List V) (n' : Int) (M' : Mem) (H' : Heap) (locs' : List Loc) (lc' : Array Slot), SX zb b L xs D cs m k' pc' ls' st' n' M' Q → World zb L xs D cs M' n' H' → va_S (AWz zb) s.heap H' locs' → LocR zb b (am_M m).2.2.2.1 ls' lc' → k'.1 ≤ (rmM m).cells → k'.2 ≤ (rmM m).slots → W p l ev (rmM m) s mid args below meth c H' locs' k'.1 k'.2 Z (F0 mid pc' lc' (st'.map (cnc zb b))) := fun k' pc' ls' st' n' M' H' locs' lc' g1 g2 g3 g4 g5 g6 => g1 hm p l ev s mid args below meth c H' locs' lc' Z hF hSW g2 g3 g4 g5 g6 hret
  have run0 : ∀ (pc' : Nat) (st' : List V), SX zb b L xs D cs m k pc' ls st' n M Q → W p l ev (rmM m) s mid args below meth c H locs k.1 k.2 Z (F0 mid pc' lc (st'.map (cnc zb b))) := fun pc' st' g => run k pc' ls st' n M H locs lc g hWd hS hL hk1 hk2
  subst hi
  have hl : len = 1 := of_decide_eq_true hok
  subst hl
  rcases st with _ | ⟨⟨t1, x1⟩, _ | ⟨⟨t2, x2⟩, r⟩⟩
  · exact False.elim hw
  · exact False.elim hw
  · obtain ⟨e2, e1, hw⟩ : t2 = 0 ∧ t1 = 0 ∧ _ := hw
    subst e1
    subst e2
    show W p l ev (rmM m) s mid args below meth c H locs k.1 k.2 Z (F0 mid pc lc (.int (Int32.ofInt x1) :: .int (Int32.ofInt x2) :: List.map (cnc zb b) r))
    have hv : Int32.ofInt (bor x2 x1) = Int32.ofInt x2 ||| Int32.ofInt x1 := bor_of _ _
    refine lv_ior hx hb hdec ?_
    rw [← hv]
    exact run0 _ ((0, bor x2 x1) :: r) hw

set_option maxHeartbeats 8000000 in
set_option maxRecDepth 20000 in
theorem sx_ishl {zb b L : Nat} {xs : Nat → Int32} {D : va_G} {cs : Nat → ClassId} {m : Nat} {k : Nat × Nat} {pc : Nat} {ls st : List V} {n : Int} {M : Mem} {Q : Post} {i : Instr} {len x w : Nat} {z y : Int} {tg : List Nat}
    (hm : m < NMT) (hdec : decode (am_M m).2.2.1 pc = .ok (i, len)) (hok : eok m (pc, i, len, x, w, z, y, tg) = true) (hi : i = .ishl)
    (hw : wpX (SX zb b L xs D cs) m (pc, i, len, x, w, z, y, tg) k ls st n M Q) : SX zb b L xs D cs m k pc ls st n M Q := by
  intro _ p l ev s mid args below meth c H locs lc Z hF hSW hWd hS hL hk1 hk2 hret
  obtain ⟨hx, hb, hml, hr, hlk, hown, hnm, hts⟩ := id hF
  have run : ∀ (k' : Nat × Nat) (pc' : Nat) (ls' st' : List V) (n' : Int) (M' : Mem) (H' : Heap) (locs' : List Loc) (lc' : Array Slot), SX zb b L xs D cs m k' pc' ls' st' n' M' Q → World zb L xs D cs M' n' H' → va_S (AWz zb) s.heap H' locs' → LocR zb b (am_M m).2.2.2.1 ls' lc' → k'.1 ≤ (rmM m).cells → k'.2 ≤ (rmM m).slots → W p l ev (rmM m) s mid args below meth c H' locs' k'.1 k'.2 Z (F0 mid pc' lc' (st'.map (cnc zb b))) := fun k' pc' ls' st' n' M' H' locs' lc' g1 g2 g3 g4 g5 g6 => g1 hm p l ev s mid args below meth c H' locs' lc' Z hF hSW g2 g3 g4 g5 g6 hret
  have run0 : ∀ (pc' : Nat) (st' : List V), SX zb b L xs D cs m k pc' ls st' n M Q → W p l ev (rmM m) s mid args below meth c H locs k.1 k.2 Z (F0 mid pc' lc (st'.map (cnc zb b))) := fun pc' st' g => run k pc' ls st' n M H locs lc g hWd hS hL hk1 hk2
  subst hi
  have hl : len = 1 := of_decide_eq_true hok
  subst hl
  rcases st with _ | ⟨⟨t1, x1⟩, _ | ⟨⟨t2, x2⟩, r⟩⟩
  · exact False.elim hw
  · exact False.elim hw
  · obtain ⟨e2, e1, c0, c1, c2, hw⟩ : t2 = 0 ∧ t1 = 0 ∧ x2 = 1 ∧ 0 ≤ x1 ∧ x1 < 32 ∧ _ := hw
    subst e1
    subst e2
    show W p l ev (rmM m) s mid args below meth c H locs k.1 k.2 Z (F0 mid pc lc (.int (Int32.ofInt x1) :: .int (Int32.ofInt x2) :: List.map (cnc zb b) r))
    have hv : Int32.ofInt (2 ^ x1.toNat) = Int32.ofInt x2 <<< (Int32.ofInt x1 &&& 31) := by rw [c0, ← shl_of x1.toNat (by omega), Int.toNat_of_nonneg c1]
    refine lv_ishl hx hb hdec ?_
    rw [← hv]
    exact run0 _ ((0, 2 ^ x1.toNat) :: r) hw

set_option maxHeartbeats 8000000 in
set_option maxRecDepth 20000 in
theorem sx_ishr {zb b L : Nat} {xs : Nat → Int32} {D : va_G} {cs : Nat → ClassId} {m : Nat} {k : Nat × Nat} {pc : Nat} {ls st : List V} {n : Int} {M : Mem} {Q : Post} {i : Instr} {len x w : Nat} {z y : Int} {tg : List Nat}
    (hm : m < NMT) (hdec : decode (am_M m).2.2.1 pc = .ok (i, len)) (hok : eok m (pc, i, len, x, w, z, y, tg) = true) (hi : i = .ishr)
    (hw : wpX (SX zb b L xs D cs) m (pc, i, len, x, w, z, y, tg) k ls st n M Q) : SX zb b L xs D cs m k pc ls st n M Q := by
  intro _ p l ev s mid args below meth c H locs lc Z hF hSW hWd hS hL hk1 hk2 hret
  obtain ⟨hx, hb, hml, hr, hlk, hown, hnm, hts⟩ := id hF
  have run : ∀ (k' : Nat × Nat) (pc' : Nat) (ls' st' : List V) (n' : Int) (M' : Mem) (H' : Heap) (locs' : List Loc) (lc' : Array Slot), SX zb b L xs D cs m k' pc' ls' st' n' M' Q → World zb L xs D cs M' n' H' → va_S (AWz zb) s.heap H' locs' → LocR zb b (am_M m).2.2.2.1 ls' lc' → k'.1 ≤ (rmM m).cells → k'.2 ≤ (rmM m).slots → W p l ev (rmM m) s mid args below meth c H' locs' k'.1 k'.2 Z (F0 mid pc' lc' (st'.map (cnc zb b))) := fun k' pc' ls' st' n' M' H' locs' lc' g1 g2 g3 g4 g5 g6 => g1 hm p l ev s mid args below meth c H' locs' lc' Z hF hSW g2 g3 g4 g5 g6 hret
  have run0 : ∀ (pc' : Nat) (st' : List V), SX zb b L xs D cs m k pc' ls st' n M Q → W p l ev (rmM m) s mid args below meth c H locs k.1 k.2 Z (F0 mid pc' lc (st'.map (cnc zb b))) := fun pc' st' g => run k pc' ls st' n M H locs lc g hWd hS hL hk1 hk2
  subst hi
  have hl : len = 1 := of_decide_eq_true hok
  subst hl
  rcases st with _ | ⟨⟨t1, x1⟩, _ | ⟨⟨t2, x2⟩, r⟩⟩
  · exact False.elim hw
  · exact False.elim hw
  · obtain ⟨e2, e1, c0, c1, c2, hw⟩ : t2 = 0 ∧ t1 = 0 ∧ R32 x2 ∧ 0 ≤ x1 ∧ x1 < 32 ∧ _ := hw
    subst e1
    subst e2
    show W p l ev (rmM m) s mid args below meth c H locs k.1 k.2 Z (F0 mid pc lc (.int (Int32.ofInt x1) :: .int (Int32.ofInt x2) :: List.map (cnc zb b) r))
    have hv : Int32.ofInt (x2 / 2 ^ x1.toNat) = Int32.ofInt x2 >>> (Int32.ofInt x1 &&& 31) := (shr_of c0 c1 c2).symm
    refine lv_ishr hx hb hdec ?_
    rw [← hv]
    exact run0 _ ((0, x2 / 2 ^ x1.toNat) :: r) hw

set_option maxHeartbeats 8000000 in
set_option maxRecDepth 20000 in
theorem sx_ineg {zb b L : Nat} {xs : Nat → Int32} {D : va_G} {cs : Nat → ClassId} {m : Nat} {k : Nat × Nat} {pc : Nat} {ls st : List V} {n : Int} {M : Mem} {Q : Post} {i : Instr} {len x w : Nat} {z y : Int} {tg : List Nat}
    (hm : m < NMT) (hdec : decode (am_M m).2.2.1 pc = .ok (i, len)) (hok : eok m (pc, i, len, x, w, z, y, tg) = true) (hi : i = .ineg)
    (hw : wpX (SX zb b L xs D cs) m (pc, i, len, x, w, z, y, tg) k ls st n M Q) : SX zb b L xs D cs m k pc ls st n M Q := by
  intro _ p l ev s mid args below meth c H locs lc Z hF hSW hWd hS hL hk1 hk2 hret
  obtain ⟨hx, hb, hml, hr, hlk, hown, hnm, hts⟩ := id hF
  have run : ∀ (k' : Nat × Nat) (pc' : Nat) (ls' st' : List V) (n' : Int) (M' : Mem) (H' : Heap) (locs' : List Loc) (lc' : Array Slot), SX zb b L xs D cs m k' pc' ls' st' n' M' Q → World zb L xs D cs M' n' H' → va_S (AWz zb) s.heap H' locs' → LocR zb b (am_M m).2.2.2.1 ls' lc' → k'.1 ≤ (rmM m).cells → k'.2 ≤ (rmM m).slots → W p l ev (rmM m) s mid args below meth c H' locs' k'.1 k'.2 Z (F0 mid pc' lc' (st'.map (cnc zb b))) := fun k' pc' ls' st' n' M' H' locs' lc' g1 g2 g3 g4 g5 g6 => g1 hm p l ev s mid args below meth c H' locs' lc' Z hF hSW g2 g3 g4 g5 g6 hret
  have run0 : ∀ (pc' : Nat) (st' : List V), SX zb b L xs D cs m k pc' ls st' n M Q → W p l ev (rmM m) s mid args below meth c H locs k.1 k.2 Z (F0 mid pc' lc (st'.map (cnc zb b))) := fun pc' st' g => run k pc' ls st' n M H locs lc g hWd hS hL hk1 hk2
  subst hi
  have hl : len = 1 := of_decide_eq_true hok
  subst hl
  rcases st with _ | ⟨⟨t1, x1⟩, r⟩
  · exact False.elim hw
  · obtain ⟨e1, hw⟩ : t1 = 0 ∧ _ := hw
    subst e1
    show W p l ev (rmM m) s mid args below meth c H locs k.1 k.2 Z (F0 mid pc lc (.int (Int32.ofInt x1) :: List.map (cnc zb b) r))
    have hv : Int32.ofInt (-x1) = -Int32.ofInt x1 := Int32.ofInt_neg _
    refine lv_ineg hx hb hdec ?_
    rw [← hv]
    exact run0 _ ((0, -x1) :: r) hw

set_option maxHeartbeats 8000000 in
set_option maxRecDepth 20000 in
theorem sx_lcmp {zb b L : Nat} {xs : Nat → Int32} {D : va_G} {cs : Nat → ClassId} {m : Nat} {k : Nat × Nat} {pc : Nat} {ls st : List V} {n : Int} {M : Mem} {Q : Post} {i : Instr} {len x w : Nat} {z y : Int} {tg : List Nat}
    (hm : m < NMT) (hdec : decode (am_M m).2.2.1 pc = .ok (i, len)) (hok : eok m (pc, i, len, x, w, z, y, tg) = true) (hi : i = .lcmp)
    (hw : wpX (SX zb b L xs D cs) m (pc, i, len, x, w, z, y, tg) k ls st n M Q) : SX zb b L xs D cs m k pc ls st n M Q := by
  intro _ p l ev s mid args below meth c H locs lc Z hF hSW hWd hS hL hk1 hk2 hret
  obtain ⟨hx, hb, hml, hr, hlk, hown, hnm, hts⟩ := id hF
  have run : ∀ (k' : Nat × Nat) (pc' : Nat) (ls' st' : List V) (n' : Int) (M' : Mem) (H' : Heap) (locs' : List Loc) (lc' : Array Slot), SX zb b L xs D cs m k' pc' ls' st' n' M' Q → World zb L xs D cs M' n' H' → va_S (AWz zb) s.heap H' locs' → LocR zb b (am_M m).2.2.2.1 ls' lc' → k'.1 ≤ (rmM m).cells → k'.2 ≤ (rmM m).slots → W p l ev (rmM m) s mid args below meth c H' locs' k'.1 k'.2 Z (F0 mid pc' lc' (st'.map (cnc zb b))) := fun k' pc' ls' st' n' M' H' locs' lc' g1 g2 g3 g4 g5 g6 => g1 hm p l ev s mid args below meth c H' locs' lc' Z hF hSW g2 g3 g4 g5 g6 hret
  have run0 : ∀ (pc' : Nat) (st' : List V), SX zb b L xs D cs m k pc' ls st' n M Q → W p l ev (rmM m) s mid args below meth c H locs k.1 k.2 Z (F0 mid pc' lc (st'.map (cnc zb b))) := fun pc' st' g => run k pc' ls st' n M H locs lc g hWd hS hL hk1 hk2
  subst hi
  have hl : len = 1 := of_decide_eq_true hok
  subst hl
  rcases st with _ | ⟨⟨t1, x1⟩, _ | ⟨⟨t2, x2⟩, r⟩⟩
  · exact False.elim hw
  · exact False.elim hw
  · obtain ⟨e2, e1, c1, hw⟩ : t2 = 1 ∧ t1 = 1 ∧ RL x2 x1 ∧ _ := hw
    subst e1
    subst e2
    show W p l ev (rmM m) s mid args below meth c H locs k.1 k.2 Z (F0 mid pc lc (.long (Int64.ofInt x1) :: .long (Int64.ofInt x2) :: List.map (cnc zb b) r))
    have hv : Int32.ofInt (lcm3 x2 x1) = lg_cmp (Int64.ofInt x2) (Int64.ofInt x1) := (lcm3_of c1).symm
    refine W.lcmp hx hb hdec ?_
    rw [← hv]
    exact run0 _ ((0, lcm3 x2 x1) :: r) hw

set_option maxHeartbeats 8000000 in
set_option maxRecDepth 20000 in
theorem sx_i2l {zb b L : Nat} {xs : Nat → Int32} {D : va_G} {cs : Nat → ClassId} {m : Nat} {k : Nat × Nat} {pc : Nat} {ls st : List V} {n : Int} {M : Mem} {Q : Post} {i : Instr} {len x w : Nat} {z y : Int} {tg : List Nat}
    (hm : m < NMT) (hdec : decode (am_M m).2.2.1 pc = .ok (i, len)) (hok : eok m (pc, i, len, x, w, z, y, tg) = true) (hi : i = .i2l)
    (hw : wpX (SX zb b L xs D cs) m (pc, i, len, x, w, z, y, tg) k ls st n M Q) : SX zb b L xs D cs m k pc ls st n M Q := by
  intro _ p l ev s mid args below meth c H locs lc Z hF hSW hWd hS hL hk1 hk2 hret
  obtain ⟨hx, hb, hml, hr, hlk, hown, hnm, hts⟩ := id hF
  have run : ∀ (k' : Nat × Nat) (pc' : Nat) (ls' st' : List V) (n' : Int) (M' : Mem) (H' : Heap) (locs' : List Loc) (lc' : Array Slot), SX zb b L xs D cs m k' pc' ls' st' n' M' Q → World zb L xs D cs M' n' H' → va_S (AWz zb) s.heap H' locs' → LocR zb b (am_M m).2.2.2.1 ls' lc' → k'.1 ≤ (rmM m).cells → k'.2 ≤ (rmM m).slots → W p l ev (rmM m) s mid args below meth c H' locs' k'.1 k'.2 Z (F0 mid pc' lc' (st'.map (cnc zb b))) := fun k' pc' ls' st' n' M' H' locs' lc' g1 g2 g3 g4 g5 g6 => g1 hm p l ev s mid args below meth c H' locs' lc' Z hF hSW g2 g3 g4 g5 g6 hret
  have run0 : ∀ (pc' : Nat) (st' : List V), SX zb b L xs D cs m k pc' ls st' n M Q → W p l ev (rmM m) s mid args below meth c H locs k.1 k.2 Z (F0 mid pc' lc (st'.map (cnc zb b))) := fun pc' st' g => run k pc' ls st' n M H locs lc g hWd hS hL hk1 hk2
  subst hi
  have hl : len = 1 := of_decide_eq_true hok
  subst hl
  rcases st with _ | ⟨⟨t1, x1⟩, r⟩
  · exact False.elim hw
  · obtain ⟨e1, c1, hw⟩ : t1 = 0 ∧ R32 x1 ∧ _ := hw
    subst e1
    show W p l ev (rmM m) s mid args below meth c H locs k.1 k.2 Z (F0 mid pc lc (.int (Int32.ofInt x1) :: List.map (cnc zb b) r))
    refine lv_i2l hx hb hdec (i2l_of c1) ?_
    exact run0 _ ((1, x1) :: r) hw

set_option maxHeartbeats 8000000 in
set_option maxRecDepth 20000 in
theorem sx_l2i {zb b L : Nat} {xs : Nat → Int32} {D : va_G} {cs : Nat → ClassId} {m : Nat} {k : Nat × Nat} {pc : Nat} {ls st : List V} {n : Int} {M : Mem} {Q : Post} {i : Instr} {len x w : Nat} {z y : Int} {tg : List Nat}
    (hm : m < NMT) (hdec : decode (am_M m).2.2.1 pc = .ok (i, len)) (hok : eok m (pc, i, len, x, w, z, y, tg) = true) (hi : i = .l2i)
    (hw : wpX (SX zb b L xs D cs) m (pc, i, len, x, w, z, y, tg) k ls st n M Q) : SX zb b L xs D cs m k pc ls st n M Q := by
  intro _ p l ev s mid args below meth c H locs lc Z hF hSW hWd hS hL hk1 hk2 hret
  obtain ⟨hx, hb, hml, hr, hlk, hown, hnm, hts⟩ := id hF
  have run : ∀ (k' : Nat × Nat) (pc' : Nat) (ls' st' : List V) (n' : Int) (M' : Mem) (H' : Heap) (locs' : List Loc) (lc' : Array Slot), SX zb b L xs D cs m k' pc' ls' st' n' M' Q → World zb L xs D cs M' n' H' → va_S (AWz zb) s.heap H' locs' → LocR zb b (am_M m).2.2.2.1 ls' lc' → k'.1 ≤ (rmM m).cells → k'.2 ≤ (rmM m).slots → W p l ev (rmM m) s mid args below meth c H' locs' k'.1 k'.2 Z (F0 mid pc' lc' (st'.map (cnc zb b))) := fun k' pc' ls' st' n' M' H' locs' lc' g1 g2 g3 g4 g5 g6 => g1 hm p l ev s mid args below meth c H' locs' lc' Z hF hSW g2 g3 g4 g5 g6 hret
  have run0 : ∀ (pc' : Nat) (st' : List V), SX zb b L xs D cs m k pc' ls st' n M Q → W p l ev (rmM m) s mid args below meth c H locs k.1 k.2 Z (F0 mid pc' lc (st'.map (cnc zb b))) := fun pc' st' g => run k pc' ls st' n M H locs lc g hWd hS hL hk1 hk2
  subst hi
  have hl : len = 1 := of_decide_eq_true hok
  subst hl
  rcases st with _ | ⟨⟨t1, x1⟩, r⟩
  · exact False.elim hw
  · obtain ⟨e1, hw⟩ : t1 = 1 ∧ _ := hw
    subst e1
    show W p l ev (rmM m) s mid args below meth c H locs k.1 k.2 Z (F0 mid pc lc (.long (Int64.ofInt x1) :: List.map (cnc zb b) r))
    refine lv_l2i hx hb hdec Int64.toInt32_ofInt ?_
    exact run0 _ ((0, x1) :: r) hw

set_option maxHeartbeats 8000000 in
set_option maxRecDepth 20000 in
theorem sx_dup {zb b L : Nat} {xs : Nat → Int32} {D : va_G} {cs : Nat → ClassId} {m : Nat} {k : Nat × Nat} {pc : Nat} {ls st : List V} {n : Int} {M : Mem} {Q : Post} {i : Instr} {len x w : Nat} {z y : Int} {tg : List Nat}
    (hm : m < NMT) (hdec : decode (am_M m).2.2.1 pc = .ok (i, len)) (hok : eok m (pc, i, len, x, w, z, y, tg) = true) (hi : i = .dup)
    (hw : wpX (SX zb b L xs D cs) m (pc, i, len, x, w, z, y, tg) k ls st n M Q) : SX zb b L xs D cs m k pc ls st n M Q := by
  intro _ p l ev s mid args below meth c H locs lc Z hF hSW hWd hS hL hk1 hk2 hret
  obtain ⟨hx, hb, hml, hr, hlk, hown, hnm, hts⟩ := id hF
  have run : ∀ (k' : Nat × Nat) (pc' : Nat) (ls' st' : List V) (n' : Int) (M' : Mem) (H' : Heap) (locs' : List Loc) (lc' : Array Slot), SX zb b L xs D cs m k' pc' ls' st' n' M' Q → World zb L xs D cs M' n' H' → va_S (AWz zb) s.heap H' locs' → LocR zb b (am_M m).2.2.2.1 ls' lc' → k'.1 ≤ (rmM m).cells → k'.2 ≤ (rmM m).slots → W p l ev (rmM m) s mid args below meth c H' locs' k'.1 k'.2 Z (F0 mid pc' lc' (st'.map (cnc zb b))) := fun k' pc' ls' st' n' M' H' locs' lc' g1 g2 g3 g4 g5 g6 => g1 hm p l ev s mid args below meth c H' locs' lc' Z hF hSW g2 g3 g4 g5 g6 hret
  have run0 : ∀ (pc' : Nat) (st' : List V), SX zb b L xs D cs m k pc' ls st' n M Q → W p l ev (rmM m) s mid args below meth c H locs k.1 k.2 Z (F0 mid pc' lc (st'.map (cnc zb b))) := fun pc' st' g => run k pc' ls st' n M H locs lc g hWd hS hL hk1 hk2
  subst hi
  have hl : len = 1 := of_decide_eq_true hok
  subst hl
  rcases st with _ | ⟨v1, r⟩
  · exact False.elim hw
  · obtain ⟨e1, hw⟩ : v1.1 ≠ 1 ∧ _ := hw
    have hc : (cnc zb b v1).category = 1 := (lv_cat _).elim id (fun q => absurd ((cnc_cat zb b v1).mp q) e1)
    exact lv_dup hx hb hdec hc (run0 _ (v1 :: v1 :: r) hw)

set_option maxHeartbeats 8000000 in
set_option maxRecDepth 20000 in
theorem sx_dup2 {zb b L : Nat} {xs : Nat → Int32} {D : va_G} {cs : Nat → ClassId} {m : Nat} {k : Nat × Nat} {pc : Nat} {ls st : List V} {n : Int} {M : Mem} {Q : Post} {i : Instr} {len x w : Nat} {z y : Int} {tg : List Nat}
    (hm : m < NMT) (hdec : decode (am_M m).2.2.1 pc = .ok (i, len)) (hok : eok m (pc, i, len, x, w, z, y, tg) = true) (hi : i = .dup2)
    (hw : wpX (SX zb b L xs D cs) m (pc, i, len, x, w, z, y, tg) k ls st n M Q) : SX zb b L xs D cs m k pc ls st n M Q := by
  intro _ p l ev s mid args below meth c H locs lc Z hF hSW hWd hS hL hk1 hk2 hret
  obtain ⟨hx, hb, hml, hr, hlk, hown, hnm, hts⟩ := id hF
  have run : ∀ (k' : Nat × Nat) (pc' : Nat) (ls' st' : List V) (n' : Int) (M' : Mem) (H' : Heap) (locs' : List Loc) (lc' : Array Slot), SX zb b L xs D cs m k' pc' ls' st' n' M' Q → World zb L xs D cs M' n' H' → va_S (AWz zb) s.heap H' locs' → LocR zb b (am_M m).2.2.2.1 ls' lc' → k'.1 ≤ (rmM m).cells → k'.2 ≤ (rmM m).slots → W p l ev (rmM m) s mid args below meth c H' locs' k'.1 k'.2 Z (F0 mid pc' lc' (st'.map (cnc zb b))) := fun k' pc' ls' st' n' M' H' locs' lc' g1 g2 g3 g4 g5 g6 => g1 hm p l ev s mid args below meth c H' locs' lc' Z hF hSW g2 g3 g4 g5 g6 hret
  have run0 : ∀ (pc' : Nat) (st' : List V), SX zb b L xs D cs m k pc' ls st' n M Q → W p l ev (rmM m) s mid args below meth c H locs k.1 k.2 Z (F0 mid pc' lc (st'.map (cnc zb b))) := fun pc' st' g => run k pc' ls st' n M H locs lc g hWd hS hL hk1 hk2
  subst hi
  have hl : len = 1 := of_decide_eq_true hok
  subst hl
  rcases st with _ | ⟨v1, _ | ⟨v2, r⟩⟩
  · exact False.elim hw
  · exact False.elim hw
  · obtain ⟨e1, e2, hw⟩ : v1.1 ≠ 1 ∧ v2.1 ≠ 1 ∧ _ := hw
    have hc : (cnc zb b v1).category = 1 := (lv_cat _).elim id (fun q => absurd ((cnc_cat zb b v1).mp q) e1)
    have hc2 : (cnc zb b v2).category = 1 := (lv_cat _).elim id (fun q => absurd ((cnc_cat zb b v2).mp q) e2)
    exact lv_dup2_11 hx hb hdec hc hc2 (run0 _ (v1 :: v2 :: v1 :: v2 :: r) hw)

set_option maxHeartbeats 8000000 in
set_option maxRecDepth 20000 in
theorem sx_icmp_eq {zb b L : Nat} {xs : Nat → Int32} {D : va_G} {cs : Nat → ClassId} {m : Nat} {k : Nat × Nat} {pc : Nat} {ls st : List V} {n : Int} {M : Mem} {Q : Post} {i : Instr} {len x w : Nat} {z y : Int} {tg : List Nat}
    (hm : m < NMT) (hdec : decode (am_M m).2.2.1 pc = .ok (i, len)) (hok : eok m (pc, i, len, x, w, z, y, tg) = true) (hi : ∃ q, i = .if_icmp .eq q)
    (hw : wpX (SX zb b L xs D cs) m (pc, i, len, x, w, z, y, tg) k ls st n M Q) : SX zb b L xs D cs m k pc ls st n M Q := by
  intro _ p l ev s mid args below meth c H locs lc Z hF hSW hWd hS hL hk1 hk2 hret
  obtain ⟨hx, hb, hml, hr, hlk, hown, hnm, hts⟩ := id hF
  have run : ∀ (k' : Nat × Nat) (pc' : Nat) (ls' st' : List V) (n' : Int) (M' : Mem) (H' : Heap) (locs' : List Loc) (lc' : Array Slot), SX zb b L xs D cs m k' pc' ls' st' n' M' Q → World zb L xs D cs M' n' H' → va_S (AWz zb) s.heap H' locs' → LocR zb b (am_M m).2.2.2.1 ls' lc' → k'.1 ≤ (rmM m).cells → k'.2 ≤ (rmM m).slots → W p l ev (rmM m) s mid args below meth c H' locs' k'.1 k'.2 Z (F0 mid pc' lc' (st'.map (cnc zb b))) := fun k' pc' ls' st' n' M' H' locs' lc' g1 g2 g3 g4 g5 g6 => g1 hm p l ev s mid args below meth c H' locs' lc' Z hF hSW g2 g3 g4 g5 g6 hret
  have run0 : ∀ (pc' : Nat) (st' : List V), SX zb b L xs D cs m k pc' ls st' n M Q → W p l ev (rmM m) s mid args below meth c H locs k.1 k.2 Z (F0 mid pc' lc (st'.map (cnc zb b))) := fun pc' st' g => run k pc' ls st' n M H locs lc g hWd hS hL hk1 hk2
  obtain ⟨q, rfl⟩ := hi
  obtain ⟨hl, h1⟩ : len = 3 ∧ (pc : Int) + q = x := of_decide_eq_true hok
  subst hl
  rcases st with _ | ⟨⟨t1, x1⟩, _ | ⟨⟨t2, x2⟩, r⟩⟩
  · exact False.elim hw
  · exact False.elim hw
  · obtain ⟨e2, e1, c1, hw⟩ : t2 = 0 ∧ t1 = 0 ∧ RR x2 x1 ∧ (if x2 = x1 then SX zb b L xs D cs m k x ls r n M Q else SX zb b L xs D cs m k (pc + 3) ls r n M Q) := hw
    subst e1
    subst e2
    show W p l ev (rmM m) s mid args below meth c H locs k.1 k.2 Z (F0 mid pc lc (.int (Int32.ofInt x1) :: .int (Int32.ofInt x2) :: List.map (cnc zb b) r))
    exact lv_icmp_eq (tgt := x) hx hb hdec h1 (fun q => by rw [if_pos ((RR_eq c1).mp q)] at hw; exact run0 _ r hw) (fun q => by rw [if_neg (fun z => q ((RR_eq c1).mpr z))] at hw; exact run0 _ r hw)

set_option maxHeartbeats 8000000 in
set_option maxRecDepth 20000 in
theorem sx_icmp_ne {zb b L : Nat} {xs : Nat → Int32} {D : va_G} {cs : Nat → ClassId} {m : Nat} {k : Nat × Nat} {pc : Nat} {ls st : List V} {n : Int} {M : Mem} {Q : Post} {i : Instr} {len x w : Nat} {z y : Int} {tg : List Nat}
    (hm : m < NMT) (hdec : decode (am_M m).2.2.1 pc = .ok (i, len)) (hok : eok m (pc, i, len, x, w, z, y, tg) = true) (hi : ∃ q, i = .if_icmp .ne q)
    (hw : wpX (SX zb b L xs D cs) m (pc, i, len, x, w, z, y, tg) k ls st n M Q) : SX zb b L xs D cs m k pc ls st n M Q := by
  intro _ p l ev s mid args below meth c H locs lc Z hF hSW hWd hS hL hk1 hk2 hret
  obtain ⟨hx, hb, hml, hr, hlk, hown, hnm, hts⟩ := id hF
  have run : ∀ (k' : Nat × Nat) (pc' : Nat) (ls' st' : List V) (n' : Int) (M' : Mem) (H' : Heap) (locs' : List Loc) (lc' : Array Slot), SX zb b L xs D cs m k' pc' ls' st' n' M' Q → World zb L xs D cs M' n' H' → va_S (AWz zb) s.heap H' locs' → LocR zb b (am_M m).2.2.2.1 ls' lc' → k'.1 ≤ (rmM m).cells → k'.2 ≤ (rmM m).slots → W p l ev (rmM m) s mid args below meth c H' locs' k'.1 k'.2 Z (F0 mid pc' lc' (st'.map (cnc zb b))) := fun k' pc' ls' st' n' M' H' locs' lc' g1 g2 g3 g4 g5 g6 => g1 hm p l ev s mid args below meth c H' locs' lc' Z hF hSW g2 g3 g4 g5 g6 hret
  have run0 : ∀ (pc' : Nat) (st' : List V), SX zb b L xs D cs m k pc' ls st' n M Q → W p l ev (rmM m) s mid args below meth c H locs k.1 k.2 Z (F0 mid pc' lc (st'.map (cnc zb b))) := fun pc' st' g => run k pc' ls st' n M H locs lc g hWd hS hL hk1 hk2
  obtain ⟨q, rfl⟩ := hi
  obtain ⟨hl, h1⟩ : len = 3 ∧ (pc : Int) + q = x := of_decide_eq_true hok
  subst hl
  rcases st with _ | ⟨⟨t1, x1⟩, _ | ⟨⟨t2, x2⟩, r⟩⟩
  · exact False.elim hw
  · exact False.elim hw
  · obtain ⟨e2, e1, c1, hw⟩ : t2 = 0 ∧ t1 = 0 ∧ RR x2 x1 ∧ (if x2 = x1 then SX zb b L xs D cs m k (pc + 3) ls r n M Q else SX zb b L xs D cs m k x ls r n M Q) := hw
    subst e1
    subst e2
    show W p l ev (rmM m) s mid args below meth c H locs k.1 k.2 Z (F0 mid pc lc (.int (Int32.ofInt x1) :: .int (Int32.ofInt x2) :: List.map (cnc zb b) r))
    exact lv_icmp_ne (tgt := x) hx hb hdec h1 (fun q => by rw [if_neg (fun z => q ((RR_eq c1).mpr z))] at hw; exact run0 _ r hw) (fun q => by rw [if_pos ((RR_eq c1).mp q)] at hw; exact run0 _ r hw)

set_option maxHeartbeats 8000000 in
set_option maxRecDepth 20000 in
theorem sx_icmp_lt {zb b L : Nat} {xs : Nat → Int32} {D : va_G} {cs : Nat → ClassId} {m : Nat} {k : Nat × Nat} {pc : Nat} {ls st : List V} {n : Int} {M : Mem} {Q : Post} {i : Instr} {len x w : Nat} {z y : Int} {tg : List Nat}
    (hm : m < NMT) (hdec : decode (am_M m).2.2.1 pc = .ok (i, len)) (hok : eok m (pc, i, len, x, w, z, y, tg) = true) (hi : ∃ q, i = .if_icmp .lt q)
    (hw : wpX (SX zb b L xs D cs) m (pc, i, len, x, w, z, y, tg) k ls st n M Q) : SX zb b L xs D cs m k pc ls st n M Q := by
  intro _ p l ev s mid args below meth c H locs lc Z hF hSW hWd hS hL hk1 hk2 hret
  obtain ⟨hx, hb, hml, hr, hlk, hown, hnm, hts⟩ := id hF
  have run : ∀ (k' : Nat × Nat) (pc' : Nat) (ls' st' : List V) (n' : Int) (M' : Mem) (H' : Heap) (locs' : List Loc) (lc' : Array Slot), SX zb b L xs D cs m k' pc' ls' st' n' M' Q → World zb L xs D cs M' n' H' → va_S (AWz zb) s.heap H' locs' → LocR zb b (am_M m).2.2.2.1 ls' lc' → k'.1 ≤ (rmM m).cells → k'.2 ≤ (rmM m).slots → W p l ev (rmM m) s mid args below meth c H' locs' k'.1 k'.2 Z (F0 mid pc' lc' (st'.map (cnc zb b))) := fun k' pc' ls' st' n' M' H' locs' lc' g1 g2 g3 g4 g5 g6 => g1 hm p l ev s mid args below meth c H' locs' lc' Z hF hSW g2 g3 g4 g5 g6 hret
  have run0 : ∀ (pc' : Nat) (st' : List V), SX zb b L xs D cs m k pc' ls st' n M Q → W p l ev (rmM m) s mid args below meth c H locs k.1 k.2 Z (F0 mid pc' lc (st'.map (cnc zb b))) := fun pc' st' g => run k pc' ls st' n M H locs lc g hWd hS hL hk1 hk2
  obtain ⟨q, rfl⟩ := hi
  obtain ⟨hl, h1⟩ : len = 3 ∧ (pc : Int) + q = x := of_decide_eq_true hok
  subst hl
  rcases st with _ | ⟨⟨t1, x1⟩, _ | ⟨⟨t2, x2⟩, r⟩⟩
  · exact False.elim hw
  · exact False.elim hw
  · obtain ⟨e2, e1, c1, hw⟩ : t2 = 0 ∧ t1 = 0 ∧ RR x2 x1 ∧ (if x2 < x1 then SX zb b L xs D cs m k x ls r n M Q else SX zb b L xs D cs m k (pc + 3) ls r n M Q) := hw
    subst e1
    subst e2
    show W p l ev (rmM m) s mid args below meth c H locs k.1 k.2 Z (F0 mid pc lc (.int (Int32.ofInt x1) :: .int (Int32.ofInt x2) :: List.map (cnc zb b) r))
    exact lv_icmp_lt (tgt := x) hx hb hdec h1 (fun q => by rw [if_pos ((RR_lt c1).mp q)] at hw; exact run0 _ r hw) (fun q => by rw [if_neg (fun z => q ((RR_lt c1).mpr z))] at hw; exact run0 _ r hw)

set_option maxHeartbeats 8000000 in
set_option maxRecDepth 20000 in
theorem sx_icmp_ge {zb b L : Nat} {xs : Nat → Int32} {D : va_G} {cs : Nat → ClassId} {m : Nat} {k : Nat × Nat} {pc : Nat} {ls st : List V} {n : Int} {M : Mem} {Q : Post} {i : Instr} {len x w : Nat} {z y : Int} {tg : List Nat}
    (hm : m < NMT) (hdec : decode (am_M m).2.2.1 pc = .ok (i, len)) (hok : eok m (pc, i, len, x, w, z, y, tg) = true) (hi : ∃ q, i = .if_icmp .ge q)
    (hw : wpX (SX zb b L xs D cs) m (pc, i, len, x, w, z, y, tg) k ls st n M Q) : SX zb b L xs D cs m k pc ls st n M Q := by
  intro _ p l ev s mid args below meth c H locs lc Z hF hSW hWd hS hL hk1 hk2 hret
  obtain ⟨hx, hb, hml, hr, hlk, hown, hnm, hts⟩ := id hF
  have run : ∀ (k' : Nat × Nat) (pc' : Nat) (ls' st' : List V) (n' : Int) (M' : Mem) (H' : Heap) (locs' : List Loc) (lc' : Array Slot), SX zb b L xs D cs m k' pc' ls' st' n' M' Q → World zb L xs D cs M' n' H' → va_S (AWz zb) s.heap H' locs' → LocR zb b (am_M m).2.2.2.1 ls' lc' → k'.1 ≤ (rmM m).cells → k'.2 ≤ (rmM m).slots → W p l ev (rmM m) s mid args below meth c H' locs' k'.1 k'.2 Z (F0 mid pc' lc' (st'.map (cnc zb b))) := fun k' pc' ls' st' n' M' H' locs' lc' g1 g2 g3 g4 g5 g6 => g1 hm p l ev s mid args below meth c H' locs' lc' Z hF hSW g2 g3 g4 g5 g6 hret
  have run0 : ∀ (pc' : Nat) (st' : List V), SX zb b L xs D cs m k pc' ls st' n M Q → W p l ev (rmM m) s mid args below meth c H locs k.1 k.2 Z (F0 mid pc' lc (st'.map (cnc zb b))) := fun pc' st' g => run k pc' ls st' n M H locs lc g hWd hS hL hk1 hk2
  obtain ⟨q, rfl⟩ := hi
  obtain ⟨hl, h1⟩ : len = 3 ∧ (pc : Int) + q = x := of_decide_eq_true hok
  subst hl
  rcases st with _ | ⟨⟨t1, x1⟩, _ | ⟨⟨t2, x2⟩, r⟩⟩
  · exact False.elim hw
  · exact False.elim hw
  · obtain ⟨e2, e1, c1, hw⟩ : t2 = 0 ∧ t1 = 0 ∧ RR x2 x1 ∧ (if x2 < x1 then SX zb b L xs D cs m k (pc + 3) ls r n M Q else SX zb b L xs D cs m k x ls r n M Q) := hw
    subst e1
    subst e2
    show W p l ev (rmM m) s mid args below meth c H locs k.1 k.2 Z (F0 mid pc lc (.int (Int32.ofInt x1) :: .int (Int32.ofInt x2) :: List.map (cnc zb b) r))
    exact lv_icmp_ge (tgt := x) hx hb hdec h1 (fun q => by rw [if_neg (by have := (RR_le c1.symm).mp q; omega)] at hw; exact run0 _ r hw) (fun q => by rw [if_pos (Int.not_le.mp (fun z => q ((RR_le c1.symm).mpr z)))] at hw; exact run0 _ r hw)

set_option maxHeartbeats 8000000 in
set_option maxRecDepth 20000 in
theorem sx_icmp_gt {zb b L : Nat} {xs : Nat → Int32} {D : va_G} {cs : Nat → ClassId} {m : Nat} {k : Nat × Nat} {pc : Nat} {ls st : List V} {n : Int} {M : Mem} {Q : Post} {i : Instr} {len x w : Nat} {z y : Int} {tg : List Nat}
    (hm : m < NMT) (hdec : decode (am_M m).2.2.1 pc = .ok (i, len)) (hok : eok m (pc, i, len, x, w, z, y, tg) = true) (hi : ∃ q, i = .if_icmp .gt q)
    (hw : wpX (SX zb b L xs D cs) m (pc, i, len, x, w, z, y, tg) k ls st n M Q) : SX zb b L xs D cs m k pc ls st n M Q := by
  intro _ p l ev s mid args below meth c H locs lc Z hF hSW hWd hS hL hk1 hk2 hret
  obtain ⟨hx, hb, hml, hr, hlk, hown, hnm, hts⟩ := id hF
  have run : ∀ (k' : Nat × Nat) (pc' : Nat) (ls' st' : List V) (n' : Int) (M' : Mem) (H' : Heap) (locs' : List Loc) (lc' : Array Slot), SX zb b L xs D cs m k' pc' ls' st' n' M' Q → World zb L xs D cs M' n' H' → va_S (AWz zb) s.heap H' locs' → LocR zb b (am_M m).2.2.2.1 ls' lc' → k'.1 ≤ (rmM m).cells → k'.2 ≤ (rmM m).slots → W p l ev (rmM m) s mid args below meth c H' locs' k'.1 k'.2 Z (F0 mid pc' lc' (st'.map (cnc zb b))) := fun k' pc' ls' st' n' M' H' locs' lc' g1 g2 g3 g4 g5 g6 => g1 hm p l ev s mid args below meth c H' locs' lc' Z hF hSW g2 g3 g4 g5 g6 hret
  have run0 : ∀ (pc' : Nat) (st' : List V), SX zb b L xs D cs m k pc' ls st' n M Q → W p l ev (rmM m) s mid args below meth c H locs k.1 k.2 Z (F0 mid pc' lc (st'.map (cnc zb b))) := fun pc' st' g => run k pc' ls st' n M H locs lc g hWd hS hL hk1 hk2
  obtain ⟨q, rfl⟩ := hi
  obtain ⟨hl, h1⟩ : len = 3 ∧ (pc : Int) + q = x := of_decide_eq_true hok
  subst hl
  rcases st with _ | ⟨⟨t1, x1⟩, _ | ⟨⟨t2, x2⟩, r⟩⟩
  · exact False.elim hw
  · exact False.elim hw
  · obtain ⟨e2, e1, c1, hw⟩ : t2 = 0 ∧ t1 = 0 ∧ RR x2 x1 ∧ (if x1 < x2 then SX zb b L xs D cs m k x ls r n M Q else SX zb b L xs D cs m k (pc + 3) ls r n M Q) := hw
    subst e1
    subst e2
    show W p l ev (rmM m) s mid args below meth c H locs k.1 k.2 Z (F0 mid pc lc (.int (Int32.ofInt x1) :: .int (Int32.ofInt x2) :: List.map (cnc zb b) r))
    exact lv_icmp_gt (tgt := x) hx hb hdec h1 (fun q => by rw [if_pos ((RR_lt c1.symm).mp q)] at hw; exact run0 _ r hw) (fun q => by rw [if_neg (fun z => q ((RR_lt c1.symm).mpr z))] at hw; exact run0 _ r hw)

set_option maxHeartbeats 8000000 in
set_option maxRecDepth 20000 in
theorem sx_icmp_le {zb b L : Nat} {xs : Nat → Int32} {D : va_G} {cs : Nat → ClassId} {m : Nat} {k : Nat × Nat} {pc : Nat} {ls st : List V} {n : Int} {M : Mem} {Q : Post} {i : Instr} {len x w : Nat} {z y : Int} {tg : List Nat}
    (hm : m < NMT) (hdec : decode (am_M m).2.2.1 pc = .ok (i, len)) (hok : eok m (pc, i, len, x, w, z, y, tg) = true) (hi : ∃ q, i = .if_icmp .le q)
    (hw : wpX (SX zb b L xs D cs) m (pc, i, len, x, w, z, y, tg) k ls st n M Q) : SX zb b L xs D cs m k pc ls st n M Q := by
  intro _ p l ev s mid args below meth c H locs lc Z hF hSW hWd hS hL hk1 hk2 hret
  obtain ⟨hx, hb, hml, hr, hlk, hown, hnm, hts⟩ := id hF
  have run : ∀ (k' : Nat × Nat) (pc' : Nat) (ls' st' : List V) (n' : Int) (M' : Mem) (H' : Heap) (locs' : List Loc) (lc' : Array Slot), SX zb b L xs D cs m k' pc' ls' st' n' M' Q → World zb L xs D cs M' n' H' → va_S (AWz zb) s.heap H' locs' → LocR zb b (am_M m).2.2.2.1 ls' lc' → k'.1 ≤ (rmM m).cells → k'.2 ≤ (rmM m).slots → W p l ev (rmM m) s mid args below meth c H' locs' k'.1 k'.2 Z (F0 mid pc' lc' (st'.map (cnc zb b))) := fun k' pc' ls' st' n' M' H' locs' lc' g1 g2 g3 g4 g5 g6 => g1 hm p l ev s mid args below meth c H' locs' lc' Z hF hSW g2 g3 g4 g5 g6 hret
  have run0 : ∀ (pc' : Nat) (st' : List V), SX zb b L xs D cs m k pc' ls st' n M Q → W p l ev (rmM m) s mid args below meth c H locs k.1 k.2 Z (F0 mid pc' lc (st'.map (cnc zb b))) := fun pc' st' g => run k pc' ls st' n M H locs lc g hWd hS hL hk1 hk2
  obtain ⟨q, rfl⟩ := hi
  obtain ⟨hl, h1⟩ : len = 3 ∧ (pc : Int) + q = x := of_decide_eq_true hok
  subst hl
  rcases st with _ | ⟨⟨t1, x1⟩, _ | ⟨⟨t2, x2⟩, r⟩⟩
  · exact False.elim hw
  · exact False.elim hw
  · obtain ⟨e2, e1, c1, hw⟩ : t2 = 0 ∧ t1 = 0 ∧ RR x2 x1 ∧ (if x1 < x2 then SX zb b L xs D cs m k (pc + 3) ls r n M Q else SX zb b L xs D cs m k x ls r n M Q) := hw
    subst e1
    subst e2
    show W p l ev (rmM m) s mid args below meth c H locs k.1 k.2 Z (F0 mid pc lc (.int (Int32.ofInt x1) :: .int (Int32.ofInt x2) :: List.map (cnc zb b) r))
    exact lv_icmp_le (tgt := x) hx hb hdec h1 (fun q => by rw [if_neg (by have := (RR_le c1).mp q; omega)] at hw; exact run0 _ r hw) (fun q => by rw [if_pos (Int.not_le.mp (fun z => q ((RR_le c1).mpr z)))] at hw; exact run0 _ r hw)

set_option maxHeartbeats 8000000 in
set_option maxRecDepth 20000 in
theorem sx_if_eq {zb b L : Nat} {xs : Nat → Int32} {D : va_G} {cs : Nat → ClassId} {m : Nat} {k : Nat × Nat} {pc : Nat} {ls st : List V} {n : Int} {M : Mem} {Q : Post} {i : Instr} {len x w : Nat} {z y : Int} {tg : List Nat}
    (hm : m < NMT) (hdec : decode (am_M m).2.2.1 pc = .ok (i, len)) (hok : eok m (pc, i, len, x, w, z, y, tg) = true) (hi : ∃ q, i = .ifCond .eq q)
    (hw : wpX (SX zb b L xs D cs) m (pc, i, len, x, w, z, y, tg) k ls st n M Q) : SX zb b L xs D cs m k pc ls st n M Q := by
  intro _ p l ev s mid args below meth c H locs lc Z hF hSW hWd hS hL hk1 hk2 hret
  obtain ⟨hx, hb, hml, hr, hlk, hown, hnm, hts⟩ := id hF
  have run : ∀ (k' : Nat × Nat) (pc' : Nat) (ls' st' : List V) (n' : Int) (M' : Mem) (H' : Heap) (locs' : List Loc) (lc' : Array Slot), SX zb b L xs D cs m k' pc' ls' st' n' M' Q → World zb L xs D cs M' n' H' → va_S (AWz zb) s.heap H' locs' → LocR zb b (am_M m).2.2.2.1 ls' lc' → k'.1 ≤ (rmM m).cells → k'.2 ≤ (rmM m).slots → W p l ev (rmM m) s mid args below meth c H' locs' k'.1 k'.2 Z (F0 mid pc' lc' (st'.map (cnc zb b))) := fun k' pc' ls' st' n' M' H' locs' lc' g1 g2 g3 g4 g5 g6 => g1 hm p l ev s mid args below meth c H' locs' lc' Z hF hSW g2 g3 g4 g5 g6 hret
  have run0 : ∀ (pc' : Nat) (st' : List V), SX zb b L xs D cs m k pc' ls st' n M Q → W p l ev (rmM m) s mid args below meth c H locs k.1 k.2 Z (F0 mid pc' lc (st'.map (cnc zb b))) := fun pc' st' g => run k pc' ls st' n M H locs lc g hWd hS hL hk1 hk2
  obtain ⟨q, rfl⟩ := hi
  obtain ⟨hl, h1⟩ : len = 3 ∧ (pc : Int) + q = x := of_decide_eq_true hok
  subst hl
  rcases st with _ | ⟨⟨t1, x1⟩, r⟩
  · exact False.elim hw
  · obtain ⟨e1, c1, hw⟩ : t1 = 0 ∧ R32 x1 ∧ (if x1 = 0 then SX zb b L xs D cs m k x ls r n M Q else SX zb b L xs D cs m k (pc + 3) ls r n M Q) := hw
    subst e1
    show W p l ev (rmM m) s mid args below meth c H locs k.1 k.2 Z (F0 mid pc lc (.int (Int32.ofInt x1) :: List.map (cnc zb b) r))
    exact lv_if_eq (tgt := x) hx hb hdec h1 (fun q => by rw [if_pos ((R0_eq c1).mp q)] at hw; exact run0 _ r hw) (fun q => by rw [if_neg (fun z => q ((R0_eq c1).mpr z))] at hw; exact run0 _ r hw)

set_option maxHeartbeats 8000000 in
set_option maxRecDepth 20000 in
theorem sx_if_ne {zb b L : Nat} {xs : Nat → Int32} {D : va_G} {cs : Nat → ClassId} {m : Nat} {k : Nat × Nat} {pc : Nat} {ls st : List V} {n : Int} {M : Mem} {Q : Post} {i : Instr} {len x w : Nat} {z y : Int} {tg : List Nat}
    (hm : m < NMT) (hdec : decode (am_M m).2.2.1 pc = .ok (i, len)) (hok : eok m (pc, i, len, x, w, z, y, tg) = true) (hi : ∃ q, i = .ifCond .ne q)
    (hw : wpX (SX zb b L xs D cs) m (pc, i, len, x, w, z, y, tg) k ls st n M Q) : SX zb b L xs D cs m k pc ls st n M Q := by
  intro _ p l ev s mid args below meth c H locs lc Z hF hSW hWd hS hL hk1 hk2 hret
  obtain ⟨hx, hb, hml, hr, hlk, hown, hnm, hts⟩ := id hF
  have run : ∀ (k' : Nat × Nat) (pc' : Nat) (ls' st' : List V) (n' : Int) (M' : Mem) (H' : Heap) (locs' : List Loc) (lc' : Array Slot), SX zb b L xs D cs m k' pc' ls' st' n' M' Q → World zb L xs D cs M' n' H' → va_S (AWz zb) s.heap H' locs' → LocR zb b (am_M m).2.2.2.1 ls' lc' → k'.1 ≤ (rmM m).cells → k'.2 ≤ (rmM m).slots → W p l ev (rmM m) s mid args below meth c H' locs' k'.1 k'.2 Z (F0 mid pc' lc' (st'.map (cnc zb b))) := fun k' pc' ls' st' n' M' H' locs' lc' g1 g2 g3 g4 g5 g6 => g1 hm p l ev s mid args below meth c H' locs' lc' Z hF hSW g2 g3 g4 g5 g6 hret
  have run0 : ∀ (pc' : Nat) (st' : List V), SX zb b L xs D cs m k pc' ls st' n M Q → W p l ev (rmM m) s mid args below meth c H locs k.1 k.2 Z (F0 mid pc' lc (st'.map (cnc zb b))) := fun pc' st' g => run k pc' ls st' n M H locs lc g hWd hS hL hk1 hk2
  obtain ⟨q, rfl⟩ := hi
  obtain ⟨hl, h1⟩ : len = 3 ∧ (pc : Int) + q = x := of_decide_eq_true hok
  subst hl
  rcases st with _ | ⟨⟨t1, x1⟩, r⟩
  · exact False.elim hw
  · obtain ⟨e1, c1, hw⟩ : t1 = 0 ∧ R32 x1 ∧ (if x1 = 0 then SX zb b L xs D cs m k (pc + 3) ls r n M Q else SX zb b L xs D cs m k x ls r n M Q) := hw
    subst e1
    show W p l ev (rmM m) s mid args below meth c H locs k.1 k.2 Z (F0 mid pc lc (.int (Int32.ofInt x1) :: List.map (cnc zb b) r))
    exact lv_if_ne (tgt := x) hx hb hdec h1 (fun q => by rw [if_neg (fun z => q ((R0_eq c1).mpr z))] at hw; exact run0 _ r hw) (fun q => by rw [if_pos ((R0_eq c1).mp q)] at hw; exact run0 _ r hw)

set_option maxHeartbeats 8000000 in
set_option maxRecDepth 20000 in
theorem sx_if_lt {zb b L : Nat} {xs : Nat → Int32} {D : va_G} {cs : Nat → ClassId} {m : Nat} {k : Nat × Nat} {pc : Nat} {ls st : List V} {n : Int} {M : Mem} {Q : Post} {i : Instr} {len x w : Nat} {z y : Int} {tg : List Nat}
    (hm : m < NMT) (hdec : decode (am_M m).2.2.1 pc = .ok (i, len)) (hok : eok m (pc, i, len, x, w, z, y, tg) = true) (hi : ∃ q, i = .ifCond .lt q)
    (hw : wpX (SX zb b L xs D cs) m (pc, i, len, x, w, z, y, tg) k ls st n M Q) : SX zb b L xs D cs m k pc ls st n M Q := by
  intro _ p l ev s mid args below meth c H locs lc Z hF hSW hWd hS hL hk1 hk2 hret
  obtain ⟨hx, hb, hml, hr, hlk, hown, hnm, hts⟩ := id hF
  have run : ∀ (k' : Nat × Nat) (pc' : Nat) (ls' st' : List V) (n' : Int) (M' : Mem) (H' : Heap) (locs' : List Loc) (lc' : Array Slot), SX zb b L xs D cs m k' pc' ls' st' n' M' Q → World zb L xs D cs M' n' H' → va_S (AWz zb) s.heap H' locs' → LocR zb b (am_M m).2.2.2.1 ls' lc' → k'.1 ≤ (rmM m).cells → k'.2 ≤ (rmM m).slots → W p l ev (rmM m) s mid args below meth c H' locs' k'.1 k'.2 Z (F0 mid pc' lc' (st'.map (cnc zb b))) := fun k' pc' ls' st' n' M' H' locs' lc' g1 g2 g3 g4 g5 g6 => g1 hm p l ev s mid args below meth c H' locs' lc' Z hF hSW g2 g3 g4 g5 g6 hret
  have run0 : ∀ (pc' : Nat) (st' : List V), SX zb b L xs D cs m k pc' ls st' n M Q → W p l ev (rmM m) s mid args below meth c H locs k.1 k.2 Z (F0 mid pc' lc (st'.map (cnc zb b))) := fun pc' st' g => run k pc' ls st' n M H locs lc g hWd hS hL hk1 hk2
  obtain ⟨q, rfl⟩ := hi
  obtain ⟨hl, h1⟩ : len = 3 ∧ (pc : Int) + q = x := of_decide_eq_true hok
  subst hl
  rcases st with _ | ⟨⟨t1, x1⟩, r⟩
  · exact False.elim hw
  · obtain ⟨e1, c1, hw⟩ : t1 = 0 ∧ R32 x1 ∧ (if x1 < 0 then SX zb b L xs D cs m k x ls r n M Q else SX zb b L xs D cs m k (pc + 3) ls r n M Q) := hw
    subst e1
    show W p l ev (rmM m) s mid args below meth c H locs k.1 k.2 Z (F0 mid pc lc (.int (Int32.ofInt x1) :: List.map (cnc zb b) r))
    exact lv_if_lt (tgt := x) hx hb hdec h1 (fun q => by rw [if_pos ((R0_lt c1).mp q)] at hw; exact run0 _ r hw) (fun q => by rw [if_neg (fun z => q ((R0_lt c1).mpr z))] at hw; exact run0 _ r hw)

set_option maxHeartbeats 8000000 in
set_option maxRecDepth 20000 in
theorem sx_if_ge {zb b L : Nat} {xs : Nat → Int32} {D : va_G} {cs : Nat → ClassId} {m : Nat} {k : Nat × Nat} {pc : Nat} {ls st : List V} {n : Int} {M : Mem} {Q : Post} {i : Instr} {len x w : Nat} {z y : Int} {tg : List Nat}
    (hm : m < NMT) (hdec : decode (am_M m).2.2.1 pc = .ok (i, len)) (hok : eok m (pc, i, len, x, w, z, y, tg) = true) (hi : ∃ q, i = .ifCond .ge q)
    (hw : wpX (SX zb b L xs D cs) m (pc, i, len, x, w, z, y, tg) k ls st n M Q) : SX zb b L xs D cs m k pc ls st n M Q := by
  intro _ p l ev s mid args below meth c H locs lc Z hF hSW hWd hS hL hk1 hk2 hret
  obtain ⟨hx, hb, hml, hr, hlk, hown, hnm, hts⟩ := id hF
  have run : ∀ (k' : Nat × Nat) (pc' : Nat) (ls' st' : List V) (n' : Int) (M' : Mem) (H' : Heap) (locs' : List Loc) (lc' : Array Slot), SX zb b L xs D cs m k' pc' ls' st' n' M' Q → World zb L xs D cs M' n' H' → va_S (AWz zb) s.heap H' locs' → LocR zb b (am_M m).2.2.2.1 ls' lc' → k'.1 ≤ (rmM m).cells → k'.2 ≤ (rmM m).slots → W p l ev (rmM m) s mid args below meth c H' locs' k'.1 k'.2 Z (F0 mid pc' lc' (st'.map (cnc zb b))) := fun k' pc' ls' st' n' M' H' locs' lc' g1 g2 g3 g4 g5 g6 => g1 hm p l ev s mid args below meth c H' locs' lc' Z hF hSW g2 g3 g4 g5 g6 hret
  have run0 : ∀ (pc' : Nat) (st' : List V), SX zb b L xs D cs m k pc' ls st' n M Q → W p l ev (rmM m) s mid args below meth c H locs k.1 k.2 Z (F0 mid pc' lc (st'.map (cnc zb b))) := fun pc' st' g => run k pc' ls st' n M H locs lc g hWd hS hL hk1 hk2
  obtain ⟨q, rfl⟩ := hi
  obtain ⟨hl, h1⟩ : len = 3 ∧ (pc : Int) + q = x := of_decide_eq_true hok
  subst hl
  rcases st with _ | ⟨⟨t1, x1⟩, r⟩
  · exact False.elim hw
  · obtain ⟨e1, c1, hw⟩ : t1 = 0 ∧ R32 x1 ∧ (if x1 < 0 then SX zb b L xs D cs m k (pc + 3) ls r n M Q else SX zb b L xs D cs m k x ls r n M Q) := hw
    subst e1
    show W p l ev (rmM m) s mid args below meth c H locs k.1 k.2 Z (F0 mid pc lc (.int (Int32.ofInt x1) :: List.map (cnc zb b) r))
    exact lv_if_ge (tgt := x) hx hb hdec h1 (fun q => by rw [if_neg (by have := (R0_ge c1).mp q; omega)] at hw; exact run0 _ r hw) (fun q => by rw [if_pos (Int.not_le.mp (fun z => q ((R0_ge c1).mpr z)))] at hw; exact run0 _ r hw)

set_option maxHeartbeats 8000000 in
set_option maxRecDepth 20000 in
theorem sx_if_gt {zb b L : Nat} {xs : Nat → Int32} {D : va_G} {cs : Nat → ClassId} {m : Nat} {k : Nat × Nat} {pc : Nat} {ls st : List V} {n : Int} {M : Mem} {Q : Post} {i : Instr} {len x w : Nat} {z y : Int} {tg : List Nat}
    (hm : m < NMT) (hdec : decode (am_M m).2.2.1 pc = .ok (i, len)) (hok : eok m (pc, i, len, x, w, z, y, tg) = true) (hi : ∃ q, i = .ifCond .gt q)
    (hw : wpX (SX zb b L xs D cs) m (pc, i, len, x, w, z, y, tg) k ls st n M Q) : SX zb b L xs D cs m k pc ls st n M Q := by
  intro _ p l ev s mid args below meth c H locs lc Z hF hSW hWd hS hL hk1 hk2 hret
  obtain ⟨hx, hb, hml, hr, hlk, hown, hnm, hts⟩ := id hF
  have run : ∀ (k' : Nat × Nat) (pc' : Nat) (ls' st' : List V) (n' : Int) (M' : Mem) (H' : Heap) (locs' : List Loc) (lc' : Array Slot), SX zb b L xs D cs m k' pc' ls' st' n' M' Q → World zb L xs D cs M' n' H' → va_S (AWz zb) s.heap H' locs' → LocR zb b (am_M m).2.2.2.1 ls' lc' → k'.1 ≤ (rmM m).cells → k'.2 ≤ (rmM m).slots → W p l ev (rmM m) s mid args below meth c H' locs' k'.1 k'.2 Z (F0 mid pc' lc' (st'.map (cnc zb b))) := fun k' pc' ls' st' n' M' H' locs' lc' g1 g2 g3 g4 g5 g6 => g1 hm p l ev s mid args below meth c H' locs' lc' Z hF hSW g2 g3 g4 g5 g6 hret
  have run0 : ∀ (pc' : Nat) (st' : List V), SX zb b L xs D cs m k pc' ls st' n M Q → W p l ev (rmM m) s mid args below meth c H locs k.1 k.2 Z (F0 mid pc' lc (st'.map (cnc zb b))) := fun pc' st' g => run k pc' ls st' n M H locs lc g hWd hS hL hk1 hk2
  obtain ⟨q, rfl⟩ := hi
  obtain ⟨hl, h1⟩ : len = 3 ∧ (pc : Int) + q = x := of_decide_eq_true hok
  subst hl
  rcases st with _ | ⟨⟨t1, x1⟩, r⟩
  · exact False.elim hw
  · obtain ⟨e1, c1, hw⟩ : t1 = 0 ∧ R32 x1 ∧ (if 0 < x1 then SX zb b L xs D cs m k x ls r n M Q else SX zb b L xs D cs m k (pc + 3) ls r n M Q) := hw
    subst e1
    show W p l ev (rmM m) s mid args below meth c H locs k.1 k.2 Z (F0 mid pc lc (.int (Int32.ofInt x1) :: List.map (cnc zb b) r))
    exact lv_if_gt (tgt := x) hx hb hdec h1 (fun q => by rw [if_pos ((R0_gt c1).mp q)] at hw; exact run0 _ r hw) (fun q => by rw [if_neg (fun z => q ((R0_gt c1).mpr z))] at hw; exact run0 _ r hw)

set_option maxHeartbeats 8000000 in
set_option maxRecDepth 20000 in
theorem sx_if_le {zb b L : Nat} {xs : Nat → Int32} {D : va_G} {cs : Nat → ClassId} {m : Nat} {k : Nat × Nat} {pc : Nat} {ls st : List V} {n : Int} {M : Mem} {Q : Post} {i : Instr} {len x w : Nat} {z y : Int} {tg : List Nat}
    (hm : m < NMT) (hdec : decode (am_M m).2.2.1 pc = .ok (i, len)) (hok : eok m (pc, i, len, x, w, z, y, tg) = true) (hi : ∃ q, i = .ifCond .le q)
    (hw : wpX (SX zb b L xs D cs) m (pc, i, len, x, w, z, y, tg) k ls st n M Q) : SX zb b L xs D cs m k pc ls st n M Q := by
  intro _ p l ev s mid args below meth c H locs lc Z hF hSW hWd hS hL hk1 hk2 hret
  obtain ⟨hx, hb, hml, hr, hlk, hown, hnm, hts⟩ := id hF
  have run : ∀ (k' : Nat × Nat) (pc' : Nat) (ls' st' : List V) (n' : Int) (M' : Mem) (H' : Heap) (locs' : List Loc) (lc' : Array Slot), SX zb b L xs D cs m k' pc' ls' st' n' M' Q → World zb L xs D cs M' n' H' → va_S (AWz zb) s.heap H' locs' → LocR zb b (am_M m).2.2.2.1 ls' lc' → k'.1 ≤ (rmM m).cells → k'.2 ≤ (rmM m).slots → W p l ev (rmM m) s mid args below meth c H' locs' k'.1 k'.2 Z (F0 mid pc' lc' (st'.map (cnc zb b))) := fun k' pc' ls' st' n' M' H' locs' lc' g1 g2 g3 g4 g5 g6 => g1 hm p l ev s mid args below meth c H' locs' lc' Z hF hSW g2 g3 g4 g5 g6 hret
  have run0 : ∀ (pc' : Nat) (st' : List V), SX zb b L xs D cs m k pc' ls st' n M Q → W p l ev (rmM m) s mid args below meth c H locs k.1 k.2 Z (F0 mid pc' lc (st'.map (cnc zb b))) := fun pc' st' g => run k pc' ls st' n M H locs lc g hWd hS hL hk1 hk2
  obtain ⟨q, rfl⟩ := hi
  obtain ⟨hl, h1⟩ : len = 3 ∧ (pc : Int) + q = x := of_decide_eq_true hok
  subst hl
  rcases st with _ | ⟨⟨t1, x1⟩, r⟩
  · exact False.elim hw
  · obtain ⟨e1, c1, hw⟩ : t1 = 0 ∧ R32 x1 ∧ (if 0 < x1 then SX zb b L xs D cs m k (pc + 3) ls r n M Q else SX zb b L xs D cs m k x ls r n M Q) := hw
    subst e1
    show W p l ev (rmM m) s mid args below meth c H locs k.1 k.2 Z (F0 mid pc lc (.int (Int32.ofInt x1) :: List.map (cnc zb b) r))
    exact lv_if_le (tgt := x) hx hb hdec h1 (fun q => by rw [if_neg (by have := (R0_le c1).mp q; omega)] at hw; exact run0 _ r hw) (fun q => by rw [if_pos (Int.not_le.mp (fun z => q ((R0_le c1).mpr z)))] at hw; exact run0 _ r hw)

set_option maxHeartbeats 8000000 in
set_option maxRecDepth 20000 in
theorem sx_goto {zb b L : Nat} {xs : Nat → Int32} {D : va_G} {cs : Nat → ClassId} {m : Nat} {k : Nat × Nat} {pc : Nat} {ls st : List V} {n : Int} {M : Mem} {Q : Post} {i : Instr} {len x w : Nat} {z y : Int} {tg : List Nat}
    (hm : m < NMT) (hdec : decode (am_M m).2.2.1 pc = .ok (i, len)) (hok : eok m (pc, i, len, x, w, z, y, tg) = true) (hi : ∃ q, i = .goto q)
    (hw : wpX (SX zb b L xs D cs) m (pc, i, len, x, w, z, y, tg) k ls st n M Q) : SX zb b L xs D cs m k pc ls st n M Q := by
  intro _ p l ev s mid args below meth c H locs lc Z hF hSW hWd hS hL hk1 hk2 hret
  obtain ⟨hx, hb, hml, hr, hlk, hown, hnm, hts⟩ := id hF
  have run : ∀ (k' : Nat × Nat) (pc' : Nat) (ls' st' : List V) (n' : Int) (M' : Mem) (H' : Heap) (locs' : List Loc) (lc' : Array Slot), SX zb b L xs D cs m k' pc' ls' st' n' M' Q → World zb L xs D cs M' n' H' → va_S (AWz zb) s.heap H' locs' → LocR zb b (am_M m).2.2.2.1 ls' lc' → k'.1 ≤ (rmM m).cells → k'.2 ≤ (rmM m).slots → W p l ev (rmM m) s mid args below meth c H' locs' k'.1 k'.2 Z (F0 mid pc' lc' (st'.map (cnc zb b))) := fun k' pc' ls' st' n' M' H' locs' lc' g1 g2 g3 g4 g5 g6 => g1 hm p l ev s mid args below meth c H' locs' lc' Z hF hSW g2 g3 g4 g5 g6 hret
  have run0 : ∀ (pc' : Nat) (st' : List V), SX zb b L xs D cs m k pc' ls st' n M Q → W p l ev (rmM m) s mid args below meth c H locs k.1 k.2 Z (F0 mid pc' lc (st'.map (cnc zb b))) := fun pc' st' g => run k pc' ls st' n M H locs lc g hWd hS hL hk1 hk2
  obtain ⟨q, rfl⟩ := hi
  obtain ⟨hl, h1⟩ : len = 3 ∧ (pc : Int) + q = x := of_decide_eq_true hok
  subst hl
  exact lv_goto (tgt := x) hx hb hdec h1 (run0 _ st hw)

set_option maxHeartbeats 8000000 in
set_option maxRecDepth 20000 in
theorem sx_table {zb b L : Nat} {xs : Nat → Int32} {D : va_G} {cs : Nat → ClassId} {m : Nat} {k : Nat × Nat} {pc : Nat} {ls st : List V} {n : Int} {M : Mem} {Q : Post} {i : Instr} {len x w : Nat} {z y : Int} {tg : List Nat}
    (hm : m < NMT) (hdec : decode (am_M m).2.2.1 pc = .ok (i, len)) (hok : eok m (pc, i, len, x, w, z, y, tg) = true) (hi : ∃ d lo h f, i = .tableswitch d lo h f)
    (hw : wpX (SX zb b L xs D cs) m (pc, i, len, x, w, z, y, tg) k ls st n M Q) : SX zb b L xs D cs m k pc ls st n M Q := by
  intro _ p l ev s mid args below meth c H locs lc Z hF hSW hWd hS hL hk1 hk2 hret
  obtain ⟨hx, hb, hml, hr, hlk, hown, hnm, hts⟩ := id hF
  have run : ∀ (k' : Nat × Nat) (pc' : Nat) (ls' st' : List V) (n' : Int) (M' : Mem) (H' : Heap) (locs' : List Loc) (lc' : Array Slot), SX zb b L xs D cs m k' pc' ls' st' n' M' Q → World zb L xs D cs M' n' H' → va_S (AWz zb) s.heap H' locs' → LocR zb b (am_M m).2.2.2.1 ls' lc' → k'.1 ≤ (rmM m).cells → k'.2 ≤ (rmM m).slots → W p l ev (rmM m) s mid args below meth c H' locs' k'.1 k'.2 Z (F0 mid pc' lc' (st'.map (cnc zb b))) := fun k' pc' ls' st' n' M' H' locs' lc' g1 g2 g3 g4 g5 g6 => g1 hm p l ev s mid args below meth c H' locs' lc' Z hF hSW g2 g3 g4 g5 g6 hret
  have run0 : ∀ (pc' : Nat) (st' : List V), SX zb b L xs D cs m k pc' ls st' n M Q → W p l ev (rmM m) s mid args below meth c H locs k.1 k.2 Z (F0 mid pc' lc (st'.map (cnc zb b))) := fun pc' st' g => run k pc' ls st' n M H locs lc g hWd hS hL hk1 hk2
  obtain ⟨d, lo, h, f, rfl⟩ := hi
  obtain ⟨h1, h2, h3⟩ : (pc : Int) + d = x ∧ h + 1 = lo + tg.length ∧ f.toList.map (fun q => (pc : Int) + q) = tg.map (fun q => ((q : Nat) : Int)) := of_decide_eq_true hok
  rcases st with _ | ⟨⟨t1, x1⟩, r⟩
  · exact False.elim hw
  · obtain ⟨e1, c1, hw⟩ : t1 = 0 ∧ R32 x1 ∧ (if lo ≤ x1 ∧ x1 < lo + tg.length then SX zb b L xs D cs m k (tgn tg (x1 - lo).toNat) ls r n M Q else SX zb b L xs D cs m k x ls r n M Q) := hw
    subst e1
    show W p l ev (rmM m) s mid args below meth c H locs k.1 k.2 Z (F0 mid pc lc (.int (Int32.ofInt x1) :: List.map (cnc zb b) r))
    by_cases hc : lo ≤ x1 ∧ x1 < lo + tg.length
    · rw [if_pos hc] at hw
      have hlen : f.toList.length = tg.length := by have := congrArg List.length h3; simpa using this
      have hj : (x1 - lo).toNat < tg.length := by omega
      have h4 := congrArg (fun q => q[(x1 - lo).toNat]?) h3
      simp only [List.getElem?_map] at h4
      have ho : f.toList[(x1 - lo).toNat]? = some (f.toList[(x1 - lo).toNat]'(by omega)) := List.getElem?_eq_getElem (by omega)
      have ht : tg[(x1 - lo).toNat]? = some (tg[(x1 - lo).toNat]'hj) := List.getElem?_eq_getElem hj
      rw [ho, ht] at h4
      have h5 : (pc : Int) + f.toList[(x1 - lo).toNat]'(by omega) = ((tg[(x1 - lo).toNat]'hj : Nat) : Int) := by simpa using h4
      refine lv_tableIn (off := f.toList[(x1 - lo).toNat]'(by omega)) (tgt := tg[(x1 - lo).toNat]'hj) hx hb hdec (by rw [r32i c1]; omega) (by rw [r32i c1]; omega) (by rw [r32i c1, ← Array.getElem?_toList]; exact ho) h5 ?_
      have e3 : tgn tg (x1 - lo).toNat = tg[(x1 - lo).toNat]'hj := by unfold tgn; rw [List.getD_eq_getElem?_getD, ht]; rfl
      rw [e3] at hw
      exact run0 _ r hw
    · rw [if_neg hc] at hw
      exact lv_tableOut (tgt := x) hx hb hdec (by rw [r32i c1]; omega) h1 (run0 _ r hw)

