/-! THE WORLD OF THE ABSTRACT MACHINE IN THE REAL ONE -/
theorem am_inC : ∀ ci : Nat, ci < 13 → ∀ w ∈ u_ws (am_C ci).1 (am_C ci).2.1 (am_C ci).2.2, w ∈ tables_1
  | 0, _ => am_in0 | 1, _ => am_in1 | 2, _ => am_in2 | 3, _ => am_in3 | 4, _ => am_in4 | 5, _ => am_in5 | 6, _ => am_in6 | 7, _ => am_in7 | 8, _ => am_in8 | 9, _ => am_in9 | 10, _ => am_in10 | 11, _ => am_in11 | 12, _ => am_in12
  | n + 13, h => absurd h (by omega)
theorem am_tyC : ∀ ci : Nat, ci < 13 → ∀ k, k < (am_C ci).2.2 → parseFieldDescriptor ((am_C ci).2.1 k).2.2.1 = some (ciTy ci k)
  | 0, _ => am_ty0 | 1, _ => am_ty1 | 2, _ => am_ty2 | 3, _ => am_ty3 | 4, _ => am_ty4 | 5, _ => am_ty5 | 6, _ => am_ty6 | 7, _ => am_ty7 | 8, _ => am_ty8 | 9, _ => am_ty9 | 10, _ => am_ty10 | 11, _ => am_ty11 | 12, _ => am_ty12
  | n + 13, h => absurd h (by omega)
theorem am_nmC : ∀ ci : Nat, ci < 13 → ∀ a, a < (am_C ci).2.2 → ∀ b, b < (am_C ci).2.2 → a ≠ b → ((am_C ci).2.1 a).2.1 ≠ ((am_C ci).2.1 b).2.1
  | 0, _ => am_nm0 | 1, _ => am_nm1 | 2, _ => am_nm2 | 3, _ => am_nm3 | 4, _ => am_nm4 | 5, _ => am_nm5 | 6, _ => am_nm6 | 7, _ => am_nm7 | 8, _ => am_nm8 | 9, _ => am_nm9 | 10, _ => am_nm10 | 11, _ => am_nm11 | 12, _ => am_nm12
  | n + 13, h => absurd h (by omega)
theorem am_get : ∀ ci : Nat, ci < 13 → classes[ci]? = some (am_C ci)
  | 0, _ => rfl | 1, _ => rfl | 2, _ => rfl | 3, _ => rfl | 4, _ => rfl | 5, _ => rfl | 6, _ => rfl | 7, _ => rfl | 8, _ => rfl | 9, _ => rfl | 10, _ => rfl | 11, _ => rfl | 12, _ => rfl
  | n + 13, h => absurd h (by omega)
def nestW (w : Cond) : Bool := match w with
  | .fieldLinkNest .. => true
  | .methodLinkNest .. => true
  | _ => false
def AWz (zb : Nat) : Nat → Prop := fun q => zb < q
def cnc (zb b : Nat) (v : V) : Value := if v.1 = 0 then .int (Int32.ofInt v.2) else if v.1 = 1 then .long (Int64.ofInt v.2) else if v.1 = 2 then .ref (zb + v.2.toNat) else if v.1 = 3 then .ref b else .null
def fvl (zb w : Nat) (x : Int) : Value := if w = 1 then .long (Int64.ofInt x) else if w = 2 then (if x = 0 then .null else .ref (zb + x.toNat)) else .int (Int32.ofInt x)
def rfo (zb : Nat) (x : Int) : Option Nat := if x = 0 then none else some (zb + x.toNat)
def flds (zb ci : Nat) (f : Int → Int) : List Value := (List.range (am_C ci).2.2).map (fun j => fvl zb (tyTag (ciTy ci j)) (f (j : Int)))
def entC (zb : Nat) (cs : Nat → ClassId) (M : Mem) (a : Int) : va_E :=
  if KD a = 1 then .inl (cs 1, (LN a).toNat, .inl (fun i => Int32.ofInt (M a (i : Int))))
  else if KD a = 2 then .inl (cs 2, (LN a).toNat, .inr (.inl (fun i => Int64.ofInt (M a (i : Int)))))
  else if KD a = 3 then .inl (cs 3, (LN a).toNat, .inr (.inr (.inr (.inr (fun i => rfo zb (M a (i : Int)))))))
  else if KD a = 4 then .inl (cs 4, (LN a).toNat, .inr (.inr (.inr (.inr (fun i => rfo zb (M a (i : Int)))))))
  else .inr ((KD a - 10).toNat, flds zb (KD a - 10).toNat (M a))
def wsC (zb : Nat) (cs : Nat → ClassId) (M : Mem) (n : Nat) : va_W := (List.range (n - 1)).map (fun i => (zb + (i + 1), entC zb cs M ((i + 1 : Nat) : Int)))
def tysC (cs : Nat → ClassId) : List (ClassId × FieldType) := [(cs 1, .int), (cs 2, .long), (cs 3, .object "CurveRooms$Pair"), (cs 4, .array .int)]
theorem entC_congr {zb : Nat} {cs : Nat → ClassId} {M M' : Mem} {a : Int} (h : M a = M' a) : entC zb cs M a = entC zb cs M' a := by
  unfold entC; rw [h]
theorem wsC_len (zb : Nat) (cs : Nat → ClassId) (M : Mem) (n : Nat) : (wsC zb cs M n).length = n - 1 := by unfold wsC; simp
theorem wsC_at {zb : Nat} {cs : Nat → ClassId} {M : Mem} {n i : Nat} (h : i < n - 1) : (wsC zb cs M n)[i]? = some (zb + (i + 1), entC zb cs M ((i + 1 : Nat) : Int)) := by
  unfold wsC
  rw [List.getElem?_map, List.getElem?_range h]; rfl
theorem wsC_get {zb : Nat} {cs : Nat → ClassId} {M : Mem} {n : Nat} {a : Int} (h1 : 1 ≤ a) (h2 : a < n) : (wsC zb cs M n)[a.toNat - 1]? = some (zb + a.toNat, entC zb cs M a) := by
  rw [wsC_at (by omega), show a.toNat - 1 + 1 = a.toNat by omega, Int.toNat_of_nonneg (by omega)]
theorem wsC_D (zb : Nat) (cs : Nat → ClassId) (M : Mem) (n : Nat) : va_D (AWz zb) (wsC zb cs M n) := by
  have key : ∀ (i : Nat) (p : Nat × va_E), (wsC zb cs M n)[i]? = some p → p.1 = zb + (i + 1) := fun i p h => by
    have hl := (List.getElem?_eq_some_iff.mp h).1
    rw [wsC_len] at hl
    rw [wsC_at hl] at h
    cases h; rfl
  refine ⟨fun i j p q hp hq e => ?_, fun k q h => ?_⟩
  · have := key i p hp; have := key j q hq; omega
  · show zb < q.1
    rw [key k q h]; omega
theorem wsC_set {zb : Nat} {cs : Nat → ClassId} {M M' : Mem} {n : Nat} {a : Int} (h1 : 1 ≤ a) (h2 : a < n) (hM : ∀ b, b ≠ a → M' b = M b) : (wsC zb cs M n).set (a.toNat - 1) (zb + a.toNat, entC zb cs M' a) = wsC zb cs M' n := by
  apply List.ext_getElem?
  intro i
  by_cases hi : i < n - 1
  · by_cases e : i = a.toNat - 1
    · subst e
      rw [List.getElem?_set_self (by rw [wsC_len]; exact hi), wsC_get h1 h2]
    · rw [List.getElem?_set_ne (Ne.symm e), wsC_at hi, wsC_at hi, entC_congr (hM _ (by omega))]
  · rw [List.getElem?_eq_none (by rw [List.length_set, wsC_len]; omega), List.getElem?_eq_none (by rw [wsC_len]; omega)]
theorem wsC_push {zb : Nat} {cs : Nat → ClassId} {M M' : Mem} {n : Nat} (h1 : 1 ≤ n) (hM : ∀ b : Int, b < n → M' b = M b) : wsC zb cs M' (n + 1) = wsC zb cs M n ++ [(zb + n, entC zb cs M' n)] := by
  apply List.ext_getElem?
  intro i
  by_cases hi : i < n - 1
  · rw [List.getElem?_append_left (by rw [wsC_len]; exact hi), wsC_at (by omega), wsC_at hi, entC_congr (hM _ (by omega))]
  · rw [List.getElem?_append_right (by rw [wsC_len]; omega), wsC_len]
    by_cases e : i = n - 1
    · subst e
      rw [wsC_at (by omega), show n - 1 - (n - 1) = 0 by omega, show n - 1 + 1 = n by omega]; rfl
    · rw [List.getElem?_eq_none (by rw [wsC_len]; omega), List.getElem?_eq_none (by simp; omega)]
def World (zb L : Nat) (xs : Nat → Int32) (D : va_G) (cs : Nat → ClassId) (M : Mem) (n : Int) (H : Heap) : Prop :=
  ∃ nn : Nat, n = nn ∧ 1 ≤ nn ∧ H.size = zb + nn ∧ va_P D classes (wsC zb cs M nn) H ∧ M (-1) 0 = L ∧ ∀ i : Nat, i < L → M 0 (i : Int) = (xs i).toInt
def SW (zb b L : Nat) (xs : Nat → Int32) (D : va_G) (cs : Nat → ClassId) (s : State) : Prop :=
  va_K D classes (tysC cs) s ∧ (∀ w ∈ tables_1, nestW w = true → va_Nw w s) ∧ va_AO "CurveRooms$Pair" s ∧ va_Nw (.arrayOver (.array .int)) s ∧ va_X b L xs s s.heap ∧ b ≤ zb ∧ zb + 1 ≤ s.heap.size ∧ L ≤ 100000
def Frm (m : Nat) (p : Program) (s : State) (mid : MethodId) (args : Array Value) (meth : Method) (c : Code) : Prop :=
  p.tables.exec = Jvm.exec ∧ c.code = (am_M m).2.2.1 ∧ c.maxLocals = (am_M m).2.2.2.1 ∧ meth.sig.returnType = (am_M m).2.2.2.2.1 ∧ meth.locks = false ∧ s.vm.findClass (am_cnm (am_M m).1) = some mid.cls ∧ meth.name = (am_M m).2.1.name ∧ (∀ w ∈ lw_tbl, goodWord w = true → w.before args s = true)
def LocR (zb b nL : Nat) (als : List V) (lc : Array Slot) : Prop := als.length = nL ∧ lc.size = nL ∧ lv_wf lc ∧ ∀ j, (lget j als).1 ≠ 9 → lc[j]? = some (.val (cnc zb b (lget j als)))
def rmM (m : Nat) : Room := { frames := (am_M m).2.2.2.2.2.1, cells := (am_M m).2.2.2.2.2.2.2.1, slots := (am_M m).2.2.2.2.2.2.2.2, locals := (am_M m).2.2.2.2.2.2.1 }
def RetAt (m pc : Nat) (o : Option V) : Prop :=
  (∃ x, o = some (0, x) ∧ decode (am_M m).2.2.1 pc = .ok (.ireturn, 1) ∧ ((am_M m).2.2.2.2.1 = some .int ∨ ((am_M m).2.2.2.2.1 = some .boolean ∧ (x = 0 ∨ x = 1)))) ∨
  (∃ x, o = some (1, x) ∧ decode (am_M m).2.2.1 pc = .ok (.lreturn, 1) ∧ (am_M m).2.2.2.2.1 = some .long) ∨ (o = none ∧ decode (am_M m).2.2.1 pc = .ok (.return_, 1) ∧ (am_M m).2.2.2.2.1 = none)
def SX (zb b L : Nat) (xs : Nat → Int32) (D : va_G) (cs : Nat → ClassId) : Xt := fun m k pc ls st n M Q => m < NMT → ∀ (p : Program) (l : Launch) (e : Env) (s : State) (mid : MethodId) (args : Array Value) (below : List Frame) (meth : Method) (c : Code) (H : Heap) (locs : List Loc) (lc : Array Slot) (Z : State → Prop),
  Frm m p s mid args meth c → SW zb b L xs D cs s → World zb L xs D cs M n H → va_S (AWz zb) s.heap H locs → LocR zb b (am_M m).2.2.2.1 ls lc → k.1 ≤ (rmM m).cells → k.2 ≤ (rmM m).slots →
  (∀ (o : Option V) (n' : Int) (M' : Mem) (H' : Heap) (locs' : List Loc) (k' : Nat × Nat) (lc' : Array Slot) (pc' : Nat), Q o n' M' → World zb L xs D cs M' n' H' → va_S (AWz zb) s.heap H' locs' → k'.1 ≤ (rmM m).cells → k'.2 ≤ (rmM m).slots → RetAt m pc' o →
    W p l e (rmM m) s mid args below meth c H' locs' k'.1 k'.2 Z (F0 mid pc' lc' (o.toList.map (cnc zb b)))) →
  W p l e (rmM m) s mid args below meth c H locs k.1 k.2 Z (F0 mid pc lc (st.map (cnc zb b)))
theorem SX_mon (zb b L : Nat) (xs : Nat → Int32) (D : va_G) (cs : Nat → ClassId) : Mon (SX zb b L xs D cs) := by
  intro m k pc ls st n M Q Q' hq h hm p l e s mid args below meth c H locs lc Z hF hSW hWd hS hL hk1 hk2 hret
  exact h hm p l e s mid args below meth c H locs lc Z hF hSW hWd hS hL hk1 hk2 (fun o n' M' H' locs' k' lc' pc' h1 => hret o n' M' H' locs' k' lc' pc' (hq _ _ _ h1))
/-! locals -/
theorem lget_lset : ∀ (i : Nat) (v : V) (ls : List V) (j : Nat), i < ls.length → lget j (lset i v ls) = if j = i then v else if j + 1 = i ∧ (lget j ls).1 = 1 then (9, 0) else lget j ls
  | _, _, [], _, h => by simp at h
  | 0, v, x :: r, 0, _ => by simp [lset, lget]
  | 0, v, x :: r, j + 1, _ => by simp [lset, lget]
  | i + 1, v, x :: r, 0, _ => by
    simp only [lset, lget]
    by_cases h : i = 0 ∧ x.1 = 1
    · rw [if_pos h]; obtain ⟨rfl, h2⟩ := h; simp [h2]
    · rw [if_neg h]
      by_cases h3 : i = 0
      · subst h3; simp at h; simp [h]
      · simp [h3]
  | i + 1, v, x :: r, j + 1, h => by
    simp only [lset, lget]
    rw [lget_lset i v r j (by simpa using h)]
    simp
theorem lset_len : ∀ (i : Nat) (v : V) (ls : List V), (lset i v ls).length = ls.length
  | 0, _, [] => rfl
  | _ + 1, _, [] => rfl
  | 0, _, _ :: _ => rfl
  | i + 1, v, x :: r => by simp [lset, lset_len i v r]
theorem lget_lset2 : ∀ (i : Nat) (v : V) (ls : List V) (j : Nat), i + 1 < ls.length → lget j (lset2 i v ls) = if j = i then v else if j = i + 1 then (9, 0) else if j + 1 = i ∧ (lget j ls).1 = 1 then (9, 0) else lget j ls
  | _, _, [], _, h => by simp at h
  | 0, v, [x], _, h => by simp at h
  | 0, v, x :: y :: r, 0, _ => by simp [lset2, lget]
  | 0, v, x :: y :: r, 1, _ => by simp [lset2, lget]
  | 0, v, x :: y :: r, j + 2, _ => by simp [lset2, lget]
  | i + 1, v, x :: r, 0, _ => by
    simp only [lset2, lget]
    by_cases h : i = 0 ∧ x.1 = 1
    · rw [if_pos h]; obtain ⟨rfl, h2⟩ := h; simp [h2]
    · rw [if_neg h]
      by_cases h3 : i = 0
      · subst h3; simp at h; simp [h]
      · simp [h3]
  | i + 1, v, x :: r, j + 1, h => by
    simp only [lset2, lget]
    rw [lget_lset2 i v r j (by simpa using h)]
    simp
theorem lset2_len : ∀ (i : Nat) (v : V) (ls : List V), (lset2 i v ls).length = ls.length
  | 0, _, [] => rfl
  | _ + 1, _, [] => rfl
  | 0, _, _ :: r => by simp [lset2]
  | i + 1, v, x :: r => by simp [lset2, lset2_len i v r]
theorem cnc_cat (zb b : Nat) (v : V) : (cnc zb b v).category = 2 ↔ v.1 = 1 := by
  unfold cnc
  split
  · rename_i h; simp [Value.category, h]
  · split
    · rename_i h; simp [Value.category, h]
    · rename_i h; split
      · simp [Value.category, h]
      · split <;> simp [Value.category, h]
/-- the abstract locals as the kit's list of places and values -/
def lvp (zb b : Nat) (ls : List V) : List (Nat × Value) := (List.range ls.length).filterMap (fun j => if (lget j ls).1 = 9 then none else some (j, cnc zb b (lget j ls)))
theorem lget_out : ∀ (j : Nat) (ls : List V), ls.length ≤ j → lget j ls = (9, 0)
  | _, [], _ => by simp [lget]
  | 0, _ :: _, h => by simp at h
  | j + 1, _ :: r, h => by simp only [lget]; exact lget_out j r (by simpa using h)
theorem lvp_mem {zb b : Nat} {ls : List V} {j : Nat} (h : (lget j ls).1 ≠ 9) : (j, cnc zb b (lget j ls)) ∈ lvp zb b ls := by
  refine List.mem_filterMap.mpr ⟨j, List.mem_range.mpr ?_, by rw [if_neg h]⟩
  rcases Nat.lt_or_ge j ls.length with q | q
  · exact q
  · rw [lget_out j ls q] at h; exact absurd rfl h
theorem LocR.lv {zb b nL : Nat} {ls : List V} {lc : Array Slot} (h : LocR zb b nL ls lc) : lv_has lc nL (lvp zb b ls) := by
  refine ⟨h.2.1, h.2.2.1, fun q hq => ?_⟩
  obtain ⟨j, -, hj⟩ := List.mem_filterMap.mp hq
  by_cases e : (lget j ls).1 = 9
  · rw [if_pos e] at hj; cases hj
  · rw [if_neg e] at hj; cases hj; exact h.2.2.2 j e
theorem LocR.st1 {zb b nL i : Nat} {ls : List V} {lc : Array Slot} {v : V} {lc' : Array Slot} (h : LocR zb b nL ls lc) (hi : i < nL) (h' : lv_has lc' nL ((i, cnc zb b v) :: (lvp zb b ls).filter (fun q => !(q.1 == i) && !(q.1 + 1 == i && q.2.category == 2)))) : LocR zb b nL (lset i v ls) lc' := by
  refine ⟨by rw [lset_len]; exact h.1, h'.1, h'.2.1, fun j hj => ?_⟩
  rw [lget_lset i v ls j (by rw [h.1]; exact hi)] at hj ⊢
  by_cases e : j = i
  · subst e; rw [if_pos rfl]; exact h'.2.2 _ List.mem_cons_self
  · rw [if_neg e] at hj ⊢
    by_cases e2 : j + 1 = i ∧ (lget j ls).1 = 1
    · rw [if_pos e2] at hj; exact absurd rfl hj
    · rw [if_neg e2] at hj ⊢
      refine h'.2.2 (j, cnc zb b (lget j ls)) (List.mem_cons_of_mem _ (List.mem_filter.mpr ⟨lvp_mem hj, ?_⟩))
      have : ¬ (j + 1 = i ∧ (cnc zb b (lget j ls)).category = 2) := fun q => e2 ⟨q.1, (cnc_cat zb b _).mp q.2⟩
      simp only [Bool.and_eq_true, Bool.not_eq_true', beq_eq_false_iff_ne, ne_eq, Bool.and_eq_false_iff]
      refine ⟨e, ?_⟩
      by_cases q : j + 1 = i
      · exact Or.inr (fun z => this ⟨q, z⟩)
      · exact Or.inl q
theorem LocR.st2 {zb b nL i : Nat} {ls : List V} {lc : Array Slot} {v : V} {lc' : Array Slot} (h : LocR zb b nL ls lc) (hi : i + 1 < nL) (h' : lv_has lc' nL ((i, cnc zb b v) :: (lvp zb b ls).filter (fun q => !(q.1 == i) && (!(q.1 == i + 1) && !(q.1 + 1 == i && q.2.category == 2))))) : LocR zb b nL (lset2 i v ls) lc' := by
  refine ⟨by rw [lset2_len]; exact h.1, h'.1, h'.2.1, fun j hj => ?_⟩
  rw [lget_lset2 i v ls j (by rw [h.1]; exact hi)] at hj ⊢
  by_cases e : j = i
  · subst e; rw [if_pos rfl]; exact h'.2.2 _ List.mem_cons_self
  · rw [if_neg e] at hj ⊢
    by_cases e1 : j = i + 1
    · rw [if_pos e1] at hj; exact absurd rfl hj
    · rw [if_neg e1] at hj ⊢
      by_cases e2 : j + 1 = i ∧ (lget j ls).1 = 1
      · rw [if_pos e2] at hj; exact absurd rfl hj
      · rw [if_neg e2] at hj ⊢
        refine h'.2.2 (j, cnc zb b (lget j ls)) (List.mem_cons_of_mem _ (List.mem_filter.mpr ⟨lvp_mem hj, ?_⟩))
        have : ¬ (j + 1 = i ∧ (cnc zb b (lget j ls)).category = 2) := fun q => e2 ⟨q.1, (cnc_cat zb b _).mp q.2⟩
        simp only [Bool.and_eq_true, Bool.not_eq_true', beq_eq_false_iff_ne, ne_eq, Bool.and_eq_false_iff]
        refine ⟨e, e1, ?_⟩
        by_cases q : j + 1 = i
        · exact Or.inr (fun z => this ⟨q, z⟩)
        · exact Or.inl q
theorem entL_len : ∀ (n : Nat) (as : List V), (entL n as).length = n
  | 0, _ => rfl
  | n + 1, [] => by simp [entL, entL_len n []]
  | n + 1, v :: r => by
    simp only [entL]
    split <;> simp [entL_len n]
theorem entL_mem (zb b : Nat) : ∀ (n : Nat) (as : List V) (i j : Nat), (lget j (entL n as)).1 ≠ 9 → (i + j, cnc zb b (lget j (entL n as))) ∈ lv_args i (as.map (cnc zb b))
  | 0, _, _, j, h => by simp [entL, lget] at h
  | n + 1, [], i, 0, h => by simp [entL, lget] at h
  | n + 1, [], i, j + 1, h => by
    simp only [entL, lget] at h ⊢
    exact absurd (entL_mem zb b n [] i j h) (by simp [lv_args])
  | n + 1, v :: r, i, 0, h => by
    simp only [entL, lget, List.map_cons, lv_args]; exact List.mem_cons_self
  | n + 1, v :: r, i, j + 1, h => by
    simp only [entL, lget, List.map_cons, lv_args] at h ⊢
    refine List.mem_cons_of_mem _ ?_
    by_cases hv : v.1 = 1
    · rw [if_pos hv] at h ⊢
      rw [if_pos ((cnc_cat zb b v).mpr hv)]
      match n, j, h with
      | 0, _, h => simp [entL, lget] at h
      | n + 1, 0, h => simp [entL, lget] at h
      | n + 1, j + 1, h =>
        simp only [entL, lget] at h ⊢
        have := entL_mem zb b n r (i + 2) j (by simpa using h)
        rw [show i + (j + 1 + 1) = i + 2 + j by omega]
        simpa using this
    · rw [if_neg hv] at h ⊢
      rw [if_neg (fun q => hv ((cnc_cat zb b v).mp q))]
      have := entL_mem zb b n r (i + 1) j h
      rw [show i + (j + 1) = i + 1 + j by omega]
      exact this
theorem wsm_sl (zb b : Nat) : ∀ as : List V, (lg_sl (as.map (cnc zb b))).length = wsm as
  | [] => rfl
  | v :: r => by
    have ih := wsm_sl zb b r
    unfold lg_sl at ih ⊢
    simp only [List.map_cons, List.flatMap_cons, List.length_append, ih, wsm, wcat]
    by_cases hv : v.1 = 1
    · rw [if_pos hv, if_pos ((cnc_cat zb b v).mpr hv)]; rfl
    · rw [if_neg hv, if_neg (fun q => hv ((cnc_cat zb b v).mp q))]; rfl
theorem wsm_cat (zb b : Nat) : ∀ as : List V, ((as.map (cnc zb b)).map fun v => v.category).sum = wsm as
  | [] => rfl
  | v :: r => by
    have ih := wsm_cat zb b r
    simp only [List.map_cons, List.sum_cons, ih, wsm, wcat]
    by_cases hv : v.1 = 1
    · rw [if_pos hv, (cnc_cat zb b v).mpr hv]
    · rw [if_neg hv]
      have h1 := lv_cat (cnc zb b v)
      have h2 : ¬ (cnc zb b v).category = 2 := fun q => hv ((cnc_cat zb b v).mp q)
      have : (cnc zb b v).category = 1 := by rcases h1 with h | h; exact h; exact absurd h h2
      rw [this]
theorem LocR.entry {zb b : Nat} {as : List V} {nL : Nat} (h : wsm as ≤ nL) : LocR zb b nL (entL nL as) ((lg_sl (as.map (cnc zb b)) ++ List.replicate (nL - (lg_sl (as.map (cnc zb b))).length) Slot.unset).toArray) := by
  have hl := lv_entry (as.map (cnc zb b)) (n := nL) (by rw [wsm_sl]; exact h)
  refine ⟨entL_len _ _, hl.1, hl.2.1, fun j hj => ?_⟩
  have := entL_mem zb b nL as 0 j hj
  exact hl.2.2 _ (by simpa using this)
theorem fet_spec {m pc : Nat} {e : En} (h : fet m pc = some e) : e ∈ ents m ∧ e.1 = pc := by
  unfold fet at h
  have h1 := List.find?_some h
  exact ⟨List.mem_of_find?_eq_some h, by simpa using h1⟩
