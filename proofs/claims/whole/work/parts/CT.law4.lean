/-! THE LAW IN THE REAL MACHINE: classes, arrays, the world at the start -/
theorem inst_all : (List.range 13).all (fun ci => decide (Cond.instantiable (am_C ci).1 (am_C ci).2.2 ∈ tables_1)) = true := by decide +kernel
theorem over_all : Cond.arrayOver (.object "CurveRooms$Pair") ∈ tables_1 ∧ Cond.arrayOver (.array .int) ∈ tables_1 := by decide +kernel
theorem law_cls {s : State} {args : Array Value} (hts : ∀ w ∈ tables_1, w.before args s = true) : ∃ D : va_G, ∀ (k : Nat) (q : vw_C), classes[k]? = some q → u_Kn s q.1 q.2.1 q.2.2 (D.1 k) (D.2 k) := by
  have key : ∀ ci : Nat, ∃ x : ClassId × (Nat → Nat), ci < 13 → u_Kn s (am_C ci).1 (am_C ci).2.1 (am_C ci).2.2 x.1 x.2 := fun ci => by
    by_cases h : ci < 13
    · obtain ⟨a, b, hk⟩ := u_known hts (am_inC ci h) (hts _ (of_decide_eq_true (List.all_eq_true.mp inst_all ci (List.mem_range.mpr h))))
      exact ⟨(a, b), fun _ => hk⟩
    · exact ⟨(0, fun _ => 0), fun w => absurd w h⟩
  obtain ⟨f, hf⟩ := Classical.axiomOfChoice key
  refine ⟨(fun k => (f k).1, fun k => (f k).2), fun k q hq => ?_⟩
  have hk : k < 13 := (List.getElem?_eq_some_iff.mp hq).1
  have e := (am_get k hk).symm.trans hq
  cases e
  exact hf k hk
theorem law_tys {s : State} {args : Array Value} (hts : ∀ w ∈ tables_1, w.before args s = true) : ∃ cs : Nat → ClassId, ∀ (k : Nat) (q : ClassId × FieldType), (tysC cs)[k]? = some q → ArrOfT s q.1 q.2 ∧ va_RA s q.1 q.2 := by
  obtain ⟨c1, k1, p1, a1, b1, d1⟩ := Cond.arrayClass_spec (hts _ lkAI)
  obtain ⟨c2, k2, p2, a2, b2, d2⟩ := Cond.arrayClass_spec (hts _ lkAL)
  obtain ⟨p3, c3, k3, a3, -, b3, d3, e3⟩ := Cond.arrayOver_spec (hts _ over_all.1)
  obtain ⟨p4, c4, k4, a4, -, b4, d4, e4⟩ := arrayOverA_spec (hts _ over_all.2)
  refine ⟨fun j => if j = 1 then c1 else if j = 2 then c2 else if j = 3 then c3 else c4, fun k q hq => ?_⟩
  have hk : k < 4 := (List.getElem?_eq_some_iff.mp hq).1
  match k, hk, hq with
  | 0, _, hq => cases hq; exact ⟨fun N z => ⟨(fun k h => by cases h), k1, b1, p1, d1⟩, a1⟩
  | 1, _, hq => cases hq; exact ⟨fun N z => ⟨(fun k h => by cases h), k2, b2, p2, d2⟩, a2⟩
  | 2, _, hq => cases hq; exact ⟨fun N z => ⟨(fun k h => by cases h), k3, b3, p3, d3⟩, k3, p3, b3, d3, a3, e3⟩
  | 3, _, hq => cases hq; exact ⟨fun N z => ⟨(fun k h => by cases h), k4, b4, p4, d4⟩, e4⟩
/-- the memory at the start: the script alone -/
def M00 (L : Nat) (xs : Nat → Int32) : Mem := fun b j => if b = -1 then (if j = 0 then (L : Int) else 0) else if b = 0 then (if 0 ≤ j ∧ j < L then (xs j.toNat).toInt else 0) else 0
theorem M00_R (L : Nat) (xs : Nat → Int32) (j : Int) : R32 (M00 L xs 0 j) := by
  unfold M00
  rw [if_neg (by decide), if_pos rfl]
  split
  · exact ⟨Int32.le_toInt _, by have := Int32.toInt_lt (xs j.toNat); omega⟩
  · exact ⟨by decide, by decide⟩
theorem law_SW {s : State} {args : Array Value} {b L : Nat} {xs : Nat → Int32} {D : va_G} {cs : Nat → ClassId} (hts : ∀ w ∈ tables_1, w.before args s = true) (h1 : ∀ (k : Nat) (q : vw_C), classes[k]? = some q → u_Kn s q.1 q.2.1 q.2.2 (D.1 k) (D.2 k)) (h2 : ∀ (k : Nat) (q : ClassId × FieldType), (tysC cs)[k]? = some q → ArrOfT s q.1 q.2 ∧ va_RA s q.1 q.2) (hX : va_X b L xs s s.heap) (hb : b < s.heap.size) (hL : L ≤ 2048) : SW (s.heap.size - 1) b L xs D cs s := by
  refine ⟨⟨h1, h2⟩, fun w hw hn => ?_, va_AO.of (hts _ over_all.1), (show (Cond.arrayOver (.array .int)).before #[] s = true from hts _ over_all.2), hX, by omega, by omega, by omega⟩
  cases w with
  | fieldLinkNest => exact va_Nw.of rfl (hts _ hw)
  | methodLinkNest => exact va_Nw.of rfl (hts _ hw)
  | _ => exact absurd (show false = true from hn) (by decide)
theorem law_World {s : State} {b L : Nat} {xs : Nat → Int32} {D : va_G} {cs : Nat → ClassId} (hb : b < s.heap.size) : World (s.heap.size - 1) L xs D cs (M00 L xs) 1 s.heap := by
  refine ⟨1, rfl, Nat.le_refl _, by omega, fun k q h => ?_, rfl, fun i hi => ?_⟩
  · simp [wsC] at h
  · unfold M00
    rw [if_neg (by decide), if_pos rfl, if_pos (by omega)]
    rfl
