/-! static checks of the entries -/
def tyTag : FieldType → Nat
  | .int => 0
  | .boolean => 0
  | .long => 1
  | .object _ => 2
  | .array _ => 2
  | _ => 7
def ciTy (ci j : Nat) : FieldType := (am_tyL.getD ci (fun _ => .int)) j
def eok (m : Nat) (e : En) : Bool :=
  match e with
  | (pc, i, len, x, w, z, y, tg) =>
  match i with
  | .iconst _ => decide (len = 1)
  | .bipush c => decide (len = 2 ∧ -128 ≤ c ∧ c < 128)
  | .sipush c => decide (len = 3 ∧ -32768 ≤ c ∧ c < 32768)
  | .lconst j => decide (len = 1 ∧ z = ((j : Nat) : Int))
  | .ldc j => decide (len = 2 ∧ ((am_M m).1, j, z) ∈ lkK_L)
  | .ldc2_w j => decide (len = 3 ∧ ((am_M m).1, j, z) ∈ lkJ_L)
  | .iload j => decide (len = 2 ∧ j = x)
  | .iload_n j => decide (len = 1 ∧ (j : Nat) = x)
  | .lload j => decide (len = 2 ∧ j = x)
  | .lload_n j => decide (len = 1 ∧ (j : Nat) = x)
  | .aload j => decide (len = 2 ∧ j = x)
  | .aload_n j => decide (len = 1 ∧ (j : Nat) = x)
  | .istore j => decide (len = 2 ∧ j = x ∧ x < (am_M m).2.2.2.1)
  | .istore_n j => decide (len = 1 ∧ (j : Nat) = x ∧ x < (am_M m).2.2.2.1)
  | .lstore j => decide (len = 2 ∧ j = x ∧ x + 1 < (am_M m).2.2.2.1)
  | .lstore_n j => decide (len = 1 ∧ (j : Nat) = x ∧ x + 1 < (am_M m).2.2.2.1)
  | .astore j => decide (len = 2 ∧ j = x ∧ x < (am_M m).2.2.2.1)
  | .astore_n j => decide (len = 1 ∧ (j : Nat) = x ∧ x < (am_M m).2.2.2.1)
  | .iinc j _ => decide (len = 3 ∧ j = x ∧ x < (am_M m).2.2.2.1)
  | .if_icmp _ off => decide (len = 3 ∧ (pc : Int) + off = x)
  | .ifCond _ off => decide (len = 3 ∧ (pc : Int) + off = x)
  | .goto off => decide (len = 3 ∧ (pc : Int) + off = x)
  | .tableswitch d lo hi offs => decide ((pc : Int) + d = x ∧ hi + 1 = lo + tg.length ∧ offs.toList.map (fun q => (pc : Int) + q) = tg.map (fun q => ((q : Nat) : Int)))
  | .getfield j => decide (len = 3 ∧ 10 ≤ z ∧ 0 ≤ y ∧ (z - 10).toNat < 13 ∧ y.toNat < (am_C (z - 10).toNat).2.2 ∧ ((am_M m).1, j, (z - 10).toNat, y.toNat) ∈ lkF_L ∧ w = tyTag (ciTy (z - 10).toNat y.toNat) ∧ ((am_C (z - 10).toNat).2.1 y.toNat).1 = (am_C (z - 10).toNat).1)
  | .putfield j => decide (len = 3 ∧ 10 ≤ z ∧ 0 ≤ y ∧ (z - 10).toNat < 13 ∧ y.toNat < (am_C (z - 10).toNat).2.2 ∧ ((am_M m).1, j, (z - 10).toNat, y.toNat) ∈ lkF_L ∧ (if ciTy (z - 10).toNat y.toNat = .boolean then w = 5 else w = tyTag (ciTy (z - 10).toNat y.toNat)) ∧ ((am_C (z - 10).toNat).2.1 y.toNat).1 = (am_C (z - 10).toNat).1 ∧ (((am_C (z - 10).toNat).2.1 y.toNat).2.2.2 = true → (am_M m).2.1.name = "<init>" ∧ am_cnm (am_M m).1 = (am_C (z - 10).toNat).1))
  | .new j => decide (len = 3 ∧ 10 ≤ z ∧ (z - 10).toNat < 13 ∧ ((am_M m).1, j, (z - 10).toNat) ∈ lkN_L ∧ w = (am_C (z - 10).toNat).2.2 ∧ tgn tg 0 = (am_M m).2.2.2.2.2.2.2.1 ∧ tgn tg 1 = (am_M m).2.2.2.2.2.2.2.2)
  | .newarray t => decide (len = 2 ∧ ((t = .int ∧ z = 1) ∨ (t = .long ∧ z = 2)) ∧ tgn tg 0 = (am_M m).2.2.2.2.2.2.2.1 ∧ tgn tg 1 = (am_M m).2.2.2.2.2.2.2.2)
  | .anewarray j => decide (len = 3 ∧ (am_M m).1 = 11 ∧ j = 49 ∧ tgn tg 0 = (am_M m).2.2.2.2.2.2.2.1 ∧ tgn tg 1 = (am_M m).2.2.2.2.2.2.2.2)
  | .multianewarray j d => decide (len = 4 ∧ d = 2 ∧ (am_M m).1 = 1 ∧ j = 15 ∧ tgn tg 0 = (am_M m).2.2.2.2.2.2.2.1 ∧ tgn tg 1 = (am_M m).2.2.2.2.2.2.2.2)
  | .invokestatic j => if x = 1001 then decide (len = 3 ∧ ((am_M m).1, j) ∈ lkHmax_L ∧ 1 ≤ (am_M m).2.2.2.2.2.1 ∧ 21 ≤ (am_M m).2.2.2.2.2.2.1)
      else if x = 1002 then decide (len = 3 ∧ ((am_M m).1, j) ∈ lkHmin_L ∧ 1 ≤ (am_M m).2.2.2.2.2.1 ∧ 21 ≤ (am_M m).2.2.2.2.2.2.1)
      else if x = 1003 then decide (len = 3 ∧ ((am_M m).1, j) ∈ lkHabs_L ∧ 1 ≤ (am_M m).2.2.2.2.2.1 ∧ 21 ≤ (am_M m).2.2.2.2.2.2.1)
      else decide (len = 3 ∧ ((am_M m).1, j, x) ∈ lkM_L ∧ (x, w, 1) ∈ lkY_L ∧ x < LAWM ∧ tg = [(am_M x).2.2.2.1, (am_M x).2.2.2.2.2.2.2.1, (am_M x).2.2.2.2.2.2.2.2, (am_M m).2.2.2.2.2.2.2.1, (am_M m).2.2.2.2.2.2.2.2] ∧ (am_M x).2.2.2.2.2.1 + 1 ≤ (am_M m).2.2.2.2.2.1 ∧ 8 + ((am_M x).2.2.2.1 + 11) + (am_M x).2.2.2.2.2.2.1 ≤ (am_M m).2.2.2.2.2.2.1)
  | .invokevirtual j => decide (len = 3 ∧ ((am_M m).1, j, x) ∈ lkM_L ∧ (x, w, 0) ∈ lkY_L ∧ x < LAWM ∧ z = 10 + ((am_M x).1 : Int) ∧ (am_M x).1 < 13 ∧ tg = [(am_M x).2.2.2.1, (am_M x).2.2.2.2.2.2.2.1, (am_M x).2.2.2.2.2.2.2.2, (am_M m).2.2.2.2.2.2.2.1, (am_M m).2.2.2.2.2.2.2.2] ∧ (am_M x).2.2.2.2.2.1 + 1 ≤ (am_M m).2.2.2.2.2.1 ∧ 8 + ((am_M x).2.2.2.1 + 11) + (am_M x).2.2.2.2.2.2.1 ≤ (am_M m).2.2.2.2.2.2.1)
  | .invokespecial j => if x = 999 then decide (len = 3 ∧ ((am_M m).1, j) ∈ lkO_L ∧ 1 ≤ (am_M m).2.2.2.2.2.1 ∧ 20 ≤ (am_M m).2.2.2.2.2.2.1)
      else decide (len = 3 ∧ ((am_M m).1, j, x) ∈ lkM_L ∧ (x, w, 2) ∈ lkY_L ∧ x < LAWM ∧ z = 10 + ((am_M x).1 : Int) ∧ (am_M x).1 < 13 ∧ tg = [(am_M x).2.2.2.1, (am_M x).2.2.2.2.2.2.2.1, (am_M x).2.2.2.2.2.2.2.2, (am_M m).2.2.2.2.2.2.2.1, (am_M m).2.2.2.2.2.2.2.2] ∧ (am_M x).2.2.2.2.2.1 + 1 ≤ (am_M m).2.2.2.2.2.1 ∧ 8 + ((am_M x).2.2.2.1 + 11) + (am_M x).2.2.2.2.2.2.1 ≤ (am_M m).2.2.2.2.2.2.1)
  | .ireturn => decide (len = 1 ∧ (if w = 1 then (am_M m).2.2.2.2.1 = some .boolean else (am_M m).2.2.2.2.1 = some .int))
  | .lreturn => decide (len = 1 ∧ (am_M m).2.2.2.2.1 = some .long)
  | .return_ => decide (len = 1 ∧ (am_M m).2.2.2.2.1 = none)
  | _ => decide (len = 1)
theorem am_ok0 : (List.range 16).all (fun q => (ents (0 + q)).all (eok (0 + q))) = true := by decide +kernel
theorem am_ok1 : (List.range 16).all (fun q => (ents (16 + q)).all (eok (16 + q))) = true := by decide +kernel
theorem am_ok2 : (List.range 16).all (fun q => (ents (32 + q)).all (eok (32 + q))) = true := by decide +kernel
theorem am_ok3 : (List.range 16).all (fun q => (ents (48 + q)).all (eok (48 + q))) = true := by decide +kernel
theorem am_ok4 : (List.range 16).all (fun q => (ents (64 + q)).all (eok (64 + q))) = true := by decide +kernel
theorem am_ok5 : (List.range 16).all (fun q => (ents (80 + q)).all (eok (80 + q))) = true := by decide +kernel
theorem am_ok6 : (List.range 16).all (fun q => (ents (96 + q)).all (eok (96 + q))) = true := by decide +kernel
theorem am_ok7 : (List.range 16).all (fun q => (ents (112 + q)).all (eok (112 + q))) = true := by decide +kernel
theorem am_ok8 : (List.range 16).all (fun q => (ents (128 + q)).all (eok (128 + q))) = true := by decide +kernel
theorem am_ok9 : (List.range 16).all (fun q => (ents (144 + q)).all (eok (144 + q))) = true := by decide +kernel
theorem am_ok10 : (List.range 16).all (fun q => (ents (160 + q)).all (eok (160 + q))) = true := by decide +kernel
theorem am_ok11 : (List.range 16).all (fun q => (ents (176 + q)).all (eok (176 + q))) = true := by decide +kernel
theorem am_ok12 : (List.range 16).all (fun q => (ents (192 + q)).all (eok (192 + q))) = true := by decide +kernel
theorem am_ok13 : (List.range 16).all (fun q => (ents (208 + q)).all (eok (208 + q))) = true := by decide +kernel
theorem am_ok14 : (List.range 16).all (fun q => (ents (224 + q)).all (eok (224 + q))) = true := by decide +kernel
theorem am_ok15 : (List.range 8).all (fun q => (ents (240 + q)).all (eok (240 + q))) = true := by decide +kernel
theorem am_ok {m : Nat} (hm : m < NMT) {e : En} (he : e ∈ ents m) : eok m e = true := by
  have key : ∀ (a b : Nat), (List.range b).all (fun q => (ents (a + q)).all (eok (a + q))) = true → a ≤ m → m < a + b → eok m e = true := fun a b h h1 h2 => by
    have h3 := List.all_eq_true.mp h (m - a) (List.mem_range.mpr (by omega))
    rw [show a + (m - a) = m by omega] at h3
    exact List.all_eq_true.mp h3 e he
  have hm2 : m < 248 := hm
  by_cases h0 : m < 16
  · exact key 0 16 am_ok0 (by omega) (by omega)
  by_cases h1 : m < 32
  · exact key 16 16 am_ok1 (by omega) (by omega)
  by_cases h2 : m < 48
  · exact key 32 16 am_ok2 (by omega) (by omega)
  by_cases h3 : m < 64
  · exact key 48 16 am_ok3 (by omega) (by omega)
  by_cases h4 : m < 80
  · exact key 64 16 am_ok4 (by omega) (by omega)
  by_cases h5 : m < 96
  · exact key 80 16 am_ok5 (by omega) (by omega)
  by_cases h6 : m < 112
  · exact key 96 16 am_ok6 (by omega) (by omega)
  by_cases h7 : m < 128
  · exact key 112 16 am_ok7 (by omega) (by omega)
  by_cases h8 : m < 144
  · exact key 128 16 am_ok8 (by omega) (by omega)
  by_cases h9 : m < 160
  · exact key 144 16 am_ok9 (by omega) (by omega)
  by_cases h10 : m < 176
  · exact key 160 16 am_ok10 (by omega) (by omega)
  by_cases h11 : m < 192
  · exact key 176 16 am_ok11 (by omega) (by omega)
  by_cases h12 : m < 208
  · exact key 192 16 am_ok12 (by omega) (by omega)
  by_cases h13 : m < 224
  · exact key 208 16 am_ok13 (by omega) (by omega)
  by_cases h14 : m < 240
  · exact key 224 16 am_ok14 (by omega) (by omega)
  by_cases h15 : m < 248
  · exact key 240 8 am_ok15 (by omega) (by omega)
  exact absurd hm2 (by omega)
