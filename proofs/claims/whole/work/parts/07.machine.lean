/-! THE ABSTRACT MACHINE: values are tag and number; memory is cell, place -> number; wpI is the weakest precondition of an instruction -/
abbrev V : Type := Nat × Int
abbrev Mem : Type := Int → Int → Int
abbrev Post : Type := Option V → Int → Mem → Prop
def R32 (x : Int) : Prop := -2147483648 ≤ x ∧ x ≤ 2147483647
def R64 (x : Int) : Prop := -9223372036854775808 ≤ x ∧ x ≤ 9223372036854775807
def RR (x y : Int) : Prop := x = y ∨ (R32 x ∧ R32 y)
def RL (x y : Int) : Prop := x = y ∨ (R64 x ∧ R64 y)
def lget : Nat → List V → V
  | _, [] => (9, 0)
  | 0, v :: _ => v
  | i + 1, _ :: r => lget i r
def lset : Nat → V → List V → List V
  | _, _, [] => []
  | 0, v, _ :: r => v :: r
  | i + 1, v, x :: r => (if i = 0 ∧ x.1 = 1 then (9, 0) else x) :: lset i v r
def lset2 : Nat → V → List V → List V
  | _, _, [] => []
  | 0, v, _ :: r => v :: r.set 0 (9, 0)
  | i + 1, v, x :: r => (if i = 0 ∧ x.1 = 1 then (9, 0) else x) :: lset2 i v r
def popN : Nat → List V → List V → List V × List V
  | 0, st, acc => (acc, st)
  | _ + 1, [], acc => (acc, [])
  | k + 1, v :: r, acc => popN k r (v :: acc)
def wcat (v : V) : Nat := if v.1 = 1 then 2 else 1
def wsm : List V → Nat
  | [] => 0
  | v :: r => wcat v + wsm r
def entL : Nat → List V → List V
  | 0, _ => []
  | L + 1, [] => (9, 0) :: entL L []
  | L + 1, v :: r => v :: (if v.1 = 1 then entL L ((9, 0) :: r) else entL L r)
def ust (M : Mem) (a i v : Int) : Mem := fun b j => if b = a ∧ j = i then v else M b j
def zro (M : Mem) (a : Int) : Mem := fun b j => if b = a then 0 else M b j
def mna (M : Mem) (n a : Int) : Mem := fun c j => if c = n then (if 0 ≤ j ∧ j < a then n + 1 + j else 0) else if n < c ∧ c ≤ n + a then 0 else M c j
def KD (a : Int) : Int := am_kd.getD a.toNat 0
def LN (a : Int) : Int := am_ln.getD a.toNat 0
def kd (n a : Int) : Int := if a < n then KD a else 0
def mnaOK (n a b : Int) : Bool := (List.range a.toNat).all (fun j => KD (n + 1 + j) == 1 && LN (n + 1 + j) == b)
def band (x y : Int) : Int := (Int32.ofInt x &&& Int32.ofInt y).toInt
def bor (x y : Int) : Int := (Int32.ofInt x ||| Int32.ofInt y).toInt
def lcm3 (x y : Int) : Int := if y < x then 1 else if x = y then 0 else -1
def tgn (tg : List Nat) (i : Nat) : Nat := tg.getD i 0
def wpI (e : En) (k : Nat × Nat) (ls st : List V) (n : Int) (M : Mem)
    (N : (Nat × Nat) → List V → List V → Int → Mem → Prop) (J : Nat → List V → List V → Int → Mem → Prop)
    (C : Nat → List V → Int → Mem → Post → Prop) (Q : Post) : Prop :=
  match e with
  | (_, i, _, x, w, z, y, tg) =>
  match i with
  | .iconst c => N k ls ((0, c) :: st) n M
  | .bipush c => N k ls ((0, c) :: st) n M
  | .sipush c => N k ls ((0, c) :: st) n M
  | .lconst _ => N k ls ((1, z) :: st) n M
  | .ldc _ => N k ls ((0, z) :: st) n M
  | .ldc2_w _ => N k ls ((1, z) :: st) n M
  | .iload _ => (lget x ls).1 = 0 ∧ N k ls (lget x ls :: st) n M
  | .iload_n _ => (lget x ls).1 = 0 ∧ N k ls (lget x ls :: st) n M
  | .lload _ => (lget x ls).1 = 1 ∧ N k ls (lget x ls :: st) n M
  | .lload_n _ => (lget x ls).1 = 1 ∧ N k ls (lget x ls :: st) n M
  | .aload _ => ((lget x ls).1 = 2 ∨ (lget x ls).1 = 3) ∧ N k ls (lget x ls :: st) n M
  | .aload_n _ => ((lget x ls).1 = 2 ∨ (lget x ls).1 = 3) ∧ N k ls (lget x ls :: st) n M
  | .istore _ => (match st with | v :: r => v.1 = 0 ∧ N k (lset x v ls) r n M | _ => False)
  | .istore_n _ => (match st with | v :: r => v.1 = 0 ∧ N k (lset x v ls) r n M | _ => False)
  | .lstore _ => (match st with | v :: r => v.1 = 1 ∧ N k (lset2 x v ls) r n M | _ => False)
  | .lstore_n _ => (match st with | v :: r => v.1 = 1 ∧ N k (lset2 x v ls) r n M | _ => False)
  | .astore _ => (match st with | v :: r => v.1 = 2 ∧ N k (lset x v ls) r n M | _ => False)
  | .astore_n _ => (match st with | v :: r => v.1 = 2 ∧ N k (lset x v ls) r n M | _ => False)
  | .iinc _ c => (lget x ls).1 = 0 ∧ N k (lset x (0, (lget x ls).2 + c) ls) st n M
  | .iadd => (match st with | b :: a :: r => a.1 = 0 ∧ b.1 = 0 ∧ N k ls ((0, a.2 + b.2) :: r) n M | _ => False)
  | .isub => (match st with | b :: a :: r => a.1 = 0 ∧ b.1 = 0 ∧ N k ls ((0, a.2 - b.2) :: r) n M | _ => False)
  | .imul => (match st with | b :: a :: r => a.1 = 0 ∧ b.1 = 0 ∧ N k ls ((0, a.2 * b.2) :: r) n M | _ => False)
  | .ineg => (match st with | a :: r => a.1 = 0 ∧ N k ls ((0, -a.2) :: r) n M | _ => False)
  | .idiv => (match st with | b :: a :: r => a.1 = 0 ∧ b.1 = 0 ∧ R32 a.2 ∧ R32 b.2 ∧ b.2 ≠ 0 ∧ N k ls ((0, a.2.tdiv b.2) :: r) n M | _ => False)
  | .irem => (match st with | b :: a :: r => a.1 = 0 ∧ b.1 = 0 ∧ R32 a.2 ∧ R32 b.2 ∧ b.2 ≠ 0 ∧ N k ls ((0, a.2.tmod b.2) :: r) n M | _ => False)
  | .iand => (match st with | b :: a :: r => a.1 = 0 ∧ b.1 = 0 ∧ N k ls ((0, band a.2 b.2) :: r) n M | _ => False)
  | .ior => (match st with | b :: a :: r => a.1 = 0 ∧ b.1 = 0 ∧ N k ls ((0, bor a.2 b.2) :: r) n M | _ => False)
  | .ishl => (match st with | b :: a :: r => a.1 = 0 ∧ b.1 = 0 ∧ a.2 = 1 ∧ 0 ≤ b.2 ∧ b.2 < 32 ∧ N k ls ((0, 2 ^ b.2.toNat) :: r) n M | _ => False)
  | .ishr => (match st with | b :: a :: r => a.1 = 0 ∧ b.1 = 0 ∧ R32 a.2 ∧ 0 ≤ b.2 ∧ b.2 < 32 ∧ N k ls ((0, a.2 / 2 ^ b.2.toNat) :: r) n M | _ => False)
  | .ladd => (match st with | b :: a :: r => a.1 = 1 ∧ b.1 = 1 ∧ N k ls ((1, a.2 + b.2) :: r) n M | _ => False)
  | .lsub => (match st with | b :: a :: r => a.1 = 1 ∧ b.1 = 1 ∧ N k ls ((1, a.2 - b.2) :: r) n M | _ => False)
  | .lmul => (match st with | b :: a :: r => a.1 = 1 ∧ b.1 = 1 ∧ N k ls ((1, a.2 * b.2) :: r) n M | _ => False)
  | .ldiv => (match st with | b :: a :: r => a.1 = 1 ∧ b.1 = 1 ∧ R64 a.2 ∧ R64 b.2 ∧ b.2 ≠ 0 ∧ N k ls ((1, a.2.tdiv b.2) :: r) n M | _ => False)
  | .lrem => (match st with | b :: a :: r => a.1 = 1 ∧ b.1 = 1 ∧ R64 a.2 ∧ R64 b.2 ∧ b.2 ≠ 0 ∧ N k ls ((1, a.2.tmod b.2) :: r) n M | _ => False)
  | .lcmp => (match st with | b :: a :: r => a.1 = 1 ∧ b.1 = 1 ∧ RL a.2 b.2 ∧ N k ls ((0, lcm3 a.2 b.2) :: r) n M | _ => False)
  | .i2l => (match st with | a :: r => a.1 = 0 ∧ R32 a.2 ∧ N k ls ((1, a.2) :: r) n M | _ => False)
  | .l2i => (match st with | a :: r => a.1 = 1 ∧ N k ls ((0, a.2) :: r) n M | _ => False)
  | .dup => (match st with | a :: r => a.1 ≠ 1 ∧ N k ls (a :: a :: r) n M | _ => False)
  | .dup2 => (match st with | b :: a :: r => b.1 ≠ 1 ∧ a.1 ≠ 1 ∧ N k ls (b :: a :: b :: a :: r) n M | _ => False)
  | .if_icmp .eq _ => (match st with | b :: a :: r => a.1 = 0 ∧ b.1 = 0 ∧ RR a.2 b.2 ∧ (if a.2 = b.2 then J x ls r n M else N k ls r n M) | _ => False)
  | .if_icmp .ne _ => (match st with | b :: a :: r => a.1 = 0 ∧ b.1 = 0 ∧ RR a.2 b.2 ∧ (if a.2 = b.2 then N k ls r n M else J x ls r n M) | _ => False)
  | .if_icmp .lt _ => (match st with | b :: a :: r => a.1 = 0 ∧ b.1 = 0 ∧ RR a.2 b.2 ∧ (if a.2 < b.2 then J x ls r n M else N k ls r n M) | _ => False)
  | .if_icmp .ge _ => (match st with | b :: a :: r => a.1 = 0 ∧ b.1 = 0 ∧ RR a.2 b.2 ∧ (if a.2 < b.2 then N k ls r n M else J x ls r n M) | _ => False)
  | .if_icmp .gt _ => (match st with | b :: a :: r => a.1 = 0 ∧ b.1 = 0 ∧ RR a.2 b.2 ∧ (if b.2 < a.2 then J x ls r n M else N k ls r n M) | _ => False)
  | .if_icmp .le _ => (match st with | b :: a :: r => a.1 = 0 ∧ b.1 = 0 ∧ RR a.2 b.2 ∧ (if b.2 < a.2 then N k ls r n M else J x ls r n M) | _ => False)
  | .ifCond .eq _ => (match st with | a :: r => a.1 = 0 ∧ R32 a.2 ∧ (if a.2 = 0 then J x ls r n M else N k ls r n M) | _ => False)
  | .ifCond .ne _ => (match st with | a :: r => a.1 = 0 ∧ R32 a.2 ∧ (if a.2 = 0 then N k ls r n M else J x ls r n M) | _ => False)
  | .ifCond .lt _ => (match st with | a :: r => a.1 = 0 ∧ R32 a.2 ∧ (if a.2 < 0 then J x ls r n M else N k ls r n M) | _ => False)
  | .ifCond .ge _ => (match st with | a :: r => a.1 = 0 ∧ R32 a.2 ∧ (if a.2 < 0 then N k ls r n M else J x ls r n M) | _ => False)
  | .ifCond .gt _ => (match st with | a :: r => a.1 = 0 ∧ R32 a.2 ∧ (if 0 < a.2 then J x ls r n M else N k ls r n M) | _ => False)
  | .ifCond .le _ => (match st with | a :: r => a.1 = 0 ∧ R32 a.2 ∧ (if 0 < a.2 then N k ls r n M else J x ls r n M) | _ => False)
  | .goto _ => J x ls st n M
  | .tableswitch _ lo _ _ => (match st with | a :: r => a.1 = 0 ∧ R32 a.2 ∧ (if lo ≤ a.2 ∧ a.2 < lo + tg.length then J (tgn tg (a.2 - lo).toNat) ls r n M else J x ls r n M) | _ => False)
  | .getfield _ => (match st with | a :: r => a.1 = 2 ∧ kd n a.2 = z ∧ (w = 2 → M a.2 y ≠ 0) ∧ N k ls ((w, M a.2 y) :: r) n M | _ => False)
  | .putfield _ => (match st with | v :: a :: r => a.1 = 2 ∧ kd n a.2 = z ∧ (if w = 5 then v.1 = 0 ∧ (v.2 = 0 ∨ v.2 = 1) else v.1 = w) ∧ (w = 2 → v.2 ≠ 0) ∧ N k ls r n (ust M a.2 y v.2) | _ => False)
  | .iaload => (match st with | i :: a :: r => i.1 = 0 ∧ (if a.1 = 3 then w = 1 ∧ 0 ≤ i.2 ∧ i.2 < M (-1) 0 ∧ N k ls ((0, M 0 i.2) :: r) n M else a.1 = 2 ∧ kd n a.2 = 1 ∧ 0 ≤ i.2 ∧ i.2 < LN a.2 ∧ N k ls ((0, M a.2 i.2) :: r) n M) | _ => False)
  | .laload => (match st with | i :: a :: r => i.1 = 0 ∧ a.1 = 2 ∧ kd n a.2 = 2 ∧ 0 ≤ i.2 ∧ i.2 < LN a.2 ∧ N k ls ((1, M a.2 i.2) :: r) n M | _ => False)
  | .aaload => (match st with | i :: a :: r => i.1 = 0 ∧ a.1 = 2 ∧ (kd n a.2 = 3 ∨ kd n a.2 = 4) ∧ 0 ≤ i.2 ∧ i.2 < LN a.2 ∧ M a.2 i.2 ≠ 0 ∧ N k ls ((2, M a.2 i.2) :: r) n M | _ => False)
  | .iastore => (match st with | v :: i :: a :: r => v.1 = 0 ∧ i.1 = 0 ∧ a.1 = 2 ∧ kd n a.2 = 1 ∧ 0 ≤ i.2 ∧ i.2 < LN a.2 ∧ N k ls r n (ust M a.2 i.2 v.2) | _ => False)
  | .lastore => (match st with | v :: i :: a :: r => v.1 = 1 ∧ i.1 = 0 ∧ a.1 = 2 ∧ kd n a.2 = 2 ∧ 0 ≤ i.2 ∧ i.2 < LN a.2 ∧ N k ls r n (ust M a.2 i.2 v.2) | _ => False)
  | .aastore => (match st with | v :: i :: a :: r => v.1 = 2 ∧ i.1 = 0 ∧ a.1 = 2 ∧ kd n a.2 = 3 ∧ kd n v.2 = 16 ∧ 0 ≤ i.2 ∧ i.2 < LN a.2 ∧ N k ls r n (ust M a.2 i.2 v.2) | _ => False)
  | .arraylength => (match st with | a :: r => (if a.1 = 3 then w = 1 ∧ N k ls ((0, M (-1) 0) :: r) n M else a.1 = 2 ∧ (kd n a.2 = 1 ∨ kd n a.2 = 2 ∨ kd n a.2 = 4) ∧ N k ls ((0, LN a.2) :: r) n M) | _ => False)
  | .new _ => KD n = z ∧ k.1 + 1 ≤ tgn tg 0 ∧ k.2 + w ≤ tgn tg 1 ∧ N (k.1 + 1, k.2 + w) ls ((2, n) :: st) (n + 1) (zro M n)
  | .newarray _ => (match st with | a :: r => a.1 = 0 ∧ 0 ≤ a.2 ∧ a.2 ≤ 100000 ∧ KD n = z ∧ LN n = a.2 ∧ k.1 + 1 ≤ tgn tg 0 ∧ k.2 + a.2.toNat ≤ tgn tg 1 ∧ N (k.1 + 1, k.2 + a.2.toNat) ls ((2, n) :: r) (n + 1) (zro M n) | _ => False)
  | .anewarray _ => (match st with | a :: r => a.1 = 0 ∧ 0 ≤ a.2 ∧ a.2 ≤ 100000 ∧ KD n = 3 ∧ LN n = a.2 ∧ k.1 + 1 ≤ tgn tg 0 ∧ k.2 + a.2.toNat ≤ tgn tg 1 ∧ N (k.1 + 1, k.2 + a.2.toNat) ls ((2, n) :: r) (n + 1) (zro M n) | _ => False)
  | .multianewarray _ _ => (match st with | b :: a :: r => a.1 = 0 ∧ b.1 = 0 ∧ 0 ≤ a.2 ∧ a.2 ≤ 100000 ∧ 0 ≤ b.2 ∧ b.2 ≤ 100000 ∧ KD n = 4 ∧ LN n = a.2 ∧ mnaOK n a.2 b.2 = true ∧ k.1 + (1 + a.2.toNat) ≤ tgn tg 0 ∧ k.2 + (a.2.toNat + a.2.toNat * b.2.toNat) ≤ tgn tg 1 ∧ N (k.1 + 1 + a.2.toNat, k.2 + a.2.toNat + a.2.toNat * b.2.toNat) ls ((2, n) :: r) (n + 1 + a.2) (mna M n a.2) | _ => False)
  | .invokestatic _ => if x = 1001 then (match st with | b :: a :: r => a.1 = 0 ∧ b.1 = 0 ∧ R32 a.2 ∧ R32 b.2 ∧ wsm r ≤ 8 ∧ N k ls ((0, max a.2 b.2) :: r) n M | _ => False) else if x = 1002 then (match st with | b :: a :: r => a.1 = 0 ∧ b.1 = 0 ∧ R32 a.2 ∧ R32 b.2 ∧ wsm r ≤ 8 ∧ N k ls ((0, min a.2 b.2) :: r) n M | _ => False) else if x = 1003 then (match st with | a :: r => a.1 = 0 ∧ R32 a.2 ∧ wsm r ≤ 8 ∧ N k ls ((0, if 0 ≤ a.2 then a.2 else -a.2) :: r) n M | _ => False) else
      (match popN w st [] with | (as, r) => w ≤ st.length ∧ wsm as ≤ tgn tg 0 ∧ wsm r ≤ 8 ∧ k.1 + tgn tg 1 ≤ tgn tg 3 ∧ k.2 + tgn tg 2 ≤ tgn tg 4 ∧ C x (entL (tgn tg 0) as) n M (fun o n' M' => N (k.1 + tgn tg 1, k.2 + tgn tg 2) ls (o.toList ++ r) n' M'))
  | .invokevirtual _ => (match popN w st [] with | (as, a :: r) => w ≤ st.length ∧ wsm (a :: as) ≤ tgn tg 0 ∧ a.1 = 2 ∧ kd n a.2 = z ∧ wsm r ≤ 8 ∧ k.1 + tgn tg 1 ≤ tgn tg 3 ∧ k.2 + tgn tg 2 ≤ tgn tg 4 ∧ C x (entL (tgn tg 0) (a :: as)) n M (fun o n' M' => N (k.1 + tgn tg 1, k.2 + tgn tg 2) ls (o.toList ++ r) n' M') | _ => False)
  | .invokespecial _ => if x = 999 then (match st with | a :: r => a.1 = 2 ∧ wsm r ≤ 8 ∧ N k ls r n M | _ => False) else
      (match popN w st [] with | (as, a :: r) => w ≤ st.length ∧ wsm (a :: as) ≤ tgn tg 0 ∧ a.1 = 2 ∧ kd n a.2 = z ∧ wsm r ≤ 8 ∧ k.1 + tgn tg 1 ≤ tgn tg 3 ∧ k.2 + tgn tg 2 ≤ tgn tg 4 ∧ C x (entL (tgn tg 0) (a :: as)) n M (fun o n' M' => N (k.1 + tgn tg 1, k.2 + tgn tg 2) ls (o.toList ++ r) n' M') | _ => False)
  | .ireturn => (match st with | [a] => a.1 = 0 ∧ (w = 1 → a.2 = 0 ∨ a.2 = 1) ∧ Q (some (0, a.2)) n M | _ => False)
  | .lreturn => (match st with | [a] => a.1 = 1 ∧ Q (some (1, a.2)) n M | _ => False)
  | .return_ => (match st with | [] => Q none n M | _ => False)
  | _ => False
abbrev Xt : Type := Nat → (Nat × Nat) → Nat → List V → List V → Int → Mem → Post → Prop
def Mon (X : Xt) : Prop := ∀ m k pc ls st n M (Q Q' : Post), (∀ o n' M', Q o n' M' → Q' o n' M') → X m k pc ls st n M Q → X m k pc ls st n M Q'
def wpX (X : Xt) (m : Nat) (e : En) (k : Nat × Nat) (ls st : List V) (n : Int) (M : Mem) (Q : Post) : Prop :=
  wpI e k ls st n M (fun k' ls' st' n' M' => X m k' (e.1 + e.2.2.1) ls' st' n' M' Q) (fun t ls' st' n' M' => X m k t ls' st' n' M' Q) (fun m' ls' n' M' Q' => X m' (0, 0) 0 ls' [] n' M' Q') Q
def Clo (X : Xt) : Prop := ∀ m k pc ls st n M Q e, fet m pc = some e → wpX X m e k ls st n M Q → X m k pc ls st n M Q
def WP (m : Nat) (k : Nat × Nat) (pc : Nat) (ls st : List V) (n : Int) (M : Mem) (Q : Post) : Prop := ∀ X : Xt, Mon X → Clo X → X m k pc ls st n M Q
abbrev CL (m : Nat) (ls : List V) (n : Int) (M : Mem) (Q : Post) : Prop := WP m (0, 0) 0 ls [] n M Q
theorem ite_imp {c : Prop} [Decidable c] {A B A' B' : Prop} (h1 : A → A') (h2 : B → B') : (if c then A else B) → (if c then A' else B') := by
  by_cases h : c
  · rw [if_pos h, if_pos h]; exact h1
  · rw [if_neg h, if_neg h]; exact h2
set_option maxHeartbeats 4000000 in
theorem wpI_mono {e : En} {k : Nat × Nat} {ls st : List V} {n : Int} {M : Mem} {N N' : (Nat × Nat) → List V → List V → Int → Mem → Prop} {J J' : Nat → List V → List V → Int → Mem → Prop} {C C' : Nat → List V → Int → Mem → Post → Prop} {Q Q' : Post}
    (hN : ∀ k ls st n M, N k ls st n M → N' k ls st n M) (hJ : ∀ t ls st n M, J t ls st n M → J' t ls st n M) (hC : ∀ m ls n M (Q Q' : Post), (∀ o n' M', Q o n' M' → Q' o n' M') → C m ls n M Q → C' m ls n M Q') (hQ : ∀ o n M, Q o n M → Q' o n M)
    (h : wpI e k ls st n M N J C Q) : wpI e k ls st n M N' J' C' Q' := by
  obtain ⟨pc, i, len, x, w, z, y, tg⟩ := e
  revert h
  unfold wpI
  dsimp only
  split <;> repeat' (first | exact id | exact hN _ _ _ _ _ | exact hJ _ _ _ _ _ | exact hQ _ _ _ | exact hC _ _ _ _ _ _ (fun o n' M' => hN _ _ _ _ _) | refine And.imp_right ?_ | refine ite_imp ?_ ?_ | split)
theorem WP.mono {m : Nat} {k : Nat × Nat} {pc : Nat} {ls st : List V} {n : Int} {M : Mem} {Q Q' : Post} (h : WP m k pc ls st n M Q) (hq : ∀ o n' M', Q o n' M' → Q' o n' M') : WP m k pc ls st n M Q' :=
  fun X hM hC => hM _ _ _ _ _ _ _ _ _ hq (h X hM hC)
theorem WP.step {m : Nat} {k : Nat × Nat} {pc : Nat} {ls st : List V} {n : Int} {M : Mem} {Q : Post} {e : En} (he : fet m pc = some e) (h : wpX WP m e k ls st n M Q) : WP m k pc ls st n M Q := by
  intro X hM hC
  refine hC m k pc ls st n M Q e he ?_
  exact wpI_mono (fun k ls st n M h => h X hM hC) (fun t ls st n M h => h X hM hC) (fun m ls n M Q Q' hq h => hM _ _ _ _ _ _ _ _ _ hq (h X hM hC)) (fun o n M h => h) h
def U (cut : List (Nat × Nat)) (inl : List Nat) : Nat → Nat → (Nat × Nat) → List En → List V → List V → Int → Mem → Post → Prop
  | 0, _, _, _, _, _, _, _, _ => False
  | _ + 1, _, _, [], _, _, _, _, _ => False
  | f + 1, m, k, e :: r, ls, st, n, M, Q => wpI e k ls st n M
      (fun k' ls' st' n' M' => match r with
        | [] => if (m, e.1 + e.2.2.1) ∈ cut then WP m k' (e.1 + e.2.2.1) ls' st' n' M' Q else U cut inl f m k' (blk m (e.1 + e.2.2.1)) ls' st' n' M' Q
        | _ :: _ => U cut inl f m k' r ls' st' n' M' Q)
      (fun t ls' st' n' M' => if (m, t) ∈ cut then WP m k t ls' st' n' M' Q else U cut inl f m k (blk m t) ls' st' n' M' Q)
      (fun m' ls' n' M' Q' => if m' ∈ inl then U cut inl f m' (0, 0) (blk m' 0) ls' [] n' M' Q' else WP m' (0, 0) 0 ls' [] n' M' Q')
      Q
/-- a chain of entries: at its own places, one behind the other -/
def gbc : Nat → List En → Bool
  | _, [] => true
  | t, e :: r => e.1 == t && (decide (0 < e.2.2.1) && gbc (t + e.2.2.1) r)
def GB (m : Nat) : Nat → List En → Prop
  | _, [] => True
  | t, e :: r => e.1 = t ∧ fet m t = some e ∧ GB m (t + e.2.2.1) r
theorem am_len : am_bk.length = NMT := by decide +kernel
theorem am_good1 : (List.range NMT).all (fun m => gbc 0 (ents m)) = true := by decide +kernel
theorem am_good2 : (List.range NMT).all (fun m => (am_bk.getD m []).all (fun q => gbc q.1 q.2)) = true := by decide +kernel
theorem gbc_le : ∀ (L : List En) (t : Nat) (e : En), gbc t L = true → e ∈ L → t ≤ e.1
  | [], _, _, _, h => by cases h
  | e0 :: L, t, e, hg, h => by
    simp only [gbc, Bool.and_eq_true, beq_iff_eq, decide_eq_true_eq] at hg
    rcases List.mem_cons.mp h with h | h
    · subst h; omega
    · have := gbc_le L _ e hg.2.2 h; omega
theorem gbc_find : ∀ (L : List En) (t : Nat) (e : En), gbc t L = true → e ∈ L → L.find? (fun q => q.1 == e.1) = some e
  | [], _, _, _, h => by cases h
  | e0 :: L, t, e, hg, h => by
    simp only [gbc, Bool.and_eq_true, beq_iff_eq, decide_eq_true_eq] at hg
    rcases List.mem_cons.mp h with h | h
    · subst h; simp
    · have := gbc_le L _ e hg.2.2 h
      have hne : ¬ e0.1 = e.1 := by omega
      have hb : (e0.1 == e.1) = false := by simpa using hne
      rw [List.find?_cons, hb]
      exact gbc_find L _ e hg.2.2 h
theorem GB_of {m : Nat} : ∀ (r : List En) (t : Nat), gbc t r = true → (∀ e ∈ r, fet m e.1 = some e) → GB m t r
  | [], _, _, _ => trivial
  | e :: r, t, hg, hf => by
    simp only [gbc, Bool.and_eq_true, beq_iff_eq, decide_eq_true_eq] at hg
    refine ⟨hg.1, ?_, GB_of r _ hg.2.2 (fun e' h => hf e' (List.mem_cons_of_mem _ h))⟩
    have := hf e List.mem_cons_self
    rw [hg.1] at this
    exact this
theorem lookup_mem {t : Nat} {b : List En} : ∀ (L : List (Nat × List En)), L.lookup t = some b → (t, b) ∈ L
  | [], h => by cases h
  | (q1, q2) :: L, hl => by
    rw [List.lookup_cons] at hl
    by_cases e : t = q1
    · subst e; simp at hl; subst hl; exact List.mem_cons_self
    · have : (t == q1) = false := by simpa using e
      rw [this] at hl
      exact List.mem_cons_of_mem _ (lookup_mem L hl)
theorem fet_good {m : Nat} {e : En} (hm : m < NMT) (h : e ∈ ents m) : fet m e.1 = some e :=
  gbc_find _ 0 e (List.all_eq_true.mp am_good1 m (List.mem_range.mpr hm)) h
theorem blk_good (m t : Nat) : GB m t (blk m t) := by
  unfold blk
  by_cases hm : m < NMT
  · have h := List.all_eq_true.mp am_good2 m (List.mem_range.mpr hm)
    cases hl : (am_bk.getD m []).lookup t with
    | none => exact trivial
    | some b =>
      have hmem := lookup_mem _ hl
      exact GB_of b t (List.all_eq_true.mp h (t, b) hmem) (fun e he => fet_good hm (List.mem_flatMap.mpr ⟨(t, b), hmem, he⟩))
  · have : am_bk.getD m [] = [] := by
      rw [List.getD_eq_getElem?_getD, List.getElem?_eq_none (by rw [am_len]; omega)]; rfl
    rw [this]; exact trivial
theorem U_sound {cut : List (Nat × Nat)} {inl : List Nat} : ∀ (f m : Nat) (k : Nat × Nat) (t : Nat) (r : List En) (ls st : List V) (n : Int) (M : Mem) (Q : Post), GB m t r → U cut inl f m k r ls st n M Q → WP m k t ls st n M Q := by
  intro f
  induction f with
  | zero => intro m k t r ls st n M Q _ h; exact h.elim
  | succ f ih =>
    intro m k t r ls st n M Q hg h
    cases r with
    | nil => exact h.elim
    | cons e r =>
      obtain ⟨h1, h2, h3⟩ := hg
      refine WP.step h2 ?_
      refine wpI_mono ?_ ?_ ?_ (fun o n M h => h) h
      · intro k' ls' st' n' M' h
        subst h1
        cases r with
        | nil =>
          dsimp only at h
          split at h
          · exact h
          · exact ih _ _ _ _ _ _ _ _ _ (blk_good _ _) h
        | cons e' r' => exact ih _ _ _ _ _ _ _ _ _ h3 h
      · intro t' ls' st' n' M' h
        split at h
        · exact h
        · exact ih _ _ _ _ _ _ _ _ _ (blk_good _ _) h
      · intro m' ls' n' M' Q1 Q2 hq h
        refine WP.mono ?_ hq
        split at h
        · exact ih _ _ _ _ _ _ _ _ _ (blk_good _ _) h
        · exact h
/-- the road of every contract: a region's condition, unfolded down to its cuts, gives the region -/
theorem WP.run {m : Nat} {k : Nat × Nat} {pc : Nat} {ls st : List V} {n : Int} {M : Mem} {Q : Post} (cut : List (Nat × Nat)) (inl : List Nat) (f : Nat) (h : U cut inl f m k (blk m pc) ls st n M Q) : WP m k pc ls st n M Q := U_sound f m k pc _ ls st n M Q (blk_good m pc) h
