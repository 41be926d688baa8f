/-! THE CLASS NUMBER IS 450 AT MOST: by 13 a search over the curves with 24 points or more -/
def q13 (v : Nat) : Nat := bif Nat.beq v 0 then 1 else bif Nat.beq (v * v * v * v * v * v % 13) 1 then 0 else 2
def frc (n : Nat) (F : Nat → Bool) : Bool := Nat.rec (F 0) (fun m _ => F (m + 1)) n
theorem frc_is (n : Nat) (F : Nat → Bool) : frc n F = F n := by cases n <;> rfl
def nx5 (a b c d e : Nat) : Nat := (a + 8 * b + 10 * c + 3 * d + 5 * e + 3) % 13
def hrN (a D : Nat) : List Nat → Nat × Nat
  | [] => (0, 0)
  | c :: l => (((hrN a D l).2 + a * (hrN a D l).1) % 13, (c + a * (hrN a D l).2 + D * (hrN a D l).1) % 13)
def ztN (l : List Nat) (a D : Nat) : Bool := Nat.beq (q13 (((hrN a D l).2 * (hrN a D l).2 + (13 - D) * ((hrN a D l).1 * (hrN a D l).1)) % 13)) 2
def zcN (l : List Nat) : Nat → List (Nat × Nat) → Bool
  | 0, _ => true
  | _ + 1, [] => false
  | n + 1, x :: L => bif ztN l x.1 x.2 then zcN l n L else zcN l (n + 1) L
def L6 : List Nat := [2, 8, 5, 6, 11, 7]
def PLn : Nat → List (Nat × Nat)
  | 0 => []
  | n + 1 => PLn n ++ L6.map (fun D => (n, D))
def cf13 (v0 v1 v2 v3 v4 : Nat) : List Nat := [v0, (11 + 12 * v0 + 4 * v1 + 10 * v2 + 10 * v3 + 3 * v4) % 13, (2 + 2 * v0 + 8 * v2 + 2 * v3 + v4) % 13, (9 + 5 * v0 + 8 * v1 + 11 * v2 + 12 * v3 + 3 * v4) % 13, (3 + 6 * v0 + 2 * v1 + 10 * v2 + 2 * v3 + 6 * v4) % 13, 1]
def fin13 (v0 v1 v2 v3 v4 dd : Nat) : Bool := zcN (cf13 v0 v1 v2 v3 v4) (bif Nat.beq dd 2 then 10 else bif Nat.beq dd 1 then 23 else 36) (PLn 13)
def tl13 (F : Nat → Bool) : Nat → Nat → Nat → Nat → Nat → Nat → Nat → Bool
  | 0, _, _, _, _, _, dd => F dd
  | k + 1, a, b, c, d, e, dd => frc (nx5 a b c d e) (fun n => frc (dd + q13 n) (fun d2 => bif Nat.blt 2 d2 then true else tl13 F k b c d e n d2))
def S13 (v0 : Nat) : Bool := (List.range 13).all (fun v1 => frc (q13 v0 + q13 v1) (fun d1 => bif Nat.blt 2 d1 then true else (List.range 13).all (fun v2 => frc (d1 + q13 v2) (fun d2 => bif Nat.blt 2 d2 then true else (List.range 13).all (fun v3 => frc (d2 + q13 v3) (fun d3 => bif Nat.blt 2 d3 then true else (List.range 13).all (fun v4 => frc (d3 + q13 v4) (fun d4 => bif Nat.blt 2 d4 then true else tl13 (fin13 v0 v1 v2 v3 v4) 8 v0 v1 v2 v3 v4 d4)))))))) 
theorem S13_0 : S13 0 = true := by decide +kernel
theorem S13_1 : S13 1 = true := by decide +kernel
theorem S13_2 : S13 2 = true := by decide +kernel
theorem S13_3 : S13 3 = true := by decide +kernel
theorem S13_4 : S13 4 = true := by decide +kernel
theorem S13_5 : S13 5 = true := by decide +kernel
theorem S13_6 : S13 6 = true := by decide +kernel
theorem S13_7 : S13 7 = true := by decide +kernel
theorem S13_8 : S13 8 = true := by decide +kernel
theorem S13_9 : S13 9 = true := by decide +kernel
theorem S13_10 : S13 10 = true := by decide +kernel
theorem S13_11 : S13 11 = true := by decide +kernel
theorem S13_12 : S13 12 = true := by decide +kernel
