/-! THE FIELD OF P P NUMBERS: the two ways of writing it; squares and powers -/
def swp (p v : Int) : Int := v % p * p + v / p
/-- v taken k times into the number one of the model's writing -/
def prt (p m v : Int) : Nat → Int
  | 0 => p
  | k + 1 => pT p m (prt p m v k) v
/-- how many roots, by the model's way -/
def rt2 (p m v : Int) : Int := if v = 0 then 1 else if prt p m v ((p * p - 1) / 2).toNat = p then 2 else 0
theorem rt2_3 : (List.range 9).all (fun z => decide (rt2 3 2 (swp 3 (z : Int)) = cnt2 3 (z : Int))) = true := by decide +kernel
theorem rt2_5 : (List.range 25).all (fun z => decide (rt2 5 2 (swp 5 (z : Int)) = cnt2 5 (z : Int))) = true := by decide +kernel
theorem rt2_7 : (List.range 49).all (fun z => decide (rt2 7 3 (swp 7 (z : Int)) = cnt2 7 (z : Int))) = true := by decide +kernel
