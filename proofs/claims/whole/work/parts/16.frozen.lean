/-! FROZEN PLACES: references that stand for good once the constructors are through; printed by gen7.py -/
def fzL : List (Int × List (Int × Int)) := [(1, [(0, 2), (1, 18), (3, 19), (4, 21), (5, 32), (6, 57), (7, 88), (8, 94), (9, 108), (10, 120), (11, 182), (12, 188)]), (2, [(1, 3), (2, 4), (3, 6), (4, 8), (5, 10), (6, 12), (7, 14), (8, 16)]), (4, [(0, 5)]), (19, [(0, 20)]), (21, [(0, 2), (1, 22), (2, 24), (5, 26), (6, 27), (8, 28), (10, 29), (11, 30), (12, 31)]), (22, [(0, 23)]), (24, [(0, 25)]), (32, [(0, 2), (1, 21), (2, 33), (3, 35), (4, 37), (5, 39), (6, 41), (7, 43), (8, 45), (9, 47), (10, 52)]), (33, [(0, 34)]), (35, [(0, 36)]), (37, [(0, 38)]), (39, [(0, 40)]), (41, [(0, 42)]), (43, [(0, 44)]), (45, [(0, 46)]), (47, [(0, 48), (1, 50)]), (48, [(0, 49)]), (50, [(0, 51)]), (52, [(0, 53), (1, 55)]), (53, [(0, 54)]), (55, [(0, 56)]), (57, [(0, 58), (1, 63), (2, 68), (3, 73), (4, 78), (5, 83)]), (58, [(0, 59), (1, 61)]), (59, [(0, 60)]), (61, [(0, 62)]), (63, [(0, 64), (1, 66)]), (64, [(0, 65)]), (66, [(0, 67)]), (68, [(0, 69), (1, 71)]), (69, [(0, 70)]), (71, [(0, 72)]), (73, [(0, 74), (1, 76)]), (74, [(0, 75)]), (76, [(0, 77)]), (78, [(0, 79), (1, 81)]), (79, [(0, 80)]), (81, [(0, 82)]), (83, [(0, 84), (1, 86)]), (84, [(0, 85)]), (86, [(0, 87)]), (88, [(0, 2), (1, 21), (2, 89), (4, 90), (5, 92)]), (90, [(0, 91)]), (92, [(0, 93)]), (94, [(0, 32), (1, 88), (2, 95), (3, 96), (4, 97), (7, 98), (8, 103)]), (98, [(0, 99), (1, 101)]), (99, [(0, 100)]), (101, [(0, 102)]), (103, [(0, 104), (1, 106)]), (104, [(0, 105)]), (106, [(0, 107)]), (108, [(0, 32), (1, 21), (2, 109), (3, 110), (4, 115)]), (110, [(0, 111), (1, 113)]), (111, [(0, 112)]), (113, [(0, 114)]), (115, [(0, 116), (1, 118)]), (116, [(0, 117)]), (118, [(0, 119)]), (120, [(0, 2), (1, 21), (2, 121), (3, 122), (4, 149), (5, 176), (6, 177), (10, 178), (11, 179), (12, 180), (15, 181)]), (122, [(0, 123), (1, 124), (2, 125), (3, 126), (4, 127), (5, 128), (6, 129), (7, 130), (8, 131), (9, 132), (10, 133), (11, 134), (12, 135), (13, 136), (14, 137), (15, 138), (16, 139), (17, 140), (18, 141), (19, 142), (20, 143), (21, 144), (22, 145), (23, 146), (24, 147), (25, 148)]), (149, [(0, 150), (1, 151), (2, 152), (3, 153), (4, 154), (5, 155), (6, 156), (7, 157), (8, 158), (9, 159), (10, 160), (11, 161), (12, 162), (13, 163), (14, 164), (15, 165), (16, 166), (17, 167), (18, 168), (19, 169), (20, 170), (21, 171), (22, 172), (23, 173), (24, 174), (25, 175)]), (182, [(0, 2), (1, 21), (2, 183), (5, 184), (6, 186)]), (184, [(0, 185)]), (186, [(0, 187)]), (188, [(0, 189)]), (190, [(3, 191), (6, 192), (7, 193), (8, 194), (9, 195), (10, 196), (11, 197), (12, 198), (13, 199), (15, 200), (16, 201), (17, 202), (18, 203), (20, 204), (21, 205), (23, 206), (24, 207), (25, 208), (26, 209), (27, 210), (28, 211), (29, 212), (30, 213), (31, 214), (33, 215), (34, 216), (37, 217)])]
def fz (a i : Int) : Option Int := ((fzL.lookup a).getD []).lookup i
def Fz (N : Mem) : Prop := ∀ a i v, fz a i = some v → N a i = v
abbrev NN : Int := 218
theorem Fz.ust {N : Mem} (h : Fz N) {a i x : Int} (hn : fz a i = none) : Fz (ust N a i x) := fun b j v hb => by
  show (if b = a ∧ j = i then x else N b j) = v
  by_cases q : b = a ∧ j = i
  · obtain ⟨rfl, rfl⟩ := q; rw [hn] at hb; cases hb
  · rw [if_neg q]; exact h b j v hb
theorem Fz.of {N N' : Mem} (h : Fz N) (h2 : ∀ a i v, fz a i = some v → N' a i = N a i) : Fz N' := fun a i v e => (h2 a i v e).trans (h a i v e)
theorem fz_all : (List.range 218).all (fun a => !(decide (KD (a : Int) = 1) || decide (KD (a : Int) = 2)) || (fzL.lookup (a : Int)).isNone) = true := by decide +kernel
theorem fz_row : (List.range 218).all (fun a => !decide (KD (a : Int) = 18) || (fz (a : Int) 1).isNone) = true := by decide +kernel
theorem KD_lt {a : Int} (h : KD a ≠ 0) : ∃ n : Nat, n < 218 ∧ a = n := by
  refine ⟨a.toNat, ?_, ?_⟩
  · rcases Nat.lt_or_ge a.toNat 218 with q | q
    · exact q
    · exact absurd (by unfold KD; rw [List.getD_eq_getElem?_getD, List.getElem?_eq_none (by have e : am_kd.length = 218 := by decide +kernel
                                                                                            omega)]; rfl) h
  · rcases Int.lt_or_le 0 a with q | q
    · omega
    · exact absurd (KD_np q) h
theorem fz_arr {a : Int} (h : KD a = 1 ∨ KD a = 2) (i : Int) : fz a i = none := by
  obtain ⟨n, hn, rfl⟩ := KD_lt (a := a) (by omega)
  have := List.all_eq_true.mp fz_all n (List.mem_range.mpr hn)
  unfold fz
  have e : (decide (KD (n : Int) = 1) || decide (KD (n : Int) = 2)) = true := by
    rcases h with h | h <;> simp [h]
  rw [e] at this
  have h2 : (fzL.lookup (n : Int)).isNone = true := by simpa using this
  rw [Option.isNone_iff_eq_none.mp h2]; rfl
theorem fz_deg {a : Int} (h : KD a = 18) : fz a 1 = none := by
  obtain ⟨n, hn, rfl⟩ := KD_lt (a := a) (by omega)
  have := List.all_eq_true.mp fz_row n (List.mem_range.mpr hn)
  have h2 : (fz (n : Int) 1).isNone = true := by simpa [h] using this
  exact Option.isNone_iff_eq_none.mp h2
theorem kdN {a z : Int} (h : kd NN a = z) (hz : z ≠ 0) : KD a = z := (kd_spec h hz).2.2
/-- only the cells told are changed -/
def Fr (K : List Int) (N N' : Mem) : Prop := ∀ b, b ∉ K → N' b = N b
theorem Fr.rf (K : List Int) (N : Mem) : Fr K N N := fun _ _ => rfl
theorem Fr.tr {K : List Int} {N N' N'' : Mem} (h1 : Fr K N N') (h2 : Fr K N' N'') : Fr K N N'' := fun b hb => (h2 b hb).trans (h1 b hb)
theorem Fr.mo {K K' : List Int} {N N' : Mem} (h : Fr K N N') (hs : ∀ b, b ∈ K → b ∈ K') : Fr K' N N' := fun b hb => h b (fun q => hb (hs b q))
theorem Fr.us {K : List Int} (N : Mem) {a : Int} (i x : Int) (h : a ∈ K) : Fr K N (ust N a i x) := fun b hb => ust_ne (fun e => hb (e ▸ h))
theorem ust_r {M : Mem} {a i v b j : Int} : ust M a i v b j = if b = a ∧ j = i then v else M b j := rfl
theorem rr {x y : Int} (h : -2147483648 ≤ x ∧ x ≤ 2147483647 ∧ -2147483648 ≤ y ∧ y ≤ 2147483647) : RR x y := Or.inr ⟨⟨h.1, h.2.1⟩, ⟨h.2.2.1, h.2.2.2⟩⟩
theorem r3 {x : Int} (h : -2147483648 ≤ x ∧ x ≤ 2147483647) : R32 x := h
theorem r6 {x : Int} (h : -9223372036854775808 ≤ x ∧ x ≤ 9223372036854775807) : R64 x := h
theorem rl {x y : Int} (h : -9223372036854775808 ≤ x ∧ x ≤ 9223372036854775807 ∧ -9223372036854775808 ≤ y ∧ y ≤ 9223372036854775807) : RL x y := Or.inr ⟨⟨h.1, h.2.1⟩, ⟨h.2.2.1, h.2.2.2⟩⟩
theorem z1_0 {N : Mem} (h : Fz N) : N 1 0 = 2 := h 1 0 2 rfl
theorem z1_1 {N : Mem} (h : Fz N) : N 1 1 = 18 := h 1 1 18 rfl
theorem z1_3 {N : Mem} (h : Fz N) : N 1 3 = 19 := h 1 3 19 rfl
theorem z1_4 {N : Mem} (h : Fz N) : N 1 4 = 21 := h 1 4 21 rfl
theorem z1_5 {N : Mem} (h : Fz N) : N 1 5 = 32 := h 1 5 32 rfl
theorem z1_6 {N : Mem} (h : Fz N) : N 1 6 = 57 := h 1 6 57 rfl
theorem z1_7 {N : Mem} (h : Fz N) : N 1 7 = 88 := h 1 7 88 rfl
theorem z1_8 {N : Mem} (h : Fz N) : N 1 8 = 94 := h 1 8 94 rfl
theorem z1_9 {N : Mem} (h : Fz N) : N 1 9 = 108 := h 1 9 108 rfl
theorem z1_10 {N : Mem} (h : Fz N) : N 1 10 = 120 := h 1 10 120 rfl
theorem z1_11 {N : Mem} (h : Fz N) : N 1 11 = 182 := h 1 11 182 rfl
theorem z1_12 {N : Mem} (h : Fz N) : N 1 12 = 188 := h 1 12 188 rfl
theorem kd1 : kd NN 1 = 21 := rfl
theorem ln1 : LN 1 = 13 := rfl
theorem z2_1 {N : Mem} (h : Fz N) : N 2 1 = 3 := h 2 1 3 rfl
theorem z2_2 {N : Mem} (h : Fz N) : N 2 2 = 4 := h 2 2 4 rfl
theorem z2_3 {N : Mem} (h : Fz N) : N 2 3 = 6 := h 2 3 6 rfl
theorem z2_4 {N : Mem} (h : Fz N) : N 2 4 = 8 := h 2 4 8 rfl
theorem z2_5 {N : Mem} (h : Fz N) : N 2 5 = 10 := h 2 5 10 rfl
theorem z2_6 {N : Mem} (h : Fz N) : N 2 6 = 12 := h 2 6 12 rfl
theorem z2_7 {N : Mem} (h : Fz N) : N 2 7 = 14 := h 2 7 14 rfl
theorem z2_8 {N : Mem} (h : Fz N) : N 2 8 = 16 := h 2 8 16 rfl
theorem kd2 : kd NN 2 = 19 := rfl
theorem ln2 : LN 2 = 9 := rfl
theorem kd3 : kd NN 3 = 1 := rfl
theorem ln3 : LN 3 = 13 := rfl
theorem z4_0 {N : Mem} (h : Fz N) : N 4 0 = 5 := h 4 0 5 rfl
theorem kd4 : kd NN 4 = 18 := rfl
theorem ln4 : LN 4 = 2 := rfl
theorem kd5 : kd NN 5 = 1 := rfl
theorem ln5 : LN 5 = 8 := rfl
theorem kd6 : kd NN 6 = 18 := rfl
theorem ln6 : LN 6 = 2 := rfl
theorem kd7 : kd NN 7 = 1 := rfl
theorem ln7 : LN 7 = 8 := rfl
theorem kd8 : kd NN 8 = 18 := rfl
theorem ln8 : LN 8 = 2 := rfl
theorem kd9 : kd NN 9 = 1 := rfl
theorem ln9 : LN 9 = 8 := rfl
theorem kd10 : kd NN 10 = 18 := rfl
theorem ln10 : LN 10 = 2 := rfl
theorem kd11 : kd NN 11 = 1 := rfl
theorem ln11 : LN 11 = 8 := rfl
theorem kd12 : kd NN 12 = 18 := rfl
theorem ln12 : LN 12 = 2 := rfl
theorem kd13 : kd NN 13 = 1 := rfl
theorem ln13 : LN 13 = 8 := rfl
theorem kd14 : kd NN 14 = 18 := rfl
theorem ln14 : LN 14 = 2 := rfl
theorem kd15 : kd NN 15 = 1 := rfl
theorem ln15 : LN 15 = 8 := rfl
theorem kd16 : kd NN 16 = 18 := rfl
theorem ln16 : LN 16 = 2 := rfl
theorem kd17 : kd NN 17 = 1 := rfl
theorem ln17 : LN 17 = 8 := rfl
theorem kd18 : kd NN 18 = 1 := rfl
theorem ln18 : LN 18 = 6 := rfl
theorem z19_0 {N : Mem} (h : Fz N) : N 19 0 = 20 := h 19 0 20 rfl
theorem kd19 : kd NN 19 = 18 := rfl
theorem ln19 : LN 19 = 2 := rfl
theorem kd20 : kd NN 20 = 1 := rfl
theorem ln20 : LN 20 = 8 := rfl
theorem z21_0 {N : Mem} (h : Fz N) : N 21 0 = 2 := h 21 0 2 rfl
theorem z21_1 {N : Mem} (h : Fz N) : N 21 1 = 22 := h 21 1 22 rfl
theorem z21_2 {N : Mem} (h : Fz N) : N 21 2 = 24 := h 21 2 24 rfl
theorem z21_5 {N : Mem} (h : Fz N) : N 21 5 = 26 := h 21 5 26 rfl
theorem z21_6 {N : Mem} (h : Fz N) : N 21 6 = 27 := h 21 6 27 rfl
theorem z21_8 {N : Mem} (h : Fz N) : N 21 8 = 28 := h 21 8 28 rfl
theorem z21_10 {N : Mem} (h : Fz N) : N 21 10 = 29 := h 21 10 29 rfl
theorem z21_11 {N : Mem} (h : Fz N) : N 21 11 = 30 := h 21 11 30 rfl
theorem z21_12 {N : Mem} (h : Fz N) : N 21 12 = 31 := h 21 12 31 rfl
theorem kd21 : kd NN 21 = 13 := rfl
theorem ln21 : LN 21 = 14 := rfl
theorem z22_0 {N : Mem} (h : Fz N) : N 22 0 = 23 := h 22 0 23 rfl
theorem kd22 : kd NN 22 = 18 := rfl
theorem ln22 : LN 22 = 2 := rfl
theorem kd23 : kd NN 23 = 1 := rfl
theorem ln23 : LN 23 = 8 := rfl
theorem z24_0 {N : Mem} (h : Fz N) : N 24 0 = 25 := h 24 0 25 rfl
theorem kd24 : kd NN 24 = 18 := rfl
theorem ln24 : LN 24 = 2 := rfl
theorem kd25 : kd NN 25 = 1 := rfl
theorem ln25 : LN 25 = 8 := rfl
theorem kd26 : kd NN 26 = 1 := rfl
theorem ln26 : LN 26 = 27 := rfl
theorem kd27 : kd NN 27 = 1 := rfl
theorem ln27 : LN 27 = 27 := rfl
theorem kd28 : kd NN 28 = 1 := rfl
theorem ln28 : LN 28 = 169 := rfl
theorem kd29 : kd NN 29 = 2 := rfl
theorem ln29 : LN 29 = 7 := rfl
theorem kd30 : kd NN 30 = 2 := rfl
theorem ln30 : LN 30 = 7 := rfl
theorem kd31 : kd NN 31 = 2 := rfl
theorem ln31 : LN 31 = 7 := rfl
theorem z32_0 {N : Mem} (h : Fz N) : N 32 0 = 2 := h 32 0 2 rfl
theorem z32_1 {N : Mem} (h : Fz N) : N 32 1 = 21 := h 32 1 21 rfl
theorem z32_2 {N : Mem} (h : Fz N) : N 32 2 = 33 := h 32 2 33 rfl
theorem z32_3 {N : Mem} (h : Fz N) : N 32 3 = 35 := h 32 3 35 rfl
theorem z32_4 {N : Mem} (h : Fz N) : N 32 4 = 37 := h 32 4 37 rfl
theorem z32_5 {N : Mem} (h : Fz N) : N 32 5 = 39 := h 32 5 39 rfl
theorem z32_6 {N : Mem} (h : Fz N) : N 32 6 = 41 := h 32 6 41 rfl
theorem z32_7 {N : Mem} (h : Fz N) : N 32 7 = 43 := h 32 7 43 rfl
theorem z32_8 {N : Mem} (h : Fz N) : N 32 8 = 45 := h 32 8 45 rfl
theorem z32_9 {N : Mem} (h : Fz N) : N 32 9 = 47 := h 32 9 47 rfl
theorem z32_10 {N : Mem} (h : Fz N) : N 32 10 = 52 := h 32 10 52 rfl
theorem kd32 : kd NN 32 = 10 := rfl
theorem ln32 : LN 32 = 11 := rfl
theorem z33_0 {N : Mem} (h : Fz N) : N 33 0 = 34 := h 33 0 34 rfl
theorem kd33 : kd NN 33 = 18 := rfl
theorem ln33 : LN 33 = 2 := rfl
theorem kd34 : kd NN 34 = 1 := rfl
theorem ln34 : LN 34 = 8 := rfl
theorem z35_0 {N : Mem} (h : Fz N) : N 35 0 = 36 := h 35 0 36 rfl
theorem kd35 : kd NN 35 = 18 := rfl
theorem ln35 : LN 35 = 2 := rfl
theorem kd36 : kd NN 36 = 1 := rfl
theorem ln36 : LN 36 = 8 := rfl
theorem z37_0 {N : Mem} (h : Fz N) : N 37 0 = 38 := h 37 0 38 rfl
theorem kd37 : kd NN 37 = 18 := rfl
theorem ln37 : LN 37 = 2 := rfl
theorem kd38 : kd NN 38 = 1 := rfl
theorem ln38 : LN 38 = 8 := rfl
theorem z39_0 {N : Mem} (h : Fz N) : N 39 0 = 40 := h 39 0 40 rfl
theorem kd39 : kd NN 39 = 18 := rfl
theorem ln39 : LN 39 = 2 := rfl
theorem kd40 : kd NN 40 = 1 := rfl
theorem ln40 : LN 40 = 8 := rfl
theorem z41_0 {N : Mem} (h : Fz N) : N 41 0 = 42 := h 41 0 42 rfl
theorem kd41 : kd NN 41 = 18 := rfl
theorem ln41 : LN 41 = 2 := rfl
theorem kd42 : kd NN 42 = 1 := rfl
theorem ln42 : LN 42 = 8 := rfl
theorem z43_0 {N : Mem} (h : Fz N) : N 43 0 = 44 := h 43 0 44 rfl
theorem kd43 : kd NN 43 = 18 := rfl
theorem ln43 : LN 43 = 2 := rfl
theorem kd44 : kd NN 44 = 1 := rfl
theorem ln44 : LN 44 = 8 := rfl
theorem z45_0 {N : Mem} (h : Fz N) : N 45 0 = 46 := h 45 0 46 rfl
theorem kd45 : kd NN 45 = 18 := rfl
theorem ln45 : LN 45 = 2 := rfl
theorem kd46 : kd NN 46 = 1 := rfl
theorem ln46 : LN 46 = 8 := rfl
theorem z47_0 {N : Mem} (h : Fz N) : N 47 0 = 48 := h 47 0 48 rfl
theorem z47_1 {N : Mem} (h : Fz N) : N 47 1 = 50 := h 47 1 50 rfl
theorem kd47 : kd NN 47 = 16 := rfl
theorem ln47 : LN 47 = 2 := rfl
theorem z48_0 {N : Mem} (h : Fz N) : N 48 0 = 49 := h 48 0 49 rfl
theorem kd48 : kd NN 48 = 18 := rfl
theorem ln48 : LN 48 = 2 := rfl
theorem kd49 : kd NN 49 = 1 := rfl
theorem ln49 : LN 49 = 8 := rfl
theorem z50_0 {N : Mem} (h : Fz N) : N 50 0 = 51 := h 50 0 51 rfl
theorem kd50 : kd NN 50 = 18 := rfl
theorem ln50 : LN 50 = 2 := rfl
theorem kd51 : kd NN 51 = 1 := rfl
theorem ln51 : LN 51 = 8 := rfl
theorem z52_0 {N : Mem} (h : Fz N) : N 52 0 = 53 := h 52 0 53 rfl
theorem z52_1 {N : Mem} (h : Fz N) : N 52 1 = 55 := h 52 1 55 rfl
theorem kd52 : kd NN 52 = 16 := rfl
theorem ln52 : LN 52 = 2 := rfl
theorem z53_0 {N : Mem} (h : Fz N) : N 53 0 = 54 := h 53 0 54 rfl
theorem kd53 : kd NN 53 = 18 := rfl
theorem ln53 : LN 53 = 2 := rfl
theorem kd54 : kd NN 54 = 1 := rfl
theorem ln54 : LN 54 = 8 := rfl
theorem z55_0 {N : Mem} (h : Fz N) : N 55 0 = 56 := h 55 0 56 rfl
theorem kd55 : kd NN 55 = 18 := rfl
theorem ln55 : LN 55 = 2 := rfl
theorem kd56 : kd NN 56 = 1 := rfl
theorem ln56 : LN 56 = 8 := rfl
theorem kd57 : kd NN 57 = 3 := rfl
theorem ln57 : LN 57 = 6 := rfl
theorem z58_0 {N : Mem} (h : Fz N) : N 58 0 = 59 := h 58 0 59 rfl
theorem z58_1 {N : Mem} (h : Fz N) : N 58 1 = 61 := h 58 1 61 rfl
theorem kd58 : kd NN 58 = 16 := rfl
theorem ln58 : LN 58 = 2 := rfl
theorem z59_0 {N : Mem} (h : Fz N) : N 59 0 = 60 := h 59 0 60 rfl
theorem kd59 : kd NN 59 = 18 := rfl
theorem ln59 : LN 59 = 2 := rfl
theorem kd60 : kd NN 60 = 1 := rfl
theorem ln60 : LN 60 = 8 := rfl
theorem z61_0 {N : Mem} (h : Fz N) : N 61 0 = 62 := h 61 0 62 rfl
theorem kd61 : kd NN 61 = 18 := rfl
theorem ln61 : LN 61 = 2 := rfl
theorem kd62 : kd NN 62 = 1 := rfl
theorem ln62 : LN 62 = 8 := rfl
theorem z63_0 {N : Mem} (h : Fz N) : N 63 0 = 64 := h 63 0 64 rfl
theorem z63_1 {N : Mem} (h : Fz N) : N 63 1 = 66 := h 63 1 66 rfl
theorem kd63 : kd NN 63 = 16 := rfl
theorem ln63 : LN 63 = 2 := rfl
theorem z64_0 {N : Mem} (h : Fz N) : N 64 0 = 65 := h 64 0 65 rfl
theorem kd64 : kd NN 64 = 18 := rfl
theorem ln64 : LN 64 = 2 := rfl
theorem kd65 : kd NN 65 = 1 := rfl
theorem ln65 : LN 65 = 8 := rfl
theorem z66_0 {N : Mem} (h : Fz N) : N 66 0 = 67 := h 66 0 67 rfl
theorem kd66 : kd NN 66 = 18 := rfl
theorem ln66 : LN 66 = 2 := rfl
theorem kd67 : kd NN 67 = 1 := rfl
theorem ln67 : LN 67 = 8 := rfl
theorem z68_0 {N : Mem} (h : Fz N) : N 68 0 = 69 := h 68 0 69 rfl
theorem z68_1 {N : Mem} (h : Fz N) : N 68 1 = 71 := h 68 1 71 rfl
theorem kd68 : kd NN 68 = 16 := rfl
theorem ln68 : LN 68 = 2 := rfl
theorem z69_0 {N : Mem} (h : Fz N) : N 69 0 = 70 := h 69 0 70 rfl
theorem kd69 : kd NN 69 = 18 := rfl
theorem ln69 : LN 69 = 2 := rfl
theorem kd70 : kd NN 70 = 1 := rfl
theorem ln70 : LN 70 = 8 := rfl
theorem z71_0 {N : Mem} (h : Fz N) : N 71 0 = 72 := h 71 0 72 rfl
theorem kd71 : kd NN 71 = 18 := rfl
theorem ln71 : LN 71 = 2 := rfl
theorem kd72 : kd NN 72 = 1 := rfl
theorem ln72 : LN 72 = 8 := rfl
theorem z73_0 {N : Mem} (h : Fz N) : N 73 0 = 74 := h 73 0 74 rfl
theorem z73_1 {N : Mem} (h : Fz N) : N 73 1 = 76 := h 73 1 76 rfl
theorem kd73 : kd NN 73 = 16 := rfl
theorem ln73 : LN 73 = 2 := rfl
theorem z74_0 {N : Mem} (h : Fz N) : N 74 0 = 75 := h 74 0 75 rfl
theorem kd74 : kd NN 74 = 18 := rfl
theorem ln74 : LN 74 = 2 := rfl
theorem kd75 : kd NN 75 = 1 := rfl
theorem ln75 : LN 75 = 8 := rfl
theorem z76_0 {N : Mem} (h : Fz N) : N 76 0 = 77 := h 76 0 77 rfl
theorem kd76 : kd NN 76 = 18 := rfl
theorem ln76 : LN 76 = 2 := rfl
theorem kd77 : kd NN 77 = 1 := rfl
theorem ln77 : LN 77 = 8 := rfl
theorem z78_0 {N : Mem} (h : Fz N) : N 78 0 = 79 := h 78 0 79 rfl
theorem z78_1 {N : Mem} (h : Fz N) : N 78 1 = 81 := h 78 1 81 rfl
theorem kd78 : kd NN 78 = 16 := rfl
theorem ln78 : LN 78 = 2 := rfl
theorem z79_0 {N : Mem} (h : Fz N) : N 79 0 = 80 := h 79 0 80 rfl
theorem kd79 : kd NN 79 = 18 := rfl
theorem ln79 : LN 79 = 2 := rfl
theorem kd80 : kd NN 80 = 1 := rfl
theorem ln80 : LN 80 = 8 := rfl
theorem z81_0 {N : Mem} (h : Fz N) : N 81 0 = 82 := h 81 0 82 rfl
theorem kd81 : kd NN 81 = 18 := rfl
theorem ln81 : LN 81 = 2 := rfl
theorem kd82 : kd NN 82 = 1 := rfl
theorem ln82 : LN 82 = 8 := rfl
theorem z83_0 {N : Mem} (h : Fz N) : N 83 0 = 84 := h 83 0 84 rfl
theorem z83_1 {N : Mem} (h : Fz N) : N 83 1 = 86 := h 83 1 86 rfl
theorem kd83 : kd NN 83 = 16 := rfl
theorem ln83 : LN 83 = 2 := rfl
theorem z84_0 {N : Mem} (h : Fz N) : N 84 0 = 85 := h 84 0 85 rfl
theorem kd84 : kd NN 84 = 18 := rfl
theorem ln84 : LN 84 = 2 := rfl
theorem kd85 : kd NN 85 = 1 := rfl
theorem ln85 : LN 85 = 8 := rfl
theorem z86_0 {N : Mem} (h : Fz N) : N 86 0 = 87 := h 86 0 87 rfl
theorem kd86 : kd NN 86 = 18 := rfl
theorem ln86 : LN 86 = 2 := rfl
theorem kd87 : kd NN 87 = 1 := rfl
theorem ln87 : LN 87 = 8 := rfl
theorem z88_0 {N : Mem} (h : Fz N) : N 88 0 = 2 := h 88 0 2 rfl
theorem z88_1 {N : Mem} (h : Fz N) : N 88 1 = 21 := h 88 1 21 rfl
theorem z88_2 {N : Mem} (h : Fz N) : N 88 2 = 89 := h 88 2 89 rfl
theorem z88_4 {N : Mem} (h : Fz N) : N 88 4 = 90 := h 88 4 90 rfl
theorem z88_5 {N : Mem} (h : Fz N) : N 88 5 = 92 := h 88 5 92 rfl
theorem kd88 : kd NN 88 = 15 := rfl
theorem ln88 : LN 88 = 6 := rfl
theorem kd89 : kd NN 89 = 1 := rfl
theorem ln89 : LN 89 = 450 := rfl
theorem z90_0 {N : Mem} (h : Fz N) : N 90 0 = 91 := h 90 0 91 rfl
theorem kd90 : kd NN 90 = 18 := rfl
theorem ln90 : LN 90 = 2 := rfl
theorem kd91 : kd NN 91 = 1 := rfl
theorem ln91 : LN 91 = 8 := rfl
theorem z92_0 {N : Mem} (h : Fz N) : N 92 0 = 93 := h 92 0 93 rfl
theorem kd92 : kd NN 92 = 18 := rfl
theorem ln92 : LN 92 = 2 := rfl
theorem kd93 : kd NN 93 = 1 := rfl
theorem ln93 : LN 93 = 8 := rfl
theorem z94_0 {N : Mem} (h : Fz N) : N 94 0 = 32 := h 94 0 32 rfl
theorem z94_1 {N : Mem} (h : Fz N) : N 94 1 = 88 := h 94 1 88 rfl
theorem z94_2 {N : Mem} (h : Fz N) : N 94 2 = 95 := h 94 2 95 rfl
theorem z94_3 {N : Mem} (h : Fz N) : N 94 3 = 96 := h 94 3 96 rfl
theorem z94_4 {N : Mem} (h : Fz N) : N 94 4 = 97 := h 94 4 97 rfl
theorem z94_7 {N : Mem} (h : Fz N) : N 94 7 = 98 := h 94 7 98 rfl
theorem z94_8 {N : Mem} (h : Fz N) : N 94 8 = 103 := h 94 8 103 rfl
theorem kd94 : kd NN 94 = 14 := rfl
theorem ln94 : LN 94 = 9 := rfl
theorem kd95 : kd NN 95 = 1 := rfl
theorem ln95 : LN 95 = 450 := rfl
theorem kd96 : kd NN 96 = 1 := rfl
theorem ln96 : LN 96 = 450 := rfl
theorem kd97 : kd NN 97 = 1 := rfl
theorem ln97 : LN 97 = 8 := rfl
theorem z98_0 {N : Mem} (h : Fz N) : N 98 0 = 99 := h 98 0 99 rfl
theorem z98_1 {N : Mem} (h : Fz N) : N 98 1 = 101 := h 98 1 101 rfl
theorem kd98 : kd NN 98 = 16 := rfl
theorem ln98 : LN 98 = 2 := rfl
theorem z99_0 {N : Mem} (h : Fz N) : N 99 0 = 100 := h 99 0 100 rfl
theorem kd99 : kd NN 99 = 18 := rfl
theorem ln99 : LN 99 = 2 := rfl
theorem kd100 : kd NN 100 = 1 := rfl
theorem ln100 : LN 100 = 8 := rfl
theorem z101_0 {N : Mem} (h : Fz N) : N 101 0 = 102 := h 101 0 102 rfl
theorem kd101 : kd NN 101 = 18 := rfl
theorem ln101 : LN 101 = 2 := rfl
theorem kd102 : kd NN 102 = 1 := rfl
theorem ln102 : LN 102 = 8 := rfl
theorem z103_0 {N : Mem} (h : Fz N) : N 103 0 = 104 := h 103 0 104 rfl
theorem z103_1 {N : Mem} (h : Fz N) : N 103 1 = 106 := h 103 1 106 rfl
theorem kd103 : kd NN 103 = 16 := rfl
theorem ln103 : LN 103 = 2 := rfl
theorem z104_0 {N : Mem} (h : Fz N) : N 104 0 = 105 := h 104 0 105 rfl
theorem kd104 : kd NN 104 = 18 := rfl
theorem ln104 : LN 104 = 2 := rfl
theorem kd105 : kd NN 105 = 1 := rfl
theorem ln105 : LN 105 = 8 := rfl
theorem z106_0 {N : Mem} (h : Fz N) : N 106 0 = 107 := h 106 0 107 rfl
theorem kd106 : kd NN 106 = 18 := rfl
theorem ln106 : LN 106 = 2 := rfl
theorem kd107 : kd NN 107 = 1 := rfl
theorem ln107 : LN 107 = 8 := rfl
theorem z108_0 {N : Mem} (h : Fz N) : N 108 0 = 32 := h 108 0 32 rfl
theorem z108_1 {N : Mem} (h : Fz N) : N 108 1 = 21 := h 108 1 21 rfl
theorem z108_2 {N : Mem} (h : Fz N) : N 108 2 = 109 := h 108 2 109 rfl
theorem z108_3 {N : Mem} (h : Fz N) : N 108 3 = 110 := h 108 3 110 rfl
theorem z108_4 {N : Mem} (h : Fz N) : N 108 4 = 115 := h 108 4 115 rfl
theorem kd108 : kd NN 108 = 17 := rfl
theorem ln108 : LN 108 = 5 := rfl
theorem kd109 : kd NN 109 = 1 := rfl
theorem ln109 : LN 109 = 27 := rfl
theorem z110_0 {N : Mem} (h : Fz N) : N 110 0 = 111 := h 110 0 111 rfl
theorem z110_1 {N : Mem} (h : Fz N) : N 110 1 = 113 := h 110 1 113 rfl
theorem kd110 : kd NN 110 = 16 := rfl
theorem ln110 : LN 110 = 2 := rfl
theorem z111_0 {N : Mem} (h : Fz N) : N 111 0 = 112 := h 111 0 112 rfl
theorem kd111 : kd NN 111 = 18 := rfl
theorem ln111 : LN 111 = 2 := rfl
theorem kd112 : kd NN 112 = 1 := rfl
theorem ln112 : LN 112 = 8 := rfl
theorem z113_0 {N : Mem} (h : Fz N) : N 113 0 = 114 := h 113 0 114 rfl
theorem kd113 : kd NN 113 = 18 := rfl
theorem ln113 : LN 113 = 2 := rfl
theorem kd114 : kd NN 114 = 1 := rfl
theorem ln114 : LN 114 = 8 := rfl
theorem z115_0 {N : Mem} (h : Fz N) : N 115 0 = 116 := h 115 0 116 rfl
theorem z115_1 {N : Mem} (h : Fz N) : N 115 1 = 118 := h 115 1 118 rfl
theorem kd115 : kd NN 115 = 16 := rfl
theorem ln115 : LN 115 = 2 := rfl
theorem z116_0 {N : Mem} (h : Fz N) : N 116 0 = 117 := h 116 0 117 rfl
theorem kd116 : kd NN 116 = 18 := rfl
theorem ln116 : LN 116 = 2 := rfl
theorem kd117 : kd NN 117 = 1 := rfl
theorem ln117 : LN 117 = 8 := rfl
theorem z118_0 {N : Mem} (h : Fz N) : N 118 0 = 119 := h 118 0 119 rfl
theorem kd118 : kd NN 118 = 18 := rfl
theorem ln118 : LN 118 = 2 := rfl
theorem kd119 : kd NN 119 = 1 := rfl
theorem ln119 : LN 119 = 8 := rfl
theorem z120_0 {N : Mem} (h : Fz N) : N 120 0 = 2 := h 120 0 2 rfl
theorem z120_1 {N : Mem} (h : Fz N) : N 120 1 = 21 := h 120 1 21 rfl
theorem z120_2 {N : Mem} (h : Fz N) : N 120 2 = 121 := h 120 2 121 rfl
theorem z120_3 {N : Mem} (h : Fz N) : N 120 3 = 122 := h 120 3 122 rfl
theorem z120_4 {N : Mem} (h : Fz N) : N 120 4 = 149 := h 120 4 149 rfl
theorem z120_5 {N : Mem} (h : Fz N) : N 120 5 = 176 := h 120 5 176 rfl
theorem z120_6 {N : Mem} (h : Fz N) : N 120 6 = 177 := h 120 6 177 rfl
theorem z120_10 {N : Mem} (h : Fz N) : N 120 10 = 178 := h 120 10 178 rfl
theorem z120_11 {N : Mem} (h : Fz N) : N 120 11 = 179 := h 120 11 179 rfl
theorem z120_12 {N : Mem} (h : Fz N) : N 120 12 = 180 := h 120 12 180 rfl
theorem z120_15 {N : Mem} (h : Fz N) : N 120 15 = 181 := h 120 15 181 rfl
theorem kd120 : kd NN 120 = 11 := rfl
theorem ln120 : LN 120 = 16 := rfl
theorem kd121 : kd NN 121 = 1 := rfl
theorem ln121 : LN 121 = 26 := rfl
theorem kd122 : kd NN 122 = 4 := rfl
theorem ln122 : LN 122 = 26 := rfl
theorem kd123 : kd NN 123 = 1 := rfl
theorem ln123 : LN 123 = 26 := rfl
theorem kd124 : kd NN 124 = 1 := rfl
theorem ln124 : LN 124 = 26 := rfl
theorem kd125 : kd NN 125 = 1 := rfl
theorem ln125 : LN 125 = 26 := rfl
theorem kd126 : kd NN 126 = 1 := rfl
theorem ln126 : LN 126 = 26 := rfl
theorem kd127 : kd NN 127 = 1 := rfl
theorem ln127 : LN 127 = 26 := rfl
theorem kd128 : kd NN 128 = 1 := rfl
theorem ln128 : LN 128 = 26 := rfl
theorem kd129 : kd NN 129 = 1 := rfl
theorem ln129 : LN 129 = 26 := rfl
theorem kd130 : kd NN 130 = 1 := rfl
theorem ln130 : LN 130 = 26 := rfl
theorem kd131 : kd NN 131 = 1 := rfl
theorem ln131 : LN 131 = 26 := rfl
theorem kd132 : kd NN 132 = 1 := rfl
theorem ln132 : LN 132 = 26 := rfl
theorem kd133 : kd NN 133 = 1 := rfl
theorem ln133 : LN 133 = 26 := rfl
theorem kd134 : kd NN 134 = 1 := rfl
theorem ln134 : LN 134 = 26 := rfl
theorem kd135 : kd NN 135 = 1 := rfl
theorem ln135 : LN 135 = 26 := rfl
theorem kd136 : kd NN 136 = 1 := rfl
theorem ln136 : LN 136 = 26 := rfl
theorem kd137 : kd NN 137 = 1 := rfl
theorem ln137 : LN 137 = 26 := rfl
theorem kd138 : kd NN 138 = 1 := rfl
theorem ln138 : LN 138 = 26 := rfl
theorem kd139 : kd NN 139 = 1 := rfl
theorem ln139 : LN 139 = 26 := rfl
theorem kd140 : kd NN 140 = 1 := rfl
theorem ln140 : LN 140 = 26 := rfl
theorem kd141 : kd NN 141 = 1 := rfl
theorem ln141 : LN 141 = 26 := rfl
theorem kd142 : kd NN 142 = 1 := rfl
theorem ln142 : LN 142 = 26 := rfl
theorem kd143 : kd NN 143 = 1 := rfl
theorem ln143 : LN 143 = 26 := rfl
theorem kd144 : kd NN 144 = 1 := rfl
theorem ln144 : LN 144 = 26 := rfl
theorem kd145 : kd NN 145 = 1 := rfl
theorem ln145 : LN 145 = 26 := rfl
theorem kd146 : kd NN 146 = 1 := rfl
theorem ln146 : LN 146 = 26 := rfl
theorem kd147 : kd NN 147 = 1 := rfl
theorem ln147 : LN 147 = 26 := rfl
theorem kd148 : kd NN 148 = 1 := rfl
theorem ln148 : LN 148 = 26 := rfl
theorem kd149 : kd NN 149 = 4 := rfl
theorem ln149 : LN 149 = 26 := rfl
theorem kd150 : kd NN 150 = 1 := rfl
theorem ln150 : LN 150 = 26 := rfl
theorem kd151 : kd NN 151 = 1 := rfl
theorem ln151 : LN 151 = 26 := rfl
theorem kd152 : kd NN 152 = 1 := rfl
theorem ln152 : LN 152 = 26 := rfl
theorem kd153 : kd NN 153 = 1 := rfl
theorem ln153 : LN 153 = 26 := rfl
theorem kd154 : kd NN 154 = 1 := rfl
theorem ln154 : LN 154 = 26 := rfl
theorem kd155 : kd NN 155 = 1 := rfl
theorem ln155 : LN 155 = 26 := rfl
theorem kd156 : kd NN 156 = 1 := rfl
theorem ln156 : LN 156 = 26 := rfl
theorem kd157 : kd NN 157 = 1 := rfl
theorem ln157 : LN 157 = 26 := rfl
theorem kd158 : kd NN 158 = 1 := rfl
theorem ln158 : LN 158 = 26 := rfl
theorem kd159 : kd NN 159 = 1 := rfl
theorem ln159 : LN 159 = 26 := rfl
theorem kd160 : kd NN 160 = 1 := rfl
theorem ln160 : LN 160 = 26 := rfl
theorem kd161 : kd NN 161 = 1 := rfl
theorem ln161 : LN 161 = 26 := rfl
theorem kd162 : kd NN 162 = 1 := rfl
theorem ln162 : LN 162 = 26 := rfl
theorem kd163 : kd NN 163 = 1 := rfl
theorem ln163 : LN 163 = 26 := rfl
theorem kd164 : kd NN 164 = 1 := rfl
theorem ln164 : LN 164 = 26 := rfl
theorem kd165 : kd NN 165 = 1 := rfl
theorem ln165 : LN 165 = 26 := rfl
theorem kd166 : kd NN 166 = 1 := rfl
theorem ln166 : LN 166 = 26 := rfl
theorem kd167 : kd NN 167 = 1 := rfl
theorem ln167 : LN 167 = 26 := rfl
theorem kd168 : kd NN 168 = 1 := rfl
theorem ln168 : LN 168 = 26 := rfl
theorem kd169 : kd NN 169 = 1 := rfl
theorem ln169 : LN 169 = 26 := rfl
theorem kd170 : kd NN 170 = 1 := rfl
theorem ln170 : LN 170 = 26 := rfl
theorem kd171 : kd NN 171 = 1 := rfl
theorem ln171 : LN 171 = 26 := rfl
theorem kd172 : kd NN 172 = 1 := rfl
theorem ln172 : LN 172 = 26 := rfl
theorem kd173 : kd NN 173 = 1 := rfl
theorem ln173 : LN 173 = 26 := rfl
theorem kd174 : kd NN 174 = 1 := rfl
theorem ln174 : LN 174 = 26 := rfl
theorem kd175 : kd NN 175 = 1 := rfl
theorem ln175 : LN 175 = 26 := rfl
theorem kd176 : kd NN 176 = 1 := rfl
theorem ln176 : LN 176 = 26 := rfl
theorem kd177 : kd NN 177 = 1 := rfl
theorem ln177 : LN 177 = 26 := rfl
theorem kd178 : kd NN 178 = 1 := rfl
theorem ln178 : LN 178 = 26 := rfl
theorem kd179 : kd NN 179 = 1 := rfl
theorem ln179 : LN 179 = 26 := rfl
theorem kd180 : kd NN 180 = 1 := rfl
theorem ln180 : LN 180 = 13 := rfl
theorem kd181 : kd NN 181 = 1 := rfl
theorem ln181 : LN 181 = 26 := rfl
theorem z182_0 {N : Mem} (h : Fz N) : N 182 0 = 2 := h 182 0 2 rfl
theorem z182_1 {N : Mem} (h : Fz N) : N 182 1 = 21 := h 182 1 21 rfl
theorem z182_2 {N : Mem} (h : Fz N) : N 182 2 = 183 := h 182 2 183 rfl
theorem z182_5 {N : Mem} (h : Fz N) : N 182 5 = 184 := h 182 5 184 rfl
theorem z182_6 {N : Mem} (h : Fz N) : N 182 6 = 186 := h 182 6 186 rfl
theorem kd182 : kd NN 182 = 20 := rfl
theorem ln182 : LN 182 = 7 := rfl
theorem kd183 : kd NN 183 = 1 := rfl
theorem ln183 : LN 183 = 338 := rfl
theorem z184_0 {N : Mem} (h : Fz N) : N 184 0 = 185 := h 184 0 185 rfl
theorem kd184 : kd NN 184 = 18 := rfl
theorem ln184 : LN 184 = 2 := rfl
theorem kd185 : kd NN 185 = 1 := rfl
theorem ln185 : LN 185 = 8 := rfl
theorem z186_0 {N : Mem} (h : Fz N) : N 186 0 = 187 := h 186 0 187 rfl
theorem kd186 : kd NN 186 = 18 := rfl
theorem ln186 : LN 186 = 2 := rfl
theorem kd187 : kd NN 187 = 1 := rfl
theorem ln187 : LN 187 = 8 := rfl
theorem z188_0 {N : Mem} (h : Fz N) : N 188 0 = 189 := h 188 0 189 rfl
theorem kd188 : kd NN 188 = 12 := rfl
theorem ln188 : LN 188 = 1 := rfl
theorem kd189 : kd NN 189 = 1 := rfl
theorem ln189 : LN 189 = 13 := rfl
theorem z190_3 {N : Mem} (h : Fz N) : N 190 3 = 191 := h 190 3 191 rfl
theorem z190_6 {N : Mem} (h : Fz N) : N 190 6 = 192 := h 190 6 192 rfl
theorem z190_7 {N : Mem} (h : Fz N) : N 190 7 = 193 := h 190 7 193 rfl
theorem z190_8 {N : Mem} (h : Fz N) : N 190 8 = 194 := h 190 8 194 rfl
theorem z190_9 {N : Mem} (h : Fz N) : N 190 9 = 195 := h 190 9 195 rfl
theorem z190_10 {N : Mem} (h : Fz N) : N 190 10 = 196 := h 190 10 196 rfl
theorem z190_11 {N : Mem} (h : Fz N) : N 190 11 = 197 := h 190 11 197 rfl
theorem z190_12 {N : Mem} (h : Fz N) : N 190 12 = 198 := h 190 12 198 rfl
theorem z190_13 {N : Mem} (h : Fz N) : N 190 13 = 199 := h 190 13 199 rfl
theorem z190_15 {N : Mem} (h : Fz N) : N 190 15 = 200 := h 190 15 200 rfl
theorem z190_16 {N : Mem} (h : Fz N) : N 190 16 = 201 := h 190 16 201 rfl
theorem z190_17 {N : Mem} (h : Fz N) : N 190 17 = 202 := h 190 17 202 rfl
theorem z190_18 {N : Mem} (h : Fz N) : N 190 18 = 203 := h 190 18 203 rfl
theorem z190_20 {N : Mem} (h : Fz N) : N 190 20 = 204 := h 190 20 204 rfl
theorem z190_21 {N : Mem} (h : Fz N) : N 190 21 = 205 := h 190 21 205 rfl
theorem z190_23 {N : Mem} (h : Fz N) : N 190 23 = 206 := h 190 23 206 rfl
theorem z190_24 {N : Mem} (h : Fz N) : N 190 24 = 207 := h 190 24 207 rfl
theorem z190_25 {N : Mem} (h : Fz N) : N 190 25 = 208 := h 190 25 208 rfl
theorem z190_26 {N : Mem} (h : Fz N) : N 190 26 = 209 := h 190 26 209 rfl
theorem z190_27 {N : Mem} (h : Fz N) : N 190 27 = 210 := h 190 27 210 rfl
theorem z190_28 {N : Mem} (h : Fz N) : N 190 28 = 211 := h 190 28 211 rfl
theorem z190_29 {N : Mem} (h : Fz N) : N 190 29 = 212 := h 190 29 212 rfl
theorem z190_30 {N : Mem} (h : Fz N) : N 190 30 = 213 := h 190 30 213 rfl
theorem z190_31 {N : Mem} (h : Fz N) : N 190 31 = 214 := h 190 31 214 rfl
theorem z190_33 {N : Mem} (h : Fz N) : N 190 33 = 215 := h 190 33 215 rfl
theorem z190_34 {N : Mem} (h : Fz N) : N 190 34 = 216 := h 190 34 216 rfl
theorem z190_37 {N : Mem} (h : Fz N) : N 190 37 = 217 := h 190 37 217 rfl
theorem kd190 : kd NN 190 = 22 := rfl
theorem ln190 : LN 190 = 38 := rfl
theorem kd191 : kd NN 191 = 1 := rfl
theorem ln191 : LN 191 = 6 := rfl
theorem kd192 : kd NN 192 = 1 := rfl
theorem ln192 : LN 192 = 32 := rfl
theorem kd193 : kd NN 193 = 1 := rfl
theorem ln193 : LN 193 = 32 := rfl
theorem kd194 : kd NN 194 = 1 := rfl
theorem ln194 : LN 194 = 32 := rfl
theorem kd195 : kd NN 195 = 1 := rfl
theorem ln195 : LN 195 = 30 := rfl
theorem kd196 : kd NN 196 = 1 := rfl
theorem ln196 : LN 196 = 26 := rfl
theorem kd197 : kd NN 197 = 1 := rfl
theorem ln197 : LN 197 = 13 := rfl
theorem kd198 : kd NN 198 = 1 := rfl
theorem ln198 : LN 198 = 960 := rfl
theorem kd199 : kd NN 199 = 1 := rfl
theorem ln199 : LN 199 = 40 := rfl
theorem kd200 : kd NN 200 = 2 := rfl
theorem ln200 : LN 200 = 5 := rfl
theorem kd201 : kd NN 201 = 2 := rfl
theorem ln201 : LN 201 = 7 := rfl
theorem kd202 : kd NN 202 = 2 := rfl
theorem ln202 : LN 202 = 7 := rfl
theorem kd203 : kd NN 203 = 1 := rfl
theorem ln203 : LN 203 = 2600 := rfl
theorem kd204 : kd NN 204 = 1 := rfl
theorem ln204 : LN 204 = 40 := rfl
theorem kd205 : kd NN 205 = 2 := rfl
theorem ln205 : LN 205 = 4 := rfl
theorem kd206 : kd NN 206 = 1 := rfl
theorem ln206 : LN 206 = 12 := rfl
theorem kd207 : kd NN 207 = 1 := rfl
theorem ln207 : LN 207 = 32 := rfl
theorem kd208 : kd NN 208 = 1 := rfl
theorem ln208 : LN 208 = 13 := rfl
theorem kd209 : kd NN 209 = 1 := rfl
theorem ln209 : LN 209 = 10 := rfl
theorem kd210 : kd NN 210 = 1 := rfl
theorem ln210 : LN 210 = 10 := rfl
theorem kd211 : kd NN 211 = 1 := rfl
theorem ln211 : LN 211 = 10 := rfl
theorem kd212 : kd NN 212 = 1 := rfl
theorem ln212 : LN 212 = 10 := rfl
theorem kd213 : kd NN 213 = 1 := rfl
theorem ln213 : LN 213 = 2000 := rfl
theorem kd214 : kd NN 214 = 1 := rfl
theorem ln214 : LN 214 = 36000 := rfl
theorem kd215 : kd NN 215 = 1 := rfl
theorem ln215 : LN 215 = 6 := rfl
theorem kd216 : kd NN 216 = 1 := rfl
theorem ln216 : LN 216 = 6 := rfl
theorem kd217 : kd NN 217 = 1 := rfl
theorem ln217 : LN 217 = 832 := rfl
theorem z57 {N : Mem} (h : Fz N) (i : Int) (h0 : 0 ≤ i) (h1 : i < 6) : N 57 i = 58 + 5 * i := by
  have : i = 0 ∨ i = 1 ∨ i = 2 ∨ i = 3 ∨ i = 4 ∨ i = 5 := by omega
  rcases this with rfl | rfl | rfl | rfl | rfl | rfl <;> exact h _ _ _ rfl
theorem z122a : (List.range 26).all (fun i => decide (fz 122 (i : Int) = some (123 + (i : Int))) && decide (fz 149 (i : Int) = some (150 + (i : Int)))) = true := by decide +kernel
theorem z122 {N : Mem} (h : Fz N) (i : Int) (h0 : 0 ≤ i) (h1 : i < 26) : N 122 i = 123 + i ∧ N 149 i = 150 + i := by
  obtain ⟨n, rfl⟩ : ∃ n : Nat, i = n := ⟨i.toNat, by omega⟩
  have := List.all_eq_true.mp z122a n (List.mem_range.mpr (by omega))
  simp only [Bool.and_eq_true, decide_eq_true_eq] at this
  exact ⟨h _ _ _ this.1, h _ _ _ this.2⟩
