/-! places that hold a reference for good, once the constructors are through; printed by gen2.py -/
def fzL : List (Int × List (Int × Int)) := [(1, [(0, 2), (1, 18), (3, 19), (4, 21), (5, 32), (6, 57), (7, 88), (8, 94), (9, 108), (10, 120), (11, 182), (12, 188)]), (2, [(1, 3), (2, 4), (3, 6), (4, 8), (5, 10), (6, 12), (7, 14), (8, 16)]), (21, [(0, 2), (1, 22), (2, 24), (5, 26), (6, 27), (8, 28), (10, 29), (11, 30), (12, 31)]), (32, [(0, 2), (1, 21), (2, 33), (3, 35), (4, 37), (5, 39), (6, 41), (7, 43), (8, 45), (9, 47), (10, 52)]), (47, [(0, 48), (1, 50)]), (52, [(0, 53), (1, 55)]), (57, [(0, 58), (1, 63), (2, 68), (3, 73), (4, 78), (5, 83)]), (58, [(0, 59), (1, 61)]), (63, [(0, 64), (1, 66)]), (68, [(0, 69), (1, 71)]), (73, [(0, 74), (1, 76)]), (78, [(0, 79), (1, 81)]), (83, [(0, 84), (1, 86)]), (88, [(0, 2), (1, 21), (2, 89), (4, 90), (5, 92)]), (94, [(0, 32), (1, 88), (2, 95), (3, 96), (4, 97), (7, 98), (8, 103)]), (98, [(0, 99), (1, 101)]), (103, [(0, 104), (1, 106)]), (108, [(0, 32), (1, 21), (2, 109), (3, 110), (4, 115)]), (110, [(0, 111), (1, 113)]), (115, [(0, 116), (1, 118)]), (120, [(0, 2), (1, 21), (2, 121), (3, 122), (4, 149), (5, 176), (6, 177), (10, 178), (11, 179), (12, 180), (15, 181)]), (122, [(0, 123), (1, 124), (2, 125), (3, 126), (4, 127), (5, 128), (6, 129), (7, 130), (8, 131), (9, 132), (10, 133), (11, 134), (12, 135), (13, 136), (14, 137), (15, 138), (16, 139), (17, 140), (18, 141), (19, 142), (20, 143), (21, 144), (22, 145), (23, 146), (24, 147), (25, 148)]), (149, [(0, 150), (1, 151), (2, 152), (3, 153), (4, 154), (5, 155), (6, 156), (7, 157), (8, 158), (9, 159), (10, 160), (11, 161), (12, 162), (13, 163), (14, 164), (15, 165), (16, 166), (17, 167), (18, 168), (19, 169), (20, 170), (21, 171), (22, 172), (23, 173), (24, 174), (25, 175)]), (182, [(0, 2), (1, 21), (2, 183), (5, 184), (6, 186)]), (188, [(0, 189)]), (190, [(3, 191), (6, 192), (7, 193), (8, 194), (9, 195), (10, 196), (11, 197), (12, 198), (13, 199), (15, 200), (16, 201), (17, 202), (18, 203), (20, 204), (21, 205), (23, 206), (24, 207), (25, 208), (26, 209), (27, 210), (28, 211), (29, 212), (30, 213), (31, 214), (33, 215), (34, 216), (37, 217)])]
def fz (a i : Int) : Option Int := ((fzL.lookup a).getD []).lookup i
def ov (M : Mem) : Mem := fun a i => (fz a i).getD (M a i)
theorem ov_none {a i : Int} (M : Mem) (h : fz a i = none) : ov M a i = M a i := by unfold ov; rw [h]; rfl
theorem ov_ust {a i : Int} (M : Mem) (x : Int) (h : fz a i = none) : ust (ov M) a i x = ov (ust M a i x) := by
  funext b j
  unfold ust ov
  by_cases q : b = a ∧ j = i
  · obtain ⟨rfl, rfl⟩ := q
    rw [h]; simp
  · simp only [if_neg q]
abbrev NN : Int := 218
theorem ov1_0 (M : Mem) : ov M 1 0 = 2 := rfl
theorem ov1_1 (M : Mem) : ov M 1 1 = 18 := rfl
theorem ov1_2 (M : Mem) : ov M 1 2 = M 1 2 := rfl
theorem ou1_2 (M : Mem) (x : Int) : ust (ov M) 1 2 x = ov (ust M 1 2 x) := ov_ust M x rfl
theorem ov1_3 (M : Mem) : ov M 1 3 = 19 := rfl
theorem ov1_4 (M : Mem) : ov M 1 4 = 21 := rfl
theorem ov1_5 (M : Mem) : ov M 1 5 = 32 := rfl
theorem ov1_6 (M : Mem) : ov M 1 6 = 57 := rfl
theorem ov1_7 (M : Mem) : ov M 1 7 = 88 := rfl
theorem ov1_8 (M : Mem) : ov M 1 8 = 94 := rfl
theorem ov1_9 (M : Mem) : ov M 1 9 = 108 := rfl
theorem ov1_10 (M : Mem) : ov M 1 10 = 120 := rfl
theorem ov1_11 (M : Mem) : ov M 1 11 = 182 := rfl
theorem ov1_12 (M : Mem) : ov M 1 12 = 188 := rfl
theorem kd1 : kd NN 1 = 21 := rfl
theorem ln1 : LN 1 = 13 := rfl
theorem ov2_0 (M : Mem) : ov M 2 0 = M 2 0 := rfl
theorem ou2_0 (M : Mem) (x : Int) : ust (ov M) 2 0 x = ov (ust M 2 0 x) := ov_ust M x rfl
theorem ov2_1 (M : Mem) : ov M 2 1 = 3 := rfl
theorem ov2_2 (M : Mem) : ov M 2 2 = 4 := rfl
theorem ov2_3 (M : Mem) : ov M 2 3 = 6 := rfl
theorem ov2_4 (M : Mem) : ov M 2 4 = 8 := rfl
theorem ov2_5 (M : Mem) : ov M 2 5 = 10 := rfl
theorem ov2_6 (M : Mem) : ov M 2 6 = 12 := rfl
theorem ov2_7 (M : Mem) : ov M 2 7 = 14 := rfl
theorem ov2_8 (M : Mem) : ov M 2 8 = 16 := rfl
theorem kd2 : kd NN 2 = 19 := rfl
theorem ln2 : LN 2 = 9 := rfl
theorem ov3 (M : Mem) (j : Int) : ov M 3 j = M 3 j := rfl
theorem ou3 (M : Mem) (j x : Int) : ust (ov M) 3 j x = ov (ust M 3 j x) := ov_ust M x rfl
theorem kd3 : kd NN 3 = 1 := rfl
theorem ln3 : LN 3 = 13 := rfl
theorem kd4 : kd NN 4 = 18 := rfl
theorem ln4 : LN 4 = 2 := rfl
theorem ov5 (M : Mem) (j : Int) : ov M 5 j = M 5 j := rfl
theorem ou5 (M : Mem) (j x : Int) : ust (ov M) 5 j x = ov (ust M 5 j x) := ov_ust M x rfl
theorem kd5 : kd NN 5 = 1 := rfl
theorem ln5 : LN 5 = 8 := rfl
theorem kd6 : kd NN 6 = 18 := rfl
theorem ln6 : LN 6 = 2 := rfl
theorem ov7 (M : Mem) (j : Int) : ov M 7 j = M 7 j := rfl
theorem ou7 (M : Mem) (j x : Int) : ust (ov M) 7 j x = ov (ust M 7 j x) := ov_ust M x rfl
theorem kd7 : kd NN 7 = 1 := rfl
theorem ln7 : LN 7 = 8 := rfl
theorem kd8 : kd NN 8 = 18 := rfl
theorem ln8 : LN 8 = 2 := rfl
theorem ov9 (M : Mem) (j : Int) : ov M 9 j = M 9 j := rfl
theorem ou9 (M : Mem) (j x : Int) : ust (ov M) 9 j x = ov (ust M 9 j x) := ov_ust M x rfl
theorem kd9 : kd NN 9 = 1 := rfl
theorem ln9 : LN 9 = 8 := rfl
theorem kd10 : kd NN 10 = 18 := rfl
theorem ln10 : LN 10 = 2 := rfl
theorem ov11 (M : Mem) (j : Int) : ov M 11 j = M 11 j := rfl
theorem ou11 (M : Mem) (j x : Int) : ust (ov M) 11 j x = ov (ust M 11 j x) := ov_ust M x rfl
theorem kd11 : kd NN 11 = 1 := rfl
theorem ln11 : LN 11 = 8 := rfl
theorem kd12 : kd NN 12 = 18 := rfl
theorem ln12 : LN 12 = 2 := rfl
theorem ov13 (M : Mem) (j : Int) : ov M 13 j = M 13 j := rfl
theorem ou13 (M : Mem) (j x : Int) : ust (ov M) 13 j x = ov (ust M 13 j x) := ov_ust M x rfl
theorem kd13 : kd NN 13 = 1 := rfl
theorem ln13 : LN 13 = 8 := rfl
theorem kd14 : kd NN 14 = 18 := rfl
theorem ln14 : LN 14 = 2 := rfl
theorem ov15 (M : Mem) (j : Int) : ov M 15 j = M 15 j := rfl
theorem ou15 (M : Mem) (j x : Int) : ust (ov M) 15 j x = ov (ust M 15 j x) := ov_ust M x rfl
theorem kd15 : kd NN 15 = 1 := rfl
theorem ln15 : LN 15 = 8 := rfl
theorem kd16 : kd NN 16 = 18 := rfl
theorem ln16 : LN 16 = 2 := rfl
theorem ov17 (M : Mem) (j : Int) : ov M 17 j = M 17 j := rfl
theorem ou17 (M : Mem) (j x : Int) : ust (ov M) 17 j x = ov (ust M 17 j x) := ov_ust M x rfl
theorem kd17 : kd NN 17 = 1 := rfl
theorem ln17 : LN 17 = 8 := rfl
theorem ov18 (M : Mem) (j : Int) : ov M 18 j = M 18 j := rfl
theorem ou18 (M : Mem) (j x : Int) : ust (ov M) 18 j x = ov (ust M 18 j x) := ov_ust M x rfl
theorem kd18 : kd NN 18 = 1 := rfl
theorem ln18 : LN 18 = 6 := rfl
theorem kd19 : kd NN 19 = 18 := rfl
theorem ln19 : LN 19 = 2 := rfl
theorem ov20 (M : Mem) (j : Int) : ov M 20 j = M 20 j := rfl
theorem ou20 (M : Mem) (j x : Int) : ust (ov M) 20 j x = ov (ust M 20 j x) := ov_ust M x rfl
theorem kd20 : kd NN 20 = 1 := rfl
theorem ln20 : LN 20 = 8 := rfl
theorem ov21_0 (M : Mem) : ov M 21 0 = 2 := rfl
theorem ov21_1 (M : Mem) : ov M 21 1 = 22 := rfl
theorem ov21_2 (M : Mem) : ov M 21 2 = 24 := rfl
theorem ov21_3 (M : Mem) : ov M 21 3 = M 21 3 := rfl
theorem ou21_3 (M : Mem) (x : Int) : ust (ov M) 21 3 x = ov (ust M 21 3 x) := ov_ust M x rfl
theorem ov21_4 (M : Mem) : ov M 21 4 = M 21 4 := rfl
theorem ou21_4 (M : Mem) (x : Int) : ust (ov M) 21 4 x = ov (ust M 21 4 x) := ov_ust M x rfl
theorem ov21_5 (M : Mem) : ov M 21 5 = 26 := rfl
theorem ov21_6 (M : Mem) : ov M 21 6 = 27 := rfl
theorem ov21_7 (M : Mem) : ov M 21 7 = M 21 7 := rfl
theorem ou21_7 (M : Mem) (x : Int) : ust (ov M) 21 7 x = ov (ust M 21 7 x) := ov_ust M x rfl
theorem ov21_8 (M : Mem) : ov M 21 8 = 28 := rfl
theorem ov21_9 (M : Mem) : ov M 21 9 = M 21 9 := rfl
theorem ou21_9 (M : Mem) (x : Int) : ust (ov M) 21 9 x = ov (ust M 21 9 x) := ov_ust M x rfl
theorem ov21_10 (M : Mem) : ov M 21 10 = 29 := rfl
theorem ov21_11 (M : Mem) : ov M 21 11 = 30 := rfl
theorem ov21_12 (M : Mem) : ov M 21 12 = 31 := rfl
theorem ov21_13 (M : Mem) : ov M 21 13 = M 21 13 := rfl
theorem ou21_13 (M : Mem) (x : Int) : ust (ov M) 21 13 x = ov (ust M 21 13 x) := ov_ust M x rfl
theorem kd21 : kd NN 21 = 13 := rfl
theorem ln21 : LN 21 = 14 := rfl
theorem kd22 : kd NN 22 = 18 := rfl
theorem ln22 : LN 22 = 2 := rfl
theorem ov23 (M : Mem) (j : Int) : ov M 23 j = M 23 j := rfl
theorem ou23 (M : Mem) (j x : Int) : ust (ov M) 23 j x = ov (ust M 23 j x) := ov_ust M x rfl
theorem kd23 : kd NN 23 = 1 := rfl
theorem ln23 : LN 23 = 8 := rfl
theorem kd24 : kd NN 24 = 18 := rfl
theorem ln24 : LN 24 = 2 := rfl
theorem ov25 (M : Mem) (j : Int) : ov M 25 j = M 25 j := rfl
theorem ou25 (M : Mem) (j x : Int) : ust (ov M) 25 j x = ov (ust M 25 j x) := ov_ust M x rfl
theorem kd25 : kd NN 25 = 1 := rfl
theorem ln25 : LN 25 = 8 := rfl
theorem ov26 (M : Mem) (j : Int) : ov M 26 j = M 26 j := rfl
theorem ou26 (M : Mem) (j x : Int) : ust (ov M) 26 j x = ov (ust M 26 j x) := ov_ust M x rfl
theorem kd26 : kd NN 26 = 1 := rfl
theorem ln26 : LN 26 = 27 := rfl
theorem ov27 (M : Mem) (j : Int) : ov M 27 j = M 27 j := rfl
theorem ou27 (M : Mem) (j x : Int) : ust (ov M) 27 j x = ov (ust M 27 j x) := ov_ust M x rfl
theorem kd27 : kd NN 27 = 1 := rfl
theorem ln27 : LN 27 = 27 := rfl
theorem ov28 (M : Mem) (j : Int) : ov M 28 j = M 28 j := rfl
theorem ou28 (M : Mem) (j x : Int) : ust (ov M) 28 j x = ov (ust M 28 j x) := ov_ust M x rfl
theorem kd28 : kd NN 28 = 1 := rfl
theorem ln28 : LN 28 = 169 := rfl
theorem ov29 (M : Mem) (j : Int) : ov M 29 j = M 29 j := rfl
theorem ou29 (M : Mem) (j x : Int) : ust (ov M) 29 j x = ov (ust M 29 j x) := ov_ust M x rfl
theorem kd29 : kd NN 29 = 2 := rfl
theorem ln29 : LN 29 = 7 := rfl
theorem ov30 (M : Mem) (j : Int) : ov M 30 j = M 30 j := rfl
theorem ou30 (M : Mem) (j x : Int) : ust (ov M) 30 j x = ov (ust M 30 j x) := ov_ust M x rfl
theorem kd30 : kd NN 30 = 2 := rfl
theorem ln30 : LN 30 = 7 := rfl
theorem ov31 (M : Mem) (j : Int) : ov M 31 j = M 31 j := rfl
theorem ou31 (M : Mem) (j x : Int) : ust (ov M) 31 j x = ov (ust M 31 j x) := ov_ust M x rfl
theorem kd31 : kd NN 31 = 2 := rfl
theorem ln31 : LN 31 = 7 := rfl
theorem ov32_0 (M : Mem) : ov M 32 0 = 2 := rfl
theorem ov32_1 (M : Mem) : ov M 32 1 = 21 := rfl
theorem ov32_2 (M : Mem) : ov M 32 2 = 33 := rfl
theorem ov32_3 (M : Mem) : ov M 32 3 = 35 := rfl
theorem ov32_4 (M : Mem) : ov M 32 4 = 37 := rfl
theorem ov32_5 (M : Mem) : ov M 32 5 = 39 := rfl
theorem ov32_6 (M : Mem) : ov M 32 6 = 41 := rfl
theorem ov32_7 (M : Mem) : ov M 32 7 = 43 := rfl
theorem ov32_8 (M : Mem) : ov M 32 8 = 45 := rfl
theorem ov32_9 (M : Mem) : ov M 32 9 = 47 := rfl
theorem ov32_10 (M : Mem) : ov M 32 10 = 52 := rfl
theorem kd32 : kd NN 32 = 10 := rfl
theorem ln32 : LN 32 = 11 := rfl
theorem kd33 : kd NN 33 = 18 := rfl
theorem ln33 : LN 33 = 2 := rfl
theorem ov34 (M : Mem) (j : Int) : ov M 34 j = M 34 j := rfl
theorem ou34 (M : Mem) (j x : Int) : ust (ov M) 34 j x = ov (ust M 34 j x) := ov_ust M x rfl
theorem kd34 : kd NN 34 = 1 := rfl
theorem ln34 : LN 34 = 8 := rfl
theorem kd35 : kd NN 35 = 18 := rfl
theorem ln35 : LN 35 = 2 := rfl
theorem ov36 (M : Mem) (j : Int) : ov M 36 j = M 36 j := rfl
theorem ou36 (M : Mem) (j x : Int) : ust (ov M) 36 j x = ov (ust M 36 j x) := ov_ust M x rfl
theorem kd36 : kd NN 36 = 1 := rfl
theorem ln36 : LN 36 = 8 := rfl
theorem kd37 : kd NN 37 = 18 := rfl
theorem ln37 : LN 37 = 2 := rfl
theorem ov38 (M : Mem) (j : Int) : ov M 38 j = M 38 j := rfl
theorem ou38 (M : Mem) (j x : Int) : ust (ov M) 38 j x = ov (ust M 38 j x) := ov_ust M x rfl
theorem kd38 : kd NN 38 = 1 := rfl
theorem ln38 : LN 38 = 8 := rfl
theorem kd39 : kd NN 39 = 18 := rfl
theorem ln39 : LN 39 = 2 := rfl
theorem ov40 (M : Mem) (j : Int) : ov M 40 j = M 40 j := rfl
theorem ou40 (M : Mem) (j x : Int) : ust (ov M) 40 j x = ov (ust M 40 j x) := ov_ust M x rfl
theorem kd40 : kd NN 40 = 1 := rfl
theorem ln40 : LN 40 = 8 := rfl
theorem kd41 : kd NN 41 = 18 := rfl
theorem ln41 : LN 41 = 2 := rfl
theorem ov42 (M : Mem) (j : Int) : ov M 42 j = M 42 j := rfl
theorem ou42 (M : Mem) (j x : Int) : ust (ov M) 42 j x = ov (ust M 42 j x) := ov_ust M x rfl
theorem kd42 : kd NN 42 = 1 := rfl
theorem ln42 : LN 42 = 8 := rfl
theorem kd43 : kd NN 43 = 18 := rfl
theorem ln43 : LN 43 = 2 := rfl
theorem ov44 (M : Mem) (j : Int) : ov M 44 j = M 44 j := rfl
theorem ou44 (M : Mem) (j x : Int) : ust (ov M) 44 j x = ov (ust M 44 j x) := ov_ust M x rfl
theorem kd44 : kd NN 44 = 1 := rfl
theorem ln44 : LN 44 = 8 := rfl
theorem kd45 : kd NN 45 = 18 := rfl
theorem ln45 : LN 45 = 2 := rfl
theorem ov46 (M : Mem) (j : Int) : ov M 46 j = M 46 j := rfl
theorem ou46 (M : Mem) (j x : Int) : ust (ov M) 46 j x = ov (ust M 46 j x) := ov_ust M x rfl
theorem kd46 : kd NN 46 = 1 := rfl
theorem ln46 : LN 46 = 8 := rfl
theorem ov47_0 (M : Mem) : ov M 47 0 = 48 := rfl
theorem ov47_1 (M : Mem) : ov M 47 1 = 50 := rfl
theorem kd47 : kd NN 47 = 16 := rfl
theorem ln47 : LN 47 = 2 := rfl
theorem kd48 : kd NN 48 = 18 := rfl
theorem ln48 : LN 48 = 2 := rfl
theorem ov49 (M : Mem) (j : Int) : ov M 49 j = M 49 j := rfl
theorem ou49 (M : Mem) (j x : Int) : ust (ov M) 49 j x = ov (ust M 49 j x) := ov_ust M x rfl
theorem kd49 : kd NN 49 = 1 := rfl
theorem ln49 : LN 49 = 8 := rfl
theorem kd50 : kd NN 50 = 18 := rfl
theorem ln50 : LN 50 = 2 := rfl
theorem ov51 (M : Mem) (j : Int) : ov M 51 j = M 51 j := rfl
theorem ou51 (M : Mem) (j x : Int) : ust (ov M) 51 j x = ov (ust M 51 j x) := ov_ust M x rfl
theorem kd51 : kd NN 51 = 1 := rfl
theorem ln51 : LN 51 = 8 := rfl
theorem ov52_0 (M : Mem) : ov M 52 0 = 53 := rfl
theorem ov52_1 (M : Mem) : ov M 52 1 = 55 := rfl
theorem kd52 : kd NN 52 = 16 := rfl
theorem ln52 : LN 52 = 2 := rfl
theorem kd53 : kd NN 53 = 18 := rfl
theorem ln53 : LN 53 = 2 := rfl
theorem ov54 (M : Mem) (j : Int) : ov M 54 j = M 54 j := rfl
theorem ou54 (M : Mem) (j x : Int) : ust (ov M) 54 j x = ov (ust M 54 j x) := ov_ust M x rfl
theorem kd54 : kd NN 54 = 1 := rfl
theorem ln54 : LN 54 = 8 := rfl
theorem kd55 : kd NN 55 = 18 := rfl
theorem ln55 : LN 55 = 2 := rfl
theorem ov56 (M : Mem) (j : Int) : ov M 56 j = M 56 j := rfl
theorem ou56 (M : Mem) (j x : Int) : ust (ov M) 56 j x = ov (ust M 56 j x) := ov_ust M x rfl
theorem kd56 : kd NN 56 = 1 := rfl
theorem ln56 : LN 56 = 8 := rfl
theorem kd57 : kd NN 57 = 3 := rfl
theorem ln57 : LN 57 = 6 := rfl
theorem ov58_0 (M : Mem) : ov M 58 0 = 59 := rfl
theorem ov58_1 (M : Mem) : ov M 58 1 = 61 := rfl
theorem kd58 : kd NN 58 = 16 := rfl
theorem ln58 : LN 58 = 2 := rfl
theorem kd59 : kd NN 59 = 18 := rfl
theorem ln59 : LN 59 = 2 := rfl
theorem ov60 (M : Mem) (j : Int) : ov M 60 j = M 60 j := rfl
theorem ou60 (M : Mem) (j x : Int) : ust (ov M) 60 j x = ov (ust M 60 j x) := ov_ust M x rfl
theorem kd60 : kd NN 60 = 1 := rfl
theorem ln60 : LN 60 = 8 := rfl
theorem kd61 : kd NN 61 = 18 := rfl
theorem ln61 : LN 61 = 2 := rfl
theorem ov62 (M : Mem) (j : Int) : ov M 62 j = M 62 j := rfl
theorem ou62 (M : Mem) (j x : Int) : ust (ov M) 62 j x = ov (ust M 62 j x) := ov_ust M x rfl
theorem kd62 : kd NN 62 = 1 := rfl
theorem ln62 : LN 62 = 8 := rfl
theorem ov63_0 (M : Mem) : ov M 63 0 = 64 := rfl
theorem ov63_1 (M : Mem) : ov M 63 1 = 66 := rfl
theorem kd63 : kd NN 63 = 16 := rfl
theorem ln63 : LN 63 = 2 := rfl
theorem kd64 : kd NN 64 = 18 := rfl
theorem ln64 : LN 64 = 2 := rfl
theorem ov65 (M : Mem) (j : Int) : ov M 65 j = M 65 j := rfl
theorem ou65 (M : Mem) (j x : Int) : ust (ov M) 65 j x = ov (ust M 65 j x) := ov_ust M x rfl
theorem kd65 : kd NN 65 = 1 := rfl
theorem ln65 : LN 65 = 8 := rfl
theorem kd66 : kd NN 66 = 18 := rfl
theorem ln66 : LN 66 = 2 := rfl
theorem ov67 (M : Mem) (j : Int) : ov M 67 j = M 67 j := rfl
theorem ou67 (M : Mem) (j x : Int) : ust (ov M) 67 j x = ov (ust M 67 j x) := ov_ust M x rfl
theorem kd67 : kd NN 67 = 1 := rfl
theorem ln67 : LN 67 = 8 := rfl
theorem ov68_0 (M : Mem) : ov M 68 0 = 69 := rfl
theorem ov68_1 (M : Mem) : ov M 68 1 = 71 := rfl
theorem kd68 : kd NN 68 = 16 := rfl
theorem ln68 : LN 68 = 2 := rfl
theorem kd69 : kd NN 69 = 18 := rfl
theorem ln69 : LN 69 = 2 := rfl
theorem ov70 (M : Mem) (j : Int) : ov M 70 j = M 70 j := rfl
theorem ou70 (M : Mem) (j x : Int) : ust (ov M) 70 j x = ov (ust M 70 j x) := ov_ust M x rfl
theorem kd70 : kd NN 70 = 1 := rfl
theorem ln70 : LN 70 = 8 := rfl
theorem kd71 : kd NN 71 = 18 := rfl
theorem ln71 : LN 71 = 2 := rfl
theorem ov72 (M : Mem) (j : Int) : ov M 72 j = M 72 j := rfl
theorem ou72 (M : Mem) (j x : Int) : ust (ov M) 72 j x = ov (ust M 72 j x) := ov_ust M x rfl
theorem kd72 : kd NN 72 = 1 := rfl
theorem ln72 : LN 72 = 8 := rfl
theorem ov73_0 (M : Mem) : ov M 73 0 = 74 := rfl
theorem ov73_1 (M : Mem) : ov M 73 1 = 76 := rfl
theorem kd73 : kd NN 73 = 16 := rfl
theorem ln73 : LN 73 = 2 := rfl
theorem kd74 : kd NN 74 = 18 := rfl
theorem ln74 : LN 74 = 2 := rfl
theorem ov75 (M : Mem) (j : Int) : ov M 75 j = M 75 j := rfl
theorem ou75 (M : Mem) (j x : Int) : ust (ov M) 75 j x = ov (ust M 75 j x) := ov_ust M x rfl
theorem kd75 : kd NN 75 = 1 := rfl
theorem ln75 : LN 75 = 8 := rfl
theorem kd76 : kd NN 76 = 18 := rfl
theorem ln76 : LN 76 = 2 := rfl
theorem ov77 (M : Mem) (j : Int) : ov M 77 j = M 77 j := rfl
theorem ou77 (M : Mem) (j x : Int) : ust (ov M) 77 j x = ov (ust M 77 j x) := ov_ust M x rfl
theorem kd77 : kd NN 77 = 1 := rfl
theorem ln77 : LN 77 = 8 := rfl
theorem ov78_0 (M : Mem) : ov M 78 0 = 79 := rfl
theorem ov78_1 (M : Mem) : ov M 78 1 = 81 := rfl
theorem kd78 : kd NN 78 = 16 := rfl
theorem ln78 : LN 78 = 2 := rfl
theorem kd79 : kd NN 79 = 18 := rfl
theorem ln79 : LN 79 = 2 := rfl
theorem ov80 (M : Mem) (j : Int) : ov M 80 j = M 80 j := rfl
theorem ou80 (M : Mem) (j x : Int) : ust (ov M) 80 j x = ov (ust M 80 j x) := ov_ust M x rfl
theorem kd80 : kd NN 80 = 1 := rfl
theorem ln80 : LN 80 = 8 := rfl
theorem kd81 : kd NN 81 = 18 := rfl
theorem ln81 : LN 81 = 2 := rfl
theorem ov82 (M : Mem) (j : Int) : ov M 82 j = M 82 j := rfl
theorem ou82 (M : Mem) (j x : Int) : ust (ov M) 82 j x = ov (ust M 82 j x) := ov_ust M x rfl
theorem kd82 : kd NN 82 = 1 := rfl
theorem ln82 : LN 82 = 8 := rfl
theorem ov83_0 (M : Mem) : ov M 83 0 = 84 := rfl
theorem ov83_1 (M : Mem) : ov M 83 1 = 86 := rfl
theorem kd83 : kd NN 83 = 16 := rfl
theorem ln83 : LN 83 = 2 := rfl
theorem kd84 : kd NN 84 = 18 := rfl
theorem ln84 : LN 84 = 2 := rfl
theorem ov85 (M : Mem) (j : Int) : ov M 85 j = M 85 j := rfl
theorem ou85 (M : Mem) (j x : Int) : ust (ov M) 85 j x = ov (ust M 85 j x) := ov_ust M x rfl
theorem kd85 : kd NN 85 = 1 := rfl
theorem ln85 : LN 85 = 8 := rfl
theorem kd86 : kd NN 86 = 18 := rfl
theorem ln86 : LN 86 = 2 := rfl
theorem ov87 (M : Mem) (j : Int) : ov M 87 j = M 87 j := rfl
theorem ou87 (M : Mem) (j x : Int) : ust (ov M) 87 j x = ov (ust M 87 j x) := ov_ust M x rfl
theorem kd87 : kd NN 87 = 1 := rfl
theorem ln87 : LN 87 = 8 := rfl
theorem ov88_0 (M : Mem) : ov M 88 0 = 2 := rfl
theorem ov88_1 (M : Mem) : ov M 88 1 = 21 := rfl
theorem ov88_2 (M : Mem) : ov M 88 2 = 89 := rfl
theorem ov88_3 (M : Mem) : ov M 88 3 = M 88 3 := rfl
theorem ou88_3 (M : Mem) (x : Int) : ust (ov M) 88 3 x = ov (ust M 88 3 x) := ov_ust M x rfl
theorem ov88_4 (M : Mem) : ov M 88 4 = 90 := rfl
theorem ov88_5 (M : Mem) : ov M 88 5 = 92 := rfl
theorem kd88 : kd NN 88 = 15 := rfl
theorem ln88 : LN 88 = 6 := rfl
theorem ov89 (M : Mem) (j : Int) : ov M 89 j = M 89 j := rfl
theorem ou89 (M : Mem) (j x : Int) : ust (ov M) 89 j x = ov (ust M 89 j x) := ov_ust M x rfl
theorem kd89 : kd NN 89 = 1 := rfl
theorem ln89 : LN 89 = 450 := rfl
theorem kd90 : kd NN 90 = 18 := rfl
theorem ln90 : LN 90 = 2 := rfl
theorem ov91 (M : Mem) (j : Int) : ov M 91 j = M 91 j := rfl
theorem ou91 (M : Mem) (j x : Int) : ust (ov M) 91 j x = ov (ust M 91 j x) := ov_ust M x rfl
theorem kd91 : kd NN 91 = 1 := rfl
theorem ln91 : LN 91 = 8 := rfl
theorem kd92 : kd NN 92 = 18 := rfl
theorem ln92 : LN 92 = 2 := rfl
theorem ov93 (M : Mem) (j : Int) : ov M 93 j = M 93 j := rfl
theorem ou93 (M : Mem) (j x : Int) : ust (ov M) 93 j x = ov (ust M 93 j x) := ov_ust M x rfl
theorem kd93 : kd NN 93 = 1 := rfl
theorem ln93 : LN 93 = 8 := rfl
theorem ov94_0 (M : Mem) : ov M 94 0 = 32 := rfl
theorem ov94_1 (M : Mem) : ov M 94 1 = 88 := rfl
theorem ov94_2 (M : Mem) : ov M 94 2 = 95 := rfl
theorem ov94_3 (M : Mem) : ov M 94 3 = 96 := rfl
theorem ov94_4 (M : Mem) : ov M 94 4 = 97 := rfl
theorem ov94_5 (M : Mem) : ov M 94 5 = M 94 5 := rfl
theorem ou94_5 (M : Mem) (x : Int) : ust (ov M) 94 5 x = ov (ust M 94 5 x) := ov_ust M x rfl
theorem ov94_6 (M : Mem) : ov M 94 6 = M 94 6 := rfl
theorem ou94_6 (M : Mem) (x : Int) : ust (ov M) 94 6 x = ov (ust M 94 6 x) := ov_ust M x rfl
theorem ov94_7 (M : Mem) : ov M 94 7 = 98 := rfl
theorem ov94_8 (M : Mem) : ov M 94 8 = 103 := rfl
theorem kd94 : kd NN 94 = 14 := rfl
theorem ln94 : LN 94 = 9 := rfl
theorem ov95 (M : Mem) (j : Int) : ov M 95 j = M 95 j := rfl
theorem ou95 (M : Mem) (j x : Int) : ust (ov M) 95 j x = ov (ust M 95 j x) := ov_ust M x rfl
theorem kd95 : kd NN 95 = 1 := rfl
theorem ln95 : LN 95 = 450 := rfl
theorem ov96 (M : Mem) (j : Int) : ov M 96 j = M 96 j := rfl
theorem ou96 (M : Mem) (j x : Int) : ust (ov M) 96 j x = ov (ust M 96 j x) := ov_ust M x rfl
theorem kd96 : kd NN 96 = 1 := rfl
theorem ln96 : LN 96 = 450 := rfl
theorem ov97 (M : Mem) (j : Int) : ov M 97 j = M 97 j := rfl
theorem ou97 (M : Mem) (j x : Int) : ust (ov M) 97 j x = ov (ust M 97 j x) := ov_ust M x rfl
theorem kd97 : kd NN 97 = 1 := rfl
theorem ln97 : LN 97 = 8 := rfl
theorem ov98_0 (M : Mem) : ov M 98 0 = 99 := rfl
theorem ov98_1 (M : Mem) : ov M 98 1 = 101 := rfl
theorem kd98 : kd NN 98 = 16 := rfl
theorem ln98 : LN 98 = 2 := rfl
theorem kd99 : kd NN 99 = 18 := rfl
theorem ln99 : LN 99 = 2 := rfl
theorem ov100 (M : Mem) (j : Int) : ov M 100 j = M 100 j := rfl
theorem ou100 (M : Mem) (j x : Int) : ust (ov M) 100 j x = ov (ust M 100 j x) := ov_ust M x rfl
theorem kd100 : kd NN 100 = 1 := rfl
theorem ln100 : LN 100 = 8 := rfl
theorem kd101 : kd NN 101 = 18 := rfl
theorem ln101 : LN 101 = 2 := rfl
theorem ov102 (M : Mem) (j : Int) : ov M 102 j = M 102 j := rfl
theorem ou102 (M : Mem) (j x : Int) : ust (ov M) 102 j x = ov (ust M 102 j x) := ov_ust M x rfl
theorem kd102 : kd NN 102 = 1 := rfl
theorem ln102 : LN 102 = 8 := rfl
theorem ov103_0 (M : Mem) : ov M 103 0 = 104 := rfl
theorem ov103_1 (M : Mem) : ov M 103 1 = 106 := rfl
theorem kd103 : kd NN 103 = 16 := rfl
theorem ln103 : LN 103 = 2 := rfl
theorem kd104 : kd NN 104 = 18 := rfl
theorem ln104 : LN 104 = 2 := rfl
theorem ov105 (M : Mem) (j : Int) : ov M 105 j = M 105 j := rfl
theorem ou105 (M : Mem) (j x : Int) : ust (ov M) 105 j x = ov (ust M 105 j x) := ov_ust M x rfl
theorem kd105 : kd NN 105 = 1 := rfl
theorem ln105 : LN 105 = 8 := rfl
theorem kd106 : kd NN 106 = 18 := rfl
theorem ln106 : LN 106 = 2 := rfl
theorem ov107 (M : Mem) (j : Int) : ov M 107 j = M 107 j := rfl
theorem ou107 (M : Mem) (j x : Int) : ust (ov M) 107 j x = ov (ust M 107 j x) := ov_ust M x rfl
theorem kd107 : kd NN 107 = 1 := rfl
theorem ln107 : LN 107 = 8 := rfl
theorem ov108_0 (M : Mem) : ov M 108 0 = 32 := rfl
theorem ov108_1 (M : Mem) : ov M 108 1 = 21 := rfl
theorem ov108_2 (M : Mem) : ov M 108 2 = 109 := rfl
theorem ov108_3 (M : Mem) : ov M 108 3 = 110 := rfl
theorem ov108_4 (M : Mem) : ov M 108 4 = 115 := rfl
theorem kd108 : kd NN 108 = 17 := rfl
theorem ln108 : LN 108 = 5 := rfl
theorem ov109 (M : Mem) (j : Int) : ov M 109 j = M 109 j := rfl
theorem ou109 (M : Mem) (j x : Int) : ust (ov M) 109 j x = ov (ust M 109 j x) := ov_ust M x rfl
theorem kd109 : kd NN 109 = 1 := rfl
theorem ln109 : LN 109 = 27 := rfl
theorem ov110_0 (M : Mem) : ov M 110 0 = 111 := rfl
theorem ov110_1 (M : Mem) : ov M 110 1 = 113 := rfl
theorem kd110 : kd NN 110 = 16 := rfl
theorem ln110 : LN 110 = 2 := rfl
theorem kd111 : kd NN 111 = 18 := rfl
theorem ln111 : LN 111 = 2 := rfl
theorem ov112 (M : Mem) (j : Int) : ov M 112 j = M 112 j := rfl
theorem ou112 (M : Mem) (j x : Int) : ust (ov M) 112 j x = ov (ust M 112 j x) := ov_ust M x rfl
theorem kd112 : kd NN 112 = 1 := rfl
theorem ln112 : LN 112 = 8 := rfl
theorem kd113 : kd NN 113 = 18 := rfl
theorem ln113 : LN 113 = 2 := rfl
theorem ov114 (M : Mem) (j : Int) : ov M 114 j = M 114 j := rfl
theorem ou114 (M : Mem) (j x : Int) : ust (ov M) 114 j x = ov (ust M 114 j x) := ov_ust M x rfl
theorem kd114 : kd NN 114 = 1 := rfl
theorem ln114 : LN 114 = 8 := rfl
theorem ov115_0 (M : Mem) : ov M 115 0 = 116 := rfl
theorem ov115_1 (M : Mem) : ov M 115 1 = 118 := rfl
theorem kd115 : kd NN 115 = 16 := rfl
theorem ln115 : LN 115 = 2 := rfl
theorem kd116 : kd NN 116 = 18 := rfl
theorem ln116 : LN 116 = 2 := rfl
theorem ov117 (M : Mem) (j : Int) : ov M 117 j = M 117 j := rfl
theorem ou117 (M : Mem) (j x : Int) : ust (ov M) 117 j x = ov (ust M 117 j x) := ov_ust M x rfl
theorem kd117 : kd NN 117 = 1 := rfl
theorem ln117 : LN 117 = 8 := rfl
theorem kd118 : kd NN 118 = 18 := rfl
theorem ln118 : LN 118 = 2 := rfl
theorem ov119 (M : Mem) (j : Int) : ov M 119 j = M 119 j := rfl
theorem ou119 (M : Mem) (j x : Int) : ust (ov M) 119 j x = ov (ust M 119 j x) := ov_ust M x rfl
theorem kd119 : kd NN 119 = 1 := rfl
theorem ln119 : LN 119 = 8 := rfl
theorem ov120_0 (M : Mem) : ov M 120 0 = 2 := rfl
theorem ov120_1 (M : Mem) : ov M 120 1 = 21 := rfl
theorem ov120_2 (M : Mem) : ov M 120 2 = 121 := rfl
theorem ov120_3 (M : Mem) : ov M 120 3 = 122 := rfl
theorem ov120_4 (M : Mem) : ov M 120 4 = 149 := rfl
theorem ov120_5 (M : Mem) : ov M 120 5 = 176 := rfl
theorem ov120_6 (M : Mem) : ov M 120 6 = 177 := rfl
theorem ov120_7 (M : Mem) : ov M 120 7 = M 120 7 := rfl
theorem ou120_7 (M : Mem) (x : Int) : ust (ov M) 120 7 x = ov (ust M 120 7 x) := ov_ust M x rfl
theorem ov120_8 (M : Mem) : ov M 120 8 = M 120 8 := rfl
theorem ou120_8 (M : Mem) (x : Int) : ust (ov M) 120 8 x = ov (ust M 120 8 x) := ov_ust M x rfl
theorem ov120_9 (M : Mem) : ov M 120 9 = M 120 9 := rfl
theorem ou120_9 (M : Mem) (x : Int) : ust (ov M) 120 9 x = ov (ust M 120 9 x) := ov_ust M x rfl
theorem ov120_10 (M : Mem) : ov M 120 10 = 178 := rfl
theorem ov120_11 (M : Mem) : ov M 120 11 = 179 := rfl
theorem ov120_12 (M : Mem) : ov M 120 12 = 180 := rfl
theorem ov120_13 (M : Mem) : ov M 120 13 = M 120 13 := rfl
theorem ou120_13 (M : Mem) (x : Int) : ust (ov M) 120 13 x = ov (ust M 120 13 x) := ov_ust M x rfl
theorem ov120_14 (M : Mem) : ov M 120 14 = M 120 14 := rfl
theorem ou120_14 (M : Mem) (x : Int) : ust (ov M) 120 14 x = ov (ust M 120 14 x) := ov_ust M x rfl
theorem ov120_15 (M : Mem) : ov M 120 15 = 181 := rfl
theorem kd120 : kd NN 120 = 11 := rfl
theorem ln120 : LN 120 = 16 := rfl
theorem ov121 (M : Mem) (j : Int) : ov M 121 j = M 121 j := rfl
theorem ou121 (M : Mem) (j x : Int) : ust (ov M) 121 j x = ov (ust M 121 j x) := ov_ust M x rfl
theorem kd121 : kd NN 121 = 1 := rfl
theorem ln121 : LN 121 = 26 := rfl
theorem kd122 : kd NN 122 = 4 := rfl
theorem ln122 : LN 122 = 26 := rfl
theorem ov123 (M : Mem) (j : Int) : ov M 123 j = M 123 j := rfl
theorem ou123 (M : Mem) (j x : Int) : ust (ov M) 123 j x = ov (ust M 123 j x) := ov_ust M x rfl
theorem kd123 : kd NN 123 = 1 := rfl
theorem ln123 : LN 123 = 26 := rfl
theorem ov124 (M : Mem) (j : Int) : ov M 124 j = M 124 j := rfl
theorem ou124 (M : Mem) (j x : Int) : ust (ov M) 124 j x = ov (ust M 124 j x) := ov_ust M x rfl
theorem kd124 : kd NN 124 = 1 := rfl
theorem ln124 : LN 124 = 26 := rfl
theorem ov125 (M : Mem) (j : Int) : ov M 125 j = M 125 j := rfl
theorem ou125 (M : Mem) (j x : Int) : ust (ov M) 125 j x = ov (ust M 125 j x) := ov_ust M x rfl
theorem kd125 : kd NN 125 = 1 := rfl
theorem ln125 : LN 125 = 26 := rfl
theorem ov126 (M : Mem) (j : Int) : ov M 126 j = M 126 j := rfl
theorem ou126 (M : Mem) (j x : Int) : ust (ov M) 126 j x = ov (ust M 126 j x) := ov_ust M x rfl
theorem kd126 : kd NN 126 = 1 := rfl
theorem ln126 : LN 126 = 26 := rfl
theorem ov127 (M : Mem) (j : Int) : ov M 127 j = M 127 j := rfl
theorem ou127 (M : Mem) (j x : Int) : ust (ov M) 127 j x = ov (ust M 127 j x) := ov_ust M x rfl
theorem kd127 : kd NN 127 = 1 := rfl
theorem ln127 : LN 127 = 26 := rfl
theorem ov128 (M : Mem) (j : Int) : ov M 128 j = M 128 j := rfl
theorem ou128 (M : Mem) (j x : Int) : ust (ov M) 128 j x = ov (ust M 128 j x) := ov_ust M x rfl
theorem kd128 : kd NN 128 = 1 := rfl
theorem ln128 : LN 128 = 26 := rfl
theorem ov129 (M : Mem) (j : Int) : ov M 129 j = M 129 j := rfl
theorem ou129 (M : Mem) (j x : Int) : ust (ov M) 129 j x = ov (ust M 129 j x) := ov_ust M x rfl
theorem kd129 : kd NN 129 = 1 := rfl
theorem ln129 : LN 129 = 26 := rfl
theorem ov130 (M : Mem) (j : Int) : ov M 130 j = M 130 j := rfl
theorem ou130 (M : Mem) (j x : Int) : ust (ov M) 130 j x = ov (ust M 130 j x) := ov_ust M x rfl
theorem kd130 : kd NN 130 = 1 := rfl
theorem ln130 : LN 130 = 26 := rfl
theorem ov131 (M : Mem) (j : Int) : ov M 131 j = M 131 j := rfl
theorem ou131 (M : Mem) (j x : Int) : ust (ov M) 131 j x = ov (ust M 131 j x) := ov_ust M x rfl
theorem kd131 : kd NN 131 = 1 := rfl
theorem ln131 : LN 131 = 26 := rfl
theorem ov132 (M : Mem) (j : Int) : ov M 132 j = M 132 j := rfl
theorem ou132 (M : Mem) (j x : Int) : ust (ov M) 132 j x = ov (ust M 132 j x) := ov_ust M x rfl
theorem kd132 : kd NN 132 = 1 := rfl
theorem ln132 : LN 132 = 26 := rfl
theorem ov133 (M : Mem) (j : Int) : ov M 133 j = M 133 j := rfl
theorem ou133 (M : Mem) (j x : Int) : ust (ov M) 133 j x = ov (ust M 133 j x) := ov_ust M x rfl
theorem kd133 : kd NN 133 = 1 := rfl
theorem ln133 : LN 133 = 26 := rfl
theorem ov134 (M : Mem) (j : Int) : ov M 134 j = M 134 j := rfl
theorem ou134 (M : Mem) (j x : Int) : ust (ov M) 134 j x = ov (ust M 134 j x) := ov_ust M x rfl
theorem kd134 : kd NN 134 = 1 := rfl
theorem ln134 : LN 134 = 26 := rfl
theorem ov135 (M : Mem) (j : Int) : ov M 135 j = M 135 j := rfl
theorem ou135 (M : Mem) (j x : Int) : ust (ov M) 135 j x = ov (ust M 135 j x) := ov_ust M x rfl
theorem kd135 : kd NN 135 = 1 := rfl
theorem ln135 : LN 135 = 26 := rfl
theorem ov136 (M : Mem) (j : Int) : ov M 136 j = M 136 j := rfl
theorem ou136 (M : Mem) (j x : Int) : ust (ov M) 136 j x = ov (ust M 136 j x) := ov_ust M x rfl
theorem kd136 : kd NN 136 = 1 := rfl
theorem ln136 : LN 136 = 26 := rfl
theorem ov137 (M : Mem) (j : Int) : ov M 137 j = M 137 j := rfl
theorem ou137 (M : Mem) (j x : Int) : ust (ov M) 137 j x = ov (ust M 137 j x) := ov_ust M x rfl
theorem kd137 : kd NN 137 = 1 := rfl
theorem ln137 : LN 137 = 26 := rfl
theorem ov138 (M : Mem) (j : Int) : ov M 138 j = M 138 j := rfl
theorem ou138 (M : Mem) (j x : Int) : ust (ov M) 138 j x = ov (ust M 138 j x) := ov_ust M x rfl
theorem kd138 : kd NN 138 = 1 := rfl
theorem ln138 : LN 138 = 26 := rfl
theorem ov139 (M : Mem) (j : Int) : ov M 139 j = M 139 j := rfl
theorem ou139 (M : Mem) (j x : Int) : ust (ov M) 139 j x = ov (ust M 139 j x) := ov_ust M x rfl
theorem kd139 : kd NN 139 = 1 := rfl
theorem ln139 : LN 139 = 26 := rfl
theorem ov140 (M : Mem) (j : Int) : ov M 140 j = M 140 j := rfl
theorem ou140 (M : Mem) (j x : Int) : ust (ov M) 140 j x = ov (ust M 140 j x) := ov_ust M x rfl
theorem kd140 : kd NN 140 = 1 := rfl
theorem ln140 : LN 140 = 26 := rfl
theorem ov141 (M : Mem) (j : Int) : ov M 141 j = M 141 j := rfl
theorem ou141 (M : Mem) (j x : Int) : ust (ov M) 141 j x = ov (ust M 141 j x) := ov_ust M x rfl
theorem kd141 : kd NN 141 = 1 := rfl
theorem ln141 : LN 141 = 26 := rfl
theorem ov142 (M : Mem) (j : Int) : ov M 142 j = M 142 j := rfl
theorem ou142 (M : Mem) (j x : Int) : ust (ov M) 142 j x = ov (ust M 142 j x) := ov_ust M x rfl
theorem kd142 : kd NN 142 = 1 := rfl
theorem ln142 : LN 142 = 26 := rfl
theorem ov143 (M : Mem) (j : Int) : ov M 143 j = M 143 j := rfl
theorem ou143 (M : Mem) (j x : Int) : ust (ov M) 143 j x = ov (ust M 143 j x) := ov_ust M x rfl
theorem kd143 : kd NN 143 = 1 := rfl
theorem ln143 : LN 143 = 26 := rfl
theorem ov144 (M : Mem) (j : Int) : ov M 144 j = M 144 j := rfl
theorem ou144 (M : Mem) (j x : Int) : ust (ov M) 144 j x = ov (ust M 144 j x) := ov_ust M x rfl
theorem kd144 : kd NN 144 = 1 := rfl
theorem ln144 : LN 144 = 26 := rfl
theorem ov145 (M : Mem) (j : Int) : ov M 145 j = M 145 j := rfl
theorem ou145 (M : Mem) (j x : Int) : ust (ov M) 145 j x = ov (ust M 145 j x) := ov_ust M x rfl
theorem kd145 : kd NN 145 = 1 := rfl
theorem ln145 : LN 145 = 26 := rfl
theorem ov146 (M : Mem) (j : Int) : ov M 146 j = M 146 j := rfl
theorem ou146 (M : Mem) (j x : Int) : ust (ov M) 146 j x = ov (ust M 146 j x) := ov_ust M x rfl
theorem kd146 : kd NN 146 = 1 := rfl
theorem ln146 : LN 146 = 26 := rfl
theorem ov147 (M : Mem) (j : Int) : ov M 147 j = M 147 j := rfl
theorem ou147 (M : Mem) (j x : Int) : ust (ov M) 147 j x = ov (ust M 147 j x) := ov_ust M x rfl
theorem kd147 : kd NN 147 = 1 := rfl
theorem ln147 : LN 147 = 26 := rfl
theorem ov148 (M : Mem) (j : Int) : ov M 148 j = M 148 j := rfl
theorem ou148 (M : Mem) (j x : Int) : ust (ov M) 148 j x = ov (ust M 148 j x) := ov_ust M x rfl
theorem kd148 : kd NN 148 = 1 := rfl
theorem ln148 : LN 148 = 26 := rfl
theorem kd149 : kd NN 149 = 4 := rfl
theorem ln149 : LN 149 = 26 := rfl
theorem ov150 (M : Mem) (j : Int) : ov M 150 j = M 150 j := rfl
theorem ou150 (M : Mem) (j x : Int) : ust (ov M) 150 j x = ov (ust M 150 j x) := ov_ust M x rfl
theorem kd150 : kd NN 150 = 1 := rfl
theorem ln150 : LN 150 = 26 := rfl
theorem ov151 (M : Mem) (j : Int) : ov M 151 j = M 151 j := rfl
theorem ou151 (M : Mem) (j x : Int) : ust (ov M) 151 j x = ov (ust M 151 j x) := ov_ust M x rfl
theorem kd151 : kd NN 151 = 1 := rfl
theorem ln151 : LN 151 = 26 := rfl
theorem ov152 (M : Mem) (j : Int) : ov M 152 j = M 152 j := rfl
theorem ou152 (M : Mem) (j x : Int) : ust (ov M) 152 j x = ov (ust M 152 j x) := ov_ust M x rfl
theorem kd152 : kd NN 152 = 1 := rfl
theorem ln152 : LN 152 = 26 := rfl
theorem ov153 (M : Mem) (j : Int) : ov M 153 j = M 153 j := rfl
theorem ou153 (M : Mem) (j x : Int) : ust (ov M) 153 j x = ov (ust M 153 j x) := ov_ust M x rfl
theorem kd153 : kd NN 153 = 1 := rfl
theorem ln153 : LN 153 = 26 := rfl
theorem ov154 (M : Mem) (j : Int) : ov M 154 j = M 154 j := rfl
theorem ou154 (M : Mem) (j x : Int) : ust (ov M) 154 j x = ov (ust M 154 j x) := ov_ust M x rfl
theorem kd154 : kd NN 154 = 1 := rfl
theorem ln154 : LN 154 = 26 := rfl
theorem ov155 (M : Mem) (j : Int) : ov M 155 j = M 155 j := rfl
theorem ou155 (M : Mem) (j x : Int) : ust (ov M) 155 j x = ov (ust M 155 j x) := ov_ust M x rfl
theorem kd155 : kd NN 155 = 1 := rfl
theorem ln155 : LN 155 = 26 := rfl
theorem ov156 (M : Mem) (j : Int) : ov M 156 j = M 156 j := rfl
theorem ou156 (M : Mem) (j x : Int) : ust (ov M) 156 j x = ov (ust M 156 j x) := ov_ust M x rfl
theorem kd156 : kd NN 156 = 1 := rfl
theorem ln156 : LN 156 = 26 := rfl
theorem ov157 (M : Mem) (j : Int) : ov M 157 j = M 157 j := rfl
theorem ou157 (M : Mem) (j x : Int) : ust (ov M) 157 j x = ov (ust M 157 j x) := ov_ust M x rfl
theorem kd157 : kd NN 157 = 1 := rfl
theorem ln157 : LN 157 = 26 := rfl
theorem ov158 (M : Mem) (j : Int) : ov M 158 j = M 158 j := rfl
theorem ou158 (M : Mem) (j x : Int) : ust (ov M) 158 j x = ov (ust M 158 j x) := ov_ust M x rfl
theorem kd158 : kd NN 158 = 1 := rfl
theorem ln158 : LN 158 = 26 := rfl
theorem ov159 (M : Mem) (j : Int) : ov M 159 j = M 159 j := rfl
theorem ou159 (M : Mem) (j x : Int) : ust (ov M) 159 j x = ov (ust M 159 j x) := ov_ust M x rfl
theorem kd159 : kd NN 159 = 1 := rfl
theorem ln159 : LN 159 = 26 := rfl
theorem ov160 (M : Mem) (j : Int) : ov M 160 j = M 160 j := rfl
theorem ou160 (M : Mem) (j x : Int) : ust (ov M) 160 j x = ov (ust M 160 j x) := ov_ust M x rfl
theorem kd160 : kd NN 160 = 1 := rfl
theorem ln160 : LN 160 = 26 := rfl
theorem ov161 (M : Mem) (j : Int) : ov M 161 j = M 161 j := rfl
theorem ou161 (M : Mem) (j x : Int) : ust (ov M) 161 j x = ov (ust M 161 j x) := ov_ust M x rfl
theorem kd161 : kd NN 161 = 1 := rfl
theorem ln161 : LN 161 = 26 := rfl
theorem ov162 (M : Mem) (j : Int) : ov M 162 j = M 162 j := rfl
theorem ou162 (M : Mem) (j x : Int) : ust (ov M) 162 j x = ov (ust M 162 j x) := ov_ust M x rfl
theorem kd162 : kd NN 162 = 1 := rfl
theorem ln162 : LN 162 = 26 := rfl
theorem ov163 (M : Mem) (j : Int) : ov M 163 j = M 163 j := rfl
theorem ou163 (M : Mem) (j x : Int) : ust (ov M) 163 j x = ov (ust M 163 j x) := ov_ust M x rfl
theorem kd163 : kd NN 163 = 1 := rfl
theorem ln163 : LN 163 = 26 := rfl
theorem ov164 (M : Mem) (j : Int) : ov M 164 j = M 164 j := rfl
theorem ou164 (M : Mem) (j x : Int) : ust (ov M) 164 j x = ov (ust M 164 j x) := ov_ust M x rfl
theorem kd164 : kd NN 164 = 1 := rfl
theorem ln164 : LN 164 = 26 := rfl
theorem ov165 (M : Mem) (j : Int) : ov M 165 j = M 165 j := rfl
theorem ou165 (M : Mem) (j x : Int) : ust (ov M) 165 j x = ov (ust M 165 j x) := ov_ust M x rfl
theorem kd165 : kd NN 165 = 1 := rfl
theorem ln165 : LN 165 = 26 := rfl
theorem ov166 (M : Mem) (j : Int) : ov M 166 j = M 166 j := rfl
theorem ou166 (M : Mem) (j x : Int) : ust (ov M) 166 j x = ov (ust M 166 j x) := ov_ust M x rfl
theorem kd166 : kd NN 166 = 1 := rfl
theorem ln166 : LN 166 = 26 := rfl
theorem ov167 (M : Mem) (j : Int) : ov M 167 j = M 167 j := rfl
theorem ou167 (M : Mem) (j x : Int) : ust (ov M) 167 j x = ov (ust M 167 j x) := ov_ust M x rfl
theorem kd167 : kd NN 167 = 1 := rfl
theorem ln167 : LN 167 = 26 := rfl
theorem ov168 (M : Mem) (j : Int) : ov M 168 j = M 168 j := rfl
theorem ou168 (M : Mem) (j x : Int) : ust (ov M) 168 j x = ov (ust M 168 j x) := ov_ust M x rfl
theorem kd168 : kd NN 168 = 1 := rfl
theorem ln168 : LN 168 = 26 := rfl
theorem ov169 (M : Mem) (j : Int) : ov M 169 j = M 169 j := rfl
theorem ou169 (M : Mem) (j x : Int) : ust (ov M) 169 j x = ov (ust M 169 j x) := ov_ust M x rfl
theorem kd169 : kd NN 169 = 1 := rfl
theorem ln169 : LN 169 = 26 := rfl
theorem ov170 (M : Mem) (j : Int) : ov M 170 j = M 170 j := rfl
theorem ou170 (M : Mem) (j x : Int) : ust (ov M) 170 j x = ov (ust M 170 j x) := ov_ust M x rfl
theorem kd170 : kd NN 170 = 1 := rfl
theorem ln170 : LN 170 = 26 := rfl
theorem ov171 (M : Mem) (j : Int) : ov M 171 j = M 171 j := rfl
theorem ou171 (M : Mem) (j x : Int) : ust (ov M) 171 j x = ov (ust M 171 j x) := ov_ust M x rfl
theorem kd171 : kd NN 171 = 1 := rfl
theorem ln171 : LN 171 = 26 := rfl
theorem ov172 (M : Mem) (j : Int) : ov M 172 j = M 172 j := rfl
theorem ou172 (M : Mem) (j x : Int) : ust (ov M) 172 j x = ov (ust M 172 j x) := ov_ust M x rfl
theorem kd172 : kd NN 172 = 1 := rfl
theorem ln172 : LN 172 = 26 := rfl
theorem ov173 (M : Mem) (j : Int) : ov M 173 j = M 173 j := rfl
theorem ou173 (M : Mem) (j x : Int) : ust (ov M) 173 j x = ov (ust M 173 j x) := ov_ust M x rfl
theorem kd173 : kd NN 173 = 1 := rfl
theorem ln173 : LN 173 = 26 := rfl
theorem ov174 (M : Mem) (j : Int) : ov M 174 j = M 174 j := rfl
theorem ou174 (M : Mem) (j x : Int) : ust (ov M) 174 j x = ov (ust M 174 j x) := ov_ust M x rfl
theorem kd174 : kd NN 174 = 1 := rfl
theorem ln174 : LN 174 = 26 := rfl
theorem ov175 (M : Mem) (j : Int) : ov M 175 j = M 175 j := rfl
theorem ou175 (M : Mem) (j x : Int) : ust (ov M) 175 j x = ov (ust M 175 j x) := ov_ust M x rfl
theorem kd175 : kd NN 175 = 1 := rfl
theorem ln175 : LN 175 = 26 := rfl
theorem ov176 (M : Mem) (j : Int) : ov M 176 j = M 176 j := rfl
theorem ou176 (M : Mem) (j x : Int) : ust (ov M) 176 j x = ov (ust M 176 j x) := ov_ust M x rfl
theorem kd176 : kd NN 176 = 1 := rfl
theorem ln176 : LN 176 = 26 := rfl
theorem ov177 (M : Mem) (j : Int) : ov M 177 j = M 177 j := rfl
theorem ou177 (M : Mem) (j x : Int) : ust (ov M) 177 j x = ov (ust M 177 j x) := ov_ust M x rfl
theorem kd177 : kd NN 177 = 1 := rfl
theorem ln177 : LN 177 = 26 := rfl
theorem ov178 (M : Mem) (j : Int) : ov M 178 j = M 178 j := rfl
theorem ou178 (M : Mem) (j x : Int) : ust (ov M) 178 j x = ov (ust M 178 j x) := ov_ust M x rfl
theorem kd178 : kd NN 178 = 1 := rfl
theorem ln178 : LN 178 = 26 := rfl
theorem ov179 (M : Mem) (j : Int) : ov M 179 j = M 179 j := rfl
theorem ou179 (M : Mem) (j x : Int) : ust (ov M) 179 j x = ov (ust M 179 j x) := ov_ust M x rfl
theorem kd179 : kd NN 179 = 1 := rfl
theorem ln179 : LN 179 = 26 := rfl
theorem ov180 (M : Mem) (j : Int) : ov M 180 j = M 180 j := rfl
theorem ou180 (M : Mem) (j x : Int) : ust (ov M) 180 j x = ov (ust M 180 j x) := ov_ust M x rfl
theorem kd180 : kd NN 180 = 1 := rfl
theorem ln180 : LN 180 = 13 := rfl
theorem ov181 (M : Mem) (j : Int) : ov M 181 j = M 181 j := rfl
theorem ou181 (M : Mem) (j x : Int) : ust (ov M) 181 j x = ov (ust M 181 j x) := ov_ust M x rfl
theorem kd181 : kd NN 181 = 1 := rfl
theorem ln181 : LN 181 = 26 := rfl
theorem ov182_0 (M : Mem) : ov M 182 0 = 2 := rfl
theorem ov182_1 (M : Mem) : ov M 182 1 = 21 := rfl
theorem ov182_2 (M : Mem) : ov M 182 2 = 183 := rfl
theorem ov182_3 (M : Mem) : ov M 182 3 = M 182 3 := rfl
theorem ou182_3 (M : Mem) (x : Int) : ust (ov M) 182 3 x = ov (ust M 182 3 x) := ov_ust M x rfl
theorem ov182_4 (M : Mem) : ov M 182 4 = M 182 4 := rfl
theorem ou182_4 (M : Mem) (x : Int) : ust (ov M) 182 4 x = ov (ust M 182 4 x) := ov_ust M x rfl
theorem ov182_5 (M : Mem) : ov M 182 5 = 184 := rfl
theorem ov182_6 (M : Mem) : ov M 182 6 = 186 := rfl
theorem kd182 : kd NN 182 = 20 := rfl
theorem ln182 : LN 182 = 7 := rfl
theorem ov183 (M : Mem) (j : Int) : ov M 183 j = M 183 j := rfl
theorem ou183 (M : Mem) (j x : Int) : ust (ov M) 183 j x = ov (ust M 183 j x) := ov_ust M x rfl
theorem kd183 : kd NN 183 = 1 := rfl
theorem ln183 : LN 183 = 338 := rfl
theorem kd184 : kd NN 184 = 18 := rfl
theorem ln184 : LN 184 = 2 := rfl
theorem ov185 (M : Mem) (j : Int) : ov M 185 j = M 185 j := rfl
theorem ou185 (M : Mem) (j x : Int) : ust (ov M) 185 j x = ov (ust M 185 j x) := ov_ust M x rfl
theorem kd185 : kd NN 185 = 1 := rfl
theorem ln185 : LN 185 = 8 := rfl
theorem kd186 : kd NN 186 = 18 := rfl
theorem ln186 : LN 186 = 2 := rfl
theorem ov187 (M : Mem) (j : Int) : ov M 187 j = M 187 j := rfl
theorem ou187 (M : Mem) (j x : Int) : ust (ov M) 187 j x = ov (ust M 187 j x) := ov_ust M x rfl
theorem kd187 : kd NN 187 = 1 := rfl
theorem ln187 : LN 187 = 8 := rfl
theorem ov188_0 (M : Mem) : ov M 188 0 = 189 := rfl
theorem kd188 : kd NN 188 = 12 := rfl
theorem ln188 : LN 188 = 1 := rfl
theorem ov189 (M : Mem) (j : Int) : ov M 189 j = M 189 j := rfl
theorem ou189 (M : Mem) (j x : Int) : ust (ov M) 189 j x = ov (ust M 189 j x) := ov_ust M x rfl
theorem kd189 : kd NN 189 = 1 := rfl
theorem ln189 : LN 189 = 13 := rfl
theorem ov190_0 (M : Mem) : ov M 190 0 = M 190 0 := rfl
theorem ou190_0 (M : Mem) (x : Int) : ust (ov M) 190 0 x = ov (ust M 190 0 x) := ov_ust M x rfl
theorem ov190_1 (M : Mem) : ov M 190 1 = M 190 1 := rfl
theorem ou190_1 (M : Mem) (x : Int) : ust (ov M) 190 1 x = ov (ust M 190 1 x) := ov_ust M x rfl
theorem ov190_2 (M : Mem) : ov M 190 2 = M 190 2 := rfl
theorem ou190_2 (M : Mem) (x : Int) : ust (ov M) 190 2 x = ov (ust M 190 2 x) := ov_ust M x rfl
theorem ov190_3 (M : Mem) : ov M 190 3 = 191 := rfl
theorem ov190_4 (M : Mem) : ov M 190 4 = M 190 4 := rfl
theorem ou190_4 (M : Mem) (x : Int) : ust (ov M) 190 4 x = ov (ust M 190 4 x) := ov_ust M x rfl
theorem ov190_5 (M : Mem) : ov M 190 5 = M 190 5 := rfl
theorem ou190_5 (M : Mem) (x : Int) : ust (ov M) 190 5 x = ov (ust M 190 5 x) := ov_ust M x rfl
theorem ov190_6 (M : Mem) : ov M 190 6 = 192 := rfl
theorem ov190_7 (M : Mem) : ov M 190 7 = 193 := rfl
theorem ov190_8 (M : Mem) : ov M 190 8 = 194 := rfl
theorem ov190_9 (M : Mem) : ov M 190 9 = 195 := rfl
theorem ov190_10 (M : Mem) : ov M 190 10 = 196 := rfl
theorem ov190_11 (M : Mem) : ov M 190 11 = 197 := rfl
theorem ov190_12 (M : Mem) : ov M 190 12 = 198 := rfl
theorem ov190_13 (M : Mem) : ov M 190 13 = 199 := rfl
theorem ov190_14 (M : Mem) : ov M 190 14 = M 190 14 := rfl
theorem ou190_14 (M : Mem) (x : Int) : ust (ov M) 190 14 x = ov (ust M 190 14 x) := ov_ust M x rfl
theorem ov190_15 (M : Mem) : ov M 190 15 = 200 := rfl
theorem ov190_16 (M : Mem) : ov M 190 16 = 201 := rfl
theorem ov190_17 (M : Mem) : ov M 190 17 = 202 := rfl
theorem ov190_18 (M : Mem) : ov M 190 18 = 203 := rfl
theorem ov190_19 (M : Mem) : ov M 190 19 = M 190 19 := rfl
theorem ou190_19 (M : Mem) (x : Int) : ust (ov M) 190 19 x = ov (ust M 190 19 x) := ov_ust M x rfl
theorem ov190_20 (M : Mem) : ov M 190 20 = 204 := rfl
theorem ov190_21 (M : Mem) : ov M 190 21 = 205 := rfl
theorem ov190_22 (M : Mem) : ov M 190 22 = M 190 22 := rfl
theorem ou190_22 (M : Mem) (x : Int) : ust (ov M) 190 22 x = ov (ust M 190 22 x) := ov_ust M x rfl
theorem ov190_23 (M : Mem) : ov M 190 23 = 206 := rfl
theorem ov190_24 (M : Mem) : ov M 190 24 = 207 := rfl
theorem ov190_25 (M : Mem) : ov M 190 25 = 208 := rfl
theorem ov190_26 (M : Mem) : ov M 190 26 = 209 := rfl
theorem ov190_27 (M : Mem) : ov M 190 27 = 210 := rfl
theorem ov190_28 (M : Mem) : ov M 190 28 = 211 := rfl
theorem ov190_29 (M : Mem) : ov M 190 29 = 212 := rfl
theorem ov190_30 (M : Mem) : ov M 190 30 = 213 := rfl
theorem ov190_31 (M : Mem) : ov M 190 31 = 214 := rfl
theorem ov190_32 (M : Mem) : ov M 190 32 = M 190 32 := rfl
theorem ou190_32 (M : Mem) (x : Int) : ust (ov M) 190 32 x = ov (ust M 190 32 x) := ov_ust M x rfl
theorem ov190_33 (M : Mem) : ov M 190 33 = 215 := rfl
theorem ov190_34 (M : Mem) : ov M 190 34 = 216 := rfl
theorem ov190_35 (M : Mem) : ov M 190 35 = M 190 35 := rfl
theorem ou190_35 (M : Mem) (x : Int) : ust (ov M) 190 35 x = ov (ust M 190 35 x) := ov_ust M x rfl
theorem ov190_36 (M : Mem) : ov M 190 36 = M 190 36 := rfl
theorem ou190_36 (M : Mem) (x : Int) : ust (ov M) 190 36 x = ov (ust M 190 36 x) := ov_ust M x rfl
theorem ov190_37 (M : Mem) : ov M 190 37 = 217 := rfl
theorem kd190 : kd NN 190 = 22 := rfl
theorem ln190 : LN 190 = 38 := rfl
theorem ov191 (M : Mem) (j : Int) : ov M 191 j = M 191 j := rfl
theorem ou191 (M : Mem) (j x : Int) : ust (ov M) 191 j x = ov (ust M 191 j x) := ov_ust M x rfl
theorem kd191 : kd NN 191 = 1 := rfl
theorem ln191 : LN 191 = 6 := rfl
theorem ov192 (M : Mem) (j : Int) : ov M 192 j = M 192 j := rfl
theorem ou192 (M : Mem) (j x : Int) : ust (ov M) 192 j x = ov (ust M 192 j x) := ov_ust M x rfl
theorem kd192 : kd NN 192 = 1 := rfl
theorem ln192 : LN 192 = 32 := rfl
theorem ov193 (M : Mem) (j : Int) : ov M 193 j = M 193 j := rfl
theorem ou193 (M : Mem) (j x : Int) : ust (ov M) 193 j x = ov (ust M 193 j x) := ov_ust M x rfl
theorem kd193 : kd NN 193 = 1 := rfl
theorem ln193 : LN 193 = 32 := rfl
theorem ov194 (M : Mem) (j : Int) : ov M 194 j = M 194 j := rfl
theorem ou194 (M : Mem) (j x : Int) : ust (ov M) 194 j x = ov (ust M 194 j x) := ov_ust M x rfl
theorem kd194 : kd NN 194 = 1 := rfl
theorem ln194 : LN 194 = 32 := rfl
theorem ov195 (M : Mem) (j : Int) : ov M 195 j = M 195 j := rfl
theorem ou195 (M : Mem) (j x : Int) : ust (ov M) 195 j x = ov (ust M 195 j x) := ov_ust M x rfl
theorem kd195 : kd NN 195 = 1 := rfl
theorem ln195 : LN 195 = 30 := rfl
theorem ov196 (M : Mem) (j : Int) : ov M 196 j = M 196 j := rfl
theorem ou196 (M : Mem) (j x : Int) : ust (ov M) 196 j x = ov (ust M 196 j x) := ov_ust M x rfl
theorem kd196 : kd NN 196 = 1 := rfl
theorem ln196 : LN 196 = 26 := rfl
theorem ov197 (M : Mem) (j : Int) : ov M 197 j = M 197 j := rfl
theorem ou197 (M : Mem) (j x : Int) : ust (ov M) 197 j x = ov (ust M 197 j x) := ov_ust M x rfl
theorem kd197 : kd NN 197 = 1 := rfl
theorem ln197 : LN 197 = 13 := rfl
theorem ov198 (M : Mem) (j : Int) : ov M 198 j = M 198 j := rfl
theorem ou198 (M : Mem) (j x : Int) : ust (ov M) 198 j x = ov (ust M 198 j x) := ov_ust M x rfl
theorem kd198 : kd NN 198 = 1 := rfl
theorem ln198 : LN 198 = 960 := rfl
theorem ov199 (M : Mem) (j : Int) : ov M 199 j = M 199 j := rfl
theorem ou199 (M : Mem) (j x : Int) : ust (ov M) 199 j x = ov (ust M 199 j x) := ov_ust M x rfl
theorem kd199 : kd NN 199 = 1 := rfl
theorem ln199 : LN 199 = 40 := rfl
theorem ov200 (M : Mem) (j : Int) : ov M 200 j = M 200 j := rfl
theorem ou200 (M : Mem) (j x : Int) : ust (ov M) 200 j x = ov (ust M 200 j x) := ov_ust M x rfl
theorem kd200 : kd NN 200 = 2 := rfl
theorem ln200 : LN 200 = 5 := rfl
theorem ov201 (M : Mem) (j : Int) : ov M 201 j = M 201 j := rfl
theorem ou201 (M : Mem) (j x : Int) : ust (ov M) 201 j x = ov (ust M 201 j x) := ov_ust M x rfl
theorem kd201 : kd NN 201 = 2 := rfl
theorem ln201 : LN 201 = 7 := rfl
theorem ov202 (M : Mem) (j : Int) : ov M 202 j = M 202 j := rfl
theorem ou202 (M : Mem) (j x : Int) : ust (ov M) 202 j x = ov (ust M 202 j x) := ov_ust M x rfl
theorem kd202 : kd NN 202 = 2 := rfl
theorem ln202 : LN 202 = 7 := rfl
theorem ov203 (M : Mem) (j : Int) : ov M 203 j = M 203 j := rfl
theorem ou203 (M : Mem) (j x : Int) : ust (ov M) 203 j x = ov (ust M 203 j x) := ov_ust M x rfl
theorem kd203 : kd NN 203 = 1 := rfl
theorem ln203 : LN 203 = 2600 := rfl
theorem ov204 (M : Mem) (j : Int) : ov M 204 j = M 204 j := rfl
theorem ou204 (M : Mem) (j x : Int) : ust (ov M) 204 j x = ov (ust M 204 j x) := ov_ust M x rfl
theorem kd204 : kd NN 204 = 1 := rfl
theorem ln204 : LN 204 = 40 := rfl
theorem ov205 (M : Mem) (j : Int) : ov M 205 j = M 205 j := rfl
theorem ou205 (M : Mem) (j x : Int) : ust (ov M) 205 j x = ov (ust M 205 j x) := ov_ust M x rfl
theorem kd205 : kd NN 205 = 2 := rfl
theorem ln205 : LN 205 = 4 := rfl
theorem ov206 (M : Mem) (j : Int) : ov M 206 j = M 206 j := rfl
theorem ou206 (M : Mem) (j x : Int) : ust (ov M) 206 j x = ov (ust M 206 j x) := ov_ust M x rfl
theorem kd206 : kd NN 206 = 1 := rfl
theorem ln206 : LN 206 = 12 := rfl
theorem ov207 (M : Mem) (j : Int) : ov M 207 j = M 207 j := rfl
theorem ou207 (M : Mem) (j x : Int) : ust (ov M) 207 j x = ov (ust M 207 j x) := ov_ust M x rfl
theorem kd207 : kd NN 207 = 1 := rfl
theorem ln207 : LN 207 = 32 := rfl
theorem ov208 (M : Mem) (j : Int) : ov M 208 j = M 208 j := rfl
theorem ou208 (M : Mem) (j x : Int) : ust (ov M) 208 j x = ov (ust M 208 j x) := ov_ust M x rfl
theorem kd208 : kd NN 208 = 1 := rfl
theorem ln208 : LN 208 = 13 := rfl
theorem ov209 (M : Mem) (j : Int) : ov M 209 j = M 209 j := rfl
theorem ou209 (M : Mem) (j x : Int) : ust (ov M) 209 j x = ov (ust M 209 j x) := ov_ust M x rfl
theorem kd209 : kd NN 209 = 1 := rfl
theorem ln209 : LN 209 = 10 := rfl
theorem ov210 (M : Mem) (j : Int) : ov M 210 j = M 210 j := rfl
theorem ou210 (M : Mem) (j x : Int) : ust (ov M) 210 j x = ov (ust M 210 j x) := ov_ust M x rfl
theorem kd210 : kd NN 210 = 1 := rfl
theorem ln210 : LN 210 = 10 := rfl
theorem ov211 (M : Mem) (j : Int) : ov M 211 j = M 211 j := rfl
theorem ou211 (M : Mem) (j x : Int) : ust (ov M) 211 j x = ov (ust M 211 j x) := ov_ust M x rfl
theorem kd211 : kd NN 211 = 1 := rfl
theorem ln211 : LN 211 = 10 := rfl
theorem ov212 (M : Mem) (j : Int) : ov M 212 j = M 212 j := rfl
theorem ou212 (M : Mem) (j x : Int) : ust (ov M) 212 j x = ov (ust M 212 j x) := ov_ust M x rfl
theorem kd212 : kd NN 212 = 1 := rfl
theorem ln212 : LN 212 = 10 := rfl
theorem ov213 (M : Mem) (j : Int) : ov M 213 j = M 213 j := rfl
theorem ou213 (M : Mem) (j x : Int) : ust (ov M) 213 j x = ov (ust M 213 j x) := ov_ust M x rfl
theorem kd213 : kd NN 213 = 1 := rfl
theorem ln213 : LN 213 = 2000 := rfl
theorem ov214 (M : Mem) (j : Int) : ov M 214 j = M 214 j := rfl
theorem ou214 (M : Mem) (j x : Int) : ust (ov M) 214 j x = ov (ust M 214 j x) := ov_ust M x rfl
theorem kd214 : kd NN 214 = 1 := rfl
theorem ln214 : LN 214 = 36000 := rfl
theorem ov215 (M : Mem) (j : Int) : ov M 215 j = M 215 j := rfl
theorem ou215 (M : Mem) (j x : Int) : ust (ov M) 215 j x = ov (ust M 215 j x) := ov_ust M x rfl
theorem kd215 : kd NN 215 = 1 := rfl
theorem ln215 : LN 215 = 6 := rfl
theorem ov216 (M : Mem) (j : Int) : ov M 216 j = M 216 j := rfl
theorem ou216 (M : Mem) (j x : Int) : ust (ov M) 216 j x = ov (ust M 216 j x) := ov_ust M x rfl
theorem kd216 : kd NN 216 = 1 := rfl
theorem ln216 : LN 216 = 6 := rfl
theorem ov217 (M : Mem) (j : Int) : ov M 217 j = M 217 j := rfl
theorem ou217 (M : Mem) (j x : Int) : ust (ov M) 217 j x = ov (ust M 217 j x) := ov_ust M x rfl
theorem kd217 : kd NN 217 = 1 := rfl
theorem ln217 : LN 217 = 832 := rfl
