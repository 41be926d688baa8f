import java.util.Random;

/** Terms 4, promises 24 to 28: the sentences about codes, the told row, the nearest word and the least, one test each. */
public final class CodeEdges {
    private static final int BAD = Check.BAD, NO = Check.NO, NONE = Check.NONE;
    private static final int[] NO_POLES = {-1, 31, Check.LEAST, Check.GREATEST};

    /** By 3 with no point but the end: length 0, width 0. */
    private static CurveRooms empty() {
        return Check.onCurve(3, 2, 2, 0, 1);
    }

    private static PlainCode plain(int[] told, int m) {
        return new PlainCode(told[0], Edges.rowOf(told), m);
    }

    private static void tell(CurveRooms x, int... row) {
        for (int j = 0; j < row.length; j++) x.tell(j, row[j]);
    }

    private static void near(String what, CurveRooms x, int m, int apart, int... digits) {
        Check.due(what + ": apart", x.near(m, -1), apart);
        for (int i = 0; i < digits.length; i++) Check.due(what + ": number of " + i, x.near(m, i), digits[i]);
        Check.due(what + ": not so many", x.near(m, digits.length), NONE);
    }

    // ---- promise 24

    @Sentence(promise = 24, says = "A CODE by m (0 .. 30) at the END alone:")
    static void p24FromNoughtToThirty() {
        CurveRooms x = Edges.genus1();
        Check.due("by 0: the numbers", x.code(0, 1), 1);
        Check.due("by 30: all words", x.code(30, 1), 4);
        for (int m : NO_POLES) {
            Edges.refused("code(" + m + ", 0)", x, () -> x.code(m, 0), BAD);
            Edges.refused("code(" + m + ", 1)", x, () -> x.code(m, 1), BAD);
        }
    }

    @Sentence(promise = 24, says = "at the END alone:")
    static void p24AmountsAreNotAskedFor() {
        CurveRooms x = Edges.full(), y = Edges.genus2();
        for (int m = 0; m <= 30; m++) Check.due("width by " + m, x.code(m, 1), y.code(m, 1));
        Check.due("length", x.code(30, 0), 10);
        for (int i = 1; i < 11; i++) Check.due("function 3", x.read(9, 3, i), y.read(9, 3, i));
    }

    @Sentence(promise = 24, says = "functions of that ROOM: 1, x, x x, .., y, x y, .. those with a pole of m at most, by their poles rising;")
    static void p24PolesOfAtMost() {
        CurveRooms x = Check.onCurve(13, 1, 4, 8, 1), y = Check.onCurve(11, 4, 0, 0, 0, 0, 1);
        int[] byThree = {1, 1, 2, 3, 4, 5, 6, 7}, byFive = {1, 1, 2, 2, 3, 4, 5, 6};
        for (int m = 0; m < 8; m++) {
            Check.due("of degree 3, by " + m, x.code(m, 1), byThree[m]);
            Check.due("of degree 5, by " + m, y.code(m, 1), byFive[m]);
        }
        // by 5 the functions are 1, x, x x, y; by 7 x x x, x y come behind them
        for (int i = 1; i < 23; i++) {
            int x0 = y.point(i, 0), y0 = y.point(i, 1);
            Check.due("1", y.read(7, 0, i), 1);
            Check.due("x", y.read(7, 1, i), x0);
            Check.due("x x", y.read(7, 2, i), x0 * x0 % 11);
            Check.due("y", y.read(7, 3, i), y0);
            Check.due("x x x", y.read(7, 4, i), x0 * x0 * x0 % 11);
            Check.due("x y", y.read(7, 5, i), x0 * y0 % 11);
        }
    }

    @Sentence(promise = 24, says = "each read off at all POINTS but the END: a WORD.")
    static void p24Length() {
        for (int[] told : Edges.CURVES) {
            CurveRooms x = Edges.made(told);
            for (int m : new int[] {0, 1, 30}) Check.due("length", x.code(m, 0), x.points() - 1);
        }
    }

    @Sentence(promise = 24, says = "LENGTH, WIDTH of the CODE: how many POINTS, functions (where functions read off alike are one: what is left of them, the first ones that are no sums of those ahead).")
    static void p24WhatIsLeft() {
        for (int[] told : Edges.CURVES) {
            CurveRooms x = Edges.made(told);
            for (int m = 0; m <= 30; m++) Check.due("width by " + m, x.code(m, 1), plain(told, m).width());
        }
    }

    @Sentence(promise = 24, says = "LENGTH (0), WIDTH (1) of the CODE by m.")
    static void p24ReadOffAlike() {
        CurveRooms x = Edges.genus1();
        Check.due("1, x, y", x.code(3, 1), 3);
        Check.due("x x is 2 x at 0 and 2", x.code(4, 1), 3);
        Check.due("x y is none of those", x.code(5, 1), 4);
        Check.due("no more than points", x.code(6, 1), 4);
        CurveRooms five = Check.onCurve(5, 0, 4, 0, 0, 0, 1);
        Check.due("y is 0 at all points", five.code(5, 1), 3);
        Check.due("all but y, x y, ..", five.code(30, 1), 5);
        Check.due("no points: no functions", empty().code(30, 1), 0);
        Check.due("no points: no functions", empty().code(0, 1), 0);
        Check.due("no points: no places", empty().code(0, 0), 0);
        CurveRooms one = Check.onCurve(5, 0, 2, 0, 1);
        Check.due("one point: 1 alone", one.code(30, 1), 1);
    }

    @Sentence(promise = 24, says = "BAD; NO.")
    static void p24Wrong() {
        CurveRooms x = Edges.full();
        for (int what : new int[] {-1, 2, Check.LEAST, Check.GREATEST}) Edges.refused("code(3, " + what + ")", x, () -> x.code(3, what), BAD);
        for (int m : NO_POLES) Edges.refused("code(" + m + ", 2)", x, () -> x.code(m, 2), BAD);
    }

    @Sentence(promise = 24, says = "BAD; NO.")
    static void p24WithoutCurve() {
        CurveRooms x = new CurveRooms();
        for (int what : new int[] {0, 1}) {
            Edges.refused("code(0, " + what + ")", x, () -> x.code(0, what), NO);
            Edges.refused("code(30, " + what + ")", x, () -> x.code(30, what), NO);
        }
    }

    @Sentence(promise = 24, says = "BAD; NO.")
    static void p24BothMeet() {
        CurveRooms x = new CurveRooms();
        for (int m : NO_POLES) Edges.refused("code(" + m + ", 0) without a curve", x, () -> x.code(m, 0), BAD);
        for (int what : new int[] {-1, 2}) Edges.refused("code(0, " + what + ") without a curve", x, () -> x.code(0, what), BAD);
    }

    // ---- promise 25

    @Sentence(promise = 25, says = "What function i of it (of those left) is at a POINT (1 on).")
    static void p25EachFunction() {
        for (int[] told : Edges.CURVES) {
            for (int m : new int[] {0, 3, 6, 30}) {
                PlainCode code = plain(told, m);
                for (int i = 0; i < code.width(); i++) {
                    CurveRooms x = Edges.made(told);
                    for (int j = 0; j < code.length; j++) {
                        Check.due("read(" + m + ", " + i + ", " + (j + 1) + ")", x.read(m, i, j + 1), code.words.get(i)[j]);
                    }
                }
            }
        }
    }

    @Sentence(promise = 25, says = "(of those left)")
    static void p25OfThoseLeft() {
        CurveRooms x = Edges.genus1();
        int[] product = {0, 0, 4, 3};
        for (int j = 0; j < 4; j++) Check.due("3 is x y, since x x is left out", x.read(5, 3, j + 1), product[j]);
        Edges.refused("read(4, 3, 1)", x, () -> x.read(4, 3, 1), BAD);
        CurveRooms five = Check.onCurve(5, 0, 4, 0, 0, 0, 1);
        for (int j = 1; j < 6; j++) Check.due("3 is x x x, since y is left out", five.read(6, 3, j), five.point(j, 0) * five.point(j, 0) * five.point(j, 0) % 5);
    }

    @Sentence(promise = 25, says = "is at a POINT (1 on).")
    static void p25NotAtTheEnd() {
        CurveRooms x = Edges.genus1();
        Check.due("at 1", x.read(3, 2, 1), 1);
        Check.due("at the last", x.read(3, 2, 4), 5);
        for (int i : new int[] {0, -1, 5, 26, 27, Check.LEAST, Check.GREATEST}) {
            Edges.refused("read(3, 0, " + i + ")", x, () -> x.read(3, 0, i), BAD);
        }
    }

    @Sentence(promise = 25, says = "BAD (without a CURVE: a POINT above 26, too); NO; then BAD: no such function.")
    static void p25Wrong() {
        CurveRooms x = Edges.full();
        for (int m : NO_POLES) Edges.refused("read(" + m + ", 0, 1)", x, () -> x.read(m, 0, 1), BAD);
        for (int i : new int[] {-1, 10, 11, 99, Check.LEAST, Check.GREATEST}) Edges.refused("read(30, " + i + ", 1)", x, () -> x.read(30, i, 1), BAD);
        Check.due("the last function", x.read(30, 9, 1), plain(new int[] {7, 3, 1, 0, 0, 0, 1}, 30).words.get(9)[0]);
        CurveRooms none = empty();
        Edges.refused("no points", none, () -> none.read(30, 0, 1), BAD);
        Edges.refused("no points", none, () -> none.read(30, 0, 0), BAD);
    }

    @Sentence(promise = 25, says = "BAD (without a CURVE: a POINT above 26, too); NO; then BAD: no such function.")
    static void p25WithoutCurve() {
        CurveRooms x = new CurveRooms();
        Edges.refused("read(0, 0, 1)", x, () -> x.read(0, 0, 1), NO);
        Edges.refused("read(30, 0, 26)", x, () -> x.read(30, 0, 26), NO);
        Edges.refused("read(0, 0, 27)", x, () -> x.read(0, 0, 27), BAD);
        Edges.refused("read(0, 0, greatest)", x, () -> x.read(0, 0, Check.GREATEST), BAD);
    }

    @Sentence(promise = 25, says = "NO; then BAD: no such function.")
    static void p25NoAheadOfNoSuchFunction() {
        CurveRooms x = new CurveRooms();
        for (int i : new int[] {1, 26, 99, Check.GREATEST}) Edges.refused("read(0, " + i + ", 1) without a curve", x, () -> x.read(0, i, 1), NO);
    }

    @Sentence(promise = 25, says = "BAD (without a CURVE: a POINT above 26, too); NO;")
    static void p25BothMeet() {
        CurveRooms x = new CurveRooms();
        for (int m : NO_POLES) Edges.refused("read(" + m + ", 0, 1) without a curve", x, () -> x.read(m, 0, 1), BAD);
        for (int i : new int[] {0, -1, Check.LEAST}) Edges.refused("read(0, 0, " + i + ") without a curve", x, () -> x.read(0, 0, i), BAD);
        Edges.refused("read(0, -1, 1) without a curve", x, () -> x.read(0, -1, 1), BAD);
        Edges.refused("read(0, 99, 27) without a curve", x, () -> x.read(0, 99, 27), BAD);
    }

    // ---- promise 26

    @Sentence(promise = 26, says = "Place j (from 0 on, below 26) of the told row: what it was.")
    static void p26WhatItWas() {
        CurveRooms x = Check.onPrime(13);
        for (int j = 0; j < 26; j++) Check.due("0 at first", x.tell(j, j / 2), 0);
        for (int j = 0; j < 26; j++) Check.due("tell(" + j + ")", x.tell(j, 12), j / 2);
        for (int j = 0; j < 26; j++) Check.due("tell(" + j + ")", x.tell(j, 0), 12);
    }

    @Sentence(promise = 26, says = "Place j (from 0 on, below 26) of the told row: what it was.")
    static void p26WithAndWithoutCurve() {
        CurveRooms x = new CurveRooms();
        Check.due("without a curve", x.tell(25, 6), 0);
        Check.setCurve(x, 1, 1, 0, 1);
        Check.due("beyond the length of the code", x.tell(25, 5), 6);
        Check.setCurve(x, 3, 1, 0, 0, 0, 1);
        Check.due("another curve", x.tell(25, 0), 5);
    }

    @Sentence(promise = 26, says = "BAD: also v not 0 .. P less 1.")
    static void p26Wrong() {
        for (int p : Check.PRIMES) {
            CurveRooms x = Check.onPrime(p);
            Check.due("the greatest number", x.tell(0, p - 1), 0);
            for (int v : new int[] {p, -1, Check.LEAST, Check.GREATEST}) {
                Edges.refused("tell(0, " + v + ")", x, () -> x.tell(0, v), BAD);
                Edges.refused("tell(26, " + v + ")", x, () -> x.tell(26, v), BAD);
            }
            for (int j : new int[] {26, 27, -1, Check.LEAST, Check.GREATEST}) Edges.refused("tell(" + j + ", 0)", x, () -> x.tell(j, 0), BAD);
            Check.due("it stays", x.tell(0, 0), p - 1);
        }
    }

    // ---- promise 27

    @Sentence(promise = 27, says = "NEAR: of all WORDS of the CODE that which differs from a told row in the fewest places, of like ones the first by NUMBERS of functions as digits (the last function's highest).")
    static void p27AllWords() {
        Random random = new Random(27);
        for (int[] told : Edges.CURVES) {
            for (int m = 0; m <= 12; m++) {
                PlainCode code = plain(told, m);
                if (code.wordMany() > 20000) continue;
                CurveRooms x = Edges.made(told);
                int[] row = new int[26];
                for (int j = 0; j < 26; j++) row[j] = random.nextInt(random.nextBoolean() ? 2 : told[0]);
                tell(x, row);
                int[] best = code.near(row), digits = Plain.digits(told[0], best[1], code.width());
                near("by " + told[0] + ", m " + m, x, m, best[0], digits);
            }
        }
    }

    @Sentence(promise = 27, says = "of like ones the first by NUMBERS of functions as digits (the last function's highest).")
    static void p27OfLikeOnesTheFirst() {
        CurveRooms x = Edges.genus1();
        tell(x, 3, 3, 1, 1);
        near("1 and 3 are as near", x, 0, 2, 1);
        tell(x, 6, 5, 4, 3);
        near("3 .. 6 are as near", x, 0, 3, 3);
        tell(x, 0, 1, 1, 1);
        near("1 is ahead of 4 x", x, 2, 1, 1, 0);
        tell(x, 0, 0, 1, 2);
        near("x is ahead of 4 x", x, 2, 1, 0, 1);
        tell(x, 0, 0, 0, 0);
        near("nought", x, 3, 0, 0, 0, 0);
    }

    @Sentence(promise = 27, says = "differs from a told row in the fewest places")
    static void p27PlacesOfTheCodeAlone() {
        CurveRooms x = Edges.genus1();
        for (int j = 4; j < 26; j++) x.tell(j, 1 + j % 6);
        near("what is told beyond the length", x, 3, 0, 0, 0, 0);
        x.tell(3, 5);
        Check.due("the last place counts", x.near(3, -1), 1);
        CurveRooms wide = Check.onCurve(13, 0, 1, 0, 10, 0, 1);
        wide.tell(24, 1);
        Check.due("25 places", wide.near(4, -1), 1);
        wide.tell(25, 1);
        Check.due("25 places", wide.near(4, -1), 1);
    }

    @Sentence(promise = 27, says = "NEAR: in how many places it differs (what = NONE), NUMBER of function what (0 on).")
    static void p27WordMended() {
        CurveRooms x = Edges.genus1();
        // 3 + 2 x + y at the four points, and then with one place wrong
        tell(x, 4, 2, 2, 5);
        near("a word of the code", x, 3, 0, 3, 2, 1);
        CurveRooms y = Edges.genus2();
        for (int i = 1; i < 11; i++) y.tell(i - 1, (5 + 3 * y.point(i, 0)) % 7);
        y.tell(2, (y.tell(2, 0) + 1) % 7);
        y.tell(7, (y.tell(7, 0) + 3) % 7);
        near("5 + 3 x with two wrong places", y, 2, 2, 5, 3);
    }

    @Sentence(promise = 27, says = "NEAR: in how many places it differs (what = NONE), NUMBER of function what (0 on).")
    static void p27AfterEachChange() {
        CurveRooms x = Edges.genus1();
        near("nought", x, 0, 0, 0);
        tell(x, 2, 2, 2, 2);
        near("told anew", x, 0, 0, 2);
        near("another m", x, 2, 0, 2, 0);
        tell(x, 2, 2, 4, 4);
        near("told anew", x, 2, 0, 2, 1);
        near("another m", x, 0, 2, 2);
        Check.setCurve(x, 1, 0, 0, 1);
        Check.due("another curve, 11 places: 2, 2, 4, 4 and noughts", x.near(0, -1), 4);
        x.prime(5);
        Check.setCurve(x, 1, 1, 0, 1);
        near("all noughts again", x, 2, 0, 0, 0);
        CurveRooms y = Check.onCurve(3, 1, 2, 0, 1);
        tell(y, 1, 2);
        near("1, 2 and noughts", y, 0, 2, 0);
        Check.setCurve(y, 2, 2, 0, 1);
        near("a curve without places", y, 0, 0);
    }

    @Sentence(promise = 27, says = "NONE: not so many functions.")
    static void p27NotSoMany() {
        CurveRooms x = Edges.genus1();
        for (int what : new int[] {3, 4, 25, 26, 27, Check.GREATEST}) Check.due("near(3, " + what + ")", x.near(3, what), NONE);
        Check.due("the last", x.near(3, 2), 0);
        Check.due("no points: no functions", empty().near(9, 0), NONE);
        Check.due("no points: no places apart", empty().near(9, -1), 0);
    }

    @Sentence(promise = 27, says = "BAD; NO: no CURVE, or above 20000 WORDS.")
    static void p27Wrong() {
        CurveRooms x = Edges.full();
        for (int m : NO_POLES) {
            Edges.refused("near(" + m + ", 0)", x, () -> x.near(m, 0), BAD);
            Edges.refused("near(" + m + ", -1)", x, () -> x.near(m, -1), BAD);
        }
        for (int what : new int[] {-2, -3, Check.LEAST}) {
            Edges.refused("near(3, " + what + ")", x, () -> x.near(3, what), BAD);
            Edges.refused("near(30, " + what + ") above 20000 words", x, () -> x.near(30, what), BAD);
        }
    }

    @Sentence(promise = 27, says = "BAD; NO: no CURVE, or above 20000 WORDS.")
    static void p27WithoutCurve() {
        CurveRooms x = new CurveRooms();
        for (int what : new int[] {-1, 0, 99}) {
            Edges.refused("near(0, " + what + ")", x, () -> x.near(0, what), NO);
            Edges.refused("near(30, " + what + ")", x, () -> x.near(30, what), NO);
        }
    }

    @Sentence(promise = 27, says = "BAD; NO: no CURVE, or above 20000 WORDS.")
    static void p27BothMeet() {
        CurveRooms x = new CurveRooms();
        for (int m : NO_POLES) Edges.refused("near(" + m + ", 0) without a curve", x, () -> x.near(m, 0), BAD);
        for (int what : new int[] {-2, Check.LEAST}) Edges.refused("near(0, " + what + ") without a curve", x, () -> x.near(0, what), BAD);
    }

    /** By 5: 6 functions make 15625, by 7: 5 make 16807, by 11: 4 make 14641, by 13: 3 make 2197. */
    private static void most(String what, int p, int functions, int... row) {
        CurveRooms x = Check.onCurve(p, row);
        int m = 0;
        while (x.code(m + 1, 1) <= functions) m++;
        int last = m;
        Check.due(what + ": functions", x.code(last, 1), functions);
        Check.holds(what + ": near", x.near(last, -1) == 0);
        Check.holds(what + ": least", x.least(last) > 0);
        Check.due(what + ": one function more", x.code(last + 1, 1), functions + 1);
        Edges.refused(what + ": near by one more", x, () -> x.near(last + 1, -1), NO);
        Edges.refused(what + ": near by one more", x, () -> x.near(last + 1, 0), NO);
        Edges.refused(what + ": NO ahead of NONE", x, () -> x.near(last + 1, 99), NO);
        Edges.refused(what + ": least by one more", x, () -> x.least(last + 1), NO);
        Edges.refused(what + ": least by 30", x, () -> x.least(30), NO);
    }

    @Sentence(promise = 27, says = "Only where there are 20000 WORDS at most.")
    static void p27WordsAtMost() {
        most("by 5", 5, 6, 1, 1, 1, 1, 1, 1);
        most("by 7", 7, 5, 3, 1, 0, 0, 0, 1);
        most("by 11", 11, 4, 3, 0, 1, 1);
        most("by 13", 13, 3, 0, 1, 0, 10, 0, 1);
        CurveRooms x = Check.onCurve(3, 1, 2, 0, 1);
        Check.due("by 3: 729 at most", x.least(30), 1);
        Check.due("by 3: 729 at most", x.near(30, -1), 0);
    }

    // ---- promise 28

    @Sentence(promise = 28, says = "LEAST: the fewest places in which a WORD other than nought is not 0.")
    static void p28AllWords() {
        for (int[] told : Edges.CURVES) {
            CurveRooms x = Edges.made(told);
            for (int m = 0; m <= 12; m++) {
                PlainCode code = plain(told, m);
                if (code.width() > 0 && code.wordMany() <= 20000) Check.due("least by " + m, x.least(m), code.least());
            }
        }
    }

    @Sentence(promise = 28, says = "LEAST.")
    static void p28FirstAndLast() {
        CurveRooms x = Edges.genus1();
        Check.due("the numbers alone: all places", x.least(0), 4);
        Check.due("and x, 0 at two", x.least(2), 2);
        Check.due("all words there are", x.least(30), 1);
        tell(x, 1, 2, 3, 4);
        Check.due("the told row is not asked for", x.least(2), 2);
    }

    @Sentence(promise = 28, says = "NONE: a CODE of WIDTH 0.")
    static void p28WidthNought() {
        for (int m : new int[] {0, 1, 30}) Check.due("no points", empty().least(m), NONE);
        Check.due("no points, g 2", Check.onCurve(3, 2, 0, 0, 2, 0, 1).least(0), NONE);
        Check.due("one point", Check.onCurve(5, 0, 2, 0, 1).least(30), 1);
    }

    @Sentence(promise = 28, says = "BAD; NO.")
    static void p28Wrong() {
        CurveRooms x = Edges.full();
        for (int m : NO_POLES) Edges.refused("least(" + m + ")", x, () -> x.least(m), BAD);
        CurveRooms none = empty();
        for (int m : NO_POLES) Edges.refused("least(" + m + ") of width 0", none, () -> none.least(m), BAD);
    }

    @Sentence(promise = 28, says = "BAD; NO.")
    static void p28WithoutCurve() {
        CurveRooms x = new CurveRooms();
        Edges.refused("least(0)", x, () -> x.least(0), NO);
        Edges.refused("least(30)", x, () -> x.least(30), NO);
    }

    @Sentence(promise = 28, says = "BAD; NO.")
    static void p28BothMeet() {
        CurveRooms x = new CurveRooms();
        for (int m : NO_POLES) Edges.refused("least(" + m + ") without a curve", x, () -> x.least(m), BAD);
    }

    public static void main(String[] args) throws IllegalAccessException {
        Edges.run(CodeEdges.class);
    }
}
