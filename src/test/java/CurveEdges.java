import java.util.List;

/** Terms 1, promises 1 to 11: the sentences about the curve, its points and counts, one test each. */
public final class CurveEdges {
    private static final int BAD = Check.BAD, NO = Check.NO, NONE = Check.NONE, FULL = Check.FULL;
    private static final long SHARE_NONE = -1000000000L, SHARE_BAD = -2000000000L, SHARE_NO = -2100000000L;

    // ---- promise 1

    @Sentence(promise = 1, says = "public static final int NONE = -1, BAD = -2, NO = -3, FULL = -4;")
    static void p01Constants() {
        Check.due("NONE", CurveRooms.NONE, -1);
        Check.due("BAD", CurveRooms.BAD, -2);
        Check.due("NO", CurveRooms.NO, -3);
        Check.due("FULL", CurveRooms.FULL, -4);
    }

    @Sentence(promise = 1, says = "P 7,")
    static void p01SevenAtFirst() {
        CurveRooms x = new CurveRooms();
        Check.due("push(7)", x.push(7), BAD);
        Check.due("push(6)", x.push(6), 1);
        Check.due("above(2, 7): the end", x.above(2, 7), 2);
        Check.due("above(2, 8)", x.above(2, 8), BAD);
        Check.due("genus(7)", x.genus(7), BAD);
    }

    @Sentence(promise = 1, says = "THE ROW empty,")
    static void p01RowEmpty() {
        Check.due("the first push", new CurveRooms().push(0), 1);
        CurveRooms x = new CurveRooms();
        Check.due("curve of an empty row", x.curve(), NO);
        for (int v : new int[] {1, 1, 0, 1}) x.push(v);
        Check.due("the row is what is pushed alone", x.curve(), 1);
    }

    @Sentence(promise = 1, says = "no CURVE.")
    static void p01NoCurve() {
        Check.due("points", new CurveRooms().points(), NO);
        Check.due("room", new CurveRooms().room(0), NO);
        Edges.genus2();
        Check.due("another object's curve is not this one's", new CurveRooms().points(), NO);
        Edges.full();
        Check.due("what another object holds is not this one's", new CurveRooms().cover(6, 0), 0);
    }

    @Sentence(promise = 1, says = "An object is used for at most 512 calls after it has been made;")
    static void p01FiveHundredTwelveCalls() {
        CurveRooms x = new CurveRooms();
        for (int i = 0; i < 101; i++) {
            int[] row = i % 2 == 0 ? new int[] {1, 1, 0, 1} : new int[] {6, 5, 1, 0};
            for (int v : row) x.push(v);
            Check.due("curve", x.curve(), i % 2 == 0 ? 1 : NO);
        }
        for (int v : new int[] {3, 1, 0, 0, 0, 1}) x.push(v);
        Check.due("call 512", x.curve(), 2);
    }

    // ---- promise 2

    @Sentence(promise = 2, says = "P is a prime 3 .. 13 (7 at first).")
    static void p02Primes() {
        for (int p : Check.PRIMES) {
            CurveRooms x = new CurveRooms();
            Check.due("prime(" + p + ")", x.prime(p), 1);
            Check.due("the greatest number by " + p, x.push(p - 1), 1);
            Check.due("one above by " + p, x.push(p), BAD);
        }
    }

    @Sentence(promise = 2, says = "P: 1;")
    static void p02AnswersOne() {
        CurveRooms x = new CurveRooms();
        for (int p : new int[] {13, 3, 11, 5, 7, 7}) Check.due("prime(" + p + ")", x.prime(p), 1);
    }

    @Sentence(promise = 2, says = "all else is as at first then.")
    static void p02AllAsAtFirst() {
        for (int p : Check.PRIMES) {
            CurveRooms x = Edges.full(), fresh = Check.onPrime(p);
            Check.due("prime", x.prime(p), 1);
            Check.due("no curve", x.points(), NO);
            Check.due("digest", x.digest(), fresh.digest());
            Check.due("the row is empty", x.push(0), 1);
            for (int j = 0; j < 26; j++) Check.due("told row", x.tell(j, 0), 0);
            for (int a = 0; a < p; a++) Check.due("cover", x.cover(a, 0), 0);
        }
    }

    @Sentence(promise = 2, says = "all else is as at first then.")
    static void p02SamePrimeToo() {
        CurveRooms x = Edges.full();
        Check.due("prime(7) again", x.prime(7), 1);
        Check.due("digest", x.digest(), new CurveRooms().digest());
        Check.due("no curve", x.points(), NO);
    }

    @Sentence(promise = 2, says = "all else is as at first then.")
    static void p02AnswersOfTheNextCurve() {
        CurveRooms x = Edges.full(), fresh = Check.onCurve(5, 1, 1, 1, 1, 1, 1);
        x.near(4, 0);
        x.group(0);
        x.turns(0);
        x.prime(5);
        Check.setCurve(x, 1, 1, 1, 1, 1, 1);
        Check.due("near", x.near(4, -1), fresh.near(4, -1));
        Check.due("group", x.group(0), fresh.group(0));
        Check.due("turns", x.turns(-1), fresh.turns(-1));
        Check.due("code", x.code(9, 1), fresh.code(9, 1));
        Check.due("which", x.which(3), 0);
        Check.due("total", x.room(1), 0);
    }

    @Sentence(promise = 2, says = "BAD.")
    static void p02Wrong() {
        CurveRooms x = Edges.full();
        for (int p : new int[] {2, 1, 0, -1, 4, 6, 8, 9, 10, 12, 14, 15, 17, 19, -3, -7, -13, Check.LEAST, Check.GREATEST}) {
            Edges.refused("prime(" + p + ")", x, () -> x.prime(p), BAD);
        }
        Check.due("the curve stays", x.points(), 11);
    }

    // ---- promise 3

    @Sentence(promise = 3, says = "NUMBERS are 0 .. P less 1, by P.")
    static void p03Numbers() {
        for (int p : Check.PRIMES) {
            CurveRooms x = Check.onPrime(p);
            Check.due("push(0)", x.push(0), 1);
            Check.due("push(P - 1)", x.push(p - 1), 2);
            Edges.refused("push(P)", x, () -> x.push(p), BAD);
            Edges.refused("push(-1)", x, () -> x.push(-1), BAD);
            Edges.refused("push(least)", x, () -> x.push(Check.LEAST), BAD);
            Edges.refused("push(greatest)", x, () -> x.push(Check.GREATEST), BAD);
        }
    }

    @Sentence(promise = 3, says = "THE ROW's next coefficient (0 .. P less 1): how many.")
    static void p03HowMany() {
        CurveRooms x = new CurveRooms();
        for (int i = 1; i <= 6; i++) Check.due("push", x.push(6 - i), i);
        x.curve();
        Check.due("push", x.push(0), 1);
    }

    @Sentence(promise = 3, says = "A ROW is coefficients, the lowest first.")
    static void p03LowestFirst() {
        // 1 + x + x x x has y y 1 at x 0; told the other way about it would be 1 + x x + x x x
        CurveRooms x = Edges.genus1(), other = Check.onCurve(7, 1, 0, 1, 1);
        Check.due("points", x.points(), Plain.points(7, new int[] {1, 1, 0, 1}).size());
        Check.due("points", other.points(), Plain.points(7, new int[] {1, 0, 1, 1}).size());
        Check.holds("two curves", x.points() != other.points());
    }

    @Sentence(promise = 3, says = "BAD; FULL: 6.")
    static void p03Full() {
        CurveRooms x = new CurveRooms();
        for (int i = 1; i <= 5; i++) x.push(1);
        Check.due("the sixth", x.push(1), 6);
        Edges.refused("the seventh", x, () -> x.push(1), FULL);
        Edges.refused("the seventh, 0", x, () -> x.push(0), FULL);
        Check.due("curve of the six", x.curve(), 2);
    }

    @Sentence(promise = 3, says = "BAD; FULL: 6.")
    static void p03BadAheadOfFull() {
        CurveRooms x = new CurveRooms();
        for (int i = 1; i <= 6; i++) x.push(1);
        Edges.refused("push(7) by 6", x, () -> x.push(7), BAD);
        Edges.refused("push(-1) by 6", x, () -> x.push(-1), BAD);
    }

    // ---- promise 4

    private static void isCurve(String why, int genus, int p, int... row) {
        Check.due("curve: " + why, Check.setCurve(Check.onPrime(p), row), genus);
    }

    private static void notAsTold(String why, int p, int... row) {
        CurveRooms x = Check.onPrime(p);
        Check.due("curve: " + why, Check.setCurve(x, row), NO);
        Check.due("no curve: " + why, x.points(), NO);
    }

    @Sentence(promise = 4, says = "f is a ROW of DEGREE 3 or 5")
    static void p04Degree() {
        notAsTold("nothing", 7);
        notAsTold("noughts alone", 7, 0, 0, 0, 0, 0, 0);
        notAsTold("degree 0", 7, 1);
        notAsTold("degree 1", 7, 3, 1);
        notAsTold("degree 2", 7, 1, 0, 1);
        isCurve("degree 3", 1, 7, 1, 1, 0, 1);
        notAsTold("degree 4", 7, 1, 1, 0, 0, 1);
        notAsTold("degree 4 and a nought", 7, 1, 1, 0, 0, 1, 0);
        isCurve("degree 5", 2, 7, 3, 1, 0, 0, 0, 1);
        isCurve("degree 3 and noughts above", 1, 7, 1, 1, 0, 1, 0, 0);
        isCurve("degree 3 and one nought above", 1, 7, 1, 1, 0, 1, 0);
    }

    @Sentence(promise = 4, says = "with 1 highest,")
    static void p04OneHighest() {
        for (int v = 2; v < 7; v++) {
            notAsTold("highest " + v, 7, 1, 1, 0, v);
            notAsTold("highest " + v, 7, 3, 1, 0, 0, 0, v);
        }
        notAsTold("highest 2 by 3", 3, 0, 1, 0, 2);
        isCurve("highest 1", 1, 3, 0, 2, 0, 1);
    }

    @Sentence(promise = 4, says = "without a part that is in it twice")
    static void p04NoPartTwice() {
        notAsTold("x x x", 7, 0, 0, 0, 1);
        notAsTold("x x (x + 1)", 7, 0, 0, 1, 1);
        notAsTold("(x - 1)(x - 1)(x + 2)", 7, 2, 4, 0, 1);
        notAsTold("(x x + 1)(x x + 1) x", 7, 0, 1, 0, 2, 0, 1);
        notAsTold("x to the 5th", 13, 0, 0, 0, 0, 0, 1);
        isCurve("x (x - 1)(x - 2)", 1, 7, 0, 2, 4, 1);
        isCurve("(x x + 1) x", 1, 7, 0, 1, 0, 1);
        isCurve("all five parts", 2, 5, 0, 4, 0, 0, 0, 1);
    }

    @Sentence(promise = 4, says = "(f and what comes of it by deriving have no part in common): then there is a CURVE;")
    static void p04Derived() {
        notAsTold("derived is nought by 3", 3, 1, 0, 0, 1);
        notAsTold("derived is nought by 3, 2", 3, 2, 0, 0, 1);
        notAsTold("derived is nought by 5", 5, 2, 0, 0, 0, 0, 1);
        isCurve("derived is 2 by 3", 1, 3, 0, 2, 0, 1);
        isCurve("derived is 4 by 5", 2, 5, 0, 4, 0, 0, 0, 1);
        isCurve("derived is not nought by 5", 1, 5, 2, 0, 0, 1);
        isCurve("derived is not nought by 3", 2, 3, 1, 0, 0, 0, 0, 1);
    }

    /** Every row by 3 and some by others: a part is in it twice if a square of a row of degree 1 or 2 parts it. */
    @Sentence(promise = 4, says = "without a part that is in it twice")
    static void p04AllRows() {
        for (int p : new int[] {3, 5, 7}) {
            for (int degree = 3; degree <= 5; degree += 2) {
                for (int n : Check.spread(p, degree, 243)) {
                    CurveRooms x = Check.onPrime(p);
                    int[] row = Check.row(p, degree, n);
                    Check.due("curve " + p + " " + degree + " " + n, Check.setCurve(x, row), hasTwice(p, row) ? NO : degree / 2);
                }
            }
        }
    }

    /** A row is told anew each time: what longer ones ahead of it held is not in it. */
    @Sentence(promise = 4, says = "THE ROW becomes f; it is empty then;")
    static void p04LongRowsThenShort() {
        for (int p : new int[] {3, 5, 7}) {
            CurveRooms x = Check.onPrime(p);
            for (int n = 1; n <= 35; n++) {
                int[] wide = Check.row(p, 5, 31 * n), row = Check.row(p, 3, 5 * n);
                Check.due("curve of " + n, Check.setCurve(x, wide), hasTwice(p, wide) ? NO : 2);
                Check.due("curve of " + n, Check.setCurve(x, row), hasTwice(p, row) ? NO : 1);
            }
        }
    }

    private static boolean hasTwice(int p, int[] row) {
        for (int d = 1; 2 * d < row.length; d++) {
            for (int n = 0; n < Plain.power(p, d); n++) {
                int[] part = Plain.monic(p, n, d);
                if (Plain.isNought(Plain.rest(p, row, Plain.product(p, part, part)))) return true;
            }
        }
        return false;
    }

    @Sentence(promise = 4, says = "THE ROW becomes f; it is empty then;")
    static void p04RowIsEmptyThen() {
        CurveRooms x = Edges.genus1();
        Check.due("curve at once again", x.curve(), NO);
        Check.due("the curve stays", x.points(), 5);
        Check.due("push", x.push(3), 1);
        CurveRooms y = new CurveRooms();
        for (int v : new int[] {1, 1, 0, 1, 0, 0}) y.push(v);
        Check.due("curve of a full row", y.curve(), 1);
        Check.due("push behind a full row", y.push(3), 1);
    }

    @Sentence(promise = 4, says = "REGISTERS NOUGHT, amounts 0: the GENUS.")
    static void p04RegistersAndAmounts() {
        for (int[] row : new int[][] {{1, 1, 0, 1}, {1, 0, 0, 0, 0, 1}}) {
            CurveRooms x = Edges.full();
            x.curve();
            Check.due("another curve", Check.setCurve(x, row), row.length / 2 - 1);
            for (int r = 0; r < 6; r++) Check.due("which(" + r + ")", x.which(r), 0);
            for (int r = 0; r < 6; r++) Edges.holdsPair("register " + r, x, r, new int[] {1}, new int[] {});
            Check.due("total", x.room(1), 0);
            for (int i = 0; i < x.points(); i++) Check.due("amount " + i, x.amount(i, 0), 0);
        }
    }

    @Sentence(promise = 4, says = "REGISTERS NOUGHT, amounts 0: the GENUS.")
    static void p04TheSameCurveAgain() {
        CurveRooms x = Edges.full();
        x.curve();
        Check.due("the same f", Check.setCurve(x, 3, 1, 0, 0, 0, 1), 2);
        Check.due("register", x.which(5), 0);
        Check.due("total", x.room(1), 0);
        for (int j = 0; j < 26; j++) Check.due("the told row stays", x.tell(j, 0), 1 + j % 6);
        for (int a = 0; a < 7; a++) Check.due("the cover stays", x.cover(a, 0), 2 * a + 1);
    }

    @Sentence(promise = 4, says = "REGISTERS NOUGHT, amounts 0: the GENUS.")
    static void p04FewerPointsThenMore() {
        CurveRooms x = Check.onCurve(13, 0, 1, 0, 10, 0, 1);
        for (int i = 1; i < 26; i++) x.amount(i, 4);
        Check.due("with 26 points", x.room(1), 100);
        Check.due("a curve with fewer", Check.setCurve(x, 1, 4, 5, 1), 1);
        Check.due("its total", x.room(1), 0);
        Check.due("a curve with more", Check.setCurve(x, 0, 1, 0, 10, 0, 1), 2);
        Check.due("its total", x.room(1), 0);
        for (int i = 0; i < 26; i++) Check.due("amount " + i, x.amount(i, 0), 0);
    }

    /** What was found out of one curve is not told of the next one, be it wider or narrower, by P or another. */
    @Sentence(promise = 4, says = "THE ROW becomes f; it is empty then; REGISTERS NOUGHT, amounts 0: the GENUS.")
    static void p04NothingOfTheCurveAhead() {
        int many = Edges.CURVES.length;
        for (int i = 0; i < many; i++) {
            for (int step : new int[] {1, many - 1, 5}) {
                int[] told = Edges.CURVES[(i + step) % many];
                CurveRooms x = Edges.made(Edges.CURVES[i]);
                Edges.answers(x);
                if (told[0] != Edges.CURVES[i][0]) x.prime(told[0]);
                Check.setCurve(x, Edges.rowOf(told));
                long[] got = Edges.answers(x), want = Edges.answers(Edges.made(told));
                for (int k = 0; k < want.length; k++) Check.due("answer " + k + " of curve " + (i + step) % many, got[k], want[k]);
            }
        }
    }

    @Sentence(promise = 4, says = "GENUS g: 1, 2.")
    static void p04Genus() {
        for (int[] told : Edges.CURVES) {
            Check.due("genus", Check.setCurve(Check.onPrime(told[0]), Edges.rowOf(told)), told.length == 5 ? 1 : 2);
        }
    }

    @Sentence(promise = 4, says = "NO: not as told.")
    static void p04NoAndNoneWasThere() {
        CurveRooms x = new CurveRooms();
        x.tell(3, 4);
        x.cover(1, 2);
        long before = x.digest();
        Check.due("curve", Check.setCurve(x, 1, 2, 3), NO);
        Check.due("the rest stays", x.digest(), before);
        Check.due("still none", x.points(), NO);
    }

    @Sentence(promise = 4, says = "(THE ROW is empty, too; what there was stays.)")
    static void p04RefusedRowIsEmpty() {
        CurveRooms x = new CurveRooms();
        for (int i = 0; i < 6; i++) x.push(6);
        Check.due("curve", x.curve(), NO);
        for (int i = 1; i <= 6; i++) Check.due("the row is empty", x.push(1), i);
    }

    @Sentence(promise = 4, says = "(THE ROW is empty, too; what there was stays.)")
    static void p04RefusedKeepsAll() {
        CurveRooms x = Edges.full(), y = Edges.full();
        int total = y.room(1), width = y.room(0), near = y.near(5, 0);
        Check.due("curve of 5, 0, 6", x.curve(), NO);
        Check.due("f stays", x.points(), 11);
        for (int r = 0; r < 6; r++) Check.due("register " + r, x.which(r), 15 + 11 * r);
        Check.due("total", x.room(1), total);
        Check.due("width", x.room(0), width);
        Check.due("near", x.near(5, 0), near);
        Check.due("class number", x.classes(), 81);
        for (int v : new int[] {5, 0, 6}) x.push(v);
        Check.due("all but the row", x.digest(), y.digest());
    }

    // ---- promise 5

    @Sentence(promise = 5, says = "POINTS, the END too.")
    static void p05Points() {
        Check.due("the end alone", Check.onCurve(3, 2, 2, 0, 1).points(), 1);
        Check.due("the end alone, genus 2", Check.onCurve(3, 2, 0, 0, 2, 0, 1).points(), 1);
        Check.due("the end and one with y 0", Check.onCurve(5, 0, 2, 0, 1).points(), 2);
        Check.due("two for each x", Check.onCurve(11, 4, 0, 0, 0, 0, 1).points(), 23);
        Check.due("the most", Check.onCurve(13, 0, 1, 0, 10, 0, 1).points(), 26);
        for (int[] told : Edges.CURVES) Check.due("points", Edges.made(told).points(), Plain.points(told[0], Edges.rowOf(told)).size());
    }

    @Sentence(promise = 5, says = "NO.")
    static void p05WithoutCurve() {
        CurveRooms x = new CurveRooms();
        Edges.refused("points", x, x::points, NO);
    }

    // ---- promise 6

    @Sentence(promise = 6, says = "POINTS: 0 is the END; behind it all x, y with y y = f(x), by x, then y, from 1 on.")
    static void p06InOrder() {
        for (int[] told : Edges.CURVES) {
            CurveRooms x = Edges.made(told);
            List<int[]> points = Plain.points(told[0], Edges.rowOf(told));
            for (int i = 1; i < points.size(); i++) {
                Check.due("x of " + i, x.point(i, 0), points.get(i)[0]);
                Check.due("y of " + i, x.point(i, 1), points.get(i)[1]);
            }
            Check.due("behind the last", x.point(points.size(), 0), BAD);
        }
    }

    @Sentence(promise = 6, says = "Of a POINT: x (0), y (1), the number of THE OTHER (2).")
    static void p06What() {
        CurveRooms x = Edges.genus1();
        Check.due("x", x.point(3, 0), 2);
        Check.due("y", x.point(3, 1), 2);
        Check.due("the other", x.point(3, 2), 4);
        Check.due("the other's", x.point(4, 2), 3);
        for (int what : new int[] {-1, 3, Check.LEAST, Check.GREATEST}) {
            Edges.refused("point(3, " + what + ")", x, () -> x.point(3, what), BAD);
            Edges.refused("point(0, " + what + ")", x, () -> x.point(0, what), BAD);
        }
    }

    @Sentence(promise = 6, says = "THE OTHER of a POINT: x, less y by P; of the END itself.")
    static void p06TheOther() {
        for (int[] told : Edges.CURVES) {
            CurveRooms x = Edges.made(told);
            Check.due("of the end", x.point(0, 2), 0);
            for (int i = 1; i < x.points(); i++) {
                int other = x.point(i, 2);
                Check.due("x", x.point(other, 0), x.point(i, 0));
                Check.due("y", x.point(other, 1), (told[0] - x.point(i, 1)) % told[0]);
                Check.holds("itself with y 0 alone", other == i == (x.point(i, 1) == 0));
            }
        }
    }

    @Sentence(promise = 6, says = "NONE: x, y of the END.")
    static void p06TheEnd() {
        for (int[] told : Edges.CURVES) {
            CurveRooms x = Edges.made(told);
            Check.due("x of the end", x.point(0, 0), NONE);
            Check.due("y of the end", x.point(0, 1), NONE);
        }
    }

    @Sentence(promise = 6, says = "BAD: no such POINT (without a CURVE: none of 0 .. 26; so everywhere); NO.")
    static void p06NoSuchPoint() {
        for (int[] told : Edges.CURVES) {
            CurveRooms x = Edges.made(told);
            int points = x.points();
            Check.holds("the last", x.point(points - 1, 2) >= 0);
            for (int i : new int[] {points, -1, 27, Check.LEAST, Check.GREATEST}) {
                Edges.refused("point(" + i + ", 2)", x, () -> x.point(i, 2), BAD);
            }
        }
    }

    @Sentence(promise = 6, says = "BAD: no such POINT (without a CURVE: none of 0 .. 26; so everywhere); NO.")
    static void p06WithoutCurve() {
        CurveRooms x = new CurveRooms();
        for (int what = 0; what < 3; what++) {
            int told = what;
            Edges.refused("point(0, " + told + ")", x, () -> x.point(0, told), NO);
            Edges.refused("point(26, " + told + ")", x, () -> x.point(26, told), NO);
            Edges.refused("point(27, " + told + ")", x, () -> x.point(27, told), BAD);
            Edges.refused("point(-1, " + told + ")", x, () -> x.point(-1, told), BAD);
        }
    }

    @Sentence(promise = 6, says = "BAD: no such POINT (without a CURVE: none of 0 .. 26; so everywhere); NO.")
    static void p06SoEverywhere() {
        CurveRooms x = new CurveRooms();
        Edges.refused("at 26", x, () -> x.at(0, 26), NO);
        Edges.refused("at 27", x, () -> x.at(0, 27), BAD);
        Edges.refused("amount 26", x, () -> x.amount(26, 1), -200);
        Edges.refused("amount 27", x, () -> x.amount(27, 1), -100);
        Edges.refused("gaps 26", x, () -> x.gaps(26), NO);
        Edges.refused("gaps 27", x, () -> x.gaps(27), BAD);
        Edges.refused("read 26", x, () -> x.read(0, 0, 26), NO);
        Edges.refused("read 27", x, () -> x.read(0, 0, 27), BAD);
        Edges.refused("turned 26", x, () -> x.turned(0, 26), NO);
        Edges.refused("turned 27", x, () -> x.turned(0, 27), BAD);
    }

    @Sentence(promise = 6, says = "BAD: no such POINT (without a CURVE: none of 0 .. 26; so everywhere); NO.")
    static void p06BothMeet() {
        CurveRooms x = new CurveRooms();
        Edges.refused("point(0, 3) without a curve", x, () -> x.point(0, 3), BAD);
        Edges.refused("point(0, -1) without a curve", x, () -> x.point(0, -1), BAD);
        Edges.refused("point(27, 3) without a curve", x, () -> x.point(27, 3), BAD);
    }

    // ---- promise 7

    @Sentence(promise = 7, says = "N(k): how many POINTS there are, with numbers taken from the field of P to the k numbers (k 1 .. 6), the END one of them.")
    static void p07EveryNumberTried() {
        for (int[] told : Edges.CURVES) {
            CurveRooms x = Edges.made(told);
            for (int k = 1; k <= 6 && Plain.power(told[0], k) <= 1000; k++) {
                Check.due("N(" + k + ") by " + told[0], x.count(k), Plain.countOver(told[0], Edges.rowOf(told), k));
            }
        }
        Check.due("N(5) by 5, genus 2", Check.onCurve(5, 0, 4, 0, 0, 0, 1).count(5), 3126);
        Check.due("N(6) by 13, genus 2", Check.onCurve(13, 0, 1, 0, 10, 0, 1).count(6), 4834950);
    }

    @Sentence(promise = 7, says = "N(k) for k 1 .. 6.")
    static void p07FirstAndLast() {
        CurveRooms x = Edges.genus1();
        Check.due("count(1)", x.count(1), 5);
        Check.due("count(6)", x.count(6), 117040);
    }

    @Sentence(promise = 7, says = "N(k) for each k comes of it: S(k) = k a(k) less the sum of a(i) S(k less i) for i 1 .. k less 1 (a beyond 2 g: 0).")
    static void p07OfTheShares() {
        for (int[] told : Edges.CURVES) {
            CurveRooms x = Edges.made(told);
            long[] a = new long[7], s = new long[7];
            for (int i = 0; i <= told.length - 3; i++) a[i] = x.share(i);
            for (int k = 1; k <= 6; k++) {
                s[k] = k * a[k];
                for (int i = 1; i < k; i++) s[k] -= a[i] * s[k - i];
                Check.due("S(" + k + ")", x.count(k) - 1 - Plain.power(told[0], k), s[k]);
            }
        }
    }

    /** The numbers' k-th powers together are what stands on the slant of the k-th power of the square told by the row. */
    @Sentence(promise = 7, says = "Then -S(k) are the sums of k-th powers of the numbers 1 by which the ROW a(0), a(1), .. is taken apart:")
    static void p07SumsOfPowers() {
        for (int[] told : Edges.CURVES) {
            CurveRooms x = Edges.made(told);
            int wide = told.length - 3;
            long[][] square = new long[wide][wide], power = square;
            for (int i = 0; i < wide; i++) {
                square[0][i] = -x.share(i + 1);
                if (i > 0) square[i][i - 1] = 1;
            }
            for (int k = 1; k <= 6; k++) {
                long sum = 0;
                for (int i = 0; i < wide; i++) sum += power[i][i];
                Check.due("S(" + k + ")", x.count(k) - 1 - Plain.power(told[0], k), -sum);
                power = together(power, square);
            }
        }
    }

    private static long[][] together(long[][] a, long[][] b) {
        long[][] out = new long[a.length][a.length];
        for (int i = 0; i < a.length; i++) {
            for (int j = 0; j < a.length; j++) {
                for (int k = 0; k < a.length; k++) out[i][j] += a[i][k] * b[k][j];
            }
        }
        return out;
    }

    @Sentence(promise = 7, says = "BAD; NO.")
    static void p07Wrong() {
        CurveRooms x = Edges.genus2();
        for (int k : new int[] {0, 7, -1, Check.LEAST, Check.GREATEST}) Edges.refused("count(" + k + ")", x, () -> x.count(k), BAD);
    }

    @Sentence(promise = 7, says = "BAD; NO.")
    static void p07WithoutCurve() {
        CurveRooms x = new CurveRooms();
        Edges.refused("count(1)", x, () -> x.count(1), NO);
        Edges.refused("count(6)", x, () -> x.count(6), NO);
    }

    @Sentence(promise = 7, says = "BAD; NO.")
    static void p07BothMeet() {
        CurveRooms x = new CurveRooms();
        Edges.refused("count(0) without a curve", x, () -> x.count(0), BAD);
        Edges.refused("count(7) without a curve", x, () -> x.count(7), BAD);
    }

    // ---- promise 8

    @Sentence(promise = 8, says = "N(2), by going over all numbers of the field of P P of them.")
    static void p08CountAll() {
        for (int[] told : Edges.CURVES) {
            CurveRooms x = Edges.made(told);
            Check.due("countAll", x.countAll(), Plain.countOver(told[0], Edges.rowOf(told), 2));
            Check.due("the two roads", x.countAll(), x.count(2));
        }
    }

    @Sentence(promise = 8, says = "NO.")
    static void p08WithoutCurve() {
        CurveRooms x = new CurveRooms();
        Edges.refused("countAll", x, x::countAll, NO);
    }

    // ---- promise 9

    @Sentence(promise = 9, says = "THE SHARES of the CURVE: numbers a(0) .. a(2 g): a(0) is 1;")
    static void p09FirstIsOne() {
        for (int[] told : Edges.CURVES) Check.due("a(0)", Edges.made(told).share(0), 1);
    }

    @Sentence(promise = 9, says = "with S(k) = N(k) less 1 less P to the k: a(1) is S(1);")
    static void p09Second() {
        for (int[] told : Edges.CURVES) {
            Check.due("a(1)", Edges.made(told).share(1), Plain.points(told[0], Edges.rowOf(told)).size() - 1 - told[0]);
        }
    }

    @Sentence(promise = 9, says = "with g 2 twice a(2) is S(2) and S(1) S(1);")
    static void p09Third() {
        for (int[] told : Edges.CURVES) {
            if (told.length != 7) continue;
            int p = told[0];
            long first = Plain.points(p, Edges.rowOf(told)).size() - 1 - p;
            long second = Plain.countOver(p, Edges.rowOf(told), 2) - 1 - p * p;
            Check.due("twice a(2)", 2 * Edges.made(told).share(2), second + first * first);
        }
    }

    @Sentence(promise = 9, says = "a(2 g less i) is a(i) times P to the (g less i).")
    static void p09TheRest() {
        for (int[] told : Edges.CURVES) {
            CurveRooms x = Edges.made(told);
            int g = told.length == 5 ? 1 : 2;
            for (int i = 0; i <= g; i++) {
                Check.due("a(" + (2 * g - i) + ")", x.share(2 * g - i), x.share(i) * Plain.power(told[0], g - i));
            }
        }
    }

    @Sentence(promise = 9, says = "a(i).")
    static void p09EachByItsNumber() {
        CurveRooms one = Edges.genus1(), two = Edges.genus2();
        long[] ofOne = {1, -3, 7}, ofTwo = {1, 3, 7, 21, 49};
        for (int i = 2; i >= 0; i--) Check.due("genus 1: a(" + i + ")", one.share(i), ofOne[i]);
        for (int i = 4; i >= 0; i--) Check.due("genus 2: a(" + i + ")", two.share(i), ofTwo[i]);
    }

    @Sentence(promise = 9, says = "NONE: beyond 2 g: -1000000000.")
    static void p09Beyond() {
        CurveRooms one = Edges.genus1(), two = Edges.genus2();
        Check.due("genus 1: a(2)", one.share(2), 7);
        Check.due("genus 1: beyond", one.share(3), SHARE_NONE);
        Check.due("genus 1: far beyond", one.share(Check.GREATEST), SHARE_NONE);
        Check.due("genus 2: a(3)", two.share(3), 21);
        Check.due("genus 2: a(4)", two.share(4), 49);
        Check.due("genus 2: beyond", two.share(5), SHARE_NONE);
        Check.due("genus 2: far beyond", two.share(Check.GREATEST), SHARE_NONE);
    }

    @Sentence(promise = 9, says = "BAD: -2000000000: i below 0; NO: -2100000000.")
    static void p09Wrong() {
        CurveRooms x = Edges.genus2();
        Edges.refused("share(-1)", x, () -> x.share(-1), SHARE_BAD);
        Edges.refused("share(least)", x, () -> x.share(Check.LEAST), SHARE_BAD);
    }

    @Sentence(promise = 9, says = "BAD: -2000000000: i below 0; NO: -2100000000.")
    static void p09WithoutCurve() {
        CurveRooms x = new CurveRooms();
        for (int i : new int[] {0, 1, 4, 5, Check.GREATEST}) Edges.refused("share(" + i + ")", x, () -> x.share(i), SHARE_NO);
    }

    @Sentence(promise = 9, says = "BAD: -2000000000: i below 0; NO: -2100000000.")
    static void p09BothMeet() {
        CurveRooms x = new CurveRooms();
        Edges.refused("share(-1) without a curve", x, () -> x.share(-1), SHARE_BAD);
        Edges.refused("share(least) without a curve", x, () -> x.share(Check.LEAST), SHARE_BAD);
    }

    // ---- promise 10

    @Sentence(promise = 10, says = "h.")
    static void p10OfTheCurveThatIs() {
        CurveRooms x = Edges.genus1();
        Check.due("h", x.classes(), 5);
        Check.due("refused", Check.setCurve(x, 1), NO);
        Check.due("h stays", x.classes(), 5);
        Check.setCurve(x, 3, 1, 0, 0, 0, 1);
        Check.due("another curve's", x.classes(), 81);
    }

    @Sentence(promise = 10, says = "CLASS NUMBER h: all of a(0) .. a(2 g) together.")
    static void p10ClassNumber() {
        Check.due("the least", Check.onCurve(3, 2, 2, 0, 1).classes(), 1);
        Check.due("genus 2", Edges.genus2().classes(), 81);
        for (int[] told : Edges.CURVES) {
            CurveRooms x = Edges.made(told);
            long all = 0;
            for (int i = 0; i <= told.length - 3; i++) all += x.share(i);
            Check.due("h", x.classes(), all);
        }
    }

    @Sentence(promise = 10, says = "NO.")
    static void p10WithoutCurve() {
        CurveRooms x = new CurveRooms();
        Edges.refused("classes", x, x::classes, NO);
    }

    // ---- promise 11

    @Sentence(promise = 11, says = "PLACES of degree d (1 .. 6): as many as make N(k) = the sum over d that part k of d times their number.")
    static void p11Places() {
        for (int[] told : Edges.CURVES) {
            CurveRooms x = Edges.made(told);
            for (int k = 1; k <= 6; k++) {
                long all = 0;
                for (int d = 1; d <= k; d++) all += k % d == 0 ? d * x.places(d) : 0;
                Check.due("N(" + k + ")", all, x.count(k));
            }
        }
    }

    @Sentence(promise = 11, says = "PLACES of a degree 1 .. 6.")
    static void p11FirstAndLast() {
        CurveRooms x = Edges.genus1();
        Check.due("places(1)", x.places(1), 5);
        Check.due("places(6)", x.places(6), 19435);
        Check.due("none of degree 2", Check.onCurve(3, 1, 2, 0, 1).places(2), 0);
        Check.due("none of degree 2, genus 2", Check.onCurve(3, 0, 2, 0, 2, 2, 1).places(2), 0);
        // told out of their order, so that none hangs on the one asked for ahead
        CurveRooms y = Edges.genus2();
        long[] many = {0, 11, 22, 120, 591, 3261, 19630};
        for (int d : new int[] {6, 1, 4, 5, 3, 2}) Check.due("places(" + d + ")", y.places(d), many[d]);
    }

    @Sentence(promise = 11, says = "BAD; NO.")
    static void p11Wrong() {
        CurveRooms x = Edges.genus2();
        for (int d : new int[] {0, 7, -1, Check.LEAST, Check.GREATEST}) Edges.refused("places(" + d + ")", x, () -> x.places(d), BAD);
    }

    @Sentence(promise = 11, says = "BAD; NO.")
    static void p11WithoutCurve() {
        CurveRooms x = new CurveRooms();
        Edges.refused("places(1)", x, () -> x.places(1), NO);
        Edges.refused("places(6)", x, () -> x.places(6), NO);
    }

    @Sentence(promise = 11, says = "BAD; NO.")
    static void p11BothMeet() {
        CurveRooms x = new CurveRooms();
        Edges.refused("places(0) without a curve", x, () -> x.places(0), BAD);
        Edges.refused("places(7) without a curve", x, () -> x.places(7), BAD);
    }

    public static void main(String[] args) throws IllegalAccessException {
        Edges.run(CurveEdges.class);
    }
}
