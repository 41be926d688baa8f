import java.util.Random;

/** Terms 3, promises 21 to 23: the sentences about rooms, amounts, widths and gaps, one test each. */
public final class RoomEdges {
    private static final int BAD = Check.BAD, NO = Check.NO;
    private static final int AMOUNT_BAD = -100, AMOUNT_NO = -200;

    private static int genus(int[] told) {
        return told.length / 2 - 1;
    }

    private static PlainRoom plain(int[] told) {
        return new PlainRoom(told[0], Edges.rowOf(told));
    }

    private static void put(CurveRooms x, int[] amounts) {
        for (int i = 0; i < amounts.length; i++) x.amount(i, amounts[i]);
    }

    // ---- promise 21

    @Sentence(promise = 21, says = "an amount m (-30 .. 30) at the END, and amounts -4 .. 4 (0 at first) at POINTS 1 on")
    static void p21NoughtAtFirst() {
        for (int[] told : Edges.CURVES) {
            CurveRooms x = Edges.made(told);
            for (int i = 0; i < x.points(); i++) Check.due("amount " + i, x.amount(i, 4), 0);
        }
    }

    @Sentence(promise = 21, says = "an amount m (-30 .. 30) at the END, and amounts -4 .. 4 (0 at first) at POINTS 1 on")
    static void p21TheMost() {
        CurveRooms x = Edges.genus2();
        Check.due("30 at the end", x.amount(0, 30), 0);
        Check.due("-30 at the end", x.amount(0, -30), 30);
        Check.due("29 at the end", x.amount(0, 29), -30);
        for (int i = 1; i < 11; i++) {
            Check.due("4", x.amount(i, 4), 0);
            Check.due("-4", x.amount(i, -4), 4);
            Check.due("0", x.amount(i, 0), -4);
        }
        Check.due("the end stays", x.amount(0, 0), 29);
    }

    @Sentence(promise = 21, says = "An amount at a POINT (0: the END): what it was.")
    static void p21WhatItWas() {
        CurveRooms x = Edges.genus2();
        for (int i = 0; i < 11; i++) x.amount(i, i % 9 - 4);
        for (int i = 0; i < 11; i++) Check.due("amount " + i, x.amount(i, -(i % 9 - 4)), i % 9 - 4);
        for (int i = 0; i < 11; i++) Check.due("amount " + i, x.amount(i, 0), -(i % 9 - 4));
    }

    @Sentence(promise = 21, says = "BAD: -100; NO: -200.")
    static void p21Wrong() {
        CurveRooms x = Edges.full();
        for (int v : new int[] {31, -31, Check.LEAST, Check.GREATEST}) {
            Edges.refused("amount(0, " + v + ")", x, () -> x.amount(0, v), AMOUNT_BAD);
        }
        for (int v : new int[] {5, -5, 30, -30, 31, Check.LEAST, Check.GREATEST}) {
            Edges.refused("amount(1, " + v + ")", x, () -> x.amount(1, v), AMOUNT_BAD);
            Edges.refused("amount(10, " + v + ")", x, () -> x.amount(10, v), AMOUNT_BAD);
        }
        for (int i : new int[] {11, -1, 26, 27, Check.LEAST, Check.GREATEST}) {
            Edges.refused("amount(" + i + ", 0)", x, () -> x.amount(i, 0), AMOUNT_BAD);
            Edges.refused("amount(" + i + ", 5)", x, () -> x.amount(i, 5), AMOUNT_BAD);
        }
    }

    @Sentence(promise = 21, says = "BAD: -100; NO: -200.")
    static void p21WithoutCurve() {
        CurveRooms x = new CurveRooms();
        for (int v : new int[] {0, 30, -30}) Edges.refused("amount(0, " + v + ")", x, () -> x.amount(0, v), AMOUNT_NO);
        for (int v : new int[] {0, 4, -4}) {
            Edges.refused("amount(1, " + v + ")", x, () -> x.amount(1, v), AMOUNT_NO);
            Edges.refused("amount(26, " + v + ")", x, () -> x.amount(26, v), AMOUNT_NO);
        }
    }

    @Sentence(promise = 21, says = "BAD: -100; NO: -200.")
    static void p21BothMeet() {
        CurveRooms x = new CurveRooms();
        for (int v : new int[] {31, -31}) Edges.refused("amount(0, " + v + ") without a curve", x, () -> x.amount(0, v), AMOUNT_BAD);
        for (int v : new int[] {5, -5}) Edges.refused("amount(26, " + v + ") without a curve", x, () -> x.amount(26, v), AMOUNT_BAD);
        for (int i : new int[] {-1, 27, Check.LEAST, Check.GREATEST}) {
            Edges.refused("amount(" + i + ", 0) without a curve", x, () -> x.amount(i, 0), AMOUNT_BAD);
        }
    }

    // ---- promise 22: what a room is

    @Sentence(promise = 22, says = "A ROOM: functions (a + b y) by c (a, b, c ROWS) that have no poles but as told: an amount m (-30 .. 30) at the END, and amounts -4 .. 4 (0 at first) at POINTS 1 on: a pole of as many as that at most (below 0: a nought of that many at least).")
    static void p22PolesAndNoughts() {
        CurveRooms x = Edges.genus2();
        Check.due("the numbers alone", x.room(0), 1);
        x.amount(1, -1);
        Check.due("no number is a nought", x.room(0), 0);
        x.amount(0, 2);
        Check.due("x less 2", x.room(0), 1);
        x.amount(3, -1);
        Check.due("none with a pole of 2", x.room(0), 0);
        x.amount(0, 4);
        Check.due("(x less 2)(x less 3)", x.room(0), 1);
        x.amount(1, 0);
        x.amount(3, 0);
        x.amount(0, 0);
        x.amount(5, 1);
        x.amount(6, 1);
        Check.due("1 and 1 by (x less 4)", x.room(0), 2);
        x.amount(0, -2);
        Check.due("1 by (x less 4) alone", x.room(0), 1);
        x.amount(0, -3);
        Check.due("none", x.room(0), 0);
    }

    @Sentence(promise = 22, says = "At the END x has a pole of 2, y of DEGREE;")
    static void p22AtTheEnd() {
        int[] byThree = {1, 1, 2, 3, 4, 5, 6, 7, 8}, byFive = {1, 1, 2, 2, 3, 4, 5, 6, 7};
        for (int[] told : Edges.CURVES) {
            CurveRooms x = Edges.made(told);
            for (int m = 0; m < byThree.length; m++) {
                x.amount(0, m);
                Check.due("width by " + m, x.room(0), genus(told) == 1 ? byThree[m] : byFive[m]);
            }
            x.amount(0, 30);
            Check.due("width by 30", x.room(0), 31 - genus(told));
            x.amount(0, -1);
            Check.due("width by -1", x.room(0), 0);
            x.amount(0, -30);
            Check.due("width by -30", x.room(0), 0);
        }
    }

    @Sentence(promise = 22, says = "at a POINT with y not 0 x less x0 is a nought of 1;")
    static void p22WithY() {
        CurveRooms x = Edges.genus2();
        x.amount(0, 2);
        x.amount(1, -1);
        x.amount(2, -1);
        Check.due("x less 2 is a nought at both", x.room(0), 1);
        x.amount(2, 0);
        x.amount(1, -2);
        Check.due("but of 1 only", x.room(0), 0);
        x.amount(0, 4);
        x.amount(2, -2);
        Check.due("(x less 2)(x less 2)", x.room(0), 1);
        x.amount(1, -3);
        Check.due("of 2 only", x.room(0), 0);
    }

    @Sentence(promise = 22, says = "with y 0 y is a nought of 1, x less x0 one of 2.")
    static void p22WithoutY() {
        CurveRooms x = Check.onCurve(5, 0, 4, 0, 0, 0, 1);
        x.amount(0, 2);
        x.amount(1, -2);
        Check.due("x", x.room(0), 1);
        x.amount(1, -3);
        Check.due("none of 3", x.room(0), 0);
        x.amount(0, 5);
        for (int i = 1; i < 6; i++) x.amount(i, -1);
        Check.due("y is a nought at all five", x.room(0), 1);
        x.amount(5, -2);
        Check.due("of 1 only", x.room(0), 0);
        x.amount(0, 7);
        Check.due("(x less 4) y is one of 3", x.room(0), 1);
        x.amount(5, -3);
        Check.due("(x less 4) y is one of 3", x.room(0), 1);
        x.amount(5, -4);
        Check.due("not of 4", x.room(0), 0);
        for (int i = 1; i < 6; i++) x.amount(i, 0);
        x.amount(0, 0);
        x.amount(3, 2);
        Check.due("1 and 1 by (x less 2)", x.room(0), 2);
        x.amount(3, 1);
        Check.due("1", x.room(0), 1);
    }

    private static void widths(int[] told, int[] amounts) {
        CurveRooms x = Edges.made(told);
        int[] turned = new int[amounts.length];
        int total = 0;
        for (int i = 0; i < amounts.length; i++) {
            turned[i] = -amounts[i];
            total += amounts[i];
        }
        turned[0] += 2 * genus(told) - 2;
        put(x, amounts);
        Check.due("width", x.room(0), plain(told).width(amounts));
        Check.due("total", x.room(1), total);
        Check.due("width turned about", x.room(2), plain(told).width(turned));
    }

    @Sentence(promise = 22, says = "WIDTH: how many of them all others are sums of, times NUMBERS.")
    static void p22ByEquations() {
        Random random = new Random(20261119);
        for (int[] told : Edges.CURVES) {
            int points = Edges.made(told).points();
            for (int round = 0; round < 60; round++) {
                int[] amounts = new int[points];
                int rest = round % (2 * genus(told) + 2) - 1;
                int at = points == 1 ? 0 : 1 + random.nextInt(Math.min(points - 1, 3 + round / 4));
                for (int i = 1; i <= at; i++) {
                    int point = 1 + random.nextInt(points - 1);
                    rest += amounts[point];
                    amounts[point] = random.nextInt(9) - 4;
                    rest -= amounts[point];
                }
                amounts[0] = Math.max(-30, Math.min(30, rest));
                widths(told, amounts);
            }
        }
    }

    /** Totals of 0 .. 2 g less 2 are those where a width hangs on which points they are. */
    @Sentence(promise = 22, says = "WIDTH: how many of them all others are sums of, times NUMBERS.")
    static void p22EachPairOfPoints() {
        for (int[] told : Edges.CURVES) {
            int points = Edges.made(told).points();
            for (int i = 1; i < points; i++) {
                for (int j = i + 1; j < points; j += 1 + points / 9) {
                    int[] amounts = new int[points];
                    amounts[i] = 2;
                    amounts[j] = -3;
                    for (amounts[0] = 0; amounts[0] < 3 + genus(told); amounts[0]++) widths(told, amounts);
                }
            }
        }
    }

    @Sentence(promise = 22, says = "TOTAL: all amounts together.")
    static void p22Total() {
        for (int[] told : Edges.CURVES) {
            CurveRooms x = Edges.made(told);
            int points = x.points();
            Check.due("at first", x.room(1), 0);
            for (int i = 1; i < points; i++) x.amount(i, 4);
            x.amount(0, 30);
            Check.due("the most", x.room(1), 30 + 4 * (points - 1));
            for (int i = 1; i < points; i++) x.amount(i, -4);
            Check.due("the end less the points", x.room(1), 30 - 4 * (points - 1));
            x.amount(0, -30);
            Check.due("the fewest", x.room(1), -30 - 4 * (points - 1));
        }
    }

    @Sentence(promise = 22, says = "WIDTH of the ROOM (what = 0), TOTAL (1), WIDTH where each amount is turned about and 2 g less 2 at the END is added (2).")
    static void p22AllAsMuchAsCanBe() {
        for (int[] told : Edges.CURVES) {
            CurveRooms x = Edges.made(told), y = Edges.made(told);
            int points = x.points(), g = genus(told), most = 30 + 4 * (points - 1);
            for (int i = 0; i < points; i++) x.amount(i, i == 0 ? 30 : 4);
            for (int i = 0; i < points; i++) y.amount(i, i == 0 ? -30 : -4);
            Check.due("width of the greatest", x.room(0), most + 1 - g);
            Check.due("turned about", x.room(2), 0);
            Check.due("width of the least", y.room(0), 0);
            Check.due("turned about", y.room(2), most + g - 1);
        }
    }

    @Sentence(promise = 22, says = "WIDTH where each amount is turned about and 2 g less 2 at the END is added (2).")
    static void p22TurnedAbout() {
        CurveRooms x = Edges.genus1(), y = Edges.genus2();
        Check.due("g 1: 0 at the end", x.room(2), 1);
        x.amount(0, 1);
        Check.due("g 1: -1 at the end", x.room(2), 0);
        x.amount(0, -30);
        Check.due("g 1: 30 at the end", x.room(2), 30);
        int[] widths = {2, 1, 1, 0, 0};
        for (int m = 0; m < 5; m++) {
            y.amount(0, m);
            Check.due("g 2: " + (2 - m) + " at the end", y.room(2), widths[m]);
        }
        y.amount(0, -30);
        Check.due("g 2: 32 at the end", y.room(2), 31);
        y.amount(0, 0);
        y.amount(1, 1);
        Check.due("g 2: a nought at (2, 3): x less 2", y.room(2), 1);
        y.amount(2, 1);
        Check.due("g 2: and at (2, 4): x less 2", y.room(2), 1);
        y.amount(3, 1);
        Check.due("g 2: and at (3, 2): none", y.room(2), 0);
        Check.due("the amounts stay", y.room(1), 3);
    }

    @Sentence(promise = 22, says = "BAD; NO.")
    static void p22Wrong() {
        CurveRooms x = Edges.full();
        for (int what : new int[] {-1, 3, Check.LEAST, Check.GREATEST}) Edges.refused("room(" + what + ")", x, () -> x.room(what), BAD);
    }

    @Sentence(promise = 22, says = "BAD; NO.")
    static void p22WithoutCurve() {
        CurveRooms x = new CurveRooms();
        for (int what : new int[] {0, 1, 2}) Edges.refused("room(" + what + ")", x, () -> x.room(what), NO);
    }

    @Sentence(promise = 22, says = "BAD; NO.")
    static void p22BothMeet() {
        CurveRooms x = new CurveRooms();
        for (int what : new int[] {-1, 3}) Edges.refused("room(" + what + ") without a curve", x, () -> x.room(what), BAD);
    }

    // ---- promise 23

    @Sentence(promise = 23, says = "GAPS of a POINT: numbers n of 1 .. 2 g by which there is no function with a pole of just n there and none else.")
    static void p23ByEquations() {
        for (int[] told : Edges.CURVES) {
            CurveRooms x = Edges.made(told);
            for (int i = 0; i < x.points(); i++) Check.due("gaps of " + i, x.gaps(i), plain(told).gapBits(i));
        }
    }

    @Sentence(promise = 23, says = "GAPS of a POINT as bits (bit n less 1).")
    static void p23Bits() {
        CurveRooms x = Edges.genus1();
        for (int i = 0; i < 5; i++) Check.due("g 1: 1 alone is a gap", x.gaps(i), 1);
        CurveRooms y = Check.onCurve(13, 0, 1, 0, 10, 0, 1);
        Check.due("the end: 1 and 3", y.gaps(0), 5);
        Check.due("y 0: 1 and 3", y.gaps(1), 5);
        for (int i = 2; i < 26; i++) Check.due("y not 0: 1 and 2", y.gaps(i), 3);
    }

    @Sentence(promise = 23, says = "GAPS of a POINT as bits (bit n less 1).")
    static void p23AmountsAreNotAskedFor() {
        CurveRooms x = Edges.full();
        long before = x.digest();
        int total = x.room(1), width = x.room(0);
        for (int i = 0; i < 11; i++) Check.due("gaps", x.gaps(i), Edges.genus2().gaps(i));
        Check.due("nothing is changed", x.digest(), before);
        Check.due("total", x.room(1), total);
        Check.due("width", x.room(0), width);
    }

    @Sentence(promise = 23, says = "BAD; NO.")
    static void p23Wrong() {
        CurveRooms x = Edges.full();
        for (int i : new int[] {-1, 11, 26, 27, Check.LEAST, Check.GREATEST}) Edges.refused("gaps(" + i + ")", x, () -> x.gaps(i), BAD);
    }

    @Sentence(promise = 23, says = "BAD; NO.")
    static void p23WithoutCurve() {
        CurveRooms x = new CurveRooms();
        Edges.refused("gaps(0)", x, () -> x.gaps(0), NO);
        Edges.refused("gaps(26)", x, () -> x.gaps(26), NO);
    }

    @Sentence(promise = 23, says = "BAD; NO.")
    static void p23BothMeet() {
        CurveRooms x = new CurveRooms();
        for (int i : new int[] {-1, 27, Check.LEAST, Check.GREATEST}) {
            Edges.refused("gaps(" + i + ") without a curve", x, () -> x.gaps(i), BAD);
        }
    }

    public static void main(String[] args) throws IllegalAccessException {
        Edges.run(RoomEdges.class);
    }
}
