import java.util.Arrays;
import java.util.List;

/** Terms 2, promises 12 to 20: the sentences about classes, their sums, orders and their group, one test each. */
public final class ClassEdges {
    private static final int BAD = Check.BAD, NO = Check.NO, NONE = Check.NONE;
    private static final int[] NO_REGISTERS = {-1, 6, 7, Check.LEAST, Check.GREATEST};
    private static final int[] NOUGHT_U = {1}, NOUGHT_V = {};

    /** A curve whose classes are put together in one of the ways that there are, and the numbers of that way. */
    private static final int[][][] GROUPS = {
        {{3, 2, 2, 0, 1}, {}}, {{3, 0, 2, 2, 1}, {2}}, {{3, 0, 1, 0, 1}, {4}}, {{3, 0, 2, 0, 1}, {2, 2}},
        {{3, 0, 2, 1, 1}, {6}}, {{7, 1, 3, 4, 1}, {3, 3}}, {{3, 0, 1, 0, 0, 0, 1}, {2, 6}},
        {{3, 0, 1, 1, 1, 2, 1}, {2, 2, 2}}, {{3, 1, 0, 1, 2, 2, 1}, {27}}, {{5, 0, 4, 0, 0, 0, 1}, {2, 2, 2, 2}},
        {{5, 3, 2, 1, 2, 1, 1}, {2, 2, 6}}, {{5, 4, 0, 3, 0, 2, 1}, {4, 8}}, {{5, 1, 2, 1, 1, 3, 1}, {49}},
        {{7, 3, 1, 0, 0, 0, 1}, null}, {{7, 1, 3, 1, 3, 2, 1}, {10, 10}}, {{7, 2, 2, 2, 4, 6, 1}, {3, 15}},
        {{11, 1, 2, 3, 4, 5, 1}, {120}}, {{11, 7, 6, 5, 10, 7, 1}, {12, 12}}, {{13, 0, 1, 0, 0, 0, 1}, {14, 14}},
        {{13, 10, 7, 7, 11, 12, 1}, {6, 36}}, {{13, 0, 1, 0, 10, 0, 1}, null},
    };

    private static int genus(int[] told) {
        return told.length / 2 - 1;
    }

    private static List<int[][]> classes(int[] told) {
        return Plain.classes(told[0], Edges.rowOf(told));
    }

    /** What `of` tells: coefficients as long as there are some. */
    private static int[] read(CurveRooms x, int r, int what) {
        int many = 0;
        while (many < 9 && x.of(r, what, many) != NONE) many++;
        int[] row = new int[many];
        for (int i = 0; i < many; i++) row[i] = x.of(r, what, i);
        return row;
    }

    private static int[] trimmed(int[] row) {
        int many = row.length;
        while (many > 0 && row[many - 1] == 0) many--;
        return Arrays.copyOf(row, many);
    }

    /** Registers that hold other classes each, none of them nought. */
    private static CurveRooms filled() {
        CurveRooms x = Edges.genus2();
        for (int r = 0; r < 6; r++) x.pick(r, 10 + 11 * r);
        return x;
    }

    // ---- terms: a class

    @Sentence(promise = 13, says = "A CLASS is told by a pair of ROWS u, v: u with 1 highest, of DEGREE 0 .. g, v of a DEGREE below that (0: nought), u a part of v v less f.")
    static void p13PairsAsTold() {
        for (int[] told : Edges.CURVES) {
            int p = told[0], h = classes(told).size();
            boolean[] degrees = new boolean[3];
            for (int i = 0; i < h; i++) {
                CurveRooms x = Edges.made(told);
                x.pick(0, i);
                int[] u = read(x, 0, 0), v = read(x, 0, 1);
                Check.due("u's highest", u[u.length - 1], 1);
                Check.holds("u's degree", u.length - 1 <= genus(told));
                Check.holds("v's degree below u's", v.length < u.length);
                Check.holds("no nought on top of v", v.length == 0 || v[v.length - 1] > 0);
                Check.holds("u a part", Plain.isPart(p, u, v, Edges.rowOf(told)));
                degrees[u.length - 1] = true;
            }
            Check.holds("degree 0", degrees[0]);
            Check.holds("degree g", degrees[genus(told)] || h == 1);
        }
    }

    @Sentence(promise = 13, says = "All pairs are CLASSES, each one class; NOUGHT: u 1, v 0.")
    static void p13AllPairs() {
        for (int[] told : Edges.CURVES) {
            Check.due("as many as pairs", Edges.made(told).classes(), classes(told).size());
            CurveRooms x = Edges.made(told);
            x.pick(3, 0);
            Edges.holdsPair("nought", x, 3, NOUGHT_U, NOUGHT_V);
        }
    }

    @Sentence(promise = 13, says = "Listed by u's DEGREE, u's coefficients (the highest but one first), then v's (the highest, that of u's DEGREE less 1, first): CLASS 0 is NOUGHT, there are h.")
    static void p13Listed() {
        for (int[] told : Edges.CURVES) {
            List<int[][]> all = classes(told);
            for (int i = 0; i < all.size(); i++) {
                CurveRooms x = Edges.made(told);
                Check.due("pick", x.pick(2, i), 1);
                Edges.holdsPair("class " + i, x, 2, all.get(i)[0], trimmed(all.get(i)[1]));
                Check.due("which", x.which(2), i);
            }
            CurveRooms x = Edges.made(told);
            Check.due("no class h", x.pick(2, all.size()), BAD);
        }
    }

    @Sentence(promise = 13, says = "(the highest, that of u's DEGREE less 1, first)")
    static void p13ShortRowsAsLongOnes() {
        // by u x x + x + 1 of genus 2 the v's are 3 and 4, with 0 at x: told by their own highest they'd stand elsewhere
        CurveRooms x = Edges.genus2();
        x.at(0, 1);
        x.at(1, 5);
        x.sum(2, 0, 1);
        Edges.holdsPair("two points with y 3", x, 2, new int[] {1, 1, 1}, new int[] {3});
        int at = x.which(2);
        x.pick(3, at + 1);
        Edges.holdsPair("0 x + 4 stands ahead of the v's with x", x, 3, new int[] {1, 1, 1}, new int[] {4});
        x.pick(3, at + 2);
        Check.holds("then one with x", x.of(3, 1, 1) > 0);
    }

    // ---- promise 12

    @Sentence(promise = 12, says = "The CLASS of a POINT x0, y0: u x less x0, v y0; of the END NOUGHT.")
    static void p12OfEachPoint() {
        for (int[] told : Edges.CURVES) {
            List<int[]> points = Plain.points(told[0], Edges.rowOf(told));
            for (int i = 1; i < points.size(); i++) {
                CurveRooms x = Edges.made(told);
                int x0 = points.get(i)[0], y0 = points.get(i)[1];
                Check.due("at", x.at(5, i), 1);
                Edges.holdsPair("point " + i, x, 5, new int[] {(told[0] - x0) % told[0], 1}, y0 == 0 ? NOUGHT_V : new int[] {y0});
            }
        }
    }

    @Sentence(promise = 12, says = "of the END NOUGHT.")
    static void p12OfTheEnd() {
        for (int[] told : Edges.CURVES) {
            CurveRooms x = Edges.made(told);
            x.pick(1, (int) x.classes() - 1);
            Check.due("at the end", x.at(1, 0), 1);
            Edges.holdsPair("the end", x, 1, NOUGHT_U, NOUGHT_V);
            Check.due("which", x.which(1), 0);
        }
    }

    @Sentence(promise = 12, says = "A REGISTER becomes the CLASS of a POINT: 1.")
    static void p12ThatRegisterAlone() {
        for (int r = 0; r < 6; r++) {
            CurveRooms x = filled();
            Check.due("at(" + r + ", 10)", x.at(r, 10), 1);
            for (int s = 0; s < 6; s++) {
                if (s != r) Check.due("register " + s + " stays", x.which(s), 10 + 11 * s);
            }
            Edges.holdsPair("register " + r, x, r, new int[] {1, 1}, new int[] {6});
        }
    }

    @Sentence(promise = 12, says = "BAD; NO.")
    static void p12Wrong() {
        CurveRooms x = filled();
        for (int r : NO_REGISTERS) Edges.refused("at(" + r + ", 1)", x, () -> x.at(r, 1), BAD);
        for (int i : new int[] {-1, 11, 26, 27, Check.LEAST, Check.GREATEST}) {
            Edges.refused("at(0, " + i + ")", x, () -> x.at(0, i), BAD);
        }
        Edges.refused("at(6, 11)", x, () -> x.at(6, 11), BAD);
    }

    @Sentence(promise = 12, says = "BAD; NO.")
    static void p12WithoutCurve() {
        CurveRooms x = new CurveRooms();
        Edges.refused("at(0, 0)", x, () -> x.at(0, 0), NO);
        Edges.refused("at(5, 26)", x, () -> x.at(5, 26), NO);
    }

    @Sentence(promise = 12, says = "BAD; NO.")
    static void p12BothMeet() {
        CurveRooms x = new CurveRooms();
        for (int r : NO_REGISTERS) Edges.refused("at(" + r + ", 0) without a curve", x, () -> x.at(r, 0), BAD);
        for (int i : new int[] {-1, 27, Check.LEAST, Check.GREATEST}) {
            Edges.refused("at(0, " + i + ") without a curve", x, () -> x.at(0, i), BAD);
        }
    }

    // ---- promise 13

    @Sentence(promise = 13, says = "A REGISTER becomes the i-th CLASS: 1.")
    static void p13ThatRegisterAlone() {
        for (int r = 0; r < 6; r++) {
            CurveRooms x = filled();
            Check.due("pick(" + r + ", 80)", x.pick(r, 80), 1);
            for (int s = 0; s < 6; s++) Check.due("register " + s, x.which(s), s == r ? 80 : 10 + 11 * s);
        }
    }

    @Sentence(promise = 13, says = "A REGISTER becomes the i-th CLASS: 1.")
    static void p13OverWhatItHeld() {
        for (int[] told : Edges.CURVES) {
            List<int[][]> all = classes(told);
            for (int i = all.size() - 1; i >= 0; i -= 1 + all.size() / 40) {
                CurveRooms x = Edges.made(told);
                x.pick(0, all.size() - 1);
                x.pick(0, i);
                Edges.holdsPair("class " + i + " over the last", x, 0, all.get(i)[0], trimmed(all.get(i)[1]));
                x.pick(0, 0);
                Edges.holdsPair("nought over class " + i, x, 0, NOUGHT_U, NOUGHT_V);
            }
        }
    }

    @Sentence(promise = 13, says = "BAD: no such one (without a CURVE: i below 0); NO.")
    static void p13NoSuchOne() {
        for (int[] told : Edges.CURVES) {
            CurveRooms x = Edges.made(told);
            int h = classes(told).size();
            Check.due("the last", x.pick(0, h - 1), 1);
            for (int i : new int[] {h, h + 1, -1, 450, Check.LEAST, Check.GREATEST}) {
                Edges.refused("pick(0, " + i + ")", x, () -> x.pick(0, i), BAD);
            }
            Check.due("the last stays", x.which(0), h - 1);
            for (int r : NO_REGISTERS) Edges.refused("pick(" + r + ", 0)", x, () -> x.pick(r, 0), BAD);
            Edges.refused("pick(6, h)", x, () -> x.pick(6, h), BAD);
        }
    }

    @Sentence(promise = 13, says = "BAD: no such one (without a CURVE: i below 0); NO.")
    static void p13WithoutCurve() {
        CurveRooms x = new CurveRooms();
        for (int i : new int[] {0, 1, 449, 450, Check.GREATEST}) Edges.refused("pick(5, " + i + ")", x, () -> x.pick(5, i), NO);
    }

    @Sentence(promise = 13, says = "BAD: no such one (without a CURVE: i below 0); NO.")
    static void p13BothMeet() {
        CurveRooms x = new CurveRooms();
        Edges.refused("pick(0, -1) without a curve", x, () -> x.pick(0, -1), BAD);
        Edges.refused("pick(0, least) without a curve", x, () -> x.pick(0, Check.LEAST), BAD);
        for (int r : NO_REGISTERS) Edges.refused("pick(" + r + ", 0) without a curve", x, () -> x.pick(r, 0), BAD);
    }

    // ---- promise 14

    private static void sumOfPoints(String what, CurveRooms x, int a, int b, int[] u, int[] v) {
        x.at(0, a);
        x.at(1, b);
        Check.due("sum", x.sum(2, 0, 1), 1);
        Edges.holdsPair(what, x, 2, u, v);
        x.sum(3, 1, 0);
        Edges.holdsPair(what + ", the other way", x, 3, u, v);
    }

    @Sentence(promise = 14, says = "SUM of two: with d the greatest part of u1, u2, v1 and v2 in common, d = s1 u1 + s2 u2 + s3 (v1 + v2): u = u1 u2 by d d, v = (s1 u1 v2 + s2 u2 v1 + s3 (v1 v2 + f)) by d, by u what is left;")
    static void p14NothingInCommon() {
        CurveRooms x = Edges.genus2();
        sumOfPoints("(2, 3) and (3, 2)", x, 1, 3, new int[] {6, 2, 1}, new int[] {5, 6});
        sumOfPoints("(2, 3) and (4, 3)", x, 1, 5, new int[] {1, 1, 1}, new int[] {3});
        CurveRooms wide = Check.onCurve(13, 0, 1, 0, 10, 0, 1);
        sumOfPoints("(0, 0) and (1, 5)", wide, 1, 2, new int[] {0, 12, 1}, new int[] {0, 5});
        CurveRooms five = Check.onCurve(5, 0, 4, 0, 0, 0, 1);
        sumOfPoints("(0, 0) and (1, 0)", five, 1, 2, new int[] {0, 4, 1}, NOUGHT_V);
    }

    @Sentence(promise = 14, says = "d = s1 u1 + s2 u2 + s3 (v1 + v2)")
    static void p14TheSamePoint() {
        CurveRooms x = Edges.genus2();
        sumOfPoints("(2, 3) twice", x, 1, 1, new int[] {4, 3, 1}, new int[] {4, 3});
        CurveRooms wide = Check.onCurve(13, 0, 1, 0, 10, 0, 1);
        sumOfPoints("(0, 0) twice", wide, 1, 1, NOUGHT_U, NOUGHT_V);
        CurveRooms one = Check.onCurve(3, 0, 2, 0, 1);
        for (int i = 1; i < 4; i++) sumOfPoints("y 0 twice", one, i, i, NOUGHT_U, NOUGHT_V);
    }

    @Sentence(promise = 14, says = "with d the greatest part of u1, u2, v1 and v2 in common")
    static void p14AllInCommon() {
        for (int[] told : Edges.CURVES) {
            for (int i = 0; i < Plain.points(told[0], Edges.rowOf(told)).size(); i++) {
                CurveRooms x = Edges.made(told);
                sumOfPoints("a point and the other", x, i, x.point(i, 2), NOUGHT_U, NOUGHT_V);
            }
        }
    }

    @Sentence(promise = 14, says = "u = u1 u2 by d d")
    static void p14OneOfTwoInCommon() {
        CurveRooms x = Edges.genus2();
        x.at(0, 1);
        x.at(1, 3);
        x.sum(2, 0, 1);
        x.at(3, 2);
        x.sum(4, 2, 3);
        Edges.holdsPair("(2, 3) + (3, 2) + (2, 4)", x, 4, new int[] {4, 1}, new int[] {2});
        x.at(5, 5);
        x.sum(3, 3, 5);
        x.sum(4, 2, 3);
        Edges.holdsPair("(2, 3) + (3, 2) + (2, 4) + (4, 3)", x, 4, new int[] {5, 0, 1}, new int[] {6, 1});
        x.at(1, 4);
        x.sum(5, 0, 1);
        x.sum(4, 2, 5);
        Edges.holdsPair("(2, 3) + (3, 2) + (2, 3) + (3, 5)", x, 4, new int[] {4, 3, 1}, new int[] {4, 3});
    }

    @Sentence(promise = 14, says = "then as long as u's DEGREE is above g: u becomes (f less v v) by u with 1 highest, v less v by that u what is left.")
    static void p14AboveTheGenus() {
        CurveRooms x = Edges.genus1();
        // the line through (0, 1) and (2, 2) is at (0, 1) once more
        sumOfPoints("(0, 1) and (2, 2)", x, 1, 3, new int[] {0, 1}, new int[] {6});
        sumOfPoints("(0, 1) twice", x, 1, 1, new int[] {5, 1}, new int[] {5});
        CurveRooms y = Edges.genus2();
        sumOfPoints("degree 2 is not above g 2", y, 1, 3, new int[] {6, 2, 1}, new int[] {5, 6});
        y.at(3, 5);
        y.sum(2, 2, 3);
        // v 0 x x + 6 x + 5 goes through (4, 1), not (4, 3): it is 5 + 6 x + 1 (x - 2)(x - 3), so f less v v is of degree 5
        int[] v = {4, 1, 1}, f = {3, 1, 0, 0, 0, 1};
        int[] u = Plain.quotient(7, Plain.less(7, f, Plain.product(7, v, v)), Plain.product(7, new int[] {6, 2, 1}, new int[] {3, 1}));
        int[] left = Plain.rest(7, Plain.less(7, new int[] {0, 0, 0}, v), u);
        Edges.holdsPair("degree 3", y, 2, u, trimmed(left));
    }

    /** All places of y less l(x), each as often as it is one, make NOUGHT together: told by no road of adding. */
    @Sentence(promise = 14, says = "REGISTER r becomes the SUM of a and b: 1.")
    static void p14PlacesOfFunctions() {
        int tried = 0;
        for (int[] told : Edges.CURVES) {
            int p = told[0], width = genus(told) + 2;
            List<int[][]> all = classes(told);
            for (int n : Check.spread(p, width, 900)) {
                if (placesTogether(told, all, Plain.digits(p, n, width))) tried++;
            }
        }
        Check.holds("there are such functions", tried > 300);
    }

    private static boolean placesTogether(int[] told, List<int[][]> all, int[] l) {
        int p = told[0];
        int[] left = trimmed(Plain.less(p, Plain.product(p, l, l), Edges.rowOf(told)));
        CurveRooms x = Edges.made(told);
        for (int i = 1; i < all.size() && left.length > 1; i++) {
            int[] u = all.get(i)[0];
            if (!Plain.hasNoParts(p, u) || !Plain.isNought(Plain.rest(p, Plain.less(p, l, all.get(i)[1]), u))) continue;
            while (left.length >= u.length && Plain.isNought(Plain.rest(p, left, u))) {
                left = Plain.quotient(p, left, u);
                x.pick(1, i);
                Check.due("sum", x.sum(0, 0, 1), 1);
            }
        }
        if (left.length > 1) return false;
        Check.due("places of y less a row", x.which(0), 0);
        return true;
    }

    @Sentence(promise = 14, says = "REGISTER r becomes the SUM of a and b: 1.")
    static void p14WithNought() {
        for (int[] told : Edges.CURVES) {
            CurveRooms x = Edges.made(told);
            int h = (int) x.classes();
            for (int i = 0; i < h; i += 1 + h / 40) {
                x.pick(1, i);
                x.sum(2, 0, 1);
                Check.due("nought and " + i, x.which(2), i);
                x.sum(3, 1, 0);
                Check.due(i + " and nought", x.which(3), i);
                x.times(4, 1, -1);
                x.sum(5, 1, 4);
                Check.due(i + " and less that", x.which(5), 0);
            }
        }
    }

    @Sentence(promise = 14, says = "REGISTER r becomes the SUM of a and b: 1.")
    static void p14IntoItself() {
        CurveRooms x = filled(), y = filled();
        y.sum(5, 2, 3);
        int sum = y.which(5);
        y.sum(5, 2, 2);
        int twice = y.which(5);
        Check.due("r is a", x.sum(2, 2, 3), 1);
        Check.due("r is a", x.which(2), sum);
        Check.due("b stays", x.which(3), 43);
        x.pick(2, 32);
        Check.due("r is b", x.sum(3, 2, 3), 1);
        Check.due("r is b", x.which(3), sum);
        Check.due("a stays", x.which(2), 32);
        Check.due("r is both", x.sum(2, 2, 2), 1);
        Check.due("r is both", x.which(2), twice);
        for (int r : new int[] {0, 1, 4, 5}) Check.due("register " + r + " stays", x.which(r), 10 + 11 * r);
    }

    @Sentence(promise = 14, says = "BAD; NO.")
    static void p14Wrong() {
        CurveRooms x = filled();
        for (int r : NO_REGISTERS) {
            Edges.refused("sum(" + r + ", 0, 1)", x, () -> x.sum(r, 0, 1), BAD);
            Edges.refused("sum(0, " + r + ", 1)", x, () -> x.sum(0, r, 1), BAD);
            Edges.refused("sum(0, 1, " + r + ")", x, () -> x.sum(0, 1, r), BAD);
        }
        Edges.refused("sum(6, 6, 6)", x, () -> x.sum(6, 6, 6), BAD);
    }

    @Sentence(promise = 14, says = "BAD; NO.")
    static void p14WithoutCurve() {
        CurveRooms x = new CurveRooms();
        Edges.refused("sum(0, 1, 2)", x, () -> x.sum(0, 1, 2), NO);
        Edges.refused("sum(5, 5, 5)", x, () -> x.sum(5, 5, 5), NO);
    }

    @Sentence(promise = 14, says = "BAD; NO.")
    static void p14BothMeet() {
        CurveRooms x = new CurveRooms();
        for (int r : NO_REGISTERS) {
            Edges.refused("sum(" + r + ", 0, 1) without a curve", x, () -> x.sum(r, 0, 1), BAD);
            Edges.refused("sum(0, " + r + ", 1) without a curve", x, () -> x.sum(0, r, 1), BAD);
            Edges.refused("sum(0, 1, " + r + ") without a curve", x, () -> x.sum(0, 1, r), BAD);
        }
    }

    // ---- promise 15

    @Sentence(promise = 15, says = "LESS: u, less v.")
    static void p15Less() {
        for (int[] told : Edges.CURVES) {
            int p = told[0];
            List<int[][]> all = classes(told);
            for (int i = 0; i < all.size(); i += 1 + all.size() / 60) {
                CurveRooms x = Edges.made(told);
                x.pick(0, i);
                x.times(1, 0, -1);
                int[] v = all.get(i)[1], turned = new int[v.length];
                for (int k = 0; k < v.length; k++) turned[k] = (p - v[k]) % p;
                Edges.holdsPair("less " + i, x, 1, all.get(i)[0], trimmed(turned));
            }
        }
    }

    @Sentence(promise = 15, says = "REGISTER r becomes n times a (-100000 .. 100000): 1.")
    static void p15OnceAndNotAtAll() {
        CurveRooms x = filled();
        Check.due("times(0, 1, 0)", x.times(0, 1, 0), 1);
        Check.due("not at all", x.which(0), 0);
        Check.due("times(0, 1, 1)", x.times(0, 1, 1), 1);
        Check.due("once", x.which(0), 21);
        x.times(0, 1, 2);
        x.sum(2, 1, 1);
        Check.due("twice", x.which(0), x.which(2));
        x.times(0, 1, 3);
        x.sum(2, 2, 1);
        Check.due("three times", x.which(0), x.which(2));
        x.times(0, 1, -3);
        x.sum(2, 2, 0);
        Check.due("and less three times", x.which(2), 0);
    }

    /** 100000 and -100000 are the last that are told; n is by the order of the class alone. */
    @Sentence(promise = 15, says = "REGISTER r becomes n times a (-100000 .. 100000): 1.")
    static void p15TheMost() {
        for (int[] told : Edges.CURVES) {
            int h = classes(told).size();
            for (int i = 1; i < h; i += 1 + h / 20) {
                CurveRooms x = Edges.made(told);
                x.pick(0, i);
                x.times(1, 0, 100000 % h);
                Check.due("times 100000", x.times(2, 0, 100000), 1);
                Check.due("100000 times " + i, x.which(2), x.which(1));
                Check.due("times -100000", x.times(3, 0, -100000), 1);
                x.sum(4, 2, 3);
                Check.due("and less that", x.which(4), 0);
                x.times(5, 0, 99999);
                x.sum(5, 5, 0);
                Check.due("99999 times and once", x.which(5), x.which(1));
                x.times(5, 0, h);
                Check.due("h times", x.which(5), 0);
            }
        }
    }

    @Sentence(promise = 15, says = "REGISTER r becomes n times a (-100000 .. 100000): 1.")
    static void p15IntoItself() {
        CurveRooms x = filled(), y = filled();
        y.times(0, 4, -5);
        Check.due("r is a", x.times(4, 4, -5), 1);
        Check.due("r is a", x.which(4), y.which(0));
        Check.due("a stays", y.which(4), 54);
        Check.due("r is a, not at all", x.times(4, 4, 0), 1);
        Check.due("r is a, not at all", x.which(4), 0);
        for (int r : new int[] {0, 1, 2, 3, 5}) Check.due("register " + r + " stays", x.which(r), 10 + 11 * r);
    }

    @Sentence(promise = 15, says = "BAD; NO.")
    static void p15Wrong() {
        CurveRooms x = filled();
        for (int r : NO_REGISTERS) {
            Edges.refused("times(" + r + ", 0, 1)", x, () -> x.times(r, 0, 1), BAD);
            Edges.refused("times(0, " + r + ", 1)", x, () -> x.times(0, r, 1), BAD);
        }
        for (int n : new int[] {100001, -100001, Check.LEAST, Check.GREATEST}) {
            Edges.refused("times(0, 1, " + n + ")", x, () -> x.times(0, 1, n), BAD);
        }
    }

    @Sentence(promise = 15, says = "BAD; NO.")
    static void p15WithoutCurve() {
        CurveRooms x = new CurveRooms();
        for (int n : new int[] {0, 1, 100000, -100000}) Edges.refused("times(0, 5, " + n + ")", x, () -> x.times(0, 5, n), NO);
    }

    @Sentence(promise = 15, says = "BAD; NO.")
    static void p15BothMeet() {
        CurveRooms x = new CurveRooms();
        Edges.refused("times(0, 0, 100001) without a curve", x, () -> x.times(0, 0, 100001), BAD);
        Edges.refused("times(0, 0, -100001) without a curve", x, () -> x.times(0, 0, -100001), BAD);
        for (int r : NO_REGISTERS) {
            Edges.refused("times(" + r + ", 0, 1) without a curve", x, () -> x.times(r, 0, 1), BAD);
            Edges.refused("times(0, " + r + ", 1) without a curve", x, () -> x.times(0, r, 1), BAD);
        }
    }

    // ---- promise 16

    @Sentence(promise = 16, says = "REGISTERS 0 .. 5 hold CLASSES (NOUGHT at first).")
    static void p16NoughtAtFirst() {
        CurveRooms x = Edges.genus2();
        for (int r = 0; r < 6; r++) {
            Edges.holdsPair("register " + r, x, r, NOUGHT_U, NOUGHT_V);
            Check.due("register " + r, x.which(r), 0);
        }
    }

    @Sentence(promise = 16, says = "REGISTERS 0 .. 5 hold CLASSES (NOUGHT at first).")
    static void p16SixOfThem() {
        CurveRooms x = Edges.genus2();
        for (int r = 0; r < 6; r++) x.pick(r, 80 - r);
        for (int r = 0; r < 6; r++) Check.due("register " + r, x.which(r), 80 - r);
    }

    @Sentence(promise = 16, says = "Coefficient i of u (what = 0), v (1) of a REGISTER.")
    static void p16LowestFirst() {
        CurveRooms x = Edges.genus2();
        x.at(0, 1);
        x.at(1, 3);
        x.sum(4, 0, 1);
        Check.due("u 0", x.of(4, 0, 0), 6);
        Check.due("u 1", x.of(4, 0, 1), 2);
        Check.due("u 2", x.of(4, 0, 2), 1);
        Check.due("v 0", x.of(4, 1, 0), 5);
        Check.due("v 1", x.of(4, 1, 1), 6);
    }

    @Sentence(promise = 16, says = "NONE: beyond its DEGREE (of nought all).")
    static void p16Beyond() {
        CurveRooms x = Edges.genus2();
        x.at(0, 1);
        x.at(1, 5);
        x.sum(2, 0, 1);
        for (int i : new int[] {3, 4, 7, 8, 9, 100, Check.GREATEST}) Check.due("u of degree 2, " + i, x.of(2, 0, i), NONE);
        for (int i : new int[] {1, 2, 3, 8, Check.GREATEST}) Check.due("v of degree 0, " + i, x.of(2, 1, i), NONE);
        for (int i : new int[] {2, 3, 8, Check.GREATEST}) Check.due("u of degree 1, " + i, x.of(0, 0, i), NONE);
        for (int i : new int[] {1, 2, 8, Check.GREATEST}) Check.due("u of degree 0, " + i, x.of(5, 0, i), NONE);
    }

    @Sentence(promise = 16, says = "NONE: beyond its DEGREE (of nought all).")
    static void p16OfNoughtAll() {
        CurveRooms x = Check.onCurve(5, 0, 4, 0, 0, 0, 1);
        x.at(0, 1);
        x.at(1, 2);
        x.sum(2, 0, 1);
        for (int r = 0; r < 4; r++) {
            for (int i : new int[] {0, 1, 2, Check.GREATEST}) Check.due("v nought, " + i, x.of(r, 1, i), NONE);
        }
        Check.due("a 0 that isn't beyond", x.of(2, 0, 0), 0);
    }

    @Sentence(promise = 16, says = "BAD: i below 0; NO.")
    static void p16Wrong() {
        CurveRooms x = filled();
        for (int r : NO_REGISTERS) Edges.refused("of(" + r + ", 0, 0)", x, () -> x.of(r, 0, 0), BAD);
        for (int what : new int[] {-1, 2, Check.LEAST, Check.GREATEST}) {
            Edges.refused("of(0, " + what + ", 0)", x, () -> x.of(0, what, 0), BAD);
            Edges.refused("of(0, " + what + ", 9)", x, () -> x.of(0, what, 9), BAD);
        }
        for (int i : new int[] {-1, Check.LEAST}) {
            Edges.refused("of(0, 0, " + i + ")", x, () -> x.of(0, 0, i), BAD);
            Edges.refused("of(0, 1, " + i + ")", x, () -> x.of(0, 1, i), BAD);
        }
    }

    @Sentence(promise = 16, says = "BAD: i below 0; NO.")
    static void p16WithoutCurve() {
        CurveRooms x = new CurveRooms();
        for (int i : new int[] {0, 1, 9, Check.GREATEST}) {
            Edges.refused("of(0, 0, " + i + ")", x, () -> x.of(0, 0, i), NO);
            Edges.refused("of(5, 1, " + i + ")", x, () -> x.of(5, 1, i), NO);
        }
    }

    @Sentence(promise = 16, says = "BAD: i below 0; NO.")
    static void p16BothMeet() {
        CurveRooms x = new CurveRooms();
        Edges.refused("of(0, 0, -1) without a curve", x, () -> x.of(0, 0, -1), BAD);
        Edges.refused("of(0, 2, 0) without a curve", x, () -> x.of(0, 2, 0), BAD);
        Edges.refused("of(0, -1, 0) without a curve", x, () -> x.of(0, -1, 0), BAD);
        for (int r : NO_REGISTERS) Edges.refused("of(" + r + ", 0, 0) without a curve", x, () -> x.of(r, 0, 0), BAD);
    }

    // ---- promise 17

    @Sentence(promise = 17, says = "Which CLASS a REGISTER holds, as listed.")
    static void p17FirstAndLast() {
        for (int[] told : Edges.CURVES) {
            CurveRooms x = Edges.made(told);
            int h = classes(told).size();
            Check.due("the first", x.which(5), 0);
            x.pick(5, h - 1);
            Check.due("the last", x.which(5), h - 1);
            for (int i = 1; i < x.points(); i++) {
                x.at(4, i);
                Check.holds("a point stands among those of degree 1", x.which(4) > 0 && x.which(4) < x.points());
            }
        }
    }

    @Sentence(promise = 17, says = "Which CLASS a REGISTER holds, as listed.")
    static void p17WithoutAnyPick() {
        CurveRooms x = Edges.genus1();
        x.at(0, 3);
        // u x + 5 stands behind u x, v 2 ahead of v 5
        Check.due("(2, 2)", x.which(0), 3);
        x.at(0, 4);
        Check.due("(2, 5)", x.which(0), 4);
        x.at(0, 1);
        Check.due("(0, 1)", x.which(0), 1);
    }

    @Sentence(promise = 17, says = "BAD; NO.")
    static void p17Wrong() {
        CurveRooms x = filled();
        for (int r : NO_REGISTERS) Edges.refused("which(" + r + ")", x, () -> x.which(r), BAD);
    }

    @Sentence(promise = 17, says = "BAD; NO.")
    static void p17WithoutCurve() {
        CurveRooms x = new CurveRooms();
        for (int r = 0; r < 6; r++) {
            int told = r;
            Edges.refused("which(" + r + ")", x, () -> x.which(told), NO);
        }
    }

    @Sentence(promise = 17, says = "BAD; NO.")
    static void p17BothMeet() {
        CurveRooms x = new CurveRooms();
        for (int r : NO_REGISTERS) Edges.refused("which(" + r + ") without a curve", x, () -> x.which(r), BAD);
    }

    // ---- promise 18

    @Sentence(promise = 18, says = "ORDER of one: the least n above 0 by which n times it is NOUGHT.")
    static void p18Least() {
        for (int[] told : Edges.CURVES) {
            int h = classes(told).size();
            for (int i = 0; i < h; i += 1 + h / 60) {
                CurveRooms x = Edges.made(told);
                x.pick(0, i);
                int n = x.order(0);
                Check.holds("above 0", n > 0 && n <= h);
                x.times(1, 0, n);
                Check.due("n times it", x.which(1), 0);
                for (int k = 1; k < n; k++) {
                    if (n % k != 0) continue;
                    x.times(1, 0, k);
                    Check.holds("none less", x.which(1) != 0);
                }
            }
        }
    }

    @Sentence(promise = 18, says = "the least n above 0")
    static void p18OfNought() {
        for (int[] told : Edges.CURVES) Check.due("order of nought", Edges.made(told).order(0), 1);
    }

    @Sentence(promise = 18, says = "ORDER of a REGISTER's.")
    static void p18OfItsOwn() {
        CurveRooms x = Check.onCurve(13, 0, 1, 0, 0, 0, 1);
        x.at(2, 1);
        Check.due("y 0", x.order(2), 2);
        Check.due("nought", x.order(1), 1);
        x.pick(1, 100);
        Check.due("class 100", x.order(1), 7);
        x.sum(3, 1, 2);
        Check.due("of both", x.order(3), 14);
        Check.due("the register stays", x.which(1), 100);
        CurveRooms y = Check.onCurve(11, 1, 2, 3, 4, 5, 1);
        y.pick(0, 30);
        Check.due("as many as classes", y.order(0), 120);
    }

    @Sentence(promise = 18, says = "BAD; NO.")
    static void p18Wrong() {
        CurveRooms x = filled();
        for (int r : NO_REGISTERS) Edges.refused("order(" + r + ")", x, () -> x.order(r), BAD);
    }

    @Sentence(promise = 18, says = "BAD; NO.")
    static void p18WithoutCurve() {
        CurveRooms x = new CurveRooms();
        Edges.refused("order(0)", x, () -> x.order(0), NO);
        Edges.refused("order(5)", x, () -> x.order(5), NO);
    }

    @Sentence(promise = 18, says = "BAD; NO.")
    static void p18BothMeet() {
        CurveRooms x = new CurveRooms();
        for (int r : NO_REGISTERS) Edges.refused("order(" + r + ") without a curve", x, () -> x.order(r), BAD);
    }

    // ---- promise 19

    @Sentence(promise = 19, says = "The least n, 0 or more, by which n times a is b.")
    static void p19Nought() {
        for (int[] told : Edges.CURVES) {
            CurveRooms x = Edges.made(told);
            x.pick(0, (int) x.classes() - 1);
            Check.due("nought of any: 0, not the order", x.log(0, 1), 0);
            Check.due("nought of nought", x.log(1, 2), 0);
            Check.due("itself", x.log(0, 0), x.which(0) == 0 ? 0 : 1);
        }
    }

    @Sentence(promise = 19, says = "The least n, 0 or more, by which n times a is b.")
    static void p19Least() {
        for (int[] told : Edges.CURVES) {
            int h = classes(told).size();
            for (int i = 1; i < h; i += 1 + h / 8) {
                CurveRooms x = Edges.made(told);
                x.pick(0, i);
                int order = x.order(0);
                for (int n = 0; n < order; n += 1 + order / 50) {
                    x.times(1, 0, n);
                    Check.due("log", x.log(0, 1), n);
                }
                x.times(1, 0, -1);
                Check.due("the last of the round", x.log(0, 1), order - 1);
                x.times(1, 0, order + 1);
                Check.due("one round and one", x.log(0, 1), order == 1 ? 0 : 1);
            }
        }
    }

    @Sentence(promise = 19, says = "NONE.")
    static void p19None() {
        CurveRooms x = Check.onCurve(3, 0, 2, 0, 1);
        x.at(0, 1);
        x.at(1, 2);
        Check.due("another of order 2", x.log(0, 1), NONE);
        Check.due("another of order 2", x.log(1, 0), NONE);
        Check.due("of nought another", x.log(5, 0), NONE);
        CurveRooms y = Check.onCurve(11, 1, 2, 3, 4, 5, 1);
        y.pick(0, 30);
        y.times(1, 0, 2);
        Check.due("no twice is once", y.log(1, 0), NONE);
        Check.due("but once is twice", y.log(0, 1), 2);
        y.times(2, 0, 119);
        Check.due("the greatest", y.log(0, 2), 119);
    }

    @Sentence(promise = 19, says = "BAD; NO.")
    static void p19Wrong() {
        CurveRooms x = filled();
        for (int r : NO_REGISTERS) {
            Edges.refused("log(" + r + ", 0)", x, () -> x.log(r, 0), BAD);
            Edges.refused("log(0, " + r + ")", x, () -> x.log(0, r), BAD);
        }
    }

    @Sentence(promise = 19, says = "BAD; NO.")
    static void p19WithoutCurve() {
        CurveRooms x = new CurveRooms();
        Edges.refused("log(0, 0)", x, () -> x.log(0, 0), NO);
        Edges.refused("log(5, 4)", x, () -> x.log(5, 4), NO);
    }

    @Sentence(promise = 19, says = "BAD; NO.")
    static void p19BothMeet() {
        CurveRooms x = new CurveRooms();
        for (int r : NO_REGISTERS) {
            Edges.refused("log(" + r + ", 0) without a curve", x, () -> x.log(r, 0), BAD);
            Edges.refused("log(0, " + r + ") without a curve", x, () -> x.log(0, r), BAD);
        }
    }

    // ---- promise 20

    private static int[] groupOf(int[] told) {
        CurveRooms x = Edges.made(told);
        int many = 0;
        while (many < 9 && x.group(many) != NONE) many++;
        int[] numbers = new int[many];
        for (int i = 0; i < many; i++) numbers[i] = x.group(i);
        return numbers;
    }

    private static int[] orders(int[] told) {
        int[] orders = new int[classes(told).size()];
        for (int i = 0; i < orders.length; i++) {
            CurveRooms x = Edges.made(told);
            x.pick(0, i);
            orders[i] = x.order(0);
        }
        return orders;
    }

    @Sentence(promise = 20, says = "THE GROUP: the numbers d1, d2, .. each a part of the next one, the first above 1, whose product is h, as whose sums of rounds it is put together.")
    static void p20EachAPartOfTheNext() {
        for (int[][] told : GROUPS) {
            int[] numbers = groupOf(told[0]);
            long product = 1;
            for (int i = 0; i < numbers.length; i++) {
                Check.holds("above 1", numbers[i] > 1);
                if (i > 0) Check.due("a part of the next one", numbers[i] % numbers[i - 1], 0);
                product *= numbers[i];
            }
            Check.due("product", product, Edges.made(told[0]).classes());
        }
    }

    /** Rounds of d1, d2, .. have as many sums that n brings to nought as the parts of n and each in common tell. */
    @Sentence(promise = 20, says = "as whose sums of rounds it is put together.")
    static void p20SumsOfRounds() {
        for (int[][] told : GROUPS) {
            int[] numbers = groupOf(told[0]), orders = orders(told[0]);
            for (int n = 1; n <= orders.length; n++) {
                if (orders.length % n != 0) continue;
                int want = 1, got = 0;
                for (int d : numbers) want *= Plain.part(d, n);
                for (int order : orders) got += n % order == 0 ? 1 : 0;
                Check.due("brought to nought by " + n, got, want);
            }
        }
    }

    @Sentence(promise = 20, says = "THE GROUP: its i-th number (from 0 on).")
    static void p20FromNoughtOn() {
        for (int[][] told : GROUPS) {
            if (told[1] == null) continue;
            for (int i = 0; i < told[1].length; i++) {
                Check.due("group(" + i + ") of " + told[0][0], Edges.made(told[0]).group(i), told[1][i]);
            }
        }
    }

    @Sentence(promise = 20, says = "THE GROUP: its i-th number (from 0 on).")
    static void p20AfterAnotherCurve() {
        CurveRooms x = Check.onCurve(5, 0, 4, 0, 0, 0, 1);
        for (int i = 0; i < 4; i++) Check.due("four rounds of 2", x.group(i), 2);
        Check.due("and no more", x.group(4), NONE);
        Check.setCurve(x, 1, 2, 1, 1, 3, 1);
        Check.due("one round of 49", x.group(0), 49);
        Check.due("and no more", x.group(1), NONE);
        Check.due("refused", Check.setCurve(x, 1), NO);
        Check.due("it stays", x.group(0), 49);
    }

    @Sentence(promise = 20, says = "NONE: not so many.")
    static void p20NotSoMany() {
        for (int[][] told : GROUPS) {
            if (told[1] == null) continue;
            for (int i : new int[] {told[1].length, told[1].length + 1, 4, 7, 8, 9, 100, Check.GREATEST}) {
                Check.due("group(" + i + ")", Edges.made(told[0]).group(i), NONE);
            }
        }
        Check.due("h is 1: none at all", Check.onCurve(3, 2, 2, 0, 1).group(0), NONE);
    }

    @Sentence(promise = 20, says = "whose product is h")
    static void p20OfOneClassAlone() {
        CurveRooms x = Check.onCurve(3, 2, 2, 0, 1);
        for (int round = 0; round < 3; round++) {
            Check.due("which", x.which(round), 0);
            Check.due("pick", x.pick(round, 0), 1);
            Check.due("no other class", x.pick(round, 1), BAD);
            Check.due("order", x.order(round), 1);
            Check.due("no number", x.group(0), NONE);
            Check.due("classes", x.classes(), 1);
        }
    }

    @Sentence(promise = 20, says = "BAD: i below 0; NO.")
    static void p20Wrong() {
        CurveRooms x = filled();
        Edges.refused("group(-1)", x, () -> x.group(-1), BAD);
        Edges.refused("group(least)", x, () -> x.group(Check.LEAST), BAD);
    }

    @Sentence(promise = 20, says = "BAD: i below 0; NO.")
    static void p20WithoutCurve() {
        CurveRooms x = new CurveRooms();
        for (int i : new int[] {0, 1, 9, Check.GREATEST}) Edges.refused("group(" + i + ")", x, () -> x.group(i), NO);
    }

    @Sentence(promise = 20, says = "BAD: i below 0; NO.")
    static void p20BothMeet() {
        CurveRooms x = new CurveRooms();
        Edges.refused("group(-1) without a curve", x, () -> x.group(-1), BAD);
        Edges.refused("group(least) without a curve", x, () -> x.group(Check.LEAST), BAD);
    }

    public static void main(String[] args) throws IllegalAccessException {
        Edges.run(ClassEdges.class);
    }
}
