import java.util.ArrayList;
import java.util.Arrays;
import java.util.List;
import java.util.Random;

/** Terms 5, promises 29 to 34: the sentences about turns, covers and the digest, one test each. */
public final class TurnEdges {
    private static final int BAD = Check.BAD, NO = Check.NO, NONE = Check.NONE;

    /** Curves with more turns than two, and one by 3 where values would tell more turns than rows. */
    private static final int[][] TURNING = {
        {7, 1, 0, 0, 1}, {3, 0, 2, 0, 1}, {5, 0, 4, 0, 0, 0, 1}, {11, 1, 0, 0, 0, 0, 1}, {13, 0, 1, 0, 0, 0, 1},
        {13, 0, 1, 0, 1}, {13, 1, 0, 0, 1}, {3, 1, 2, 0, 0, 0, 1}, {3, 2, 0, 0, 2, 0, 1},
    };

    private static int[] added(int p, int[] a, int[] b) {
        return Plain.less(p, a, Plain.less(p, new int[] {0}, b));
    }

    /** f(a x + b) as a row. */
    private static int[] moved(int p, int[] f, int a, int b) {
        int[] out = {0};
        for (int i = f.length - 1; i >= 0; i--) out = added(p, Plain.product(p, out, new int[] {b, a}), new int[] {f[i]});
        return Arrays.copyOf(out, f.length);
    }

    private static List<int[]> turns(int p, int[] f) {
        List<int[]> all = new ArrayList<>();
        for (int a = 1; a < p; a++) {
            for (int b = 0; b < p; b++) {
                for (int c = 1; c < p; c++) {
                    if (Arrays.equals(moved(p, f, a, b), Plain.product(p, f, new int[] {c * c % p}))) all.add(new int[] {a, b, c});
                }
            }
        }
        return all;
    }

    private static int[][] curves() {
        int[][] all = Arrays.copyOf(Edges.CURVES, Edges.CURVES.length + TURNING.length);
        System.arraycopy(TURNING, 0, all, Edges.CURVES.length, TURNING.length);
        return all;
    }

    // ---- promise 29

    @Sentence(promise = 29, says = "TURNS of the CURVE: x to a x + b, y to c y (a, c not 0), by which f(a x + b) is c c f(x): how many; by a, b, c as digits the i-th.")
    static void p29AllTried() {
        for (int[] told : curves()) {
            CurveRooms x = Edges.made(told);
            List<int[]> all = turns(told[0], Edges.rowOf(told));
            Check.due("how many by " + told[0], x.turns(-1), all.size());
            for (int i = 0; i < all.size(); i++) {
                int[] turn = all.get(i);
                Check.due("turns(" + i + ")", x.turns(i), 10000 * turn[0] + 100 * turn[1] + turn[2]);
            }
        }
    }

    @Sentence(promise = 29, says = "(a, c not 0)")
    static void p29TwoAtLeast() {
        for (int[] told : curves()) {
            CurveRooms x = Edges.made(told);
            Check.holds("itself and the other of each", x.turns(-1) >= 2);
            Check.due("the first", x.turns(0), 10001);
            for (int i = 0; i < x.turns(-1); i++) Check.holds("a, c", x.turns(i) >= 10000 && x.turns(i) % 100 > 0);
        }
    }

    @Sentence(promise = 29, says = "by a, b, c as digits the i-th.")
    static void p29ByDigits() {
        CurveRooms x = Check.onCurve(5, 0, 4, 0, 0, 0, 1);
        Check.due("the most", x.turns(-1), 20);
        int[] first = {10001, 10004, 10101, 10104, 10201};
        for (int i = 0; i < 5; i++) Check.due("turns(" + i + ")", x.turns(i), first[i]);
        for (int i = 1; i < 20; i++) Check.holds("rising", x.turns(i) > x.turns(i - 1));
        Check.due("the last", x.turns(19), 40403);
    }

    @Sentence(promise = 29, says = "by which f(a x + b) is c c f(x)")
    static void p29RowsNotValues() {
        // by 3 f is 2 at each x, so that values would take every a, b; as rows x and a x + b make others
        CurveRooms x = Check.onCurve(3, 2, 0, 0, 2, 0, 1);
        int many = turns(3, new int[] {2, 0, 0, 2, 0, 1}).size();
        for (int v = 0; v < 3; v++) Check.due("f", Plain.value(3, new int[] {2, 0, 0, 2, 0, 1}, v), 2);
        Check.holds("fewer than by values", many < 12);
        Check.due("turns", x.turns(-1), many);
    }

    @Sentence(promise = 29, says = "TURNS: how many (what = NONE), the i-th (10000 a, 100 b and c).")
    static void p29AfterAnotherCurve() {
        CurveRooms x = Check.onCurve(7, 1, 0, 0, 1);
        Check.due("x x x + 1", x.turns(-1), 6);
        Check.setCurve(x, 1, 1, 0, 1);
        Check.due("x x x + x + 1", x.turns(-1), 2);
        Check.due("the second", x.turns(1), 10006);
        Check.due("a refused curve", Check.setCurve(x, 1), NO);
        Check.due("stays", x.turns(-1), 2);
    }

    @Sentence(promise = 29, says = "NONE: not so many.")
    static void p29NotSoMany() {
        for (int[] told : curves()) {
            CurveRooms x = Edges.made(told);
            int many = x.turns(-1);
            Check.holds("the last", x.turns(many - 1) > 0);
            for (int i : new int[] {many, many + 1, 338, 339, Check.GREATEST}) Check.due("turns(" + i + ")", x.turns(i), NONE);
        }
    }

    @Sentence(promise = 29, says = "BAD; NO.")
    static void p29Wrong() {
        CurveRooms x = Edges.full();
        for (int what : new int[] {-2, -3, Check.LEAST}) Edges.refused("turns(" + what + ")", x, () -> x.turns(what), BAD);
    }

    @Sentence(promise = 29, says = "BAD; NO.")
    static void p29WithoutCurve() {
        CurveRooms x = new CurveRooms();
        for (int what : new int[] {-1, 0, 1, 99, Check.GREATEST}) Edges.refused("turns(" + what + ")", x, () -> x.turns(what), NO);
    }

    @Sentence(promise = 29, says = "BAD; NO.")
    static void p29BothMeet() {
        CurveRooms x = new CurveRooms();
        for (int what : new int[] {-2, Check.LEAST}) Edges.refused("turns(" + what + ") without a curve", x, () -> x.turns(what), BAD);
    }

    // ---- promise 30

    @Sentence(promise = 30, says = "What becomes of a POINT.")
    static void p30EachPoint() {
        for (int[] told : curves()) {
            int p = told[0];
            List<int[]> all = turns(p, Edges.rowOf(told));
            for (int i = 0; i < all.size(); i++) {
                CurveRooms x = Edges.made(told);
                int[] turn = all.get(i);
                for (int point = 1; point < x.points(); point++) {
                    int to = x.turned(i, point);
                    Check.due("x", x.point(to, 0), (turn[0] * x.point(point, 0) + turn[1]) % p);
                    Check.due("y", x.point(to, 1), turn[2] * x.point(point, 1) % p);
                }
            }
        }
    }

    @Sentence(promise = 30, says = "What becomes of a POINT by the i-th TURN.")
    static void p30TheEnd() {
        for (int[] told : curves()) {
            CurveRooms x = Edges.made(told);
            for (int i = 0; i < x.turns(-1); i++) Check.due("the end stays", x.turned(i, 0), 0);
            for (int i = 0; i < x.points(); i++) {
                Check.due("by the first itself", x.turned(0, i), i);
                Check.due("by the second the other", x.turned(1, i), x.point(i, 2));
            }
        }
    }

    @Sentence(promise = 30, says = "BAD; NO; then BAD: no such TURN.")
    static void p30Wrong() {
        CurveRooms x = Edges.full();
        Check.due("the last turn, the last point", x.turned(1, 10), 9);
        for (int i : new int[] {2, 3, 338, -1, Check.LEAST, Check.GREATEST}) {
            Edges.refused("turned(" + i + ", 0)", x, () -> x.turned(i, 0), BAD);
            Edges.refused("turned(" + i + ", 1)", x, () -> x.turned(i, 1), BAD);
        }
        for (int i : new int[] {11, -1, 26, 27, Check.LEAST, Check.GREATEST}) {
            Edges.refused("turned(0, " + i + ")", x, () -> x.turned(0, i), BAD);
            Edges.refused("turned(2, " + i + ")", x, () -> x.turned(2, i), BAD);
        }
    }

    @Sentence(promise = 30, says = "BAD; NO; then BAD: no such TURN.")
    static void p30WithoutCurve() {
        CurveRooms x = new CurveRooms();
        Edges.refused("turned(0, 0)", x, () -> x.turned(0, 0), NO);
        Edges.refused("turned(1, 26)", x, () -> x.turned(1, 26), NO);
    }

    @Sentence(promise = 30, says = "NO; then BAD: no such TURN.")
    static void p30NoAheadOfNoSuchTurn() {
        CurveRooms x = new CurveRooms();
        for (int i : new int[] {2, 99, 338, Check.GREATEST}) Edges.refused("turned(" + i + ", 0) without a curve", x, () -> x.turned(i, 0), NO);
    }

    @Sentence(promise = 30, says = "BAD; NO;")
    static void p30BothMeet() {
        CurveRooms x = new CurveRooms();
        for (int i : new int[] {-1, 27, Check.LEAST, Check.GREATEST}) {
            Edges.refused("turned(0, " + i + ") without a curve", x, () -> x.turned(0, i), BAD);
            Edges.refused("turned(99, " + i + ") without a curve", x, () -> x.turned(99, i), BAD);
        }
        Edges.refused("turned(-1, 0) without a curve", x, () -> x.turned(-1, 0), BAD);
    }

    // ---- promise 31

    @Sentence(promise = 31, says = "An amount of a COVER at a (0 .. P less 1): what it was.")
    static void p31WhatItWas() {
        for (int p : Check.PRIMES) {
            CurveRooms x = Check.onPrime(p);
            for (int a = 0; a < p; a++) Check.due("0 at first", x.cover(a, 20 - a), 0);
            for (int a = 0; a < p; a++) Check.due("cover(" + a + ")", x.cover(a, 0), 20 - a);
            for (int a = 0; a < p; a++) Check.due("cover(" + a + ")", x.cover(a, 20), 0);
        }
    }

    @Sentence(promise = 31, says = "BAD.")
    static void p31Wrong() {
        for (int p : Check.PRIMES) {
            CurveRooms x = Check.onPrime(p);
            x.cover(p - 1, 20);
            for (int a : new int[] {p, -1, Check.LEAST, Check.GREATEST}) {
                Edges.refused("cover(" + a + ", 1)", x, () -> x.cover(a, 1), BAD);
                Edges.refused("cover(" + a + ", 21)", x, () -> x.cover(a, 21), BAD);
            }
            for (int e : new int[] {21, -1, Check.LEAST, Check.GREATEST}) Edges.refused("cover(0, " + e + ")", x, () -> x.cover(0, e), BAD);
            Check.due("it stays", x.cover(p - 1, 0), 20);
        }
    }

    @Sentence(promise = 31, says = "An amount of a COVER at a (0 .. P less 1): what it was.")
    static void p31WithAndWithoutCurve() {
        CurveRooms x = new CurveRooms();
        x.cover(2, 3);
        Check.setCurve(x, 1, 1, 0, 1);
        Check.due("a curve leaves it", x.cover(2, 4), 3);
        Check.due("a refused curve leaves it", Check.setCurve(x, 0), NO);
        Check.due("a refused curve leaves it", x.cover(2, 0), 4);
    }

    // ---- promise 32

    @Sentence(promise = 32, says = "A COVER y to the n = the product of (x less a) to told amounts e(a) (a 0 .. P less 1; 0 .. 20): n 2 .. 12, no P in n;")
    static void p32EachN() {
        for (int p : Check.PRIMES) {
            CurveRooms x = Check.onPrime(p);
            x.cover(0, 1);
            for (int n = -1; n <= 14; n++) {
                int told = n;
                boolean fits = n >= 2 && n <= 12 && n % p != 0;
                Check.due("genus(" + n + ") by " + p, x.genus(told), fits ? 0 : BAD);
            }
        }
    }

    private static int genus(int p, int n, int[] e) {
        int sum = Arrays.stream(e).sum(), twice = 2 - 2 * n + n - Plain.part(n, sum);
        for (int a = 0; a < p; a++) twice += n - Plain.part(n, e[a]);
        Check.due("an even number", twice % 2, 0);
        return twice / 2;
    }

    @Sentence(promise = 32, says = "its GENUS: with w(a) = n less the greatest part of n and e(a), and at the END by the sum of all e: twice GENUS less 2 is -2 n and all w together;")
    static void p32ByAllW() {
        Random random = new Random(32);
        for (int p : Check.PRIMES) {
            for (int round = 0; round < 12; round++) {
                CurveRooms x = Check.onPrime(p);
                int[] e = new int[p];
                for (int a = 0; a < p; a++) {
                    e[a] = random.nextInt(3) > 0 ? random.nextInt(21) : 0;
                    x.cover(a, e[a]);
                }
                for (int n = 2; n <= 12; n++) {
                    if (n % p == 0) continue;
                    int common = n;
                    for (int v : e) common = Plain.part(common, v);
                    Check.due("genus(" + n + ") by " + p, x.genus(n), common == 1 ? genus(p, n, e) : NO);
                }
            }
        }
    }

    @Sentence(promise = 32, says = "and at the END by the sum of all e:")
    static void p32AtTheEnd() {
        CurveRooms x = new CurveRooms();
        for (int a = 0; a < 5; a++) x.cover(a, 1);
        Check.due("y y = five parts: branches at the end", x.genus(2), 2);
        x.cover(5, 1);
        Check.due("y y = six parts: none at the end", x.genus(2), 2);
        x.cover(6, 1);
        Check.due("y y = seven parts", x.genus(2), 3);
        for (int a = 0; a < 7; a++) x.cover(a, 20);
        Check.due("2 in all", x.genus(2), NO);
        Check.due("by 9: 140 in all has no 3", x.genus(9), 24);
        Check.due("by 11", x.genus(11), 30);
    }

    @Sentence(promise = 32, says = "only where n and all e have no part in common.")
    static void p32APartInCommon() {
        CurveRooms x = new CurveRooms();
        for (int n : new int[] {2, 3, 4, 6, 12}) Edges.refused("no amounts, n " + n, x, () -> x.genus(n), NO);
        x.cover(3, 4);
        x.cover(4, 6);
        for (int n : new int[] {2, 4, 6, 8, 10, 12}) Edges.refused("4, 6 and " + n, x, () -> x.genus(n), NO);
        Check.due("4, 6 and 3", x.genus(3), 0);
        Check.due("4, 6 and 5", x.genus(5), 0);
        Check.due("4, 6 and 9", x.genus(9), 3);
        x.cover(0, 3);
        Check.due("4, 6, 3 and 12: no part in all", x.genus(12), 6);
        Check.due("4, 6, 3 and 2", x.genus(2), 0);
    }

    @Sentence(promise = 32, says = "BAD: also P a part of n; NO: n and all e have a part in common.")
    static void p32Wrong() {
        for (int p : Check.PRIMES) {
            CurveRooms x = Check.onPrime(p);
            x.cover(1, 1);
            for (int n : new int[] {1, 0, -1, 13, 14, -p, Check.LEAST, Check.GREATEST}) Edges.refused("genus(" + n + ")", x, () -> x.genus(n), BAD);
            for (int n = p; n <= 12; n += p) {
                int told = n;
                Edges.refused("genus(" + n + ") by " + p, x, () -> x.genus(told), BAD);
            }
        }
    }

    @Sentence(promise = 32, says = "BAD: also P a part of n; NO: n and all e have a part in common.")
    static void p32BothMeet() {
        for (int p : Check.PRIMES) {
            CurveRooms x = Check.onPrime(p);
            for (int n = p; n <= 12; n += p) {
                int told = n;
                Edges.refused("genus(" + n + "), no amounts", x, () -> x.genus(told), BAD);
            }
            for (int n : new int[] {0, 13, 14, Check.LEAST}) Edges.refused("genus(" + n + "), no amounts", x, () -> x.genus(n), BAD);
        }
    }

    @Sentence(promise = 32, says = "GENUS of the COVER by n.")
    static void p32WithoutCurve() {
        CurveRooms x = new CurveRooms();
        for (int a = 0; a < 3; a++) x.cover(a, 1);
        Check.due("it asks for no curve", x.genus(2), 1);
        Check.setCurve(x, 3, 1, 0, 0, 0, 1);
        Check.due("nor is it the curve's", x.genus(2), 1);
    }

    // ---- promise 33

    @Sentence(promise = 33, says = "FULL: a POINT a (or P: the END) has so many places above it as the greatest part of n and e(a).")
    static void p33GreatestPart() {
        for (int p : Check.PRIMES) {
            CurveRooms x = Check.onPrime(p);
            int sum = 0;
            for (int a = 0; a < p; a++) {
                x.cover(a, (7 * a + 4) % 21);
                sum += (7 * a + 4) % 21;
            }
            for (int n = 2; n <= 12; n++) {
                if (n % p == 0) continue;
                for (int a = 0; a < p; a++) Check.due("above(" + n + ", " + a + ")", x.above(n, a), Plain.part(n, (7 * a + 4) % 21));
                Check.due("above(" + n + ", the end)", x.above(n, p), Plain.part(n, sum));
            }
        }
    }

    @Sentence(promise = 33, says = "How many places are above a (0 .. P less 1; P: the END).")
    static void p33WithoutAmounts() {
        for (int p : Check.PRIMES) {
            CurveRooms x = Check.onPrime(p);
            int most = p == 3 ? 11 : 12;
            for (int a = 0; a <= p; a++) Check.due("nothing branches above " + a, x.above(most, a), most);
            x.cover(0, 1);
            Check.due("1 above 0", x.above(most, 0), 1);
            Check.due("1 above the end", x.above(most, p), 1);
            for (int a = 1; a < p; a++) Check.due("all above " + a, x.above(most, a), most);
        }
        CurveRooms x = new CurveRooms();
        x.cover(0, 20);
        x.cover(1, 10);
        Check.due("n and all e need not be without part", x.above(10, 0), 10);
        Check.due("n and all e need not be without part", x.above(10, 7), 10);
        Check.due("a part of n that is less", x.above(4, 1), 2);
    }

    @Sentence(promise = 33, says = "BAD.")
    static void p33Wrong() {
        for (int p : Check.PRIMES) {
            CurveRooms x = Check.onPrime(p);
            x.cover(0, 6);
            for (int n : new int[] {1, 0, -1, 13, 14, Check.LEAST, Check.GREATEST}) {
                Edges.refused("above(" + n + ", 0)", x, () -> x.above(n, 0), BAD);
                Edges.refused("above(" + n + ", the end)", x, () -> x.above(n, p), BAD);
            }
            for (int a : new int[] {p + 1, -1, Check.LEAST, Check.GREATEST}) Edges.refused("above(2, " + a + ")", x, () -> x.above(2, a), BAD);
            Edges.refused("above(1, -1)", x, () -> x.above(1, -1), BAD);
        }
    }

    @Sentence(promise = 33, says = "no P in n;")
    static void p33NoPInN() {
        for (int p : Check.PRIMES) {
            CurveRooms x = Check.onPrime(p);
            for (int n = p; n <= 12; n += p) {
                int told = n;
                Edges.refused("above(" + n + ", 0) by " + p, x, () -> x.above(told, 0), BAD);
            }
        }
    }

    // ---- promise 34

    private static long mix(long h, int... values) {
        long mixed = h;
        for (int v : values) mixed = 31 * mixed + v;
        return mixed;
    }

    @Sentence(promise = 34, says = "h = 347; then h = 31 h + v for each v: P; f's coefficients; of REGISTERS u's, then v's coefficients (as many as DEGREE and 1; of nought none); amounts at POINTS, the END first (without a CURVE that of the END alone: 0); the told row (26); amounts of the COVER (P of them); how many THE ROW has, these.")
    static void p34WholeObject() {
        CurveRooms x = Edges.full();
        long h = mix(347, 7, 3, 1, 0, 0, 0, 1);
        List<int[][]> all = Plain.classes(7, new int[] {3, 1, 0, 0, 0, 1});
        for (int r = 0; r < 6; r++) {
            int[] u = all.get(15 + 11 * r)[0], v = all.get(15 + 11 * r)[1];
            h = mix(h, u);
            h = mix(h, v[1] == 0 ? new int[] {v[0]} : v);
        }
        h = mix(h, 9, -4, -3, -2, -1, 2, 3, 4, 1, 2, 3);
        for (int j = 0; j < 26; j++) h = mix(h, 1 + j % 6);
        h = mix(h, 1, 3, 5, 7, 9, 11, 13);
        Check.due("digest", x.digest(), mix(h, 3, 5, 0, 6));
    }

    @Sentence(promise = 34, says = "(as many as DEGREE and 1; of nought none)")
    static void p34ShortRows() {
        CurveRooms x = Check.onCurve(5, 0, 4, 0, 0, 0, 1);
        x.at(0, 2);
        x.at(1, 3);
        x.sum(5, 0, 1);
        // u's x + 4, x + 3 and (x + 4)(x + 3), each with v nought; registers 2, 3, 4 u 1 alone
        long h = mix(347, 5, 0, 4, 0, 0, 0, 1, 4, 1, 3, 1, 1, 1, 1, 2, 2, 1);
        Check.due("v nought", x.digest(), mix(mix(mix(h, new int[6]), new int[26]), new int[6]));
        CurveRooms y = Edges.genus2();
        y.at(0, 1);
        y.at(1, 5);
        y.sum(2, 0, 1);
        long g = mix(347, 7, 3, 1, 0, 0, 0, 1, 5, 1, 3, 3, 1, 3, 1, 1, 1, 3, 1, 1, 1);
        Check.due("v of degree 0 by u of degree 2", y.digest(), mix(mix(mix(g, new int[11]), new int[26]), new int[8]));
    }

    @Sentence(promise = 34, says = "(without a CURVE that of the END alone: 0)")
    static void p34WithoutCurve() {
        for (int p : Check.PRIMES) {
            CurveRooms x = Check.onPrime(p);
            long h = mix(347, p, 1, 1, 1, 1, 1, 1, 0);
            Check.due("by " + p, x.digest(), mix(mix(mix(h, new int[26]), new int[p]), 0));
        }
    }

    @Sentence(promise = 34, says = "how many THE ROW has, these.")
    static void p34TheRow() {
        CurveRooms x = Check.onPrime(3);
        long h = mix(mix(mix(347, 3, 1, 1, 1, 1, 1, 1, 0), new int[26]), new int[3]);
        x.push(0);
        Check.due("one 0", x.digest(), mix(h, 1, 0));
        for (int v : new int[] {2, 0, 1, 0, 0}) x.push(v);
        Check.due("six, the highest 0", x.digest(), mix(h, 6, 0, 2, 0, 1, 0, 0));
        x.curve();
        long g = mix(mix(mix(347, 3, 0, 2, 0, 1, 1, 1, 1, 1, 1, 1), new int[4]), new int[29]);
        Check.due("f's coefficients as many as its degree and 1", x.digest(), mix(g, 0));
    }

    @Sentence(promise = 34, says = "amounts at POINTS, the END first")
    static void p34EachPart() {
        CurveRooms x = Edges.full();
        long first = x.digest();
        Check.due("the end", mixedBy(x, first, () -> x.amount(0, 8)), 1);
        Check.due("the last point", mixedBy(x, first, () -> x.amount(10, 0)), 1);
        Check.due("the told row's last", mixedBy(x, first, () -> x.tell(25, 0)), 1);
        Check.due("the cover's last", mixedBy(x, first, () -> x.cover(6, 0)), 1);
        Check.due("the last register", mixedBy(x, first, () -> x.pick(5, 1)), 1);
        Check.due("the row", mixedBy(x, first, () -> x.push(0)), 1);
    }

    private static int mixedBy(CurveRooms x, long first, Runnable change) {
        long before = x.digest();
        change.run();
        return x.digest() != before && x.digest() != first ? 1 : 0;
    }

    /** What only asks leaves all as it was, whatever it had to find out. */
    @Sentence(promise = 34, says = "long digest();")
    static void p34AskingChangesNothing() {
        CurveRooms x = Edges.full();
        long before = x.digest();
        x.points();
        x.point(3, 2);
        x.count(6);
        x.countAll();
        x.share(3);
        x.classes();
        x.places(6);
        x.of(3, 0, 1);
        x.which(3);
        x.order(3);
        x.log(3, 4);
        x.group(0);
        x.room(0);
        x.room(2);
        x.gaps(4);
        x.code(9, 1);
        x.read(9, 2, 2);
        x.near(4, 1);
        x.least(4);
        x.turns(1);
        x.turned(1, 4);
        x.genus(5);
        x.above(3, 7);
        Check.due("digest", x.digest(), before);
        Check.due("digest", x.digest(), before);
    }

    public static void main(String[] args) throws IllegalAccessException {
        Edges.run(TurnEdges.class);
    }
}
