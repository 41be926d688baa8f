/** Promises 1 to 11: the curve, its points, its counts. */
public final class CurvePromises {
    private static int wrong = 0;

    private static void due(String call, long got, long want) {
        if (got == want) return;
        wrong++;
        System.out.println(call + " answered " + got + ", due is " + want);
    }

    private static CurveRooms made(int p, int... row) {
        CurveRooms x = new CurveRooms();
        due("prime(" + p + ")", x.prime(p), 1);
        for (int i = 0; i < row.length; i++) due("push", x.push(row[i]), i + 1);
        return x;
    }

    private static void newObject() {
        CurveRooms x = new CurveRooms();
        due("new: push(7)", x.push(7), CurveRooms.BAD);
        due("new: points", x.points(), CurveRooms.NO);
        due("new: push(6)", x.push(6), 1);
    }

    private static void primes() {
        CurveRooms x = new CurveRooms();
        for (int p = -5; p < 20; p++) {
            boolean fit = p == 3 || p == 5 || p == 7 || p == 11 || p == 13;
            due("prime(" + p + ")", x.prime(p), fit ? 1 : CurveRooms.BAD);
        }
        due("prime(least)", x.prime(Integer.MIN_VALUE), CurveRooms.BAD);
        due("prime(greatest)", x.prime(Integer.MAX_VALUE), CurveRooms.BAD);
        due("P is 13 still", x.push(12), 1);
        due("prime(3)", x.prime(3), 1);
        due("the row is empty", x.push(2), 1);
        due("P is 3", x.push(3), CurveRooms.BAD);
    }

    private static void primeMakesAllAsAtFirst() {
        CurveRooms fresh = new CurveRooms();
        CurveRooms x = made(7, 1, 1, 0, 1);
        due("curve", x.curve(), 1);
        x.at(2, 1);
        x.amount(0, 5);
        x.amount(3, -2);
        x.tell(4, 6);
        x.cover(2, 9);
        x.push(3);
        due("refused prime changes nothing", x.prime(9), CurveRooms.BAD);
        due("still a curve", x.points(), 5);
        due("prime(7)", x.prime(7), 1);
        due("as at first", x.digest(), fresh.digest());
        due("no curve", x.points(), CurveRooms.NO);
        due("no amount", x.amount(0, 5), -200);
    }

    private static void pushes() {
        CurveRooms x = made(5, 0, 1, 2, 3, 4, 0);
        due("push(7th)", x.push(1), CurveRooms.FULL);
        due("BAD ahead of FULL", x.push(5), CurveRooms.BAD);
        due("BAD ahead of FULL", x.push(-1), CurveRooms.BAD);
        due("curve of highest 4", x.curve(), CurveRooms.NO);
        due("the row is empty", x.push(1), 1);
    }

    private static void notAsTold(String why, int p, int... row) {
        CurveRooms x = made(p, row);
        due("curve: " + why, x.curve(), CurveRooms.NO);
        due("curve: " + why + ": empty row", x.push(1), 1);
        due("curve: " + why + ": none", x.points(), CurveRooms.NO);
    }

    private static void curves() {
        notAsTold("empty", 7);
        notAsTold("nought", 7, 0, 0, 0, 0, 0, 0);
        notAsTold("degree 0", 7, 1);
        notAsTold("degree 2", 7, 1, 0, 1);
        notAsTold("degree 4", 7, 1, 1, 0, 0, 1);
        notAsTold("highest 2", 7, 1, 1, 0, 2);
        notAsTold("x x x", 7, 0, 0, 0, 1);
        notAsTold("(x - 1)(x - 1)(x + 2)", 7, 2, 4, 0, 1);
        notAsTold("derived is nought", 3, 1, 0, 0, 1);
        notAsTold("derived is nought", 5, 2, 0, 0, 0, 0, 1);
        notAsTold("(x x + 1)(x x + 1) x", 7, 0, 1, 0, 2, 0, 1);
        due("0s above the highest", made(5, 1, 0, 0, 1, 0, 0).curve(), 1);
        due("degree 5", made(3, 0, 1, 0, 0, 0, 1).curve(), 2);
        due("degree 5 by 5", made(5, 0, 4, 0, 0, 0, 1).curve(), 2);
    }

    private static void refusedCurveKeepsWhatWas() {
        CurveRooms x = made(7, 1, 1, 0, 1);
        x.curve();
        x.at(1, 2);
        x.amount(2, 3);
        x.tell(1, 1);
        x.cover(1, 4);
        long before = x.digest();
        x.push(0);
        x.push(1);
        due("curve: x", x.curve(), CurveRooms.NO);
        due("what there was stays", x.digest(), before);
        for (int v : new int[] {3, 0, 0, 1}) x.push(v);
        due("curve: another", x.curve(), 1);
        due("registers are nought", x.which(1), 0);
        due("amounts are 0", x.amount(2, 0), 0);
        due("the told row stays", x.tell(1, 0), 1);
        due("the cover stays", x.cover(1, 0), 4);
    }

    private static void allPoints() {
        CurveRooms none = new CurveRooms();
        due("points", none.points(), CurveRooms.NO);
        due("point(26, 2) without a curve", none.point(26, 2), CurveRooms.NO);
        due("point(27, 2) without a curve", none.point(27, 2), CurveRooms.BAD);
        due("point(-1, 2) without a curve", none.point(-1, 2), CurveRooms.BAD);
        due("point(0, 3) without a curve", none.point(0, 3), CurveRooms.BAD);
        CurveRooms x = made(7, 1, 1, 0, 1);
        x.curve();
        int[] xs = {CurveRooms.NONE, 0, 0, 2, 2}, ys = {CurveRooms.NONE, 1, 6, 2, 5}, others = {0, 2, 1, 4, 3};
        due("points", x.points(), 5);
        for (int i = 0; i < 5; i++) {
            due("x of " + i, x.point(i, 0), xs[i]);
            due("y of " + i, x.point(i, 1), ys[i]);
            due("other of " + i, x.point(i, 2), others[i]);
        }
        due("point(5, 0)", x.point(5, 0), CurveRooms.BAD);
        due("point(-1, 0)", x.point(-1, 0), CurveRooms.BAD);
        due("point(1, 3)", x.point(1, 3), CurveRooms.BAD);
        due("point(1, -1)", x.point(1, -1), CurveRooms.BAD);
        CurveRooms own = made(3, 0, 2, 0, 1);
        own.curve();
        for (int i = 0; i < 4; i++) due("y 0: other of " + i, own.point(i, 2), i);
    }

    private static void allCounts() {
        CurveRooms x = made(7, 1, 1, 0, 1);
        due("count without a curve", x.count(1), CurveRooms.NO);
        due("count(0) without a curve", x.count(0), CurveRooms.BAD);
        due("countAll without a curve", x.countAll(), CurveRooms.NO);
        due("classes without a curve", x.classes(), CurveRooms.NO);
        due("places without a curve", x.places(6), CurveRooms.NO);
        due("places(7) without a curve", x.places(7), CurveRooms.BAD);
        due("share without a curve", x.share(9), -2100000000L);
        due("share(-1) without a curve", x.share(-1), -2000000000L);
        x.curve();
        long[] over = {5, 55, 380, 2475, 16775, 117040};
        for (int k = 1; k <= 6; k++) due("count(" + k + ")", x.count(k), over[k - 1]);
        due("count(7)", x.count(7), CurveRooms.BAD);
        due("count(-1)", x.count(-1), CurveRooms.BAD);
        due("countAll", x.countAll(), 55);
        long[] places = {5, 25, 125, 605, 3354, 19435};
        for (int d = 1; d <= 6; d++) due("places(" + d + ")", x.places(d), places[d - 1]);
        due("places(0)", x.places(0), CurveRooms.BAD);
        due("share(2)", x.share(2), 7);
        due("share(3)", x.share(3), -1000000000L);
        due("share(-1)", x.share(-1), -2000000000L);
        due("classes", x.classes(), 5);
    }

    /** For every curve: the two roads to N(2) meet, and places make the counts again. */
    private static void countsMeet(int p, int degree) {
        int all = 1;
        for (int i = 0; i < degree; i++) all *= p;
        int step = all > 400 ? all / 97 : 1;
        CurveRooms x = null;
        for (int n = 0; n < all; n += step) {
            if (n / step % 40 == 0) x = made(p);
            int rest = n;
            for (int i = 0; i < degree; i++, rest /= p) x.push(rest % p);
            x.push(1);
            int genus = x.curve();
            if (genus < 0) continue;
            due("genus", genus, degree / 2);
            due("N(1)", x.count(1), x.points());
            due("N(2)", x.countAll(), x.count(2));
            long sum = 0;
            for (int i = 0; i <= 2 * genus; i++) sum += x.share(i);
            due("h", x.classes(), sum);
            for (int k = 1; k <= 6; k++) {
                long made = 0;
                for (int d = 1; d <= k; d++) made += k % d == 0 ? d * x.places(d) : 0;
                due("N(" + k + ") of places", made, x.count(k));
            }
        }
    }

    public static void main(String[] args) {
        newObject();
        primes();
        primeMakesAllAsAtFirst();
        pushes();
        curves();
        refusedCurveKeepsWhatWas();
        allPoints();
        allCounts();
        for (int p : new int[] {3, 5, 7, 11, 13}) {
            countsMeet(p, 3);
            countsMeet(p, 5);
        }
        System.out.println(wrong == 0 ? "all answers are as due" : wrong + " answers are not as due");
        if (wrong != 0) System.exit(1);
    }
}
