/** Promises 1 to 11: the curve, its points, its counts. */
public final class CurvePromises {
    private static CurveRooms made(int p, int... row) {
        CurveRooms x = Check.onPrime(p);
        for (int i = 0; i < row.length; i++) Check.due("push", x.push(row[i]), i + 1);
        return x;
    }

    private static void newObject() {
        CurveRooms x = new CurveRooms();
        Check.due("new: push(7)", x.push(7), Check.BAD);
        Check.due("new: points", x.points(), Check.NO);
        Check.due("new: push(6)", x.push(6), 1);
    }

    private static void primes() {
        CurveRooms x = new CurveRooms();
        for (int p = -5; p < 20; p++) {
            boolean fit = p == 3 || p == 5 || p == 7 || p == 11 || p == 13;
            Check.due("prime(" + p + ")", x.prime(p), fit ? 1 : Check.BAD);
        }
        Check.due("prime(least)", x.prime(Integer.MIN_VALUE), Check.BAD);
        Check.due("prime(greatest)", x.prime(Integer.MAX_VALUE), Check.BAD);
        Check.due("P is 13 still", x.push(12), 1);
        Check.due("prime(3)", x.prime(3), 1);
        Check.due("the row is empty", x.push(2), 1);
        Check.due("P is 3", x.push(3), Check.BAD);
    }

    private static void primeMakesAllAsAtFirst() {
        CurveRooms fresh = new CurveRooms();
        CurveRooms x = made(7, 1, 1, 0, 1);
        Check.due("curve", x.curve(), 1);
        x.at(2, 1);
        x.amount(0, 5);
        x.amount(3, -2);
        x.tell(4, 6);
        x.cover(2, 9);
        x.push(3);
        Check.due("refused prime changes nothing", x.prime(9), Check.BAD);
        Check.due("still a curve", x.points(), 5);
        Check.due("prime(7)", x.prime(7), 1);
        Check.due("as at first", x.digest(), fresh.digest());
        Check.due("no curve", x.points(), Check.NO);
        Check.due("no amount", x.amount(0, 5), -200);
    }

    private static void pushes() {
        CurveRooms x = made(5, 0, 1, 2, 3, 4, 0);
        Check.due("push(7th)", x.push(1), Check.FULL);
        Check.due("BAD ahead of FULL", x.push(5), Check.BAD);
        Check.due("BAD ahead of FULL", x.push(-1), Check.BAD);
        Check.due("curve of highest 4", x.curve(), Check.NO);
        Check.due("the row is empty", x.push(1), 1);
    }

    private static void notAsTold(String why, int p, int... row) {
        CurveRooms x = made(p, row);
        Check.due("curve: " + why, x.curve(), Check.NO);
        Check.due("curve: " + why + ": empty row", x.push(1), 1);
        Check.due("curve: " + why + ": none", x.points(), Check.NO);
    }

    private static void curves() {
        notAsTold("empty", 7);
        notAsTold("nought", 7, 0, 0, 0, 0, 0, 0);
        notAsTold("degree 0", 7, 1);
        notAsTold("degree 2", 7, 1, 0, 1);
        notAsTold("degree 4", 7, 1, 1, 0, 0, 1);
        notAsTold("highest 2", 7, 1, 1, 0, 2);
        notAsTold("x x x", 7, 0, 0, 0, 1);
        notAsTold("(x - 1)(x - 1)(x + 2)", 7, 2, 4, 0, 1);
        notAsTold("derived is nought", 3, 1, 0, 0, 1);
        notAsTold("derived is nought", 5, 2, 0, 0, 0, 0, 1);
        notAsTold("(x x + 1)(x x + 1) x", 7, 0, 1, 0, 2, 0, 1);
        Check.due("0s above the highest", made(5, 1, 0, 0, 1, 0, 0).curve(), 1);
        Check.due("degree 5", made(3, 0, 1, 0, 0, 0, 1).curve(), 2);
        Check.due("degree 5 by 5", made(5, 0, 4, 0, 0, 0, 1).curve(), 2);
    }

    private static void refusedCurveKeepsWhatWas() {
        CurveRooms x = made(7, 1, 1, 0, 1);
        x.curve();
        x.at(1, 2);
        x.amount(2, 3);
        x.tell(1, 1);
        x.cover(1, 4);
        long before = x.digest();
        x.push(0);
        x.push(1);
        Check.due("curve: x", x.curve(), Check.NO);
        Check.due("what there was stays", x.digest(), before);
        for (int v : new int[] {3, 0, 0, 1}) x.push(v);
        Check.due("curve: another", x.curve(), 1);
        Check.due("registers are nought", x.which(1), 0);
        Check.due("amounts are 0", x.amount(2, 0), 0);
        Check.due("the told row stays", x.tell(1, 0), 1);
        Check.due("the cover stays", x.cover(1, 0), 4);
    }

    private static void allPoints() {
        CurveRooms none = new CurveRooms();
        Check.due("points", none.points(), Check.NO);
        Check.due("point(26, 2) without a curve", none.point(26, 2), Check.NO);
        Check.due("point(27, 2) without a curve", none.point(27, 2), Check.BAD);
        Check.due("point(-1, 2) without a curve", none.point(-1, 2), Check.BAD);
        Check.due("point(0, 3) without a curve", none.point(0, 3), Check.BAD);
        CurveRooms x = made(7, 1, 1, 0, 1);
        x.curve();
        int[] xs = {Check.NONE, 0, 0, 2, 2}, ys = {Check.NONE, 1, 6, 2, 5}, others = {0, 2, 1, 4, 3};
        Check.due("points", x.points(), 5);
        for (int i = 0; i < 5; i++) {
            Check.due("x of " + i, x.point(i, 0), xs[i]);
            Check.due("y of " + i, x.point(i, 1), ys[i]);
            Check.due("other of " + i, x.point(i, 2), others[i]);
        }
        Check.due("point(5, 0)", x.point(5, 0), Check.BAD);
        Check.due("point(-1, 0)", x.point(-1, 0), Check.BAD);
        Check.due("point(1, 3)", x.point(1, 3), Check.BAD);
        Check.due("point(1, -1)", x.point(1, -1), Check.BAD);
        CurveRooms own = made(3, 0, 2, 0, 1);
        own.curve();
        for (int i = 0; i < 4; i++) Check.due("y 0: other of " + i, own.point(i, 2), i);
    }

    private static void allCounts() {
        CurveRooms x = made(7, 1, 1, 0, 1);
        Check.due("count without a curve", x.count(1), Check.NO);
        Check.due("count(0) without a curve", x.count(0), Check.BAD);
        Check.due("countAll without a curve", x.countAll(), Check.NO);
        Check.due("classes without a curve", x.classes(), Check.NO);
        Check.due("places without a curve", x.places(6), Check.NO);
        Check.due("places(7) without a curve", x.places(7), Check.BAD);
        Check.due("share without a curve", x.share(9), -2100000000L);
        Check.due("share(-1) without a curve", x.share(-1), -2000000000L);
        x.curve();
        long[] over = {5, 55, 380, 2475, 16775, 117040};
        for (int k = 1; k <= 6; k++) Check.due("count(" + k + ")", x.count(k), over[k - 1]);
        Check.due("count(7)", x.count(7), Check.BAD);
        Check.due("count(-1)", x.count(-1), Check.BAD);
        Check.due("countAll", x.countAll(), 55);
        long[] places = {5, 25, 125, 605, 3354, 19435};
        for (int d = 1; d <= 6; d++) Check.due("places(" + d + ")", x.places(d), places[d - 1]);
        Check.due("places(0)", x.places(0), Check.BAD);
        Check.due("share(2)", x.share(2), 7);
        Check.due("share(3)", x.share(3), -1000000000L);
        Check.due("share(-1)", x.share(-1), -2000000000L);
        Check.due("classes", x.classes(), 5);
    }

    /** For many curves: the two roads to N(2) meet, and places make the counts again. */
    private static void countsMeet(int p, int degree) {
        for (int n : Check.spread(p, degree, 400)) {
            CurveRooms x = Check.onPrime(p);
            int genus = Check.setCurve(x, Check.row(p, degree, n));
            if (genus < 0) continue;
            Check.due("genus", genus, degree / 2);
            Check.due("N(1)", x.count(1), x.points());
            Check.due("N(2)", x.countAll(), x.count(2));
            long sum = 0;
            for (int i = 0; i <= 2 * genus; i++) sum += x.share(i);
            Check.due("h", x.classes(), sum);
            for (int k = 1; k <= 6; k++) {
                long made = 0;
                for (int d = 1; d <= k; d++) made += k % d == 0 ? d * x.places(d) : 0;
                Check.due("N(" + k + ") of places", made, x.count(k));
            }
        }
    }

    public static void main(String[] args) {
        newObject();
        primes();
        primeMakesAllAsAtFirst();
        pushes();
        curves();
        refusedCurveKeepsWhatWas();
        allPoints();
        allCounts();
        for (int p : Check.PRIMES) {
            countsMeet(p, 3);
            countsMeet(p, 5);
        }
        Check.end();
    }
}
