/** Promises 12 to 20: classes in registers, their sums, orders and their group. */
public final class ClassPromises {
    private static final int[][] CURVES = {
        {3, 1, 2, 0, 1}, {3, 0, 2, 0, 1}, {3, 1, 2, 0, 0, 0, 1}, {5, 1, 1, 1, 1, 1, 1}, {5, 0, 4, 0, 0, 0, 1},
        {7, 1, 1, 0, 1}, {7, 3, 1, 0, 0, 0, 1}, {11, 3, 0, 1, 1}, {11, 1, 2, 3, 4, 5, 1}, {13, 0, 1, 0, 0, 0, 1},
    };

    private static void withoutCurve() {
        CurveRooms x = new CurveRooms();
        Check.due("at(5, 26)", x.at(5, 26), Check.NO);
        Check.due("at(6, 0)", x.at(6, 0), Check.BAD);
        Check.due("at(0, 27)", x.at(0, 27), Check.BAD);
        Check.due("pick(0, 1000000)", x.pick(0, 1000000), Check.NO);
        Check.due("pick(0, -1)", x.pick(0, -1), Check.BAD);
        Check.due("pick(-1, 0)", x.pick(-1, 0), Check.BAD);
        Check.due("sum(0, 1, 2)", x.sum(0, 1, 2), Check.NO);
        Check.due("sum(0, 1, 6)", x.sum(0, 1, 6), Check.BAD);
        Check.due("times(0, 0, 100000)", x.times(0, 0, 100000), Check.NO);
        Check.due("times(0, 0, -100001)", x.times(0, 0, -100001), Check.BAD);
        Check.due("of(0, 0, 0)", x.of(0, 0, 0), Check.NO);
        Check.due("of(0, 0, -1)", x.of(0, 0, -1), Check.BAD);
        Check.due("which(0)", x.which(0), Check.NO);
        Check.due("which(-1)", x.which(-1), Check.BAD);
        Check.due("order(0)", x.order(0), Check.NO);
        Check.due("order(6)", x.order(6), Check.BAD);
        Check.due("log(0, 1)", x.log(0, 1), Check.NO);
        Check.due("log(0, -1)", x.log(0, -1), Check.BAD);
        Check.due("group(0)", x.group(0), Check.NO);
        Check.due("group(-1)", x.group(-1), Check.BAD);
    }

    private static void wrongInputs() {
        CurveRooms x = Check.onCurve(7, 1, 1, 0, 1);
        x.at(0, 3);
        long before = x.digest();
        for (int r : new int[] {-1, 6, Check.LEAST, Check.GREATEST}) {
            Check.due("at", x.at(r, 0), Check.BAD);
            Check.due("pick", x.pick(r, 0), Check.BAD);
            Check.due("sum r", x.sum(r, 0, 0), Check.BAD);
            Check.due("sum a", x.sum(0, r, 0), Check.BAD);
            Check.due("sum b", x.sum(0, 0, r), Check.BAD);
            Check.due("times r", x.times(r, 0, 1), Check.BAD);
            Check.due("times a", x.times(0, r, 1), Check.BAD);
            Check.due("of", x.of(r, 0, 0), Check.BAD);
            Check.due("which", x.which(r), Check.BAD);
            Check.due("order", x.order(r), Check.BAD);
            Check.due("log a", x.log(r, 0), Check.BAD);
            Check.due("log b", x.log(0, r), Check.BAD);
        }
        for (int n : new int[] {-100001, 100001, Check.LEAST, Check.GREATEST}) {
            Check.due("times n", x.times(0, 0, n), Check.BAD);
        }
        Check.due("at: no such point", x.at(0, 5), Check.BAD);
        Check.due("at: point -1", x.at(0, -1), Check.BAD);
        Check.due("pick: no such class", x.pick(0, 5), Check.BAD);
        Check.due("of: what 2", x.of(0, 2, 0), Check.BAD);
        Check.due("of: what -1", x.of(0, -1, 0), Check.BAD);
        Check.due("group(-1)", x.group(-1), Check.BAD);
        Check.due("nothing is changed", x.digest(), before);
    }

    private static void pointsAsClasses() {
        CurveRooms x = Check.onCurve(7, 1, 1, 0, 1);
        Check.due("at(2, 3)", x.at(2, 3), 1);
        int[] u = {5, 1, Check.NONE}, v = {2, Check.NONE};
        for (int i = 0; i < u.length; i++) Check.due("u " + i, x.of(2, 0, i), u[i]);
        for (int i = 0; i < v.length; i++) Check.due("v " + i, x.of(2, 1, i), v[i]);
        Check.due("at the end", x.at(2, 0), 1);
        Check.due("u of nought", x.of(2, 0, 0), 1);
        Check.due("u of nought, 1", x.of(2, 0, 1), Check.NONE);
        Check.due("v of nought", x.of(2, 1, 0), Check.NONE);
        CurveRooms own = Check.onCurve(3, 0, 2, 0, 1);
        own.at(0, 2);
        Check.due("y 0: v is nought", own.of(0, 1, 0), Check.NONE);
        Check.due("y 0: order", own.order(0), 2);
    }

    /** What a register holds as one number that rises as the document lists classes. */
    private static long rank(CurveRooms x, int r, int p) {
        int degree = 0;
        while (x.of(r, 0, degree + 1) != Check.NONE) degree++;
        long rank = degree;
        for (int i = degree - 1; i >= 0; i--) rank = rank * p + x.of(r, 0, i);
        for (int i = degree - 1; i >= 0; i--) rank = rank * p + Math.max(x.of(r, 1, i), 0);
        return rank + degree * 1000000L;
    }

    private static void listed(int[] told) {
        int h = (int) Edges.made(told).classes();
        long before = -1;
        for (int i = 0; i < h; i++) {
            CurveRooms x = Edges.made(told);
            Check.due("pick", x.pick(1, i), 1);
            Check.due("which", x.which(1), i);
            long rank = rank(x, 1, told[0]);
            Check.holds("class " + i + " stands behind the one ahead", rank > before);
            before = rank;
        }
        Check.due("pick(h)", Edges.made(told).pick(1, h), Check.BAD);
    }

    private static void sums(int[] told) {
        int h = (int) Edges.made(told).classes();
        int step = Math.max(1, h / 12);
        for (int i = 0; i < h; i += step) {
            CurveRooms x = Edges.made(told);
            for (int j = 0; j < h; j += step) {
                x.pick(0, i);
                x.pick(1, j);
                x.sum(2, 0, 1);
                x.sum(3, 1, 0);
                Check.due("a + b is b + a", x.which(3), x.which(2));
                x.pick(3, (i * 7 + j * 3) % h);
                x.sum(4, 1, 3);
                x.sum(4, 0, 4);
                x.sum(2, 2, 3);
                Check.due("a + (b + c) is (a + b) + c", x.which(4), x.which(2));
            }
            x.times(1, 0, -1);
            for (int k = 0; k < 2; k++) Check.due("u of less", x.of(1, 0, k), x.of(0, 0, k));
            x.sum(2, 0, 1);
            Check.due("a less a", x.which(2), 0);
            x.sum(2, 0, 2);
            Check.due("a + nought", x.which(2), i);
        }
    }

    private static void rounds(int[] told) {
        int h = (int) Edges.made(told).classes();
        int step = Math.max(1, h / 20);
        for (int i = 0; i < h; i += step) {
            CurveRooms x = Edges.made(told);
            x.pick(0, i);
            int order = x.order(0);
            int n = 0;
            do {
                // an object answers 512 calls
                if (n % 50 == 0) {
                    x = Edges.made(told);
                    x.pick(0, i);
                    x.times(1, 0, n);
                }
                Check.due("log", x.log(0, 1), n);
                x.times(2, 0, n);
                Check.due("times(" + n + ")", x.which(2), x.which(1));
                x.times(2, 0, n - order);
                Check.due("times(" + (n - order) + ")", x.which(2), x.which(1));
                x.sum(1, 1, 0);
                n++;
            } while (x.which(1) != 0 && n <= h);
            Check.due("order", order, n);
            x.times(3, 0, 100000 % order);
            x.times(4, 0, 100000);
            Check.due("times(100000)", x.which(4), x.which(3));
            x.times(3, 3, -1);
            x.times(4, 0, -100000);
            Check.due("times(-100000)", x.which(4), x.which(3));
        }
    }

    /** The numbers d1, d2, .. with as many classes of each order as their sum of rounds has. */
    private static void groups(int[] told, int... numbers) {
        CurveRooms x = Edges.made(told);
        int h = (int) x.classes();
        int[] orders = orders(told, h);
        int product = 1;
        for (int i = 0; i < numbers.length; i++) {
            Check.due("group(" + i + ")", x.group(i), numbers[i]);
            product *= numbers[i];
        }
        Check.due("product", product, h);
        Check.due("group: not so many", x.group(numbers.length), Check.NONE);
        Check.due("group: not so many", x.group(Check.GREATEST), Check.NONE);
        for (int n = 1; n <= h; n++) {
            if (h % n != 0) continue;
            int want = 1, got = 0;
            for (int d : numbers) want *= Plain.part(d, n);
            for (int order : orders) got += n % order == 0 ? 1 : 0;
            Check.due("classes brought to nought by " + n, got, want);
        }
    }

    private static int[] orders(int[] told, int h) {
        int[] orders = new int[h];
        for (int i = 0; i < h; i++) {
            CurveRooms x = Edges.made(told);
            x.pick(0, i);
            orders[i] = x.order(0);
        }
        return orders;
    }

    private static void shortGroup() {
        CurveRooms x = Check.onCurve(3, 2, 2, 0, 1);
        Check.due("h 1", x.classes(), 1);
        Check.due("group of h 1", x.group(0), Check.NONE);
        Check.due("order of nought", x.order(0), 1);
        Check.due("log of nought", x.log(0, 0), 0);
    }

    private static void noLog() {
        CurveRooms x = Check.onCurve(3, 0, 2, 0, 1);
        x.at(0, 1);
        x.at(1, 2);
        Check.due("log: none", x.log(0, 1), Check.NONE);
        Check.due("log: nought to another", x.log(2, 1), Check.NONE);
        Check.due("log: another to nought", x.log(1, 2), 0);
    }

    public static void main(String[] args) {
        withoutCurve();
        wrongInputs();
        pointsAsClasses();
        for (int[] told : CURVES) {
            listed(told);
            sums(told);
            rounds(told);
        }
        groups(CURVES[0], 7);
        groups(CURVES[1], 2, 2);
        groups(CURVES[4], 2, 2, 2, 2);
        groups(CURVES[5], 5);
        groups(CURVES[7], 9);
        groups(CURVES[8], 120);
        groups(CURVES[9], 14, 14);
        shortGroup();
        noLog();
        Check.end();
    }
}
