/** What all tests of the project share: counting wrong answers, and making curves. */
final class Check {
    static final int NONE = -1, BAD = -2, NO = -3, FULL = -4;
    static final int[] PRIMES = {3, 5, 7, 11, 13};
    static final int LEAST = Integer.MIN_VALUE, GREATEST = Integer.MAX_VALUE;

    private static int wrong = 0;

    private Check() {
    }

    static void due(String call, long got, long want) {
        if (got == want) return;
        wrong++;
        if (wrong <= 50) System.out.println(call + " answered " + got + ", due is " + want);
    }

    static void holds(String what, boolean so) {
        due(what, so ? 1 : 0, 1);
    }

    static int wrongMany() {
        return wrong;
    }

    static CurveRooms onPrime(int p) {
        CurveRooms x = new CurveRooms();
        due("prime(" + p + ")", x.prime(p), 1);
        return x;
    }

    /** A new object with the curve of these coefficients, the lowest first. */
    static CurveRooms onCurve(int p, int... row) {
        CurveRooms x = onPrime(p);
        holds("curve", setCurve(x, row) > 0);
        return x;
    }

    static int setCurve(CurveRooms x, int... row) {
        for (int v : row) x.push(v);
        return x.curve();
    }

    /** The row of degree 3 or 5 whose lower coefficients are the digits of n by p. */
    static int[] row(int p, int degree, int n) {
        int[] row = new int[degree + 1];
        int rest = n;
        for (int i = 0; i < degree; i++, rest /= p) row[i] = rest % p;
        row[degree] = 1;
        return row;
    }

    /** Lower coefficients as numbers, spread evenly, so that some dozens stand for all. */
    static int[] spread(int p, int degree, int most) {
        int all = 1;
        for (int i = 0; i < degree; i++) all *= p;
        int many = Math.min(all, most);
        int[] picked = new int[many];
        for (int i = 0; i < many; i++) picked[i] = (int) ((long) i * all / many);
        return picked;
    }

    static void end() {
        System.out.println(wrong == 0 ? "all answers are as due" : wrong + " answers are not as due");
        if (wrong != 0) System.exit(1);
    }
}
