/** Promises 29 to 34: turns of the curve, covers, the digest. */
public final class TurnPromises {
    private static void withoutCurve() {
        CurveRooms x = new CurveRooms();
        Check.due("turns(-1)", x.turns(-1), Check.NO);
        Check.due("turns(-2)", x.turns(-2), Check.BAD);
        Check.due("turned(99, 26)", x.turned(99, 26), Check.NO);
        Check.due("turned(0, 27)", x.turned(0, 27), Check.BAD);
        Check.due("turned(-1, 0)", x.turned(-1, 0), Check.BAD);
    }

    private static void wrongInputs() {
        CurveRooms x = Check.onCurve(7, 1, 1, 0, 1);
        Check.due("turns(2)", x.turns(2), Check.NONE);
        Check.due("turns(greatest)", x.turns(Check.GREATEST), Check.NONE);
        Check.due("turns(least)", x.turns(Check.LEAST), Check.BAD);
        Check.due("turned(2, 0)", x.turned(2, 0), Check.BAD);
        Check.due("turned(-1, 0)", x.turned(-1, 0), Check.BAD);
        Check.due("turned(0, 5)", x.turned(0, 5), Check.BAD);
        Check.due("turned(0, -1)", x.turned(0, -1), Check.BAD);
    }

    private static int power(int a, int n, int p) {
        int v = 1;
        for (int i = 0; i < n; i++) v = v * a % p;
        return v;
    }

    /** Coefficient k of f(a x + b), by the shares of each power. */
    private static int moved(int[] f, int a, int b, int k, int p) {
        int[][] ways = new int[f.length][f.length];
        int v = 0;
        for (int i = 0; i < f.length; i++) {
            for (int j = 0; j <= i; j++) ways[i][j] = j == 0 ? 1 : ways[i - 1][j - 1] + (j < i ? ways[i - 1][j] : 0);
            if (k <= i) v += f[i] * (ways[i][k] % p) % p * power(a, k, p) % p * power(b, i - k, p) % p;
        }
        return v % p;
    }

    private static void allTurns(int many, int p, int... f) {
        CurveRooms x = Check.onCurve(p, f);
        int i = 0;
        for (int a = 1; a < p; a++) {
            for (int b = 0; b < p; b++) {
                for (int c = 1; c < p; c++) {
                    boolean fits = true;
                    for (int k = 0; k < f.length; k++) fits &= moved(f, a, b, k, p) == c * c * f[k] % p;
                    if (!fits) continue;
                    x = Check.onCurve(p, f);
                    Check.due("turns(" + i + ")", x.turns(i), 10000 * a + 100 * b + c);
                    for (int point = 1; point < x.points(); point++) {
                        int to = x.turned(i, point);
                        Check.due("x", x.point(to, 0), (a * x.point(point, 0) + b) % p);
                        Check.due("y", x.point(to, 1), c * x.point(point, 1) % p);
                    }
                    Check.due("the end", x.turned(i, 0), 0);
                    i++;
                }
            }
        }
        Check.due("how many", i, many);
        Check.due("turns(-1)", x.turns(-1), many);
        Check.due("not so many", x.turns(many), Check.NONE);
        Check.due("no such turn", x.turned(many, 0), Check.BAD);
    }

    private static void coverInputs() {
        CurveRooms x = Check.onPrime(5);
        Check.due("cover(0, 20)", x.cover(0, 20), 0);
        Check.due("cover(0, 21)", x.cover(0, 21), Check.BAD);
        Check.due("cover(0, -1)", x.cover(0, -1), Check.BAD);
        Check.due("cover(5, 1)", x.cover(5, 1), Check.BAD);
        Check.due("cover(-1, 1)", x.cover(-1, 1), Check.BAD);
        Check.due("cover(0, 0)", x.cover(0, 0), 20);
        for (int n : new int[] {Check.LEAST, -5, 0, 1, 5, 10, 13, Check.GREATEST}) {
            Check.due("genus(" + n + ")", x.genus(n), Check.BAD);
            Check.due("above(" + n + ", 0)", x.above(n, 0), Check.BAD);
        }
        Check.due("above(2, 6)", x.above(2, 6), Check.BAD);
        Check.due("above(2, -1)", x.above(2, -1), Check.BAD);
        Check.due("genus: all have a part in common", x.genus(2), Check.NO);
        Check.due("above without amounts", x.above(12, 5), 12);
        x.cover(1, 2);
        x.cover(2, 4);
        Check.due("genus: 2 in all", x.genus(4), Check.NO);
        Check.due("genus: none in all", x.genus(3), 0);
        Check.due("genus by 9: 3 in the sum", x.genus(9), 3);
        Check.due("genus by 11", x.genus(11), 5);
    }

    private static void covers() {
        CurveRooms x = Check.onPrime(7);
        for (int a = 0; a < 5; a++) x.cover(a, 1);
        Check.due("y y of degree 5", x.genus(2), 2);
        x.cover(5, 1);
        Check.due("y y of degree 6", x.genus(2), 2);
        Check.due("above the end", x.above(2, 7), 2);
        Check.due("above 0", x.above(2, 0), 1);
        Check.due("above 6", x.above(2, 6), 2);
        Check.due("by 3", x.genus(3), 4);
        Check.due("by 4", x.genus(4), 7);
        Check.due("by 12", x.genus(12), 25);
        x.cover(5, 9);
        Check.due("above 5", x.above(6, 5), 3);
        Check.due("above the end", x.above(4, 7), 2);
        Check.due("prime", x.prime(11), 1);
        Check.due("no amounts", x.cover(5, 0), 0);
    }

    private static long mix(long h, int... values) {
        long mixed = h;
        for (int v : values) mixed = 31 * mixed + v;
        return mixed;
    }

    private static void digests() {
        CurveRooms x = new CurveRooms();
        long h = mix(mix(347, 7), 1, 1, 1, 1, 1, 1);
        Check.due("new", x.digest(), mix(mix(mix(mix(h, 0), new int[26]), new int[7]), 0));
        x.push(3);
        x.push(0);
        x.tell(25, 4);
        x.cover(6, 11);
        int[] told = new int[26];
        told[25] = 4;
        int[] cover = {0, 0, 0, 0, 0, 0, 11};
        Check.due("row", x.digest(), mix(mix(mix(mix(h, 0), told), cover), 2, 3, 0));
        x.curve();
        Check.setCurve(x, 1, 1, 0, 1, 0, 0);
        x.at(1, 3);
        x.amount(0, -7);
        x.amount(4, -4);
        long with = mix(347, 7, 1, 1, 0, 1, 1, 5, 1, 2, 1, 1, 1, 1, -7, 0, 0, 0, -4);
        Check.due("curve", x.digest(), mix(mix(mix(with, told), cover), 0));
    }

    public static void main(String[] args) {
        withoutCurve();
        wrongInputs();
        allTurns(2, 7, 1, 1, 0, 1);
        allTurns(6, 7, 1, 0, 0, 1);
        allTurns(6, 3, 0, 2, 0, 1);
        allTurns(20, 5, 0, 4, 0, 0, 0, 1);
        allTurns(10, 11, 1, 0, 0, 0, 0, 1);
        allTurns(4, 13, 0, 1, 0, 0, 0, 1);
        allTurns(2, 3, 1, 2, 0, 0, 0, 1);
        coverInputs();
        covers();
        digests();
        Check.end();
    }
}
