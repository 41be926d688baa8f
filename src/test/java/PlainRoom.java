import java.util.ArrayList;
import java.util.Arrays;
import java.util.List;

/** Widths of rooms by equations: what a function is near each point, as a sum of powers, has to begin with noughts. */
final class PlainRoom {
    private final int p;
    private final int[] f;
    private final List<int[]> points;

    PlainRoom(int p, int[] f) {
        this.p = p;
        this.f = f;
        points = Plain.points(p, f);
    }

    /**
     * The functions times (x less x0) to as many as take the poles at points away: they have poles at the
     * end alone, so they are sums of 1, x, .., y, x y, .., and have noughts where there were fewer poles.
     */
    int width(int[] amounts) {
        int[] above = new int[p];
        int most = amounts[0];
        for (int i = 1; i < points.size(); i++) {
            int x0 = points.get(i)[0], needed = (amounts[i] + steps(i) - 1) / steps(i);
            if (amounts[i] > 0) above[x0] = Math.max(above[x0], needed);
        }
        for (int many : above) most += 2 * many;
        List<int[]> powers = powers(most);
        List<int[]> equations = new ArrayList<>();
        for (int i = 1; i < points.size(); i++) {
            addEquations(equations, powers, i, steps(i) * above[points.get(i)[0]] - amounts[i]);
        }
        return powers.size() - Plain.rank(p, equations);
    }

    /** By how much x less x0 is a nought. */
    private int steps(int i) {
        return points.get(i)[1] == 0 ? 2 : 1;
    }

    /** The powers of x and y of each of 1, x, .., y, x y, .. */
    private List<int[]> powers(int most) {
        int degree = f.length - 1;
        List<int[]> powers = new ArrayList<>();
        for (int pole = 0; pole <= most; pole++) {
            if (pole % 2 == 0) powers.add(new int[] {pole / 2, 0});
            else if (pole >= degree) powers.add(new int[] {(pole - degree) / 2, 1});
        }
        return powers;
    }

    private void addEquations(List<int[]> equations, List<int[]> powers, int i, int noughts) {
        if (noughts <= 0) return;
        int[][] both = points.get(i)[1] == 0 ? nearWithoutY(i, noughts) : nearWithY(i, noughts);
        int[][] added = new int[noughts][powers.size()];
        for (int j = 0; j < powers.size(); j++) {
            int[] near = new int[noughts];
            near[0] = 1;
            for (int k = 0; k < powers.get(j)[0]; k++) near = times(near, both[0]);
            if (powers.get(j)[1] == 1) near = times(near, both[1]);
            for (int k = 0; k < noughts; k++) added[k][j] = near[k];
        }
        equations.addAll(Arrays.asList(added));
    }

    private int[] times(int[] a, int[] b) {
        return Arrays.copyOf(Plain.product(p, a, b), a.length);
    }

    /** f(x0 + t) by t. */
    private int[] moved(int x0) {
        int[] out = {0};
        for (int i = f.length - 1; i >= 0; i--) {
            out = Plain.product(p, out, new int[] {x0, 1});
            out[0] = (out[0] + f[i]) % p;
        }
        return out;
    }

    /** x and y by t = x less x0. */
    private int[][] nearWithY(int i, int many) {
        int x0 = points.get(i)[0], y0 = points.get(i)[1];
        int[] square = Arrays.copyOf(moved(x0), Math.max(many, f.length)), x = new int[many], y = new int[many];
        x[0] = x0;
        if (many > 1) x[1] = 1;
        y[0] = y0;
        for (int k = 1; k < many; k++) {
            int rest = square[k];
            for (int j = 1; j < k; j++) rest -= y[j] * y[k - j];
            y[k] = Math.floorMod(rest, p) * Plain.inverse(p, 2 * y0) % p;
        }
        return new int[][] {x, y};
    }

    /** x and y by t = y: x less x0 is what makes f(x0 + it) t t, found by one more power each time. */
    private int[][] nearWithoutY(int i, int many) {
        int[] square = moved(points.get(i)[0]), z = new int[many], y = new int[many];
        if (many > 1) y[1] = 1;
        for (int step = 0; step < many; step++) {
            int[] rest = times(y, y), power = z;
            for (int k = 2; k < f.length; k++) {
                power = times(power, z);
                for (int j = 0; j < many; j++) rest[j] = Math.floorMod(rest[j] - square[k] * power[j], p);
            }
            for (int j = 0; j < many; j++) rest[j] = rest[j] * Plain.inverse(p, square[1]) % p;
            z = rest;
        }
        z[0] = points.get(i)[0];
        return new int[][] {z, y};
    }

    int gapBits(int point) {
        int bits = 0;
        for (int n = 1; n <= f.length - 2; n++) {
            int[] most = new int[points.size()], fewer = new int[points.size()];
            most[point] = n;
            fewer[point] = n - 1;
            if (width(most) == width(fewer)) bits |= 1 << (n - 1);
        }
        return bits;
    }
}
