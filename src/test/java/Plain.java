import java.util.ArrayList;
import java.util.Arrays;
import java.util.List;

/** The document's terms by the plainest roads: all numbers, all rows are tried. */
final class Plain {
    private Plain() {
    }

    static int value(int p, int[] row, int x) {
        int v = 0;
        for (int i = row.length - 1; i >= 0; i--) v = (v * x + row[i]) % p;
        return v;
    }

    /** x, y of each point; the end, at 0, has none. */
    static List<int[]> points(int p, int[] f) {
        List<int[]> points = new ArrayList<>();
        points.add(null);
        for (int x = 0; x < p; x++) {
            for (int y = 0; y < p; y++) {
                if (y * y % p == value(p, f, x)) points.add(new int[] {x, y});
            }
        }
        return points;
    }

    /** What is left of a by b, whose highest is 1. */
    static int[] rest(int p, int[] a, int[] b) {
        int[] rest = a.clone();
        for (int top = a.length - 1; top >= b.length - 1; top--) {
            int k = rest[top];
            for (int i = 0; i < b.length; i++) {
                int at = top - b.length + 1 + i;
                rest[at] = Math.floorMod(rest[at] - k * b[i], p);
            }
        }
        return rest;
    }

    /** a by b, whose highest is 1, without what is left. */
    static int[] quotient(int p, int[] a, int[] b) {
        int[] rest = a.clone();
        int[] out = new int[Math.max(1, a.length - b.length + 1)];
        for (int top = a.length - 1; top >= b.length - 1; top--) {
            int k = rest[top];
            out[top - b.length + 1] = k;
            for (int i = 0; i < b.length; i++) {
                int at = top - b.length + 1 + i;
                rest[at] = Math.floorMod(rest[at] - k * b[i], p);
            }
        }
        return out;
    }

    static int[] less(int p, int[] a, int[] b) {
        int[] out = Arrays.copyOf(a, Math.max(a.length, b.length));
        for (int i = 0; i < b.length; i++) out[i] = Math.floorMod(out[i] - b[i], p);
        return out;
    }

    static boolean isNought(int[] row) {
        return Arrays.stream(row).allMatch(c -> c == 0);
    }

    static int[] product(int p, int[] a, int[] b) {
        int[] out = new int[Math.max(1, a.length + b.length - 1)];
        for (int i = 0; i < a.length; i++) {
            for (int j = 0; j < b.length; j++) out[i + j] = (out[i + j] + a[i] * b[j]) % p;
        }
        return out;
    }

    /** Digits of n by p, the highest first put at the row's top: so rising n lists rows as the document does. */
    static int[] digits(int p, int n, int many) {
        int[] row = new int[many];
        int rest = n;
        for (int i = 0; i < many; i++, rest /= p) row[i] = rest % p;
        return row;
    }

    static int power(int p, int n) {
        int v = 1;
        for (int i = 0; i < n; i++) v *= p;
        return v;
    }

    static int[] monic(int p, int n, int degree) {
        int[] row = Arrays.copyOf(digits(p, n, degree), degree + 1);
        row[degree] = 1;
        return row;
    }

    /** All pairs u, v as they are listed. */
    static List<int[][]> classes(int p, int[] f) {
        List<int[][]> all = new ArrayList<>();
        for (int degree = 0; degree <= (f.length - 1) / 2; degree++) {
            int many = power(p, degree);
            for (int n = 0; n < many; n++) {
                int[] u = monic(p, n, degree);
                for (int k = 0; k < many; k++) {
                    int[] v = digits(p, k, degree);
                    if (isPart(p, u, v, f)) all.add(new int[][] {u, v});
                }
            }
        }
        return all;
    }

    /** Whether u is a part of v v less f. */
    static boolean isPart(int p, int[] u, int[] v, int[] f) {
        return isNought(rest(p, less(p, product(p, v, v), f), u));
    }

    /** N(k), by going over all numbers of a field of p to the k. */
    static long countOver(int p, int[] f, int k) {
        int[] field = withoutParts(p, k);
        int all = power(p, k);
        int[] roots = new int[all];
        for (int y = 0; y < all; y++) {
            int[] row = digits(p, y, k);
            roots[number(p, rest(p, product(p, row, row), field), k)]++;
        }
        long many = 1;
        for (int x = 0; x < all; x++) {
            int[] row = digits(p, x, k);
            int[] v = new int[k];
            for (int i = f.length - 1; i >= 0; i--) {
                v = rest(p, product(p, v, row), field);
                v[0] = (v[0] + f[i]) % p;
            }
            many += roots[number(p, v, k)];
        }
        return many;
    }

    private static int number(int p, int[] row, int k) {
        int n = 0;
        for (int i = k - 1; i >= 0; i--) n = n * p + (i < row.length ? row[i] : 0);
        return n;
    }

    private static int[] withoutParts(int p, int k) {
        for (int n = 0; n < power(p, k); n++) {
            int[] row = monic(p, n, k);
            if (hasNoParts(p, row)) return row;
        }
        throw new IllegalStateException("no field");
    }

    /** Whether the row, 1 highest, has no parts but itself and 1. */
    static boolean hasNoParts(int p, int[] row) {
        for (int d = 1; d <= (row.length - 1) / 2; d++) {
            for (int m = 0; m < power(p, d); m++) {
                if (isNought(rest(p, row, monic(p, m, d)))) return false;
            }
        }
        return true;
    }

    static int inverse(int p, int v) {
        int w = 1;
        while (v * w % p != 1) w++;
        return w;
    }

    /** How many of the rows, all as long, are no sums of the others. */
    static int rank(int p, List<int[]> told) {
        List<int[]> rows = new ArrayList<>();
        for (int[] row : told) rows.add(row.clone());
        int rank = 0, wide = rows.isEmpty() ? 0 : rows.get(0).length;
        for (int column = 0; column < wide && rank < rows.size(); column++) {
            int found = rank;
            while (found < rows.size() && rows.get(found)[column] == 0) found++;
            if (found == rows.size()) continue;
            int[] pivot = rows.set(found, rows.get(rank));
            rows.set(rank, pivot);
            int inverse = inverse(p, pivot[column]);
            rank++;
            for (int i = rank; i < rows.size(); i++) {
                int[] row = rows.get(i);
                int k = row[column] * inverse % p;
                for (int j = column; k > 0 && j < wide; j++) row[j] = Math.floorMod(row[j] - k * pivot[j], p);
            }
        }
        return rank;
    }

    static int part(int a, int b) {
        return b == 0 ? a : part(b, a % b);
    }
}
